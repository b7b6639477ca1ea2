theorem rx_copy2 (z d j l x pc : Nat) (c : Int32) (ts : List Nat) (lo : am_L) (st : List Value) (h : am_H) (r : Option Value) (h' : am_H) (k b : Nat) (n dp sp : Int32) : am_X z d j (some (.invokestatic k, l, x, 92, c, ts)) pc lo (.int n :: .int dp :: .ref b :: .int sp :: .ref b :: st) h r h' = if am_g 8 st = true then am_KW z d j (pc + l) lo (am_w1 z b st (am_cp (h.1 b) sp dp n)) h r h' else False := by
  by_cases hg : am_g 8 st = true
  · rw [if_pos hg, rx_copy _ _ _ _ _ _ _ _ _ _ _ _ _ _ _ _ _ _ hg]
  · rw [if_neg hg]
    have hw : am_w z (.invokestatic k) x 92 (.int n :: .int dp :: .ref b :: .int sp :: .ref b :: st) h = none := by
      simp only [am_w, hg, and_false, if_false, Bool.false_eq_true]
    have hca : am_ca (.invokestatic k) x 92 (.int n :: .int dp :: .ref b :: .int sp :: .ref b :: st) h = none := by simp [am_ca]
    have hs : am_s (.invokestatic k) x 92 c ts (pc + l) lo (.int n :: .int dp :: .ref b :: .int sp :: .ref b :: st) h = none := by simp [am_s]
    simp only [am_X, am_rt, hca, hw, am_n, hs, am_K]
theorem rx_max2 (z d j l x pc : Nat) (c : Int32) (ts : List Nat) (lo : am_L) (st : List Value) (h : am_H) (r : Option Value) (h' : am_H) (k : Nat) (a b : Int32) : am_X z d j (some (.invokestatic k, l, x, 90, c, ts)) pc lo (.int b :: .int a :: st) h r h' = if am_g 8 st = true then am_R z d j (pc + l) lo (.int (if a < b then b else a) :: st) h r h' else False := by
  rw [rx_max]
  by_cases hg : am_g 8 st = true
  · rw [ev_m2 _ _ _ _ _ _ hg, ev_K, if_pos hg]
  · rw [if_neg hg]
    simp only [am_m2, hg, if_false, am_K, Bool.false_eq_true]
theorem rx_min2 (z d j l x pc : Nat) (c : Int32) (ts : List Nat) (lo : am_L) (st : List Value) (h : am_H) (r : Option Value) (h' : am_H) (k : Nat) (a b : Int32) : am_X z d j (some (.invokestatic k, l, x, 91, c, ts)) pc lo (.int b :: .int a :: st) h r h' = if am_g 8 st = true then am_R z d j (pc + l) lo (.int (if b < a then b else a) :: st) h r h' else False := by
  rw [rx_min]
  by_cases hg : am_g 8 st = true
  · rw [ev_m2 _ _ _ _ _ _ hg, ev_K, if_pos hg]
  · rw [if_neg hg]
    simp only [am_m2, hg, if_false, am_K, Bool.false_eq_true]
theorem rx_obj2 (z d j l x pc : Nat) (c : Int32) (ts : List Nat) (lo : am_L) (st : List Value) (h : am_H) (r : Option Value) (h' : am_H) (k a : Nat) : am_X z d j (some (.invokespecial k, l, x, 99, c, ts)) pc lo (.ref a :: st) h r h' = if am_g 8 st = true then am_R z d j (pc + l) lo st h r h' else False := by
  show am_K z d j (if (99 : Nat) = 99 ∧ am_g 8 st = true then some (pc + l, lo, st) else none) h r h' = _
  by_cases hg : am_g 8 st = true
  · simp only [hg, and_self, if_true, am_K]
  · simp only [hg, and_false, if_false, am_K, Bool.false_eq_true]
theorem am_ftv : am_ft 0 10 = 0 ∧ am_ft 0 11 = 0 ∧ am_ft 0 12 = 0 ∧ am_ft 0 13 = 0 ∧ am_ft 1 0 = 0 ∧ am_ft 1 1 = 0 ∧ am_ft 1 2 = 0 ∧ am_ft 1 3 = 1 ∧ am_ft 1 4 = 0 ∧ am_ft 1 5 = 0 ∧ am_ft 1 6 = 0 ∧ am_ft 1 7 = 0 ∧ am_ft 2 0 = 2 ∧ am_ft 2 1 = 2 ∧ am_ft 2 2 = 0 ∧ am_ft 3 0 = 2 ∧ am_ft 3 1 = 0 ∧ am_ft 4 0 = 2 ∧ am_ft 4 1 = 0 ∧ am_ft 5 0 = 2 ∧ am_ft 5 1 = 0 ∧ am_ft 5 2 = 0 ∧ am_ft 5 3 = 2 ∧ am_ft 5 4 = 2 ∧ am_ft 5 5 = 2 ∧ am_ft 5 6 = 0 ∧ am_ft 6 0 = 2 := by decide +kernel
def vs_row (h : am_H) (r a bl n : Nat) (L : List Nat) : Prop := h.1 r = some (.inr (2, [.ref bl, .ref a, .int (nI L.length)])) ∧ L.length ≤ n ∧ n ≤ 200 ∧ ∃ g, h.1 a = some (.inl (2, n, .inr (.inr (.inr (.inr g))))) ∧ ∀ k, k < L.length → g k = L[k]?
theorem am_up_self {h : am_H} {a : Nat} {e : am_E} (he : h.1 a = some e) : am_up h a e = h := by
  unfold am_up
  refine Prod.ext ?_ rfl
  funext q
  by_cases hq : q = a
  · simp only [hq, if_true, he]
  · simp only [hq, if_false]
theorem am_up_up (h : am_H) (a : Nat) (x y : am_E) : am_up (am_up h a x) a y = am_up h a y := by
  unfold am_up
  refine Prod.ext ?_ rfl
  funext q
  by_cases hq : q = a <;> simp only [hq, if_true, if_false]
theorem am_up_cm (h : am_H) {a b : Nat} (x y : am_E) (hab : a ≠ b) : am_up (am_up h a x) b y = am_up (am_up h b y) a x := by
  unfold am_up
  refine Prod.ext ?_ rfl
  funext q
  by_cases hq : q = a
  · subst hq
    simp only [if_true, hab, if_false]
  · simp only [hq, if_false]
theorem am_ne {h : am_H} {a b : Nat} {x y : am_E} (ha : h.1 a = some x) (hb : h.1 b = some y) (hn : x ≠ y) : a ≠ b := by
  intro e
  subst e
  rw [ha] at hb
  exact hn (Option.some.inj hb)
theorem b11 : (1 : Int32) &&& 1 = 1 := by decide
theorem b00 : (0 : Int32) &&& 1 = 0 := by decide
theorem nI_ofs (n : Nat) : nI n + 1 = nI (n + 1) := nI_1 n
theorem i_10 : ¬ (1 : Int32) = 0 := by decide
abbrev vs_q (n : Nat) (g : Nat → Option Nat) : am_E := .inl (2, n, .inr (.inr (.inr (.inr g))))
abbrev vs_ro (bl a k : Nat) : am_E := .inr (2, [.ref bl, .ref a, .int (nI k)])
abbrev vs_e (E : Nat → Nat → Int32) (a : Nat) : am_E := .inr (1, [.int (E a 0), .int (E a 1), .int (E a 2), .int (E a 3), .int (E a 4), .int (E a 5), .int (E a 6), .int (E a 7)])
def vs_ch (h h' : am_H) (r a : Nat) : Prop := (∀ q, q ≠ r → q ≠ a → h'.1 q = h.1 q) ∧ h'.2 = h.2
def e_gone (E : Nat → Nat → Int32) (a : Nat) (now : Int32) : Bool := !decide (E a 3 = 0) || (!decide (E a 2 ≤ 0) && !decide (now < E a 5))
def e_bf (E : Nat → Nat → Int32) (a b : Nat) : Bool := decide (E a 0 < E b 0) || (decide (E a 0 = E b 0) && !decide (E a 4 ≤ E b 4))
def e_live (E : Nat → Nat → Int32) (s : Int32) (a : Nat) : Bool := decide (E a 3 = 0) && decide (E a 6 = s)
section ROW
variable {h : am_H} {r a bl n : Nat} {L : List Nat} {E : Nat → Nat → Int32}
theorem vs_row.ne (hr : vs_row h r a bl n L) : r ≠ a := by
  obtain ⟨h1, h2, h3, g, h4, h5⟩ := hr
  exact am_ne h1 h4 (by simp)
theorem en_isBlank (z d : Nat) {e : Nat} (he : h.1 e = some (vs_e E e)) : am_M z (d + 1) 74 [.ref e] h (some (.int (if E e 0 = -1 then 1 else 0))) h := by
  rw [am_M_eq]
  simp only [am_R_eq, cx_74, en_74, rt_74, rx_aload_n, rx_getfield, ev_gf, rx_goto, rx_iconst, rx_icmp_ne, rx_ireturn, ev_K, ev_pI, ev_pR, ev_pVi, ev_pVr, ev_sI, ev_sR, ev_KC, ev_k, ev_ko, ev_pop0, ev_pops, am_ld, am_sv, am_at, am_st, am_g, List.length_cons, List.length_nil, Nat.reduceAdd, Nat.reduceLT, Nat.zero_add, if_true, if_false, and_self, true_or, or_true, true_and, and_true, not_true_eq_false, not_false_eq_true, reduceCtorEq, eq_self, Option.toList_some, Option.toList_none, List.cons_append, List.nil_append, Bool.false_eq_true, he, b11, b00]
  by_cases h1 : E e 0 = -1 <;> simp [h1]
theorem en_isGone (z d : Nat) {e : Nat} {now : Int32} (he : h.1 e = some (vs_e E e)) : am_M z (d + 1) 31 [.ref e, .int now] h (some (.int (if e_gone E e now then 1 else 0))) h := by
  rw [am_M_eq]
  simp only [am_R_eq, cx_31, en_31, rt_31, rx_aload_n, rx_getfield, ev_gf, rx_goto, rx_iconst, rx_icmp_lt, rx_if_le, rx_if_ne, rx_iload_n, rx_ireturn, ev_K, ev_pI, ev_pR, ev_pVi, ev_pVr, ev_sI, ev_sR, ev_KC, ev_k, ev_ko, ev_pop0, ev_pops, am_ld, am_sv, am_at, am_st, am_g, List.length_cons, List.length_nil, Nat.reduceAdd, Nat.reduceLT, Nat.zero_add, if_true, if_false, and_self, true_or, or_true, true_and, and_true, not_true_eq_false, not_false_eq_true, reduceCtorEq, eq_self, Option.toList_some, Option.toList_none, List.cons_append, List.nil_append, Bool.false_eq_true, he, b11, b00]
  by_cases h1 : E e 3 = 0 <;> by_cases h2 : E e 2 ≤ 0 <;> by_cases h3 : now < E e 5 <;> simp [e_gone, h1, h2, h3]
theorem en_comesBefore (z d : Nat) {e f : Nat} (he : h.1 e = some (vs_e E e)) (hf : h.1 f = some (vs_e E f)) : am_M z (d + 1) 26 [.ref e, .ref f] h (some (.int (if e_bf E e f then 1 else 0))) h := by
  rw [am_M_eq]
  simp only [am_R_eq, cx_26, en_26, rt_26, rx_aload_n, rx_getfield, ev_gf, rx_goto, rx_iconst, rx_icmp_le, rx_icmp_lt, rx_icmp_ne, rx_ireturn, ev_K, ev_pI, ev_pR, ev_pVi, ev_pVr, ev_sI, ev_sR, ev_KC, ev_k, ev_ko, ev_pop0, ev_pops, am_ld, am_sv, am_at, am_st, am_g, List.length_cons, List.length_nil, Nat.reduceAdd, Nat.reduceLT, Nat.zero_add, if_true, if_false, and_self, true_or, or_true, true_and, and_true, not_true_eq_false, not_false_eq_true, reduceCtorEq, eq_self, Option.toList_some, Option.toList_none, List.cons_append, List.nil_append, Bool.false_eq_true, he, hf, b11, b00]
  by_cases h1 : E e 0 < E f 0 <;> by_cases h2 : E e 0 = E f 0 <;> by_cases h3 : E e 4 ≤ E f 4 <;> simp [e_bf, h1, h2, h3]
theorem en_isLiveIn (z d : Nat) {e : Nat} {s : Int32} (he : h.1 e = some (vs_e E e)) : am_M z (d + 1) 51 [.ref e, .int s] h (some (.int (if e_live E s e then 1 else 0))) h := by
  rw [am_M_eq]
  simp only [am_R_eq, cx_51, en_51, rt_51, rx_aload_n, rx_getfield, ev_gf, rx_goto, rx_iconst, rx_icmp_ne, rx_if_ne, rx_iload_n, rx_ireturn, ev_K, ev_pI, ev_pR, ev_pVi, ev_pVr, ev_sI, ev_sR, ev_KC, ev_k, ev_ko, ev_pop0, ev_pops, am_ld, am_sv, am_at, am_st, am_g, List.length_cons, List.length_nil, Nat.reduceAdd, Nat.reduceLT, Nat.zero_add, if_true, if_false, and_self, true_or, or_true, true_and, and_true, not_true_eq_false, not_false_eq_true, reduceCtorEq, eq_self, Option.toList_some, Option.toList_none, List.cons_append, List.nil_append, Bool.false_eq_true, he, b11, b00]
  by_cases h1 : E e 3 = 0 <;> by_cases h2 : E e 6 = s <;> simp [e_live, h1, h2]
theorem ro_size (z d : Nat) (hr : vs_row h r a bl n L) : am_M z (d + 1) 12 [.ref r] h (some (.int (nI L.length))) h := by
  obtain ⟨h1, -⟩ := hr
  rw [am_M_eq]
  simp only [am_R_eq, cx_12, en_12, rt_12, rx_aload_n, rx_getfield, ev_gf, rx_ireturn, ev_K, ev_pI, ev_pR, ev_pVi, ev_pVr, ev_sI, ev_sR, ev_KC, ev_k, ev_ko, ev_pop0, ev_pops, am_ld, am_sv, am_at, am_st, am_g, List.length_cons, List.length_nil, Nat.reduceAdd, Nat.reduceLT, Nat.zero_add, if_true, if_false, and_self, true_or, or_true, true_and, and_true, not_true_eq_false, not_false_eq_true, reduceCtorEq, eq_self, Option.toList_some, Option.toList_none, List.cons_append, List.nil_append, Bool.false_eq_true, h1]
theorem ro_at (z d : Nat) (hr : vs_row h r a bl n L) {k e : Nat} (hk : L[k]? = some e) : am_M z (d + 1) 24 [.ref r, .int (nI k)] h (some (.ref e)) h := by
  obtain ⟨h1, h2, h3, g, h4, h5⟩ := hr
  have hlt : k < L.length := (List.getElem?_eq_some_iff.mp hk).1
  have e1 : ¬ nI k < 0 := nI_pos (by omega)
  have e2 : ¬ nI L.length ≤ nI k := nI_ge hlt (by omega)
  have e3 : am_ix (nI k) n = some k := ev_ix (by omega) (by omega)
  have e4 : am_rq (some (.inl (2, n, .inr (.inr (.inr (.inr g)))))) (nI k) = some (.ref e) := ev_rq 2 n k e g (nI k) (by omega) e3 (by rw [h5 k hlt]; exact hk)
  rw [am_M_eq]
  simp only [am_R_eq, cx_24, en_24, rt_24, rx_aaload, rx_aload_n, rx_areturn, rx_getfield, ev_gf, rx_goto, rx_icmp_ge, rx_if_lt, rx_iload_n, ev_K, ev_pI, ev_pR, ev_pVi, ev_pVr, ev_sI, ev_sR, ev_KC, ev_k, ev_ko, ev_pop0, ev_pops, am_ld, am_sv, am_at, am_st, am_g, List.length_cons, List.length_nil, Nat.reduceAdd, Nat.reduceLT, Nat.zero_add, if_true, if_false, and_self, true_or, or_true, true_and, and_true, not_true_eq_false, not_false_eq_true, reduceCtorEq, eq_self, Option.toList_some, Option.toList_none, List.cons_append, List.nil_append, Bool.false_eq_true, h1, h4, e1, e2, e4]
theorem ro_clear (z d : Nat) (hz : z ≤ r) (hr : vs_row h r a bl n L) : ∃ h', am_M z (d + 1) 22 [.ref r] h none h' ∧ h' = am_up h r (.inr (2, [.ref bl, .ref a, .int 0])) := by
  obtain ⟨h1, h2, h3, g, h4, h5⟩ := hr
  refine ⟨_, ?_, rfl⟩
  rw [am_M_eq]
  simp only [am_R_eq, cx_22, en_22, rt_22, rx_aload_n, rx_iconst, rx_putfield, ev_pf, ev_w1, ev_KW, am_fok, am_ftv, rx_return, ev_K, ev_pI, ev_pR, ev_pVi, ev_pVr, ev_sI, ev_sR, ev_KC, ev_k, ev_ko, ev_pop0, ev_pops, am_ld, am_sv, am_at, am_st, am_g, List.length_cons, List.length_nil, Nat.reduceAdd, Nat.reduceLT, Nat.zero_add, if_true, if_false, and_self, true_or, or_true, true_and, and_true, not_true_eq_false, not_false_eq_true, reduceCtorEq, eq_self, Option.toList_some, Option.toList_none, List.cons_append, List.nil_append, Bool.false_eq_true, h1, hz]
theorem vs_row.g (hr : vs_row h r a bl n L) : ∃ g, h.1 r = some (vs_ro bl a L.length) ∧ h.1 a = some (vs_q n g) ∧ (∀ k, k < L.length → g k = L[k]?) ∧ L.length ≤ n ∧ n ≤ 200 ∧ r ≠ a := by
  have hne := hr.ne
  obtain ⟨h1, h2, h3, g, h4, h5⟩ := hr
  exact ⟨g, h1, h4, h5, h2, h3, hne⟩
theorem vs_row.mk {g : Nat → Option Nat} (h1 : h.1 r = some (vs_ro bl a L.length)) (h2 : h.1 a = some (vs_q n g)) (h3 : ∀ k, k < L.length → g k = L[k]?) (h4 : L.length ≤ n) (h5 : n ≤ 200) : vs_row h r a bl n L := ⟨h1, h4, h5, g, h2, h3⟩
theorem vs_row.fr {h' : am_H} (hr : vs_row h r a bl n L) (h1 : h'.1 r = h.1 r) (h2 : h'.1 a = h.1 a) : vs_row h' r a bl n L := by
  obtain ⟨q1, q2, q3, g, q4, q5⟩ := hr
  exact ⟨by rw [h1]; exact q1, q2, q3, g, by rw [h2]; exact q4, q5⟩
theorem vs_ch.up2 (h : am_H) (r a : Nat) (x y : am_E) : vs_ch h (am_up (am_up h a x) r y) r a := ⟨fun q h1 h2 => by rw [am_up_ne _ _ h1, am_up_ne _ _ h2], rfl⟩
theorem ro_append (z d : Nat) {e : Nat} (hz : z ≤ r) (hza : z ≤ a) (hr : vs_row h r a bl n L) (he : am_ko (h.1 e) = some 1) (hn : L.length < n) : ∃ h', am_M z (d + 1) 13 [.ref r, .ref e] h none h' ∧ vs_row h' r a bl n (L ++ [e]) ∧ vs_ch h h' r a := by
  obtain ⟨g, h1, h2, h3, h4, h5, hne⟩ := hr.g
  refine ⟨am_up (am_up h a (vs_q n (va_up g L.length (some e)))) r (vs_ro bl a (L.length + 1)), ?_, ?_, vs_ch.up2 ..⟩
  · have e1 : ¬ nI n ≤ nI L.length := nI_ge hn (by omega)
    have e3 : am_ix (nI L.length) n = some L.length := ev_ix hn (by omega)
    have e4 : am_wq (some (vs_q n g)) (nI L.length) e (h.1 e) = some (vs_q n (va_up g L.length (some e))) := ev_wq 2 n L.length e g (nI L.length) (h.1 e) (by omega) e3 he
    rw [am_M_eq]
    simp only [am_R_eq, cx_13, en_13, rt_13, rx_aastore, ev_w1, ev_KW, rx_aload_n, rx_arraylength, ev_ln, ev_pN, rx_dup_i, rx_dup_r, rx_getfield, ev_gf, rx_iadd, rx_iconst, rx_icmp_ge, rx_putfield, ev_pf, am_fok, am_ftv, rx_return, ev_K, ev_pI, ev_pR, ev_pVi, ev_pVr, ev_sI, ev_sR, ev_KC, ev_k, ev_ko, ev_pop0, ev_pops, am_ld, am_sv, am_at, am_st, am_g, List.length_cons, List.length_nil, Nat.reduceAdd, Nat.reduceLT, Nat.zero_add, if_true, if_false, and_self, true_or, or_true, true_and, and_true, not_true_eq_false, not_false_eq_true, reduceCtorEq, eq_self, Option.toList_some, Option.toList_none, List.cons_append, List.nil_append, Bool.false_eq_true, h1, h2, e1, e4, hz, hza, am_up_ne, am_up_at, hne, ne_eq, nI_ofs, Nat.reduceLeDiff, beq_self_eq_true]
  · refine vs_row.mk (g := va_up g L.length (some e)) ?_ ?_ ?_ ?_ h5
    · rw [am_up_at, List.length_append]; rfl
    · rw [am_up_ne _ _ (Ne.symm hne), am_up_at]
    · intro k hk
      rw [List.length_append] at hk
      have hk : k < L.length + 1 := hk
      by_cases hkl : k = L.length
      · subst hkl
        rw [va_up_self, List.getElem?_append_right (Nat.le_refl _), Nat.sub_self]
        rfl
      · rw [va_up_ne _ _ hkl, List.getElem?_append_left (by omega)]
        exact h3 k (by omega)
    · rw [List.length_append]; exact hn
end ROW
