section MO
abbrev vm_o (A : Nat → Nat) (w : Nat → Int32) : am_E := .inr (7, [.int (w 0), .int (w 1), .ref (A 0), .ref (A 1), .ref (A 2), .ref (A 3), .ref (A 4), .ref (A 5), .ref (A 6), .ref (A 7), .ref (A 8), .ref (A 9), .ref (A 10), .int (w 2), .int (w 3), .int (w 4), .int (w 5), .ref (A 11), .ref (A 12), .ref (A 13), .ref (A 14), .ref (A 15), .int (w 6), .int (w 7), .ref (A 16), .int (w 8), .ref (A 17), .ref (A 18), .ref (A 19), .int (w 9)])
def mt (i : Nat) : Nat := match i with
  | 3 => 1
  | 9 => 1
  | 10 => 1
  | 14 => 1
  | 19 => 1
  | _ => 0
def mn (i : Nat) : Nat := match i with
  | 11 => 6
  | 12 => 6
  | 13 => 6
  | 14 => 3
  | 15 => 3
  | 16 => 8
  | 17 => 16
  | 18 => 16
  | 19 => 16
  | _ => 520
def vs_M (z : Nat) (h : am_H) (x : Nat) (A : Nat → Nat) (w : Nat → Int32) (F : Nat → Nat → Int32) : Prop :=
  h.1 x = some (vm_o A w) ∧ (∀ i, i < 20 → h.1 (A i) = some (.inl (mt i, mn i, .inl (F i)))) ∧ (∀ i j, i < 20 → j < 20 → i ≠ j → A i ≠ A j) ∧ (∀ i, i < 20 → z ≤ A i) ∧ z ≤ x ∧ am_fr h
variable {z : Nat} {h : am_H} {x : Nat} {A : Nat → Nat} {w : Nat → Int32} {F : Nat → Nat → Int32}
theorem vs_M.ob (hM : vs_M z h x A w F) : h.1 x = some (vm_o A w) := hM.1
theorem vs_M.ar (hM : vs_M z h x A w F) : ∀ i, i < 20 → h.1 (A i) = some (.inl (mt i, mn i, .inl (F i))) := hM.2.1
theorem vs_M.dj (hM : vs_M z h x A w F) : ∀ i j, i < 20 → j < 20 → i ≠ j → A i ≠ A j := hM.2.2.1
theorem vs_M.za (hM : vs_M z h x A w F) : ∀ i, i < 20 → z ≤ A i := hM.2.2.2.1
theorem vs_M.zx (hM : vs_M z h x A w F) : z ≤ x := hM.2.2.2.2.1
theorem vs_M.fr (hM : vs_M z h x A w F) : am_fr h := hM.2.2.2.2.2
theorem vs_M.ne (hM : vs_M z h x A w F) {i : Nat} (hi : i < 20) : A i ≠ x := am_ne (hM.ar i hi) hM.ob (by simp)
theorem vs_M.all (hM : vs_M z h x A w F) : h.1 (A 0) = some (.inl (0, 520, .inl (F 0))) ∧ h.1 (A 1) = some (.inl (0, 520, .inl (F 1))) ∧ h.1 (A 2) = some (.inl (0, 520, .inl (F 2))) ∧ h.1 (A 3) = some (.inl (1, 520, .inl (F 3))) ∧ h.1 (A 4) = some (.inl (0, 520, .inl (F 4))) ∧ h.1 (A 5) = some (.inl (0, 520, .inl (F 5))) ∧ h.1 (A 6) = some (.inl (0, 520, .inl (F 6))) ∧ h.1 (A 7) = some (.inl (0, 520, .inl (F 7))) ∧ h.1 (A 8) = some (.inl (0, 520, .inl (F 8))) ∧ h.1 (A 9) = some (.inl (1, 520, .inl (F 9))) ∧ h.1 (A 10) = some (.inl (1, 520, .inl (F 10))) ∧ h.1 (A 11) = some (.inl (0, 6, .inl (F 11))) ∧ h.1 (A 12) = some (.inl (0, 6, .inl (F 12))) ∧ h.1 (A 13) = some (.inl (0, 6, .inl (F 13))) ∧ h.1 (A 14) = some (.inl (1, 3, .inl (F 14))) ∧ h.1 (A 15) = some (.inl (0, 3, .inl (F 15))) ∧ h.1 (A 16) = some (.inl (0, 8, .inl (F 16))) ∧ h.1 (A 17) = some (.inl (0, 16, .inl (F 17))) ∧ h.1 (A 18) = some (.inl (0, 16, .inl (F 18))) ∧ h.1 (A 19) = some (.inl (1, 16, .inl (F 19))) := ⟨hM.ar 0 (by omega), hM.ar 1 (by omega), hM.ar 2 (by omega), hM.ar 3 (by omega), hM.ar 4 (by omega), hM.ar 5 (by omega), hM.ar 6 (by omega), hM.ar 7 (by omega), hM.ar 8 (by omega), hM.ar 9 (by omega), hM.ar 10 (by omega), hM.ar 11 (by omega), hM.ar 12 (by omega), hM.ar 13 (by omega), hM.ar 14 (by omega), hM.ar 15 (by omega), hM.ar 16 (by omega), hM.ar 17 (by omega), hM.ar 18 (by omega), hM.ar 19 (by omega)⟩
theorem vs_M.zs (hM : vs_M z h x A w F) : z ≤ A 0 ∧ z ≤ A 1 ∧ z ≤ A 2 ∧ z ≤ A 3 ∧ z ≤ A 4 ∧ z ≤ A 5 ∧ z ≤ A 6 ∧ z ≤ A 7 ∧ z ≤ A 8 ∧ z ≤ A 9 ∧ z ≤ A 10 ∧ z ≤ A 11 ∧ z ≤ A 12 ∧ z ≤ A 13 ∧ z ≤ A 14 ∧ z ≤ A 15 ∧ z ≤ A 16 ∧ z ≤ A 17 ∧ z ≤ A 18 ∧ z ≤ A 19 := ⟨hM.za 0 (by omega), hM.za 1 (by omega), hM.za 2 (by omega), hM.za 3 (by omega), hM.za 4 (by omega), hM.za 5 (by omega), hM.za 6 (by omega), hM.za 7 (by omega), hM.za 8 (by omega), hM.za 9 (by omega), hM.za 10 (by omega), hM.za 11 (by omega), hM.za 12 (by omega), hM.za 13 (by omega), hM.za 14 (by omega), hM.za 15 (by omega), hM.za 16 (by omega), hM.za 17 (by omega), hM.za 18 (by omega), hM.za 19 (by omega)⟩
theorem vs_M.fld (hM : vs_M z h x A w F) (w' : Nat → Int32) : vs_M z (am_up h x (vm_o A w')) x A w' F :=
  ⟨am_up_at _ _ _, fun i hi => by rw [am_up_ne _ _ (hM.ne hi)]; exact hM.ar i hi, hM.dj, hM.za, hM.zx, hM.fr.up _ hM.ob⟩
theorem vs_M.arr (hM : vs_M z h x A w F) {i : Nat} (hi : i < 20) (f : Nat → Int32) : vs_M z (am_up h (A i) (.inl (mt i, mn i, .inl f))) x A w (va_up F i f) := by
  refine ⟨by rw [am_up_ne _ _ (hM.ne hi).symm]; exact hM.ob, fun j hj => ?_, hM.dj, hM.za, hM.zx, hM.fr.up _ (hM.ar i hi)⟩
  by_cases hji : j = i
  · subst hji; rw [am_up_at, va_up_self]
  · rw [am_up_ne _ _ (hM.dj j i hj hi hji), va_up_ne _ _ hji]; exact hM.ar j hj
theorem m_ri {n k : Nat} (hk : k < n) (hn : n < 2 ^ 31) : ∀ (t : Nat) (g : Nat → Int32), am_ri t (some (.inl (t, n, .inl g))) (nI k) = some (.int (g k)) := fun t g => ev_ri t n k g (nI k) (ev_ix hk hn)
theorem m_wi {n k : Nat} (hk : k < n) (hn : n < 2 ^ 31) : ∀ (t : Nat) (g : Nat → Int32) (v : Int32), am_wi t (some (.inl (t, n, .inl g))) (nI k) v = some (.inl (t, n, .inl (upd g k v))) := fun t g v => ev_wi t n k g (nI k) v (ev_ix hk hn)
theorem m_ix {k : Nat} (hk : k < 520) : ∀ (t : Nat) (g : Nat → Int32), am_ri t (some (.inl (t, 520, .inl g))) (nI k) = some (.int (g k)) := m_ri hk (by omega)
def m_gone (F : Nat → Nat → Int32) (t : Int32) (e : Nat) : Bool := !decide (F 3 e = 0) || (!decide (F 4 e ≤ 0) && !decide (t < F 4 e))
theorem mo_gone (d : Nat) {e : Nat} (he : e < 520) (hM : vs_M z h x A w F) : am_M z (d + 1) 107 [.ref x, .int (nI e)] h (some (.int (if m_gone F (w 0) e = true then 1 else 0))) h := by
  obtain ⟨k0, k1, k2, k3, k4, -⟩ := hM.all
  have m0 := hM.ob
  have ix := m_ix he
  unfold m_gone
  rw [am_M_eq]
  by_cases c1 : F 3 e = 0
  · by_cases c2 : F 4 e ≤ 0
    · simp only [am_R_eq, cx_107, en_107, rt_107, rx_aload_n, rx_baload, rx_getfield, ev_gf, rx_goto, rx_iaload, rx_iconst, rx_icmp_lt, rx_if_le, rx_if_ne, rx_iload_n, rx_ireturn, ev_K, ev_pI, ev_pR, ev_pVi, ev_pVr, ev_sI, ev_sR, ev_KC, ev_k, ev_ko, ev_pop0, ev_pops, am_ld, am_sv, am_at, am_st, am_g, List.length_cons, List.length_nil, Nat.reduceAdd, Nat.reduceLT, Nat.zero_add, if_true, if_false, and_self, true_or, or_true, true_and, and_true, not_true_eq_false, not_false_eq_true, reduceCtorEq, eq_self, Option.toList_some, Option.toList_none, List.cons_append, List.nil_append, Bool.false_eq_true, m0, k3, k4, ix, c1, c2, b00, decide_true, decide_false, Bool.not_true, Bool.not_false, Bool.or_false, Bool.false_or, Bool.and_false, Bool.false_and]
    · by_cases c3 : w 0 < F 4 e
      · simp only [am_R_eq, cx_107, en_107, rt_107, rx_aload_n, rx_baload, rx_getfield, ev_gf, rx_goto, rx_iaload, rx_iconst, rx_icmp_lt, rx_if_le, rx_if_ne, rx_iload_n, rx_ireturn, ev_K, ev_pI, ev_pR, ev_pVi, ev_pVr, ev_sI, ev_sR, ev_KC, ev_k, ev_ko, ev_pop0, ev_pops, am_ld, am_sv, am_at, am_st, am_g, List.length_cons, List.length_nil, Nat.reduceAdd, Nat.reduceLT, Nat.zero_add, if_true, if_false, and_self, true_or, or_true, true_and, and_true, not_true_eq_false, not_false_eq_true, reduceCtorEq, eq_self, Option.toList_some, Option.toList_none, List.cons_append, List.nil_append, Bool.false_eq_true, m0, k3, k4, ix, c1, c2, c3, b00, decide_true, decide_false, Bool.not_true, Bool.not_false, Bool.or_false, Bool.false_or, Bool.and_false, Bool.false_and]
      · simp only [am_R_eq, cx_107, en_107, rt_107, rx_aload_n, rx_baload, rx_getfield, ev_gf, rx_goto, rx_iaload, rx_iconst, rx_icmp_lt, rx_if_le, rx_if_ne, rx_iload_n, rx_ireturn, ev_K, ev_pI, ev_pR, ev_pVi, ev_pVr, ev_sI, ev_sR, ev_KC, ev_k, ev_ko, ev_pop0, ev_pops, am_ld, am_sv, am_at, am_st, am_g, List.length_cons, List.length_nil, Nat.reduceAdd, Nat.reduceLT, Nat.zero_add, if_true, if_false, and_self, true_or, or_true, true_and, and_true, not_true_eq_false, not_false_eq_true, reduceCtorEq, eq_self, Option.toList_some, Option.toList_none, List.cons_append, List.nil_append, Bool.false_eq_true, m0, k3, k4, ix, c1, c2, c3, b11, decide_true, decide_false, Bool.not_true, Bool.not_false, Bool.or_false, Bool.false_or, Bool.and_false, Bool.false_and, Bool.and_self]
  · simp only [am_R_eq, cx_107, en_107, rt_107, rx_aload_n, rx_baload, rx_getfield, ev_gf, rx_goto, rx_iaload, rx_iconst, rx_icmp_lt, rx_if_le, rx_if_ne, rx_iload_n, rx_ireturn, ev_K, ev_pI, ev_pR, ev_pVi, ev_pVr, ev_sI, ev_sR, ev_KC, ev_k, ev_ko, ev_pop0, ev_pops, am_ld, am_sv, am_at, am_st, am_g, List.length_cons, List.length_nil, Nat.reduceAdd, Nat.reduceLT, Nat.zero_add, if_true, if_false, and_self, true_or, or_true, true_and, and_true, not_true_eq_false, not_false_eq_true, reduceCtorEq, eq_self, Option.toList_some, Option.toList_none, List.cons_append, List.nil_append, Bool.false_eq_true, m0, k3, ix, c1, b11, decide_true, decide_false, Bool.not_true, Bool.not_false, Bool.or_false, Bool.true_or]
def m_bf (F : Nat → Nat → Int32) (a b : Nat) : Bool := decide (F 0 a < F 0 b) || (decide (F 0 a = F 0 b) && !decide (F 1 a ≤ F 1 b))
theorem mo_before (d : Nat) {a b : Nat} (ha : a < 520) (hb : b < 520) (hM : vs_M z h x A w F) : am_M z (d + 1) 111 [.ref x, .int (nI a), .int (nI b)] h (some (.int (if m_bf F a b = true then 1 else 0))) h := by
  obtain ⟨k0, k1, -⟩ := hM.all
  have m0 := hM.ob
  have ia := m_ix ha
  have ib := m_ix hb
  unfold m_bf
  rw [am_M_eq]
  by_cases c1 : F 0 a < F 0 b
  · simp only [am_R_eq, cx_111, en_111, rt_111, rx_aload_n, rx_getfield, ev_gf, rx_goto, rx_iaload, rx_iconst, rx_icmp_le, rx_icmp_lt, rx_icmp_ne, rx_iload_n, rx_ireturn, ev_K, ev_pI, ev_pR, ev_pVi, ev_pVr, ev_sI, ev_sR, ev_KC, ev_k, ev_ko, ev_pop0, ev_pops, am_ld, am_sv, am_at, am_st, am_g, List.length_cons, List.length_nil, Nat.reduceAdd, Nat.reduceLT, Nat.zero_add, if_true, if_false, and_self, true_or, or_true, true_and, and_true, not_true_eq_false, not_false_eq_true, reduceCtorEq, eq_self, Option.toList_some, Option.toList_none, List.cons_append, List.nil_append, Bool.false_eq_true, m0, k0, k1, ia, ib, c1, b11, decide_true, Bool.true_or]
  · by_cases c2 : F 0 a = F 0 b
    · by_cases c3 : F 1 a ≤ F 1 b
      · have c1' : ¬ F 0 b < F 0 b := by rw [← c2]; rw [← c2] at c1; exact c1
        simp only [am_R_eq, cx_111, en_111, rt_111, rx_aload_n, rx_getfield, ev_gf, rx_goto, rx_iaload, rx_iconst, rx_icmp_le, rx_icmp_lt, rx_icmp_ne, rx_iload_n, rx_ireturn, ev_K, ev_pI, ev_pR, ev_pVi, ev_pVr, ev_sI, ev_sR, ev_KC, ev_k, ev_ko, ev_pop0, ev_pops, am_ld, am_sv, am_at, am_st, am_g, List.length_cons, List.length_nil, Nat.reduceAdd, Nat.reduceLT, Nat.zero_add, if_true, if_false, and_self, true_or, or_true, true_and, and_true, not_true_eq_false, not_false_eq_true, reduceCtorEq, eq_self, Option.toList_some, Option.toList_none, List.cons_append, List.nil_append, Bool.false_eq_true, m0, k0, k1, ia, ib, c1', c2, c3, b00, decide_true, decide_false, Bool.not_true, Bool.not_false, Bool.or_false, Bool.false_or, Bool.and_false, Bool.false_and]
      · have c1' : ¬ F 0 b < F 0 b := by rw [← c2]; rw [← c2] at c1; exact c1
        simp only [am_R_eq, cx_111, en_111, rt_111, rx_aload_n, rx_getfield, ev_gf, rx_goto, rx_iaload, rx_iconst, rx_icmp_le, rx_icmp_lt, rx_icmp_ne, rx_iload_n, rx_ireturn, ev_K, ev_pI, ev_pR, ev_pVi, ev_pVr, ev_sI, ev_sR, ev_KC, ev_k, ev_ko, ev_pop0, ev_pops, am_ld, am_sv, am_at, am_st, am_g, List.length_cons, List.length_nil, Nat.reduceAdd, Nat.reduceLT, Nat.zero_add, if_true, if_false, and_self, true_or, or_true, true_and, and_true, not_true_eq_false, not_false_eq_true, reduceCtorEq, eq_self, Option.toList_some, Option.toList_none, List.cons_append, List.nil_append, Bool.false_eq_true, m0, k0, k1, ia, ib, c1', c2, c3, b11, decide_true, decide_false, Bool.not_true, Bool.not_false, Bool.or_false, Bool.false_or, Bool.and_false, Bool.false_and, Bool.and_self]
    · simp only [am_R_eq, cx_111, en_111, rt_111, rx_aload_n, rx_getfield, ev_gf, rx_goto, rx_iaload, rx_iconst, rx_icmp_le, rx_icmp_lt, rx_icmp_ne, rx_iload_n, rx_ireturn, ev_K, ev_pI, ev_pR, ev_pVi, ev_pVr, ev_sI, ev_sR, ev_KC, ev_k, ev_ko, ev_pop0, ev_pops, am_ld, am_sv, am_at, am_st, am_g, List.length_cons, List.length_nil, Nat.reduceAdd, Nat.reduceLT, Nat.zero_add, if_true, if_false, and_self, true_or, or_true, true_and, and_true, not_true_eq_false, not_false_eq_true, reduceCtorEq, eq_self, Option.toList_some, Option.toList_none, List.cons_append, List.nil_append, Bool.false_eq_true, m0, k0, k1, ia, ib, c1, c2, b00, decide_true, decide_false, Bool.not_true, Bool.not_false, Bool.or_false, Bool.false_or, Bool.and_false, Bool.false_and]
def m_cn (P : Nat → Bool) : Nat → Nat
  | 0 => 0
  | n + 1 => m_cn P n + (if P n = true then 1 else 0)
theorem m_cn_le (P : Nat → Bool) : ∀ n, m_cn P n ≤ n
  | 0 => Nat.le_refl _
  | n + 1 => by
    have := m_cn_le P n
    rw [m_cn]
    split <;> omega
theorem mo_size (d : Nat) {n : Nat} {l : Int32} (hn : w 1 = nI n) (hb : n ≤ 520) (hM : vs_M z h x A w F) : am_M z (d + 1) 100 [.ref x, .int l] h (some (.int (nI (m_cn (fun e => decide (F 5 e = l)) n)))) h := by
  obtain ⟨k0, k1, k2, k3, k4, k5, -⟩ := hM.all
  have m0 := hM.ob
  have loop : ∀ m k, m + k = n → am_R z d 100 4 [some (.ref x), some (.int l), some (.int (nI (m_cn (fun e => decide (F 5 e = l)) k))), some (.int (nI k))] [] h (some (.int (nI (m_cn (fun e => decide (F 5 e = l)) n)))) h := by
    intro m
    induction m with
    | zero =>
      intro k hk
      have hkn : k = n := by omega
      subst hkn
      have e1 : nI k ≤ nI k := nI_le (Nat.le_refl _) (by omega)
      rw [am_R_eq, cxh_100_4]
      simp only [am_R_eq, cx_100, en_100, rt_100, rx_aload_n, rx_getfield, ev_gf, rx_goto, rx_iaload, rx_iconst, rx_icmp_ge, rx_icmp_ne, rx_iinc, ev_inc, rx_iload_n, rx_ireturn, rx_istore_n, ev_K, ev_pI, ev_pR, ev_pVi, ev_pVr, ev_sI, ev_sR, ev_KC, ev_k, ev_ko, ev_pop0, ev_pops, am_ld, am_sv, am_at, am_st, am_g, List.length_cons, List.length_nil, Nat.reduceAdd, Nat.reduceLT, Nat.zero_add, if_true, if_false, and_self, true_or, or_true, true_and, and_true, not_true_eq_false, not_false_eq_true, reduceCtorEq, eq_self, Option.toList_some, Option.toList_none, List.cons_append, List.nil_append, Bool.false_eq_true, m0, hn, e1]
    | succ m ih =>
      intro k hk
      have e1 : ¬ nI n ≤ nI k := nI_ge (by omega) (by omega)
      have ix := m_ix (k := k) (by omega)
      have i1 := ih (k + 1) (by omega)
      rw [m_cn, am_R_eq] at i1
      rw [am_R_eq, cxh_100_4]
      by_cases c1 : F 5 k = l
      · rw [if_pos (decide_eq_true c1)] at i1
        simp only [am_R_eq, cx_100, en_100, rt_100, rx_aload_n, rx_getfield, ev_gf, rx_goto, rx_iaload, rx_iconst, rx_icmp_ge, rx_icmp_ne, rx_iinc, ev_inc, rx_iload_n, rx_ireturn, rx_istore_n, ev_K, ev_pI, ev_pR, ev_pVi, ev_pVr, ev_sI, ev_sR, ev_KC, ev_k, ev_ko, ev_pop0, ev_pops, am_ld, am_sv, am_at, am_st, am_g, List.length_cons, List.length_nil, Nat.reduceAdd, Nat.reduceLT, Nat.zero_add, if_true, if_false, and_self, true_or, or_true, true_and, and_true, not_true_eq_false, not_false_eq_true, reduceCtorEq, eq_self, Option.toList_some, Option.toList_none, List.cons_append, List.nil_append, Bool.false_eq_true, m0, hn, e1, k5, ix, c1, nI_ofs]
        exact i1
      · rw [if_neg (fun q => c1 (of_decide_eq_true q))] at i1
        simp only [am_R_eq, cx_100, en_100, rt_100, rx_aload_n, rx_getfield, ev_gf, rx_goto, rx_iaload, rx_iconst, rx_icmp_ge, rx_icmp_ne, rx_iinc, ev_inc, rx_iload_n, rx_ireturn, rx_istore_n, ev_K, ev_pI, ev_pR, ev_pVi, ev_pVr, ev_sI, ev_sR, ev_KC, ev_k, ev_ko, ev_pop0, ev_pops, am_ld, am_sv, am_at, am_st, am_g, List.length_cons, List.length_nil, Nat.reduceAdd, Nat.reduceLT, Nat.zero_add, if_true, if_false, and_self, true_or, or_true, true_and, and_true, not_true_eq_false, not_false_eq_true, reduceCtorEq, eq_self, Option.toList_some, Option.toList_none, List.cons_append, List.nil_append, Bool.false_eq_true, m0, hn, e1, k5, ix, c1, nI_ofs]
        exact i1
  have i1 := loop n 0 rfl
  rw [am_R_eq] at i1
  have z0 : nI 0 = 0 := rfl
  rw [m_cn, z0] at i1
  rw [am_M_eq]
  simp only [am_R_eq, cx_100, en_100, rt_100, rx_aload_n, rx_getfield, ev_gf, rx_goto, rx_iaload, rx_iconst, rx_icmp_ge, rx_icmp_ne, rx_iinc, ev_inc, rx_iload_n, rx_ireturn, rx_istore_n, ev_K, ev_pI, ev_pR, ev_pVi, ev_pVr, ev_sI, ev_sR, ev_KC, ev_k, ev_ko, ev_pop0, ev_pops, am_ld, am_sv, am_at, am_st, am_g, List.length_cons, List.length_nil, Nat.reduceAdd, Nat.reduceLT, Nat.zero_add, if_true, if_false, and_self, true_or, or_true, true_and, and_true, not_true_eq_false, not_false_eq_true, reduceCtorEq, eq_self, Option.toList_some, Option.toList_none, List.cons_append, List.nil_append, Bool.false_eq_true, z0]
  exact i1
end MO