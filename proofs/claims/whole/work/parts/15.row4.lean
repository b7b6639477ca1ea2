section ROW4
variable {h : am_H} {r a bl n : Nat} {L : List Nat} {E : Nat → Nat → Int32}
def vs_sn (h : am_H) (s ss : Nat) (S : Nat → Int32) : Prop := h.1 s = some (.inr (6, [.ref ss])) ∧ h.1 ss = some (.inl (0, 3, .inl S))
def e_tar (S : Nat → Int32) (x y : Int32) : Nat → Bool
  | 0 => false
  | m + 1 => (!decide (S (2 - m) < x) && !decide (y ≤ S (2 - m))) || e_tar S x y m
def e_ta (S : Nat → Int32) (E : Nat → Nat → Int32) (e f : Nat) : Bool := e_tar S (E e 4) (E f 4) 3
theorem sn_tellApart (z d : Nat) {s ss e f : Nat} {S : Nat → Int32} (hs : vs_sn h s ss S) (he : h.1 e = some (vs_e E e)) (hf : h.1 f = some (vs_e E f)) : am_M z (d + 1) 29 [.ref s, .ref e, .ref f] h (some (.int (if e_ta S E e f = true then 1 else 0))) h := by
  obtain ⟨h1, h2⟩ := hs
  have loop : ∀ m k, m + k = 3 → am_R z d 29 2 [some (.ref s), some (.ref e), some (.ref f), some (.int (nI k))] [] h (some (.int (if e_tar S (E e 4) (E f 4) m = true then 1 else 0))) h := by
    intro m
    induction m with
    | zero =>
      intro k hk
      have hk3 : k = 3 := by omega
      subst hk3
      have e1 : (3 : Int32) ≤ nI 3 := by decide
      rw [am_R_eq, cxh_29_2]
      simp only [am_R_eq, cx_29, en_29, rt_29, rx_aload_n, rx_getfield, ev_gf, rx_goto, rx_iaload, rx_iconst, rx_icmp_ge, rx_icmp_lt, rx_iinc, ev_inc, rx_iload_n, rx_ireturn, rx_istore_n, ev_K, ev_pI, ev_pR, ev_pVi, ev_pVr, ev_sI, ev_sR, ev_KC, ev_k, ev_ko, ev_pop0, ev_pops, am_ld, am_sv, am_at, am_st, am_g, List.length_cons, List.length_nil, Nat.reduceAdd, Nat.reduceLT, Nat.zero_add, if_true, if_false, and_self, true_or, or_true, true_and, and_true, not_true_eq_false, not_false_eq_true, reduceCtorEq, eq_self, Option.toList_some, Option.toList_none, List.cons_append, List.nil_append, Bool.false_eq_true, e1, e_tar, b00]
    | succ m ih =>
      intro k hk
      have hkm : k = 2 - m := by omega
      have e1 : ¬ (3 : Int32) ≤ nI k := nI_ge (a := k) (b := 3) (by omega) (by omega)
      have e5 : am_ix (nI k) 3 = some k := ev_ix (by omega) (by omega)
      have e7 := ev_ri 0 3 k S (nI k) e5
      have ih1 := ih (k + 1) (by omega)
      rw [am_R_eq] at ih1
      rw [am_R_eq, cxh_29_2]
      by_cases c1 : S k < E e 4
      · simp only [am_R_eq, cx_29, en_29, rt_29, rx_aload_n, rx_getfield, ev_gf, rx_goto, rx_iaload, rx_iconst, rx_icmp_ge, rx_icmp_lt, rx_iinc, ev_inc, rx_iload_n, rx_ireturn, rx_istore_n, ev_K, ev_pI, ev_pR, ev_pVi, ev_pVr, ev_sI, ev_sR, ev_KC, ev_k, ev_ko, ev_pop0, ev_pops, am_ld, am_sv, am_at, am_st, am_g, List.length_cons, List.length_nil, Nat.reduceAdd, Nat.reduceLT, Nat.zero_add, if_true, if_false, and_self, true_or, or_true, true_and, and_true, not_true_eq_false, not_false_eq_true, reduceCtorEq, eq_self, Option.toList_some, Option.toList_none, List.cons_append, List.nil_append, Bool.false_eq_true, h1, h2, e1, e7, he, hf, nI_ofs, c1]
        have : e_tar S (E e 4) (E f 4) (m + 1) = e_tar S (E e 4) (E f 4) m := by simp [e_tar, ← hkm, c1]
        rw [this]
        exact ih1
      · by_cases c2 : E f 4 ≤ S k
        · simp only [am_R_eq, cx_29, en_29, rt_29, rx_aload_n, rx_getfield, ev_gf, rx_goto, rx_iaload, rx_iconst, rx_icmp_ge, rx_icmp_lt, rx_iinc, ev_inc, rx_iload_n, rx_ireturn, rx_istore_n, ev_K, ev_pI, ev_pR, ev_pVi, ev_pVr, ev_sI, ev_sR, ev_KC, ev_k, ev_ko, ev_pop0, ev_pops, am_ld, am_sv, am_at, am_st, am_g, List.length_cons, List.length_nil, Nat.reduceAdd, Nat.reduceLT, Nat.zero_add, if_true, if_false, and_self, true_or, or_true, true_and, and_true, not_true_eq_false, not_false_eq_true, reduceCtorEq, eq_self, Option.toList_some, Option.toList_none, List.cons_append, List.nil_append, Bool.false_eq_true, h1, h2, e1, e7, he, hf, nI_ofs, c1, c2]
          have : e_tar S (E e 4) (E f 4) (m + 1) = e_tar S (E e 4) (E f 4) m := by simp [e_tar, ← hkm, c1, c2]
          rw [this]
          exact ih1
        · have : e_tar S (E e 4) (E f 4) (m + 1) = true := by simp [e_tar, ← hkm, c1, c2]
          rw [this]
          simp only [am_R_eq, cx_29, en_29, rt_29, rx_aload_n, rx_getfield, ev_gf, rx_goto, rx_iaload, rx_iconst, rx_icmp_ge, rx_icmp_lt, rx_iinc, ev_inc, rx_iload_n, rx_ireturn, rx_istore_n, ev_K, ev_pI, ev_pR, ev_pVi, ev_pVr, ev_sI, ev_sR, ev_KC, ev_k, ev_ko, ev_pop0, ev_pops, am_ld, am_sv, am_at, am_st, am_g, List.length_cons, List.length_nil, Nat.reduceAdd, Nat.reduceLT, Nat.zero_add, if_true, if_false, and_self, true_or, or_true, true_and, and_true, not_true_eq_false, not_false_eq_true, reduceCtorEq, eq_self, Option.toList_some, Option.toList_none, List.cons_append, List.nil_append, Bool.false_eq_true, h1, h2, e1, e7, he, hf, nI_ofs, c1, c2, b11]
  have l0 := loop 3 0 rfl
  rw [am_R_eq] at l0
  rw [am_M_eq]
  simp only [am_R_eq, cx_29, en_29, rt_29, rx_aload_n, rx_getfield, ev_gf, rx_goto, rx_iaload, rx_iconst, rx_icmp_ge, rx_icmp_lt, rx_iinc, ev_inc, rx_iload_n, rx_ireturn, rx_istore_n, ev_K, ev_pI, ev_pR, ev_pVi, ev_pVr, ev_sI, ev_sR, ev_KC, ev_k, ev_ko, ev_pop0, ev_pops, am_ld, am_sv, am_at, am_st, am_g, List.length_cons, List.length_nil, Nat.reduceAdd, Nat.reduceLT, Nat.zero_add, if_true, if_false, and_self, true_or, or_true, true_and, and_true, not_true_eq_false, not_false_eq_true, reduceCtorEq, eq_self, Option.toList_some, Option.toList_none, List.cons_append, List.nil_append, Bool.false_eq_true]
  exact l0
def e_du (E : Nat → Nat → Int32) (ta : Nat → Nat → Bool) : Nat → List Nat → List Nat
  | _, [] => []
  | p, e :: t => if ¬ E e 0 = E p 0 ∨ ta e p = true then e :: e_du E ta e t else e_du E ta e t
theorem e_du_len (E : Nat → Nat → Int32) (ta : Nat → Nat → Bool) : ∀ (p : Nat) (L : List Nat), (e_du E ta p L).length ≤ L.length
  | _, [] => Nat.le_refl _
  | p, e :: t => by
    unfold e_du
    have := e_du_len E ta e t
    split
    · simp only [List.length_cons]; omega
    · simp only [List.length_cons]; omega
theorem ro_dropUnseen (z d : Nat) {s ss : Nat} {S : Nat → Int32} (hz : z ≤ r) (hza : z ≤ a) (hr : vs_row h r a bl n L) (hs : vs_sn h s ss S) (hbl : h.1 bl = some (vs_e E bl)) (hL : ∀ x ∈ L, h.1 x = some (vs_e E x)) : ∃ h', am_M z (d + 1 + 1) 28 [.ref r, .ref s] h (some (.int (nI (L.length - (e_du E (e_ta S E) bl L).length)))) h' ∧ vs_row h' r a bl n (e_du E (e_ta S E) bl L) ∧ vs_ch h h' r a := by
  obtain ⟨g, h1, h2, h3, h4, h5, hne⟩ := hr.g
  have hxa : ∀ x, h.1 x = some (vs_e E x) → x ≠ a := fun x hx => am_ne hx h2 (by simp)
  have hsa : s ≠ a := am_ne hs.1 h2 (by simp)
  have hssa : ss ≠ a := am_ne hs.2 h2 (by simp)
  have hbla := hxa bl hbl
  have loop : ∀ m k (G : Nat → Option Nat) (Kp : List Nat) (p : Nat) (w : Option Value), m = L.length - k → k ≤ L.length → Kp.length ≤ k → (∀ i, i < Kp.length → G i = Kp[i]?) → (∀ i, k ≤ i → G i = g i) → h.1 p = some (vs_e E p) →
      ∃ G', am_R z (d + 1) 28 10 [some (.ref r), some (.ref s), some (.int (nI Kp.length)), some (.ref p), some (.int (nI k)), w] [] (am_up h a (vs_q n G)) (some (.int (nI (L.length - (Kp ++ e_du E (e_ta S E) p (L.drop k)).length)))) (am_up (am_up h a (vs_q n G')) r (vs_ro bl a (Kp ++ e_du E (e_ta S E) p (L.drop k)).length)) ∧ ∀ i, i < (Kp ++ e_du E (e_ta S E) p (L.drop k)).length → G' i = (Kp ++ e_du E (e_ta S E) p (L.drop k))[i]? := by
    intro m
    induction m with
    | zero =>
      intro k G Kp p w hm hk hKp hG1 hG2 hp
      have hkl : k = L.length := by omega
      subst hkl
      have e1 : nI L.length ≤ nI L.length := nI_le (Nat.le_refl _) (by omega)
      have e2 : nI L.length - nI Kp.length = nI (L.length - Kp.length) := pk_sub hKp
      rw [List.drop_length]
      simp only [e_du, List.append_nil]
      refine ⟨G, ?_, hG1⟩
      rw [am_R_eq, cxh_28_10]
      simp only [am_R_eq, cx_28, en_28, rt_28, rx_aaload, rx_aastore, ev_w1, ev_KW, rx_aload, rx_aload_n, rx_astore, rx_astore_n, rx_getfield, ev_gf, rx_goto, rx_iconst, rx_icmp_ge, rx_icmp_ne, rx_if_eq, rx_iinc, ev_inc, rx_iload, rx_iload_n, rx_invv, ev_cv, rx_ireturn, rx_istore, rx_istore_n, rx_isub, rx_putfield, ev_pf, am_fok, am_ftv, kl_29, ev_K, ev_pI, ev_pR, ev_pVi, ev_pVr, ev_sI, ev_sR, ev_KC, ev_k, ev_ko, ev_pop0, ev_pops, am_ld, am_sv, am_at, am_st, am_g, List.length_cons, List.length_nil, Nat.reduceAdd, Nat.reduceLT, Nat.zero_add, if_true, if_false, and_self, true_or, or_true, true_and, and_true, not_true_eq_false, not_false_eq_true, reduceCtorEq, eq_self, Option.toList_some, Option.toList_none, List.cons_append, List.nil_append, Bool.false_eq_true, h1, e1, e2, hz, am_up_ne, am_up_at, hne, ne_eq, Nat.reduceLeDiff, beq_self_eq_true]
    | succ m ih =>
      intro k G Kp p w hm hk hKp hG1 hG2 hp
      have hlt : k < L.length := by omega
      have e1 : ¬ nI L.length ≤ nI k := nI_ge hlt (by omega)
      have e5 : am_ix (nI k) n = some k := ev_ix (by omega) (by omega)
      have e3 : am_ix (nI Kp.length) n = some Kp.length := ev_ix (by omega) (by omega)
      obtain ⟨x, hx⟩ : ∃ x, L[k]? = some x := ⟨L[k]'(by omega), List.getElem?_eq_getElem (by omega)⟩
      have hd : L.drop k = x :: L.drop (k + 1) := by
        rw [List.drop_eq_getElem_cons hlt]
        congr 1
        exact (List.getElem?_eq_some_iff.mp hx).2
      have e7 := ev_rq 2 n k x G (nI k) (by omega) e5 (by rw [hG2 k (Nat.le_refl _), h3 k hlt]; exact hx)
      have hex := hL x (List.mem_of_getElem? hx)
      have hxn := hxa x hex
      have hpn := hxa p hp
      have hex2 : (am_up h a (vs_q n G)).1 x = some (vs_e E x) := by rw [am_up_ne _ _ hxn]; exact hex
      have hp2 : (am_up h a (vs_q n G)).1 p = some (vs_e E p) := by rw [am_up_ne _ _ hpn]; exact hp
      have hs2 : vs_sn (am_up h a (vs_q n G)) s ss S := ⟨by rw [am_up_ne _ _ hsa]; exact hs.1, by rw [am_up_ne _ _ hssa]; exact hs.2⟩
      have hs3 := hs.1
      have e4 := ev_wq 2 n Kp.length x G (nI Kp.length) ((am_up h a (vs_q n G)).1 x) (by omega) e3 (by rw [hex2]; rfl)
      have e4b := ev_wq 2 n Kp.length x G (nI Kp.length) (some (vs_e E x)) (by omega) e3 rfl
      rw [hd]
      obtain ⟨G1, i1, i2⟩ := ih (k + 1) (va_up G Kp.length (some x)) (Kp ++ [x]) x (some (.ref x)) (by omega) (by omega) (by rw [List.length_append]; simp; omega) (by
        intro i hi
        rw [List.length_append] at hi
        have hi : i < Kp.length + 1 := hi
        by_cases hik : i = Kp.length
        · subst hik
          rw [va_up_self, List.getElem?_append_right (Nat.le_refl _), Nat.sub_self]
          rfl
        · rw [va_up_ne _ _ hik, List.getElem?_append_left (by omega)]
          exact hG1 i (by omega)) (by
        intro i hi
        rw [va_up_ne _ _ (by omega)]
        exact hG2 i (by omega)) hex
      obtain ⟨G2, j1, j2⟩ := ih (k + 1) G Kp x (some (.ref x)) (by omega) (by omega) (by omega) hG1 (fun i hi => hG2 i (by omega)) hex
      have hl : (Kp ++ [x]).length = Kp.length + 1 := by simp
      rw [List.append_assoc, hl] at i1
      rw [List.append_assoc] at i2
      rw [am_R_eq] at i1 j1
      by_cases c1 : E x 0 = E p 0
      · cases c2 : e_ta S E x p with
        | true =>
          have hdu : e_du E (e_ta S E) p (x :: L.drop (k + 1)) = [x] ++ e_du E (e_ta S E) x (L.drop (k + 1)) := by simp [e_du, c2]
          rw [hdu]
          refine ⟨G1, ?_, i2⟩
          rw [am_R_eq, cxh_28_10]
          simp only [am_R_eq, cx_28, en_28, rt_28, rx_aaload, rx_aastore, ev_w1, ev_KW, rx_aload, rx_aload_n, rx_astore, rx_astore_n, rx_getfield, ev_gf, rx_goto, rx_iconst, rx_icmp_ge, rx_icmp_ne, rx_if_eq, rx_iinc, ev_inc, rx_iload, rx_iload_n, rx_invv, ev_cv, rx_ireturn, rx_istore, rx_istore_n, rx_isub, rx_putfield, ev_pf, am_fok, am_ftv, kl_29, ev_K, ev_pI, ev_pR, ev_pVi, ev_pVr, ev_sI, ev_sR, ev_KC, ev_k, ev_ko, ev_pop0, ev_pops, am_ld, am_sv, am_at, am_st, am_g, List.length_cons, List.length_nil, Nat.reduceAdd, Nat.reduceLT, Nat.zero_add, if_true, if_false, and_self, true_or, or_true, true_and, and_true, not_true_eq_false, not_false_eq_true, reduceCtorEq, eq_self, Option.toList_some, Option.toList_none, List.cons_append, List.nil_append, Bool.false_eq_true, h1, hs3, e1, e7, hex2, hp2, c1, am_up_ne, am_up_at, hne, hsa, ne_eq]
          refine am_CL_of (sn_tellApart z d hs2 hex2 hp2) ?_
          simp only [am_R_eq, cx_28, en_28, rt_28, rx_aaload, rx_aastore, ev_w1, ev_KW, rx_aload, rx_aload_n, rx_astore, rx_astore_n, rx_getfield, ev_gf, rx_goto, rx_iconst, rx_icmp_ge, rx_icmp_ne, rx_if_eq, rx_iinc, ev_inc, rx_iload, rx_iload_n, rx_invv, ev_cv, rx_ireturn, rx_istore, rx_istore_n, rx_isub, rx_putfield, ev_pf, am_fok, am_ftv, kl_29, ev_K, ev_pI, ev_pR, ev_pVi, ev_pVr, ev_sI, ev_sR, ev_KC, ev_k, ev_ko, ev_pop0, ev_pops, am_ld, am_sv, am_at, am_st, am_g, List.length_cons, List.length_nil, Nat.reduceAdd, Nat.reduceLT, Nat.zero_add, if_true, if_false, and_self, true_or, or_true, true_and, and_true, not_true_eq_false, not_false_eq_true, reduceCtorEq, eq_self, Option.toList_some, Option.toList_none, List.cons_append, List.nil_append, Bool.false_eq_true, h1, c2, i_10, e4, hza, am_up_ne, am_up_at, am_up_up, hne, ne_eq, nI_ofs]
          exact i1
        | false =>
          have hdu : e_du E (e_ta S E) p (x :: L.drop (k + 1)) = e_du E (e_ta S E) x (L.drop (k + 1)) := by simp [e_du, c1, c2]
          rw [hdu]
          refine ⟨G2, ?_, j2⟩
          rw [am_R_eq, cxh_28_10]
          simp only [am_R_eq, cx_28, en_28, rt_28, rx_aaload, rx_aastore, ev_w1, ev_KW, rx_aload, rx_aload_n, rx_astore, rx_astore_n, rx_getfield, ev_gf, rx_goto, rx_iconst, rx_icmp_ge, rx_icmp_ne, rx_if_eq, rx_iinc, ev_inc, rx_iload, rx_iload_n, rx_invv, ev_cv, rx_ireturn, rx_istore, rx_istore_n, rx_isub, rx_putfield, ev_pf, am_fok, am_ftv, kl_29, ev_K, ev_pI, ev_pR, ev_pVi, ev_pVr, ev_sI, ev_sR, ev_KC, ev_k, ev_ko, ev_pop0, ev_pops, am_ld, am_sv, am_at, am_st, am_g, List.length_cons, List.length_nil, Nat.reduceAdd, Nat.reduceLT, Nat.zero_add, if_true, if_false, and_self, true_or, or_true, true_and, and_true, not_true_eq_false, not_false_eq_true, reduceCtorEq, eq_self, Option.toList_some, Option.toList_none, List.cons_append, List.nil_append, Bool.false_eq_true, h1, hs3, e1, e7, hex2, hp2, c1, am_up_ne, am_up_at, hne, hsa, ne_eq]
          refine am_CL_of (sn_tellApart z d hs2 hex2 hp2) ?_
          simp only [am_R_eq, cx_28, en_28, rt_28, rx_aaload, rx_aastore, ev_w1, ev_KW, rx_aload, rx_aload_n, rx_astore, rx_astore_n, rx_getfield, ev_gf, rx_goto, rx_iconst, rx_icmp_ge, rx_icmp_ne, rx_if_eq, rx_iinc, ev_inc, rx_iload, rx_iload_n, rx_invv, ev_cv, rx_ireturn, rx_istore, rx_istore_n, rx_isub, rx_putfield, ev_pf, am_fok, am_ftv, kl_29, ev_K, ev_pI, ev_pR, ev_pVi, ev_pVr, ev_sI, ev_sR, ev_KC, ev_k, ev_ko, ev_pop0, ev_pops, am_ld, am_sv, am_at, am_st, am_g, List.length_cons, List.length_nil, Nat.reduceAdd, Nat.reduceLT, Nat.zero_add, if_true, if_false, and_self, true_or, or_true, true_and, and_true, not_true_eq_false, not_false_eq_true, reduceCtorEq, eq_self, Option.toList_some, Option.toList_none, List.cons_append, List.nil_append, Bool.false_eq_true, h1, c2, i_10, e4, hza, am_up_ne, am_up_at, am_up_up, hne, ne_eq, nI_ofs]
          exact j1
      · have hdu : e_du E (e_ta S E) p (x :: L.drop (k + 1)) = [x] ++ e_du E (e_ta S E) x (L.drop (k + 1)) := by simp [e_du, c1]
        rw [hdu]
        refine ⟨G1, ?_, i2⟩
        rw [am_R_eq, cxh_28_10]
        simp only [am_R_eq, cx_28, en_28, rt_28, rx_aaload, rx_aastore, ev_w1, ev_KW, rx_aload, rx_aload_n, rx_astore, rx_astore_n, rx_getfield, ev_gf, rx_goto, rx_iconst, rx_icmp_ge, rx_icmp_ne, rx_if_eq, rx_iinc, ev_inc, rx_iload, rx_iload_n, rx_invv, ev_cv, rx_ireturn, rx_istore, rx_istore_n, rx_isub, rx_putfield, ev_pf, am_fok, am_ftv, kl_29, ev_K, ev_pI, ev_pR, ev_pVi, ev_pVr, ev_sI, ev_sR, ev_KC, ev_k, ev_ko, ev_pop0, ev_pops, am_ld, am_sv, am_at, am_st, am_g, List.length_cons, List.length_nil, Nat.reduceAdd, Nat.reduceLT, Nat.zero_add, if_true, if_false, and_self, true_or, or_true, true_and, and_true, not_true_eq_false, not_false_eq_true, reduceCtorEq, eq_self, Option.toList_some, Option.toList_none, List.cons_append, List.nil_append, Bool.false_eq_true, h1, e1, e7, hex2, hp2, c1, e4b, hza, am_up_ne, am_up_at, am_up_up, hne, ne_eq, nI_ofs]
        exact i1
  obtain ⟨G', l0, l1⟩ := loop L.length 0 g [] bl none (by omega) (Nat.zero_le _) (Nat.zero_le _) (fun i hi => absurd hi (Nat.not_lt_zero _)) (fun i _ => rfl) hbl
  rw [List.drop_zero, List.nil_append] at l0 l1
  rw [am_up_self h2, am_R_eq] at l0
  refine ⟨_, ?_, ?_, vs_ch.up2 h r a (vs_q n G') (vs_ro bl a (e_du E (e_ta S E) bl L).length)⟩
  · rw [am_M_eq]
    simp only [am_R_eq, cx_28, en_28, rt_28, rx_aaload, rx_aastore, ev_w1, ev_KW, rx_aload, rx_aload_n, rx_astore, rx_astore_n, rx_getfield, ev_gf, rx_goto, rx_iconst, rx_icmp_ge, rx_icmp_ne, rx_if_eq, rx_iinc, ev_inc, rx_iload, rx_iload_n, rx_invv, ev_cv, rx_ireturn, rx_istore, rx_istore_n, rx_isub, rx_putfield, ev_pf, am_fok, am_ftv, kl_29, ev_K, ev_pI, ev_pR, ev_pVi, ev_pVr, ev_sI, ev_sR, ev_KC, ev_k, ev_ko, ev_pop0, ev_pops, am_ld, am_sv, am_at, am_st, am_g, List.length_cons, List.length_nil, Nat.reduceAdd, Nat.reduceLT, Nat.zero_add, if_true, if_false, and_self, true_or, or_true, true_and, and_true, not_true_eq_false, not_false_eq_true, reduceCtorEq, eq_self, Option.toList_some, Option.toList_none, List.cons_append, List.nil_append, Bool.false_eq_true, h1]
    exact l0
  · refine vs_row.mk (g := G') (by rw [am_up_at]) (by rw [am_up_ne _ _ (Ne.symm hne), am_up_at]) l1 ?_ h5
    have := e_du_len E (e_ta S E) bl L
    omega
end ROW4
