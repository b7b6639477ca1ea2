section ROW2
variable {h : am_H} {r a bl n : Nat} {L : List Nat} {E : Nat → Nat → Int32}
def vs_sh (g : Nat → Option Nat) (m k : Nat) : Nat → Option Nat := fun i => if k < i ∧ i ≤ m then g (i - 1) else g i
theorem vs_sh_top (g : Nat → Option Nat) (m : Nat) : vs_sh g m m = g := by
  funext i
  unfold vs_sh
  rw [if_neg (by omega)]
theorem vs_sh_step (g : Nat → Option Nat) {m k : Nat} (hk : k + 1 ≤ m) : va_up (vs_sh g m (k + 1)) (k + 1) (vs_sh g m (k + 1) k) = vs_sh g m k := by
  funext i
  unfold va_up vs_sh
  by_cases hi : i = k + 1
  · subst hi
    rw [if_pos rfl, if_neg (by omega), if_pos (by omega), Nat.add_sub_cancel]
  · rw [if_neg hi]
    by_cases h2 : k + 1 < i ∧ i ≤ m
    · rw [if_pos h2, if_pos (by omega)]
    · rw [if_neg h2, if_neg (by omega)]
theorem ro_insertAt (z d : Nat) {e p : Nat} (hz : z ≤ r) (hza : z ≤ a) (hr : vs_row h r a bl n L) (he : am_ko (h.1 e) = some 1) (hL : ∀ x ∈ L, am_ko (h.1 x) = some 1) (hn : L.length < n) (hp : p ≤ L.length) : ∃ h', am_M z (d + 1) 27 [.ref r, .int (nI p), .ref e] h none h' ∧ vs_row h' r a bl n (L.take p ++ e :: L.drop p) ∧ vs_ch h h' r a := by
  obtain ⟨g, h1, h2, h3, h4, h5, hne⟩ := hr.g
  have hko : ∀ x (w : am_E), am_ko (h.1 x) = some 1 → am_ko ((am_up h a w).1 x) = some 1 := by
    intro x w hx
    have : x ≠ a := by
      intro q
      rw [q, h2] at hx
      cases hx
    rw [am_up_ne _ _ this]
    exact hx
  refine ⟨am_up (am_up h a (vs_q n (va_up (vs_sh g L.length p) p (some e)))) r (vs_ro bl a (L.length + 1)), ?_, ?_, vs_ch.up2 ..⟩
  · have loop : ∀ k, p ≤ k → k ≤ L.length → am_R z d 27 18 [some (.ref r), some (.int (nI p)), some (.ref e), some (.int (nI k))] [] (am_up h a (vs_q n (vs_sh g L.length k))) none (am_up (am_up h a (vs_q n (va_up (vs_sh g L.length p) p (some e)))) r (vs_ro bl a (L.length + 1))) := by
      intro k
      induction k with
      | zero =>
        intro hk _
        have hp0 : p = 0 := by omega
        subst hp0
        have e1 : nI 0 ≤ nI 0 := nI_le (Nat.le_refl _) (by omega)
        have e3 : am_ix (nI 0) n = some 0 := ev_ix (by omega) (by omega)
        have e4 := ev_wq 2 n 0 e (vs_sh g L.length 0) (nI 0) ((am_up h a (vs_q n (vs_sh g L.length 0))).1 e) (by omega) e3 (hko e _ he)
        rw [am_R_eq, cxh_27_18]
        simp only [am_R_eq, cx_27, en_27, rt_27, rx_aaload, rx_aastore, ev_w1, ev_KW, rx_aload_n, rx_arraylength, ev_ln, ev_pN, rx_dup_i, rx_dup_r, rx_getfield, ev_gf, rx_goto, rx_iadd, rx_iconst, rx_icmp_le, rx_icmp_lt, rx_iinc, ev_inc, rx_iload_n, rx_istore_n, rx_isub, rx_putfield, ev_pf, am_fok, am_ftv, rx_return, ev_K, ev_pI, ev_pR, ev_pVi, ev_pVr, ev_sI, ev_sR, ev_KC, ev_k, ev_ko, ev_pop0, ev_pops, am_ld, am_sv, am_at, am_st, am_g, List.length_cons, List.length_nil, Nat.reduceAdd, Nat.reduceLT, Nat.zero_add, if_true, if_false, and_self, true_or, or_true, true_and, and_true, not_true_eq_false, not_false_eq_true, reduceCtorEq, eq_self, Option.toList_some, Option.toList_none, List.cons_append, List.nil_append, Bool.false_eq_true, h1, e1, e4, hz, hza, am_up_ne, am_up_at, am_up_up, hne, ne_eq, nI_ofs, Nat.reduceLeDiff, beq_self_eq_true]
      | succ k ih =>
        intro hk hkl
        by_cases hpk : p = k + 1
        · subst hpk
          have e1 : nI (k + 1) ≤ nI (k + 1) := nI_le (Nat.le_refl _) (by omega)
          have e3 : am_ix (nI (k + 1)) n = some (k + 1) := ev_ix (by omega) (by omega)
          have e4 := ev_wq 2 n (k + 1) e (vs_sh g L.length (k + 1)) (nI (k + 1)) ((am_up h a (vs_q n (vs_sh g L.length (k + 1)))).1 e) (by omega) e3 (hko e _ he)
          rw [am_R_eq, cxh_27_18]
          simp only [am_R_eq, cx_27, en_27, rt_27, rx_aaload, rx_aastore, ev_w1, ev_KW, rx_aload_n, rx_arraylength, ev_ln, ev_pN, rx_dup_i, rx_dup_r, rx_getfield, ev_gf, rx_goto, rx_iadd, rx_iconst, rx_icmp_le, rx_icmp_lt, rx_iinc, ev_inc, rx_iload_n, rx_istore_n, rx_isub, rx_putfield, ev_pf, am_fok, am_ftv, rx_return, ev_K, ev_pI, ev_pR, ev_pVi, ev_pVr, ev_sI, ev_sR, ev_KC, ev_k, ev_ko, ev_pop0, ev_pops, am_ld, am_sv, am_at, am_st, am_g, List.length_cons, List.length_nil, Nat.reduceAdd, Nat.reduceLT, Nat.zero_add, if_true, if_false, and_self, true_or, or_true, true_and, and_true, not_true_eq_false, not_false_eq_true, reduceCtorEq, eq_self, Option.toList_some, Option.toList_none, List.cons_append, List.nil_append, Bool.false_eq_true, h1, e1, e4, hz, hza, am_up_ne, am_up_at, am_up_up, hne, ne_eq, nI_ofs, Nat.reduceLeDiff, beq_self_eq_true]
        · have e1 : ¬ nI (k + 1) ≤ nI p := nI_ge (by omega) (by omega)
          have e3 : am_ix (nI (k + 1)) n = some (k + 1) := ev_ix (by omega) (by omega)
          have e5 : am_ix (nI k) n = some k := ev_ix (by omega) (by omega)
          have e6 : nI (k + 1) - 1 = nI k := nI_pred k
          have e8 : nI (k + 1) + -1 = nI k := pk_m1 k
          obtain ⟨x, hx⟩ : ∃ x, L[k]? = some x := ⟨L[k]'(by omega), List.getElem?_eq_getElem (by omega)⟩
          have hgx : vs_sh g L.length (k + 1) k = some x := by
            unfold vs_sh
            rw [if_neg (by omega), h3 k (by omega)]
            exact hx
          have e7 := ev_rq 2 n k x (vs_sh g L.length (k + 1)) (nI k) (by omega) e5 hgx
          have e4 := ev_wq 2 n (k + 1) x (vs_sh g L.length (k + 1)) (nI (k + 1)) ((am_up h a (vs_q n (vs_sh g L.length (k + 1)))).1 x) (by omega) e3 (hko x _ (hL x (List.mem_of_getElem? hx)))
          have e9 : va_up (vs_sh g L.length (k + 1)) (k + 1) (some x) = vs_sh g L.length k := by rw [← hgx]; exact vs_sh_step g (by omega)
          have ih2 := ih (by omega) (by omega)
          rw [am_R_eq] at ih2
          rw [am_R_eq, cxh_27_18]
          simp only [am_R_eq, cx_27, en_27, rt_27, rx_aaload, rx_aastore, ev_w1, ev_KW, rx_aload_n, rx_arraylength, ev_ln, ev_pN, rx_dup_i, rx_dup_r, rx_getfield, ev_gf, rx_goto, rx_iadd, rx_iconst, rx_icmp_le, rx_icmp_lt, rx_iinc, ev_inc, rx_iload_n, rx_istore_n, rx_isub, rx_putfield, ev_pf, am_fok, am_ftv, rx_return, ev_K, ev_pI, ev_pR, ev_pVi, ev_pVr, ev_sI, ev_sR, ev_KC, ev_k, ev_ko, ev_pop0, ev_pops, am_ld, am_sv, am_at, am_st, am_g, List.length_cons, List.length_nil, Nat.reduceAdd, Nat.reduceLT, Nat.zero_add, if_true, if_false, and_self, true_or, or_true, true_and, and_true, not_true_eq_false, not_false_eq_true, reduceCtorEq, eq_self, Option.toList_some, Option.toList_none, List.cons_append, List.nil_append, Bool.false_eq_true, h1, e1, e4, e6, e7, e8, e9, hz, hza, am_up_ne, am_up_at, am_up_up, hne, ne_eq, nI_ofs, Nat.reduceLeDiff, beq_self_eq_true]
          exact ih2
    have e1 : nI L.length < nI n := nI_lt hn (by omega)
    have l0 := loop L.length hp (Nat.le_refl _)
    rw [vs_sh_top, am_up_self h2, am_R_eq] at l0
    rw [am_M_eq]
    simp only [am_R_eq, cx_27, en_27, rt_27, rx_aaload, rx_aastore, ev_w1, ev_KW, rx_aload_n, rx_arraylength, ev_ln, ev_pN, rx_dup_i, rx_dup_r, rx_getfield, ev_gf, rx_goto, rx_iadd, rx_iconst, rx_icmp_le, rx_icmp_lt, rx_iinc, ev_inc, rx_iload_n, rx_istore_n, rx_isub, rx_putfield, ev_pf, am_fok, am_ftv, rx_return, ev_K, ev_pI, ev_pR, ev_pVi, ev_pVr, ev_sI, ev_sR, ev_KC, ev_k, ev_ko, ev_pop0, ev_pops, am_ld, am_sv, am_at, am_st, am_g, List.length_cons, List.length_nil, Nat.reduceAdd, Nat.reduceLT, Nat.zero_add, if_true, if_false, and_self, true_or, or_true, true_and, and_true, not_true_eq_false, not_false_eq_true, reduceCtorEq, eq_self, Option.toList_some, Option.toList_none, List.cons_append, List.nil_append, Bool.false_eq_true, h1, h2, e1]
    exact l0
  · refine vs_row.mk (g := va_up (vs_sh g L.length p) p (some e)) ?_ ?_ ?_ ?_ h5
    · have hl : (L.take p ++ e :: L.drop p).length = L.length + 1 := by
        rw [List.length_append, List.length_take, List.length_cons, List.length_drop]
        omega
      rw [am_up_at, hl]
    · rw [am_up_ne _ _ (Ne.symm hne), am_up_at]
    · intro k hk
      rw [List.length_append, List.length_take, List.length_cons, List.length_drop] at hk
      by_cases hkp : k = p
      · subst hkp
        rw [va_up_self, List.getElem?_append_right (by rw [List.length_take]; omega), List.length_take, show k - min k L.length = 0 by omega]
        rfl
      · rw [va_up_ne _ _ hkp]
        unfold vs_sh
        by_cases hk2 : p < k
        · rw [if_pos (by omega), List.getElem?_append_right (by rw [List.length_take]; omega), List.length_take, show k - min p L.length = (k - 1 - p) + 1 by omega, List.getElem?_cons_succ, List.getElem?_drop, show p + (k - 1 - p) = k - 1 by omega]
          exact h3 _ (by omega)
        · rw [if_neg (by omega), List.getElem?_append_left (by rw [List.length_take]; omega), List.getElem?_take_of_lt (by omega)]
          exact h3 _ (by omega)
    · rw [List.length_append, List.length_take, List.length_cons, List.length_drop]
      omega
end ROW2
