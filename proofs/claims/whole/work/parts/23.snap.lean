section SNAP
variable {h : am_H} {s ss : Nat} {S : Nat → Int32}
theorem ar_fill (z d : Nat) {x n : Nat} {g : Nat → Int32} {v : Int32} (hz : z ≤ x) (hx : h.1 x = some (.inl (0, n, .inl g))) (hn : n ≤ 1000) : am_M z (d + 1) 8 [.ref x, .int v] h none (am_up h x (.inl (0, n, .inl (fun i => if i < n then v else g i)))) := by
  have loop : ∀ m k, m = n - k → k ≤ n → am_R z d 8 5 [some (.ref x), some (.int v), some (.int (nI k)), some (.int (nI n))] [] (am_up h x (.inl (0, n, .inl (fun i => if i < k then v else g i)))) none (am_up h x (.inl (0, n, .inl (fun i => if i < n then v else g i)))) := by
    intro m
    induction m with
    | zero =>
      intro k hm hk
      have hkn : k = n := by omega
      subst hkn
      have e1 : nI k ≤ nI k := nI_le (Nat.le_refl _) (by omega)
      rw [am_R_eq, cxh_8_5]
      simp only [am_R_eq, cx_8, en_8, rt_8, rx_aload_n, rx_arraylength, ev_ln, ev_pN, rx_goto, rx_iastore, ev_w1, ev_KW, rx_iconst, rx_icmp_ge, rx_iinc, ev_inc, rx_iload_n, rx_istore_n, rx_return, ev_K, ev_pI, ev_pR, ev_pVi, ev_pVr, ev_sI, ev_sR, ev_KC, ev_k, ev_ko, ev_pop0, ev_pops, am_ld, am_sv, am_at, am_st, am_g, List.length_cons, List.length_nil, Nat.reduceAdd, Nat.reduceLT, Nat.zero_add, if_true, if_false, and_self, true_or, or_true, true_and, and_true, not_true_eq_false, not_false_eq_true, reduceCtorEq, eq_self, Option.toList_some, Option.toList_none, List.cons_append, List.nil_append, Bool.false_eq_true, e1]
    | succ m ih =>
      intro k hm hk
      have e1 : ¬ nI n ≤ nI k := nI_ge (by omega) (by omega)
      have e3 := ev_wi 0 n k (fun i => if i < k then v else g i) (nI k) v (ev_ix (by omega) (by omega))
      have e4 : upd (fun i => if i < k then v else g i) k v = fun i => if i < k + 1 then v else g i := by
        funext i
        unfold upd
        by_cases hi : i = k
        · subst hi; rw [if_pos rfl, if_pos (by omega)]
        · rw [if_neg hi]
          dsimp only
          by_cases h2 : i < k
          · rw [if_pos h2, if_pos (by omega)]
          · rw [if_neg h2, if_neg (by omega)]
      have ih1 := ih (k + 1) (by omega) (by omega)
      rw [am_R_eq] at ih1
      rw [am_R_eq, cxh_8_5]
      simp only [am_R_eq, cx_8, en_8, rt_8, rx_aload_n, rx_arraylength, ev_ln, ev_pN, rx_goto, rx_iastore, ev_w1, ev_KW, rx_iconst, rx_icmp_ge, rx_iinc, ev_inc, rx_iload_n, rx_istore_n, rx_return, ev_K, ev_pI, ev_pR, ev_pVi, ev_pVr, ev_sI, ev_sR, ev_KC, ev_k, ev_ko, ev_pop0, ev_pops, am_ld, am_sv, am_at, am_st, am_g, List.length_cons, List.length_nil, Nat.reduceAdd, Nat.reduceLT, Nat.zero_add, if_true, if_false, and_self, true_or, or_true, true_and, and_true, not_true_eq_false, not_false_eq_true, reduceCtorEq, eq_self, Option.toList_some, Option.toList_none, List.cons_append, List.nil_append, Bool.false_eq_true, e1, e3, e4, am_up_at, am_up_up, hz, nI_ofs]
      exact ih1
  have l0 := loop n 0 (by omega) (Nat.zero_le _)
  have e5 : (fun i => if i < 0 then v else g i) = g := by funext i; rw [if_neg (Nat.not_lt_zero _)]
  rw [e5, am_up_self hx, am_R_eq] at l0
  rw [am_M_eq]
  simp only [am_R_eq, cx_8, en_8, rt_8, rx_aload_n, rx_arraylength, ev_ln, ev_pN, rx_goto, rx_iastore, ev_w1, ev_KW, rx_iconst, rx_icmp_ge, rx_iinc, ev_inc, rx_iload_n, rx_istore_n, rx_return, ev_K, ev_pI, ev_pR, ev_pVi, ev_pVr, ev_sI, ev_sR, ev_KC, ev_k, ev_ko, ev_pop0, ev_pops, am_ld, am_sv, am_at, am_st, am_g, List.length_cons, List.length_nil, Nat.reduceAdd, Nat.reduceLT, Nat.zero_add, if_true, if_false, and_self, true_or, or_true, true_and, and_true, not_true_eq_false, not_false_eq_true, reduceCtorEq, eq_self, Option.toList_some, Option.toList_none, List.cons_append, List.nil_append, Bool.false_eq_true, hx, ev_ln, ev_pN]
  exact l0
theorem sn_sightIn (z d : Nat) {k : Nat} (hk : k < 3) (hs : vs_sn h s ss S) : am_M z (d + 1) 60 [.ref s, .int (nI k)] h (some (.int (S k))) h := by
  obtain ⟨h1, h2⟩ := hs
  have e1 : ¬ nI k < 0 := nI_pos (by omega)
  have e2 : ¬ (3 : Int32) ≤ nI k := nI_ge (b := 3) hk (by omega)
  have e3 := ev_ri 0 3 k S (nI k) (ev_ix hk (by omega))
  rw [am_M_eq]
  simp only [am_R_eq, cx_60, en_60, rt_60, rx_aload_n, rx_getfield, ev_gf, rx_goto, rx_iaload, rx_iconst, rx_icmp_ge, rx_if_lt, rx_iload_n, rx_ireturn, ev_K, ev_pI, ev_pR, ev_pVi, ev_pVr, ev_sI, ev_sR, ev_KC, ev_k, ev_ko, ev_pop0, ev_pops, am_ld, am_sv, am_at, am_st, am_g, List.length_cons, List.length_nil, Nat.reduceAdd, Nat.reduceLT, Nat.zero_add, if_true, if_false, and_self, true_or, or_true, true_and, and_true, not_true_eq_false, not_false_eq_true, reduceCtorEq, eq_self, Option.toList_some, Option.toList_none, List.cons_append, List.nil_append, Bool.false_eq_true, h1, h2, e1, e2, e3]
theorem sn_sightOut (z d : Nat) {k : Int32} (hk : k < 0 ∨ 3 ≤ k) : am_M z (d + 1) 60 [.ref s, .int k] h (some (.int (-1))) h := by
  rw [am_M_eq]
  by_cases c1 : k < 0
  · simp only [am_R_eq, cx_60, en_60, rt_60, rx_aload_n, rx_getfield, ev_gf, rx_goto, rx_iaload, rx_iconst, rx_icmp_ge, rx_if_lt, rx_iload_n, rx_ireturn, ev_K, ev_pI, ev_pR, ev_pVi, ev_pVr, ev_sI, ev_sR, ev_KC, ev_k, ev_ko, ev_pop0, ev_pops, am_ld, am_sv, am_at, am_st, am_g, List.length_cons, List.length_nil, Nat.reduceAdd, Nat.reduceLT, Nat.zero_add, if_true, if_false, and_self, true_or, or_true, true_and, and_true, not_true_eq_false, not_false_eq_true, reduceCtorEq, eq_self, Option.toList_some, Option.toList_none, List.cons_append, List.nil_append, Bool.false_eq_true, c1]
  · have c2 : 3 ≤ k := hk.resolve_left c1
    simp only [am_R_eq, cx_60, en_60, rt_60, rx_aload_n, rx_getfield, ev_gf, rx_goto, rx_iaload, rx_iconst, rx_icmp_ge, rx_if_lt, rx_iload_n, rx_ireturn, ev_K, ev_pI, ev_pR, ev_pVi, ev_pVr, ev_sI, ev_sR, ev_KC, ev_k, ev_ko, ev_pop0, ev_pops, am_ld, am_sv, am_at, am_st, am_g, List.length_cons, List.length_nil, Nat.reduceAdd, Nat.reduceLT, Nat.zero_add, if_true, if_false, and_self, true_or, or_true, true_and, and_true, not_true_eq_false, not_false_eq_true, reduceCtorEq, eq_self, Option.toList_some, Option.toList_none, List.cons_append, List.nil_append, Bool.false_eq_true, c1, c2]
def e_ct (S : Nat → Int32) : Nat → Nat
  | 0 => 0
  | m + 1 => (if S (2 - m) = -1 then 0 else 1) + e_ct S m
theorem sn_count (z d : Nat) (hs : vs_sn h s ss S) : am_M z (d + 1) 92 [.ref s] h (some (.int (nI (e_ct S 3)))) h := by
  obtain ⟨h1, h2⟩ := hs
  have loop : ∀ m k v, m + k = 3 → am_R z d 92 4 [some (.ref s), some (.int (nI v)), some (.int (nI k))] [] h (some (.int (nI (v + e_ct S m)))) h := by
    intro m
    induction m with
    | zero =>
      intro k v hk
      have hk3 : k = 3 := by omega
      subst hk3
      have e1 : (3 : Int32) ≤ nI 3 := by decide
      rw [am_R_eq, cxh_92_4]
      simp only [am_R_eq, cx_92, en_92, rt_92, rx_aload_n, rx_getfield, ev_gf, rx_goto, rx_iaload, rx_iconst, rx_icmp_eq, rx_icmp_ge, rx_iinc, ev_inc, rx_iload_n, rx_ireturn, rx_istore_n, ev_K, ev_pI, ev_pR, ev_pVi, ev_pVr, ev_sI, ev_sR, ev_KC, ev_k, ev_ko, ev_pop0, ev_pops, am_ld, am_sv, am_at, am_st, am_g, List.length_cons, List.length_nil, Nat.reduceAdd, Nat.reduceLT, Nat.zero_add, if_true, if_false, and_self, true_or, or_true, true_and, and_true, not_true_eq_false, not_false_eq_true, reduceCtorEq, eq_self, Option.toList_some, Option.toList_none, List.cons_append, List.nil_append, Bool.false_eq_true, e1, e_ct, Nat.add_zero]
    | succ m ih =>
      intro k v hk
      have hkm : k = 2 - m := by omega
      have e1 : ¬ (3 : Int32) ≤ nI k := nI_ge (b := 3) (by omega) (by omega)
      have e7 := ev_ri 0 3 k S (nI k) (ev_ix (by omega) (by omega))
      by_cases c1 : S k = -1
      · have ih1 := ih (k + 1) v (by omega)
        rw [am_R_eq] at ih1
        have : e_ct S (m + 1) = e_ct S m := by simp [e_ct, ← hkm, c1]
        rw [this]
        rw [am_R_eq, cxh_92_4]
        simp only [am_R_eq, cx_92, en_92, rt_92, rx_aload_n, rx_getfield, ev_gf, rx_goto, rx_iaload, rx_iconst, rx_icmp_eq, rx_icmp_ge, rx_iinc, ev_inc, rx_iload_n, rx_ireturn, rx_istore_n, ev_K, ev_pI, ev_pR, ev_pVi, ev_pVr, ev_sI, ev_sR, ev_KC, ev_k, ev_ko, ev_pop0, ev_pops, am_ld, am_sv, am_at, am_st, am_g, List.length_cons, List.length_nil, Nat.reduceAdd, Nat.reduceLT, Nat.zero_add, if_true, if_false, and_self, true_or, or_true, true_and, and_true, not_true_eq_false, not_false_eq_true, reduceCtorEq, eq_self, Option.toList_some, Option.toList_none, List.cons_append, List.nil_append, Bool.false_eq_true, h1, h2, e1, e7, c1, nI_ofs]
        exact ih1
      · have ih1 := ih (k + 1) (v + 1) (by omega)
        rw [am_R_eq] at ih1
        have : v + e_ct S (m + 1) = v + 1 + e_ct S m := by simp [e_ct, ← hkm, c1]; omega
        rw [this]
        rw [am_R_eq, cxh_92_4]
        simp only [am_R_eq, cx_92, en_92, rt_92, rx_aload_n, rx_getfield, ev_gf, rx_goto, rx_iaload, rx_iconst, rx_icmp_eq, rx_icmp_ge, rx_iinc, ev_inc, rx_iload_n, rx_ireturn, rx_istore_n, ev_K, ev_pI, ev_pR, ev_pVi, ev_pVr, ev_sI, ev_sR, ev_KC, ev_k, ev_ko, ev_pop0, ev_pops, am_ld, am_sv, am_at, am_st, am_g, List.length_cons, List.length_nil, Nat.reduceAdd, Nat.reduceLT, Nat.zero_add, if_true, if_false, and_self, true_or, or_true, true_and, and_true, not_true_eq_false, not_false_eq_true, reduceCtorEq, eq_self, Option.toList_some, Option.toList_none, List.cons_append, List.nil_append, Bool.false_eq_true, h1, h2, e1, e7, c1, nI_ofs]
        exact ih1
  have l0 := loop 3 0 0 rfl
  rw [am_R_eq, Nat.zero_add] at l0
  rw [am_M_eq]
  simp only [am_R_eq, cx_92, en_92, rt_92, rx_aload_n, rx_getfield, ev_gf, rx_goto, rx_iaload, rx_iconst, rx_icmp_eq, rx_icmp_ge, rx_iinc, ev_inc, rx_iload_n, rx_ireturn, rx_istore_n, ev_K, ev_pI, ev_pR, ev_pVi, ev_pVr, ev_sI, ev_sR, ev_KC, ev_k, ev_ko, ev_pop0, ev_pops, am_ld, am_sv, am_at, am_st, am_g, List.length_cons, List.length_nil, Nat.reduceAdd, Nat.reduceLT, Nat.zero_add, if_true, if_false, and_self, true_or, or_true, true_and, and_true, not_true_eq_false, not_false_eq_true, reduceCtorEq, eq_self, Option.toList_some, Option.toList_none, List.cons_append, List.nil_append, Bool.false_eq_true]
  exact l0
def e_op (S : Nat → Int32) : Nat → Option Nat
  | 0 => none
  | m + 1 => if S (2 - m) = -1 then some (2 - m) else e_op S m
theorem sn_open (z d : Nat) {v : Int32} (hz : z ≤ ss) (hs : vs_sn h s ss S) : am_M z (d + 1) 57 [.ref s, .int v] h (some (.int (match e_op S 3 with | some i => nI i | none => -3))) (match e_op S 3 with | some i => am_up h ss (.inl (0, 3, .inl (upd S i v))) | none => h) := by
  obtain ⟨h1, h2⟩ := hs
  have loop : ∀ m k, m + k = 3 → am_R z d 57 2 [some (.ref s), some (.int v), some (.int (nI k))] [] h (some (.int (match e_op S m with | some i => nI i | none => -3))) (match e_op S m with | some i => am_up h ss (.inl (0, 3, .inl (upd S i v))) | none => h) := by
    intro m
    induction m with
    | zero =>
      intro k hk
      have hk3 : k = 3 := by omega
      subst hk3
      have e1 : (3 : Int32) ≤ nI 3 := by decide
      rw [am_R_eq, cxh_57_2]
      simp only [am_R_eq, cx_57, en_57, rt_57, rx_aload_n, rx_bipush, rx_getfield, ev_gf, rx_goto, rx_iaload, rx_iastore, ev_w1, ev_KW, rx_iconst, rx_icmp_ge, rx_icmp_ne, rx_iinc, ev_inc, rx_iload_n, rx_ireturn, rx_istore_n, ev_K, ev_pI, ev_pR, ev_pVi, ev_pVr, ev_sI, ev_sR, ev_KC, ev_k, ev_ko, ev_pop0, ev_pops, am_ld, am_sv, am_at, am_st, am_g, List.length_cons, List.length_nil, Nat.reduceAdd, Nat.reduceLT, Nat.zero_add, if_true, if_false, and_self, true_or, or_true, true_and, and_true, not_true_eq_false, not_false_eq_true, reduceCtorEq, eq_self, Option.toList_some, Option.toList_none, List.cons_append, List.nil_append, Bool.false_eq_true, e1, e_op]
    | succ m ih =>
      intro k hk
      have hkm : k = 2 - m := by omega
      have e1 : ¬ (3 : Int32) ≤ nI k := nI_ge (b := 3) (by omega) (by omega)
      have e7 := ev_ri 0 3 k S (nI k) (ev_ix (by omega) (by omega))
      have e8 := ev_wi 0 3 k S (nI k) v (ev_ix (by omega) (by omega))
      by_cases c1 : S k = -1
      · have : e_op S (m + 1) = some k := by simp [e_op, ← hkm, c1]
        rw [this]
        rw [am_R_eq, cxh_57_2]
        simp only [am_R_eq, cx_57, en_57, rt_57, rx_aload_n, rx_bipush, rx_getfield, ev_gf, rx_goto, rx_iaload, rx_iastore, ev_w1, ev_KW, rx_iconst, rx_icmp_ge, rx_icmp_ne, rx_iinc, ev_inc, rx_iload_n, rx_ireturn, rx_istore_n, ev_K, ev_pI, ev_pR, ev_pVi, ev_pVr, ev_sI, ev_sR, ev_KC, ev_k, ev_ko, ev_pop0, ev_pops, am_ld, am_sv, am_at, am_st, am_g, List.length_cons, List.length_nil, Nat.reduceAdd, Nat.reduceLT, Nat.zero_add, if_true, if_false, and_self, true_or, or_true, true_and, and_true, not_true_eq_false, not_false_eq_true, reduceCtorEq, eq_self, Option.toList_some, Option.toList_none, List.cons_append, List.nil_append, Bool.false_eq_true, h1, h2, e1, e7, e8, c1, hz]
      · have ih1 := ih (k + 1) (by omega)
        rw [am_R_eq] at ih1
        have : e_op S (m + 1) = e_op S m := by simp [e_op, ← hkm, c1]
        rw [this]
        rw [am_R_eq, cxh_57_2]
        simp only [am_R_eq, cx_57, en_57, rt_57, rx_aload_n, rx_bipush, rx_getfield, ev_gf, rx_goto, rx_iaload, rx_iastore, ev_w1, ev_KW, rx_iconst, rx_icmp_ge, rx_icmp_ne, rx_iinc, ev_inc, rx_iload_n, rx_ireturn, rx_istore_n, ev_K, ev_pI, ev_pR, ev_pVi, ev_pVr, ev_sI, ev_sR, ev_KC, ev_k, ev_ko, ev_pop0, ev_pops, am_ld, am_sv, am_at, am_st, am_g, List.length_cons, List.length_nil, Nat.reduceAdd, Nat.reduceLT, Nat.zero_add, if_true, if_false, and_self, true_or, or_true, true_and, and_true, not_true_eq_false, not_false_eq_true, reduceCtorEq, eq_self, Option.toList_some, Option.toList_none, List.cons_append, List.nil_append, Bool.false_eq_true, h1, h2, e1, e7, c1, nI_ofs]
        exact ih1
  have l0 := loop 3 0 rfl
  rw [am_R_eq] at l0
  rw [am_M_eq]
  simp only [am_R_eq, cx_57, en_57, rt_57, rx_aload_n, rx_bipush, rx_getfield, ev_gf, rx_goto, rx_iaload, rx_iastore, ev_w1, ev_KW, rx_iconst, rx_icmp_ge, rx_icmp_ne, rx_iinc, ev_inc, rx_iload_n, rx_ireturn, rx_istore_n, ev_K, ev_pI, ev_pR, ev_pVi, ev_pVr, ev_sI, ev_sR, ev_KC, ev_k, ev_ko, ev_pop0, ev_pops, am_ld, am_sv, am_at, am_st, am_g, List.length_cons, List.length_nil, Nat.reduceAdd, Nat.reduceLT, Nat.zero_add, if_true, if_false, and_self, true_or, or_true, true_and, and_true, not_true_eq_false, not_false_eq_true, reduceCtorEq, eq_self, Option.toList_some, Option.toList_none, List.cons_append, List.nil_append, Bool.false_eq_true]
  exact l0
theorem sn_closeNo (z d : Nat) {k : Int32} (hs : vs_sn h s ss S) (hk : (k < 0 ∨ 3 ≤ k) ∨ ∃ i, i < 3 ∧ k = nI i ∧ S i = -1) : am_M z (d + 1 + 1) 59 [.ref s, .int k] h (some (.int 0)) h := by
  have q1 : am_M z (d + 1) 60 [.ref s, .int k] h (some (.int (-1))) h := by
    rcases hk with g | ⟨i, hi, rfl, g⟩
    · exact sn_sightOut z d g
    · rw [← g]; exact sn_sightIn z d hi hs
  obtain ⟨h1, h2⟩ := hs
  rw [am_M_eq]
  simp only [am_R_eq, cx_59, en_59, rt_59, rx_aload_n, rx_getfield, ev_gf, rx_iastore, ev_w1, ev_KW, rx_iconst, rx_icmp_ne, rx_iload_n, rx_invv, ev_cv, rx_ireturn, kl_60, ev_K, ev_pI, ev_pR, ev_pVi, ev_pVr, ev_sI, ev_sR, ev_KC, ev_k, ev_ko, ev_pop0, ev_pops, am_ld, am_sv, am_at, am_st, am_g, List.length_cons, List.length_nil, Nat.reduceAdd, Nat.reduceLT, Nat.zero_add, if_true, if_false, and_self, true_or, or_true, true_and, and_true, not_true_eq_false, not_false_eq_true, reduceCtorEq, eq_self, Option.toList_some, Option.toList_none, List.cons_append, List.nil_append, Bool.false_eq_true, h1]
  refine am_CL_of q1 ?_
  simp only [am_R_eq, cx_59, en_59, rt_59, rx_aload_n, rx_getfield, ev_gf, rx_iastore, ev_w1, ev_KW, rx_iconst, rx_icmp_ne, rx_iload_n, rx_invv, ev_cv, rx_ireturn, kl_60, ev_K, ev_pI, ev_pR, ev_pVi, ev_pVr, ev_sI, ev_sR, ev_KC, ev_k, ev_ko, ev_pop0, ev_pops, am_ld, am_sv, am_at, am_st, am_g, List.length_cons, List.length_nil, Nat.reduceAdd, Nat.reduceLT, Nat.zero_add, if_true, if_false, and_self, true_or, or_true, true_and, and_true, not_true_eq_false, not_false_eq_true, reduceCtorEq, eq_self, Option.toList_some, Option.toList_none, List.cons_append, List.nil_append, Bool.false_eq_true, b00]
theorem sn_closeYes (z d : Nat) {i : Nat} (hz : z ≤ ss) (hs : vs_sn h s ss S) (hi : i < 3) (hS : ¬ S i = -1) : am_M z (d + 1 + 1) 59 [.ref s, .int (nI i)] h (some (.int 1)) (am_up h ss (.inl (0, 3, .inl (upd S i (-1))))) := by
  have q1 := sn_sightIn z d hi hs
  obtain ⟨h1, h2⟩ := hs
  have e8 := ev_wi 0 3 i S (nI i) (-1) (ev_ix (by omega) (by omega))
  rw [am_M_eq]
  simp only [am_R_eq, cx_59, en_59, rt_59, rx_aload_n, rx_getfield, ev_gf, rx_iastore, ev_w1, ev_KW, rx_iconst, rx_icmp_ne, rx_iload_n, rx_invv, ev_cv, rx_ireturn, kl_60, ev_K, ev_pI, ev_pR, ev_pVi, ev_pVr, ev_sI, ev_sR, ev_KC, ev_k, ev_ko, ev_pop0, ev_pops, am_ld, am_sv, am_at, am_st, am_g, List.length_cons, List.length_nil, Nat.reduceAdd, Nat.reduceLT, Nat.zero_add, if_true, if_false, and_self, true_or, or_true, true_and, and_true, not_true_eq_false, not_false_eq_true, reduceCtorEq, eq_self, Option.toList_some, Option.toList_none, List.cons_append, List.nil_append, Bool.false_eq_true, h1]
  refine am_CL_of q1 ?_
  simp only [am_R_eq, cx_59, en_59, rt_59, rx_aload_n, rx_getfield, ev_gf, rx_iastore, ev_w1, ev_KW, rx_iconst, rx_icmp_ne, rx_iload_n, rx_invv, ev_cv, rx_ireturn, kl_60, ev_K, ev_pI, ev_pR, ev_pVi, ev_pVr, ev_sI, ev_sR, ev_KC, ev_k, ev_ko, ev_pop0, ev_pops, am_ld, am_sv, am_at, am_st, am_g, List.length_cons, List.length_nil, Nat.reduceAdd, Nat.reduceLT, Nat.zero_add, if_true, if_false, and_self, true_or, or_true, true_and, and_true, not_true_eq_false, not_false_eq_true, reduceCtorEq, eq_self, Option.toList_some, Option.toList_none, List.cons_append, List.nil_append, Bool.false_eq_true, hS, h1, h2, e8, hz, b11]
theorem sn_closeAll (z d : Nat) (hz : z ≤ ss) (hs : vs_sn h s ss S) : am_M z (d + 1 + 1) 63 [.ref s] h none (am_up h ss (.inl (0, 3, .inl (fun i => if i < 3 then -1 else S i)))) := by
  obtain ⟨h1, h2⟩ := hs
  have q1 := ar_fill z d (v := -1) hz h2 (by omega)
  rw [am_M_eq]
  simp only [am_R_eq, cx_63, en_63, rt_63, rx_aload_n, rx_getfield, ev_gf, rx_iconst, rx_invs, rx_max2, rx_min2, rx_copy2, rx_return, ev_K, ev_pI, ev_pR, ev_pVi, ev_pVr, ev_sI, ev_sR, ev_KC, ev_k, ev_ko, ev_pop0, ev_pops, am_ld, am_sv, am_at, am_st, am_g, List.length_cons, List.length_nil, Nat.reduceAdd, Nat.reduceLT, Nat.zero_add, if_true, if_false, and_self, true_or, or_true, true_and, and_true, not_true_eq_false, not_false_eq_true, reduceCtorEq, eq_self, Option.toList_some, Option.toList_none, List.cons_append, List.nil_append, Bool.false_eq_true, h1]
  refine am_CL_of q1 ?_
  simp only [am_R_eq, cx_63, en_63, rt_63, rx_aload_n, rx_getfield, ev_gf, rx_iconst, rx_invs, rx_max2, rx_min2, rx_copy2, rx_return, ev_K, ev_pI, ev_pR, ev_pVi, ev_pVr, ev_sI, ev_sR, ev_KC, ev_k, ev_ko, ev_pop0, ev_pops, am_ld, am_sv, am_at, am_st, am_g, List.length_cons, List.length_nil, Nat.reduceAdd, Nat.reduceLT, Nat.zero_add, if_true, if_false, and_self, true_or, or_true, true_and, and_true, not_true_eq_false, not_false_eq_true, reduceCtorEq, eq_self, Option.toList_some, Option.toList_none, List.cons_append, List.nil_append, Bool.false_eq_true]
end SNAP
section TELL
variable {h : am_H} {t r a bl n : Nat} {L : List Nat} {E : Nat → Nat → Int32} {F : Int32}
theorem sw_n (k : Nat) (hk : k < 100) : ¬ nI k < 0 := nI_pos (by omega)
theorem sw_c (k : Nat) (hk : k < 100) : (nI k).toNatClampNeg = k := nI_clamp (by omega)
theorem ta_tell0 (z d : Nat) (ht : h.1 t = some (vs_tb r F)) (hr : vs_row h r a bl n L) : am_M z (d + 1 + 1) 84 [.ref t, .int (nI 0)] h (some (.int (nI L.length))) h := by
  obtain ⟨g0, k1, k2, k3, k4, k5, kne⟩ := hr.g
  have c1 := sw_n 0 (by omega)
  have c2 := sw_c 0 (by omega)
  rw [am_M_eq]
  simp only [am_R_eq, cx_84, en_84, rt_84, rx_aload_n, rx_bipush, rx_getfield, ev_gf, rx_iload_n, rx_invv, ev_cv, rx_ireturn, rx_tableswitch, kl_12, kl_78, kl_79, kl_85, ev_K, ev_pI, ev_pR, ev_pVi, ev_pVr, ev_sI, ev_sR, ev_KC, ev_k, ev_ko, ev_pop0, ev_pops, am_ld, am_sv, am_at, am_st, am_g, List.length_cons, List.length_nil, Nat.reduceAdd, Nat.reduceLT, Nat.zero_add, if_true, if_false, and_self, true_or, or_true, true_and, and_true, not_true_eq_false, not_false_eq_true, reduceCtorEq, eq_self, Option.toList_some, Option.toList_none, List.cons_append, List.nil_append, Bool.false_eq_true, c1, c2, am_tn, ht, k1, Nat.reduceLeDiff, or_self]
  refine am_CL_of (ro_size z d hr) ?_
  simp only [am_R_eq, cx_84, en_84, rt_84, rx_aload_n, rx_bipush, rx_getfield, ev_gf, rx_iload_n, rx_invv, ev_cv, rx_ireturn, rx_tableswitch, kl_12, kl_78, kl_79, kl_85, ev_K, ev_pI, ev_pR, ev_pVi, ev_pVr, ev_sI, ev_sR, ev_KC, ev_k, ev_ko, ev_pop0, ev_pops, am_ld, am_sv, am_at, am_st, am_g, List.length_cons, List.length_nil, Nat.reduceAdd, Nat.reduceLT, Nat.zero_add, if_true, if_false, and_self, true_or, or_true, true_and, and_true, not_true_eq_false, not_false_eq_true, reduceCtorEq, eq_self, Option.toList_some, Option.toList_none, List.cons_append, List.nil_append, Bool.false_eq_true]
theorem ta_tell1 (z d : Nat) (ht : h.1 t = some (vs_tb r F)) : am_M z (d + 1) 84 [.ref t, .int (nI 1)] h (some (.int F)) h := by
  have c1 := sw_n 1 (by omega)
  have c2 := sw_c 1 (by omega)
  rw [am_M_eq]
  simp only [am_R_eq, cx_84, en_84, rt_84, rx_aload_n, rx_bipush, rx_getfield, ev_gf, rx_iload_n, rx_invv, ev_cv, rx_ireturn, rx_tableswitch, kl_12, kl_78, kl_79, kl_85, ev_K, ev_pI, ev_pR, ev_pVi, ev_pVr, ev_sI, ev_sR, ev_KC, ev_k, ev_ko, ev_pop0, ev_pops, am_ld, am_sv, am_at, am_st, am_g, List.length_cons, List.length_nil, Nat.reduceAdd, Nat.reduceLT, Nat.zero_add, if_true, if_false, and_self, true_or, or_true, true_and, and_true, not_true_eq_false, not_false_eq_true, reduceCtorEq, eq_self, Option.toList_some, Option.toList_none, List.cons_append, List.nil_append, Bool.false_eq_true, c1, c2, am_tn, ht, Nat.reduceLeDiff, or_self]
theorem ta_tell2 (z d : Nat) {x : Nat} (ht : h.1 t = some (vs_tb r F)) (hr : vs_row h r a bl n L) (hx : L[0]? = some x) (he : h.1 x = some (vs_e E x)) : am_M z (d + 1 + 1 + 1) 84 [.ref t, .int (nI 2)] h (some (.int (E x 0))) h := by
  have c1 := sw_n 2 (by omega)
  have c2 := sw_c 2 (by omega)
  rw [am_M_eq]
  simp only [am_R_eq, cx_84, en_84, rt_84, rx_aload_n, rx_bipush, rx_getfield, ev_gf, rx_iload_n, rx_invv, ev_cv, rx_ireturn, rx_tableswitch, kl_12, kl_78, kl_79, kl_85, ev_K, ev_pI, ev_pR, ev_pVi, ev_pVr, ev_sI, ev_sR, ev_KC, ev_k, ev_ko, ev_pop0, ev_pops, am_ld, am_sv, am_at, am_st, am_g, List.length_cons, List.length_nil, Nat.reduceAdd, Nat.reduceLT, Nat.zero_add, if_true, if_false, and_self, true_or, or_true, true_and, and_true, not_true_eq_false, not_false_eq_true, reduceCtorEq, eq_self, Option.toList_some, Option.toList_none, List.cons_append, List.nil_append, Bool.false_eq_true, c1, c2, am_tn, ht, Nat.reduceLeDiff, or_self]
  refine am_CL_of (ta_firstKey z d ht hr hx he) ?_
  simp only [am_R_eq, cx_84, en_84, rt_84, rx_aload_n, rx_bipush, rx_getfield, ev_gf, rx_iload_n, rx_invv, ev_cv, rx_ireturn, rx_tableswitch, kl_12, kl_78, kl_79, kl_85, ev_K, ev_pI, ev_pR, ev_pVi, ev_pVr, ev_sI, ev_sR, ev_KC, ev_k, ev_ko, ev_pop0, ev_pops, am_ld, am_sv, am_at, am_st, am_g, List.length_cons, List.length_nil, Nat.reduceAdd, Nat.reduceLT, Nat.zero_add, if_true, if_false, and_self, true_or, or_true, true_and, and_true, not_true_eq_false, not_false_eq_true, reduceCtorEq, eq_self, Option.toList_some, Option.toList_none, List.cons_append, List.nil_append, Bool.false_eq_true]
theorem ta_tell3 (z d : Nat) {x : Nat} (ht : h.1 t = some (vs_tb r F)) (hr : vs_row h r a bl n L) (hx : L[L.length - 1]? = some x) (he : h.1 x = some (vs_e E x)) : am_M z (d + 1 + 1 + 1) 84 [.ref t, .int (nI 3)] h (some (.int (E x 0))) h := by
  have c1 := sw_n 3 (by omega)
  have c2 := sw_c 3 (by omega)
  rw [am_M_eq]
  simp only [am_R_eq, cx_84, en_84, rt_84, rx_aload_n, rx_bipush, rx_getfield, ev_gf, rx_iload_n, rx_invv, ev_cv, rx_ireturn, rx_tableswitch, kl_12, kl_78, kl_79, kl_85, ev_K, ev_pI, ev_pR, ev_pVi, ev_pVr, ev_sI, ev_sR, ev_KC, ev_k, ev_ko, ev_pop0, ev_pops, am_ld, am_sv, am_at, am_st, am_g, List.length_cons, List.length_nil, Nat.reduceAdd, Nat.reduceLT, Nat.zero_add, if_true, if_false, and_self, true_or, or_true, true_and, and_true, not_true_eq_false, not_false_eq_true, reduceCtorEq, eq_self, Option.toList_some, Option.toList_none, List.cons_append, List.nil_append, Bool.false_eq_true, c1, c2, am_tn, ht, Nat.reduceLeDiff, or_self]
  refine am_CL_of (ta_lastKey z d ht hr hx he) ?_
  simp only [am_R_eq, cx_84, en_84, rt_84, rx_aload_n, rx_bipush, rx_getfield, ev_gf, rx_iload_n, rx_invv, ev_cv, rx_ireturn, rx_tableswitch, kl_12, kl_78, kl_79, kl_85, ev_K, ev_pI, ev_pR, ev_pVi, ev_pVr, ev_sI, ev_sR, ev_KC, ev_k, ev_ko, ev_pop0, ev_pops, am_ld, am_sv, am_at, am_st, am_g, List.length_cons, List.length_nil, Nat.reduceAdd, Nat.reduceLT, Nat.zero_add, if_true, if_false, and_self, true_or, or_true, true_and, and_true, not_true_eq_false, not_false_eq_true, reduceCtorEq, eq_self, Option.toList_some, Option.toList_none, List.cons_append, List.nil_append, Bool.false_eq_true]
theorem ta_tell4 (z d : Nat) (ht : h.1 t = some (vs_tb r F)) (hr : vs_row h r a bl n L) (hL : ∀ x ∈ L, h.1 x = some (vs_e E x)) : am_M z (d + 1 + 1 + 1) 84 [.ref t, .int (nI 4)] h (some (.int (L.foldl (e_gs E) 0))) h := by
  have c1 := sw_n 4 (by omega)
  have c2 := sw_c 4 (by omega)
  rw [am_M_eq]
  simp only [am_R_eq, cx_84, en_84, rt_84, rx_aload_n, rx_bipush, rx_getfield, ev_gf, rx_iload_n, rx_invv, ev_cv, rx_ireturn, rx_tableswitch, kl_12, kl_78, kl_79, kl_85, ev_K, ev_pI, ev_pR, ev_pVi, ev_pVr, ev_sI, ev_sR, ev_KC, ev_k, ev_ko, ev_pop0, ev_pops, am_ld, am_sv, am_at, am_st, am_g, List.length_cons, List.length_nil, Nat.reduceAdd, Nat.reduceLT, Nat.zero_add, if_true, if_false, and_self, true_or, or_true, true_and, and_true, not_true_eq_false, not_false_eq_true, reduceCtorEq, eq_self, Option.toList_some, Option.toList_none, List.cons_append, List.nil_append, Bool.false_eq_true, c1, c2, am_tn, ht, Nat.reduceLeDiff, or_self]
  refine am_CL_of (ta_greatestSerial z d ht hr hL) ?_
  simp only [am_R_eq, cx_84, en_84, rt_84, rx_aload_n, rx_bipush, rx_getfield, ev_gf, rx_iload_n, rx_invv, ev_cv, rx_ireturn, rx_tableswitch, kl_12, kl_78, kl_79, kl_85, ev_K, ev_pI, ev_pR, ev_pVi, ev_pVr, ev_sI, ev_sR, ev_KC, ev_k, ev_ko, ev_pop0, ev_pops, am_ld, am_sv, am_at, am_st, am_g, List.length_cons, List.length_nil, Nat.reduceAdd, Nat.reduceLT, Nat.zero_add, if_true, if_false, and_self, true_or, or_true, true_and, and_true, not_true_eq_false, not_false_eq_true, reduceCtorEq, eq_self, Option.toList_some, Option.toList_none, List.cons_append, List.nil_append, Bool.false_eq_true]
theorem ta_tellNo (z d : Nat) {w : Int32} (hw : w < 0 ∨ 5 ≤ w.toNatClampNeg) : am_M z (d + 1) 84 [.ref t, .int w] h (some (.int (-2))) h := by
  rw [am_M_eq]
  simp only [am_R_eq, cx_84, en_84, rt_84, rx_aload_n, rx_bipush, rx_getfield, ev_gf, rx_iload_n, rx_invv, ev_cv, rx_ireturn, rx_tableswitch, kl_12, kl_78, kl_79, kl_85, ev_K, ev_pI, ev_pR, ev_pVi, ev_pVr, ev_sI, ev_sR, ev_KC, ev_k, ev_ko, ev_pop0, ev_pops, am_ld, am_sv, am_at, am_st, am_g, List.length_cons, List.length_nil, Nat.reduceAdd, Nat.reduceLT, Nat.zero_add, if_true, if_false, and_self, true_or, or_true, true_and, and_true, not_true_eq_false, not_false_eq_true, reduceCtorEq, eq_self, Option.toList_some, Option.toList_none, List.cons_append, List.nil_append, Bool.false_eq_true, hw]
end TELL
section ADDN
variable {h : am_H} {lv ta m c cap bl : Nat} {tt rr aa : Nat → Nat} {C : Nat → List Nat} {fl : Nat → Int32} {E : Nat → Nat → Int32}
def e_rot {α : Type} (c : Nat) (f : Nat → α) : Nat → α := fun k => if k = 0 then f c else if k ≤ c then f (k - 1) else f k
theorem e_rot_inj {f : Nat → Nat} (hc : c < m) (hf : ∀ i j, i < m → j < m → i ≠ j → f i ≠ f j) : ∀ i j, i < m → j < m → i ≠ j → e_rot c f i ≠ e_rot c f j := by
  intro i j hi hj hij
  have key : ∀ k, k < m → ∃ k', k' < m ∧ e_rot c f k = f k' ∧ k' = (if k = 0 then c else if k ≤ c then k - 1 else k) := by
    intro k hk
    unfold e_rot
    by_cases h0 : k = 0
    · exact ⟨c, hc, by rw [if_pos h0], by rw [if_pos h0]⟩
    · by_cases h1 : k ≤ c
      · exact ⟨k - 1, by omega, by rw [if_neg h0, if_pos h1], by rw [if_neg h0, if_pos h1]⟩
      · exact ⟨k, hk, by rw [if_neg h0, if_neg h1], by rw [if_neg h0, if_neg h1]⟩
  obtain ⟨i', a1, a2, a3⟩ := key i hi
  obtain ⟨j', b1, b2, b3⟩ := key j hj
  rw [a2, b2]
  refine hf i' j' a1 b1 ?_
  intro e
  rw [a3, b3] at e
  split at e <;> split at e <;> (try split at e) <;> (try split at e) <;> omega
theorem e_rot_all {P : Nat → Prop} (hc : c < m) (f : Nat → Nat) (hP : ∀ k, k < m → P (f k)) : ∀ k, k < m → P (e_rot c f k) := by
  intro k hk
  unfold e_rot
  split
  · exact hP c hc
  · split
    · exact hP _ (by omega)
    · exact hP k hk
theorem le_addNewest (z d : Nat) {r a blr n : Nat} {L : List Nat} (hzl : z ≤ lv) (hzta : z ≤ ta) (hzt : ∀ k, k < m → z ≤ tt k ∧ z ≤ rr k ∧ z ≤ aa k) (hl : vs_lv h lv ta m c cap bl tt rr aa C fl) (hr : vs_row h r a blr n L) (hn : ∀ k, k < m → rr k ≠ r ∧ aa k ≠ a) (hL : ∀ x ∈ L, h.1 x = some (vs_e E x)) (hcap : L.length ≤ cap) (hroom : c < m) :
    ∃ h', am_M z (d + 1 + 1 + 1) 35 [.ref lv, .ref r] h none h' ∧ vs_lv h' lv ta m (c + 1) cap bl (e_rot c tt) (e_rot c rr) (e_rot c aa) (va_up (e_rot c C) 0 L) (va_up (e_rot c fl) 0 (L.foldl (e_ff E) 0)) ∧ vs_chl h h' lv ta m tt rr aa := by
  obtain ⟨gr, r1, r2, r3, r4, r5, rne⟩ := hr.g
  have hl0 := hl
  obtain ⟨l1, l2, l3, ⟨G, l4, l5⟩, l6, l7, l8⟩ := hl
  have nlt : lv ≠ ta := am_ne l1 l4 (by simp)
  have ntt : ∀ k, k < m → tt k ≠ ta := fun k hk => am_ne (l6 k hk) l4 (by simp)
  -- the heap after the shift
  have hG0 : ∀ k, k < m → va_up (vs_sh G c 0) 0 (some (tt c)) k = some (e_rot c tt k) := by
    intro k hk
    unfold e_rot
    by_cases h0 : k = 0
    · subst h0; rw [va_up_self, if_pos rfl]
    · rw [va_up_ne _ _ h0, if_neg h0]
      unfold vs_sh
      by_cases h1 : k ≤ c
      · rw [if_pos ⟨by omega, h1⟩, if_pos h1]; exact l5 _ (by omega)
      · rw [if_neg (by omega), if_neg h1]; exact l5 k hk
  have rotrow : ∀ k, k < m → ∃ k', k' < m ∧ e_rot c tt k = tt k' ∧ e_rot c rr k = rr k' ∧ e_rot c aa k = aa k' ∧ e_rot c C k = C k' ∧ e_rot c fl k = fl k' := by
    intro k hk
    unfold e_rot
    by_cases h0 : k = 0
    · exact ⟨c, hroom, by rw [if_pos h0], by rw [if_pos h0], by rw [if_pos h0], by rw [if_pos h0], by rw [if_pos h0]⟩
    · by_cases h1 : k ≤ c
      · exact ⟨k - 1, by omega, by rw [if_neg h0, if_pos h1], by rw [if_neg h0, if_pos h1], by rw [if_neg h0, if_pos h1], by rw [if_neg h0, if_pos h1], by rw [if_neg h0, if_pos h1]⟩
      · exact ⟨k, hk, by rw [if_neg h0, if_neg h1], by rw [if_neg h0, if_neg h1], by rw [if_neg h0, if_neg h1], by rw [if_neg h0, if_neg h1], by rw [if_neg h0, if_neg h1]⟩
  have h2ex : ∃ h2, h2 = am_up h ta (vs_qt m (va_up (vs_sh G c 0) 0 (some (tt c)))) := ⟨_, rfl⟩
  obtain ⟨h2, hh2⟩ := h2ex
  have hl2 : vs_lv h2 lv ta m c cap bl (e_rot c tt) (e_rot c rr) (e_rot c aa) (e_rot c C) (e_rot c fl) := by
    subst hh2
    refine ⟨by rw [am_up_ne _ _ nlt]; exact l1, l2, l3, ⟨_, am_up_at _ _ _, hG0⟩, fun k hk => ?_, fun k hk => ?_, fun i j hi hj hij => ⟨e_rot_inj hroom (fun i j a b e => (l8 i j a b e).1) i j hi hj hij, e_rot_inj hroom (fun i j a b e => (l8 i j a b e).2.1) i j hi hj hij, e_rot_inj hroom (fun i j a b e => (l8 i j a b e).2.2) i j hi hj hij⟩⟩
    · obtain ⟨k', q1, q2, q3, q4, q5, q6⟩ := rotrow k hk
      rw [q2, q3, q6, am_up_ne _ _ (ntt k' q1)]
      exact l6 k' q1
    · obtain ⟨k', q1, q2, q3, q4, q5, q6⟩ := rotrow k hk
      rw [q3, q4, q5]
      obtain ⟨g2, p1, p2, p3, p4, p5, pne⟩ := (l7 k' q1).g
      exact (l7 k' q1).fr (am_up_ne _ _ (am_ne p1 l4 (by simp))) (am_up_ne _ _ (am_ne p2 l4 (by simp)))
  have hc2 : vs_chl h h2 lv ta m tt rr aa := by
    subst hh2
    exact ⟨fun q _ e2 _ => am_up_ne _ _ e2, rfl⟩
  have hr2 := hc2.row hl0 hr hn
  obtain ⟨gr2, s1, s2, s3, s4, s5, sne⟩ := hr2.g
  obtain ⟨v1, v2, v3, ⟨G2, v4, v5⟩, v6, v7, v8⟩ := hl2
  have hl2 : vs_lv h2 lv ta m c cap bl (e_rot c tt) (e_rot c rr) (e_rot c aa) (e_rot c C) (e_rot c fl) := ⟨v1, v2, v3, ⟨G2, v4, v5⟩, v6, v7, v8⟩
  have hm0 : 0 < m := by omega
  have rt0 : e_rot c tt 0 = tt c := by simp [e_rot]
  obtain ⟨h3, f1, f2, f3, f4⟩ := ta_fillFrom z d (p := 0) (u := L.length) (E := E) (by rw [rt0]; exact (hzt c hroom).1) (show z ≤ e_rot c rr 0 by simp only [e_rot, if_true]; exact (hzt c hroom).2.1) (show z ≤ e_rot c aa 0 by simp only [e_rot, if_true]; exact (hzt c hroom).2.2) (v6 0 hm0) (v7 0 hm0) hr2 (by simp only [e_rot, if_true]; exact (hn c hroom).1.symm) (by simp only [e_rot, if_true]; exact (hn c hroom).2.symm) (fun x hx => hc2.obj hl0 (hL x hx) (by decide) (by decide) (by decide)) (Nat.zero_le _) (Nat.le_refl _) (by omega)
  rw [List.take_length, List.drop_zero] at f2 f3
  have hl3 := hl2.set hm0 f4 f3 f2
  have hc3 : vs_chl h h3 lv ta m tt rr aa := by
    refine hc2.tr ⟨fun q e1 e2 e3 => ?_, f4.2⟩
    have := e3 c hroom
    simp only [e_rot, if_true] at f4
    exact f4.1 q this.1 this.2.1 this.2.2
  obtain ⟨w1, w2, w3, ⟨G3, w4, w5⟩, w6, w7, w8⟩ := hl3
  have hfin : vs_lv (am_up h3 lv (vs_lo ta (c + 1))) lv ta m (c + 1) cap bl (e_rot c tt) (e_rot c rr) (e_rot c aa) (va_up (e_rot c C) 0 L) (va_up (e_rot c fl) 0 (L.foldl (e_ff E) 0)) := by
    refine ⟨am_up_at _ _ _, hroom, l3, ⟨G3, by rw [am_up_ne _ _ nlt.symm]; exact w4, w5⟩, fun k hk => ?_, fun k hk => (w7 k hk).up _ w1 (by decide), w8⟩
    rw [am_up_ne _ _ (am_ne (w6 k hk) w1 (by simp))]
    exact w6 k hk
  refine ⟨_, ?_, hfin, hc3.tr (vs_chl.upl _)⟩
  have ht0 := v6 0 hm0
  rw [rt0] at ht0 f1
  have fin : am_R z (d + 1 + 1) 35 59 [some (.ref lv), some (.ref r), some (.ref (tt c)), some (.int (nI 0))] [] h2 none (am_up h3 lv (vs_lo ta (c + 1))) := by
    simp only [am_R_eq, cx_35, en_35, rt_35, rx_aaload, rx_aastore, ev_w1, ev_KW, rx_aload_n, rx_arraylength, ev_ln, ev_pN, rx_astore_n, rx_dup_i, rx_dup_r, rx_getfield, ev_gf, rx_goto, rx_iadd, rx_iconst, rx_icmp_lt, rx_if_le, rx_iinc, ev_inc, rx_iload_n, rx_invv, ev_cv, rx_istore_n, rx_isub, rx_putfield, ev_pf, am_fok, am_ftv, rx_return, kl_12, kl_33, ev_K, ev_pI, ev_pR, ev_pVi, ev_pVr, ev_sI, ev_sR, ev_KC, ev_k, ev_ko, ev_pop0, ev_pops, am_ld, am_sv, am_at, am_st, am_g, List.length_cons, List.length_nil, Nat.reduceAdd, Nat.reduceLT, Nat.zero_add, if_true, if_false, and_self, true_or, or_true, true_and, and_true, not_true_eq_false, not_false_eq_true, reduceCtorEq, eq_self, Option.toList_some, Option.toList_none, List.cons_append, List.nil_append, Bool.false_eq_true, s1]
    refine am_CL_of (ro_size z (d + 1) hr2) ?_
    simp only [am_R_eq, cx_35, en_35, rt_35, rx_aaload, rx_aastore, ev_w1, ev_KW, rx_aload_n, rx_arraylength, ev_ln, ev_pN, rx_astore_n, rx_dup_i, rx_dup_r, rx_getfield, ev_gf, rx_goto, rx_iadd, rx_iconst, rx_icmp_lt, rx_if_le, rx_iinc, ev_inc, rx_iload_n, rx_invv, ev_cv, rx_istore_n, rx_isub, rx_putfield, ev_pf, am_fok, am_ftv, rx_return, kl_12, kl_33, ev_K, ev_pI, ev_pR, ev_pVi, ev_pVr, ev_sI, ev_sR, ev_KC, ev_k, ev_ko, ev_pop0, ev_pops, am_ld, am_sv, am_at, am_st, am_g, List.length_cons, List.length_nil, Nat.reduceAdd, Nat.reduceLT, Nat.zero_add, if_true, if_false, and_self, true_or, or_true, true_and, and_true, not_true_eq_false, not_false_eq_true, reduceCtorEq, eq_self, Option.toList_some, Option.toList_none, List.cons_append, List.nil_append, Bool.false_eq_true, ht0]
    refine am_CL_of f1 ?_
    simp only [am_R_eq, cx_35, en_35, rt_35, rx_aaload, rx_aastore, ev_w1, ev_KW, rx_aload_n, rx_arraylength, ev_ln, ev_pN, rx_astore_n, rx_dup_i, rx_dup_r, rx_getfield, ev_gf, rx_goto, rx_iadd, rx_iconst, rx_icmp_lt, rx_if_le, rx_iinc, ev_inc, rx_iload_n, rx_invv, ev_cv, rx_istore_n, rx_isub, rx_putfield, ev_pf, am_fok, am_ftv, rx_return, kl_12, kl_33, ev_K, ev_pI, ev_pR, ev_pVi, ev_pVr, ev_sI, ev_sR, ev_KC, ev_k, ev_ko, ev_pop0, ev_pops, am_ld, am_sv, am_at, am_st, am_g, List.length_cons, List.length_nil, Nat.reduceAdd, Nat.reduceLT, Nat.zero_add, if_true, if_false, and_self, true_or, or_true, true_and, and_true, not_true_eq_false, not_false_eq_true, reduceCtorEq, eq_self, Option.toList_some, Option.toList_none, List.cons_append, List.nil_append, Bool.false_eq_true, w1, hzl, nI_ofs, Nat.reduceLeDiff, beq_self_eq_true]
  have loop : ∀ k, k ≤ c → am_R z (d + 1 + 1) 35 28 [some (.ref lv), some (.ref r), some (.ref (tt c)), some (.int (nI k))] [] (am_up h ta (vs_qt m (vs_sh G c k))) none (am_up h3 lv (vs_lo ta (c + 1))) := by
    intro k
    have hko : ∀ j, j < m → ∀ w, am_ko ((am_up h ta w).1 (tt j)) = some 3 := by
      intro j hj w
      rw [am_up_ne _ _ (ntt j hj), l6 j hj]
      rfl
    induction k with
    | zero =>
      intro _
      have e1 : nI 0 ≤ 0 := by decide
      have e3 : am_ix 0 m = some 0 := ev_ix (k := 0) hm0 (by omega)
      have e4 := ev_wq 3 m 0 (tt c) (vs_sh G c 0) 0 ((am_up h ta (vs_qt m (vs_sh G c 0))).1 (tt c)) (by omega) e3 (hko c hroom _)
      rw [am_R_eq] at fin
      subst hh2
      rw [am_R_eq, cxh_35_28]
      simp only [am_R_eq, cx_35, en_35, rt_35, rx_aaload, rx_aastore, ev_w1, ev_KW, rx_aload_n, rx_arraylength, ev_ln, ev_pN, rx_astore_n, rx_dup_i, rx_dup_r, rx_getfield, ev_gf, rx_goto, rx_iadd, rx_iconst, rx_icmp_lt, rx_if_le, rx_iinc, ev_inc, rx_iload_n, rx_invv, ev_cv, rx_istore_n, rx_isub, rx_putfield, ev_pf, am_fok, am_ftv, rx_return, kl_12, kl_33, ev_K, ev_pI, ev_pR, ev_pVi, ev_pVr, ev_sI, ev_sR, ev_KC, ev_k, ev_ko, ev_pop0, ev_pops, am_ld, am_sv, am_at, am_st, am_g, List.length_cons, List.length_nil, Nat.reduceAdd, Nat.reduceLT, Nat.zero_add, if_true, if_false, and_self, true_or, or_true, true_and, and_true, not_true_eq_false, not_false_eq_true, reduceCtorEq, eq_self, Option.toList_some, Option.toList_none, List.cons_append, List.nil_append, Bool.false_eq_true, l1, e1, e4, hzta, am_up_ne, am_up_at, am_up_up, nlt, ne_eq]
      revert fin
      simp only [am_R_eq, cx_35, en_35, rt_35, rx_aaload, rx_aastore, ev_w1, ev_KW, rx_aload_n, rx_arraylength, ev_ln, ev_pN, rx_astore_n, rx_dup_i, rx_dup_r, rx_getfield, ev_gf, rx_goto, rx_iadd, rx_iconst, rx_icmp_lt, rx_if_le, rx_iinc, ev_inc, rx_iload_n, rx_invv, ev_cv, rx_istore_n, rx_isub, rx_putfield, ev_pf, am_fok, am_ftv, rx_return, kl_12, kl_33, ev_K, ev_pI, ev_pR, ev_pVi, ev_pVr, ev_sI, ev_sR, ev_KC, ev_k, ev_ko, ev_pop0, ev_pops, am_ld, am_sv, am_at, am_st, am_g, List.length_cons, List.length_nil, Nat.reduceAdd, Nat.reduceLT, Nat.zero_add, if_true, if_false, and_self, true_or, or_true, true_and, and_true, not_true_eq_false, not_false_eq_true, reduceCtorEq, eq_self, Option.toList_some, Option.toList_none, List.cons_append, List.nil_append, Bool.false_eq_true]
      exact fun q => q
    | succ k ih =>
      intro hkc
      have e1 : ¬ nI (k + 1) ≤ 0 := nI_nle (by omega) (by omega)
      have e3 : am_ix (nI (k + 1)) m = some (k + 1) := ev_ix (by omega) (by omega)
      have e5 : am_ix (nI k) m = some k := ev_ix (by omega) (by omega)
      have e6 : nI (k + 1) - 1 = nI k := nI_pred k
      have e8 : nI (k + 1) + -1 = nI k := pk_m1 k
      have hgx : vs_sh G c (k + 1) k = some (tt k) := by
        unfold vs_sh
        rw [if_neg (by omega)]
        exact l5 k (by omega)
      have e7 := ev_rq 3 m k (tt k) (vs_sh G c (k + 1)) (nI k) (by omega) e5 hgx
      have e4 := ev_wq 3 m (k + 1) (tt k) (vs_sh G c (k + 1)) (nI (k + 1)) ((am_up h ta (vs_qt m (vs_sh G c (k + 1)))).1 (tt k)) (by omega) e3 (hko k (by omega) _)
      have e9 : va_up (vs_sh G c (k + 1)) (k + 1) (some (tt k)) = vs_sh G c k := by rw [← hgx]; exact vs_sh_step G (by omega)
      have ih2 := ih (by omega)
      rw [am_R_eq] at ih2
      rw [am_R_eq, cxh_35_28]
      simp only [am_R_eq, cx_35, en_35, rt_35, rx_aaload, rx_aastore, ev_w1, ev_KW, rx_aload_n, rx_arraylength, ev_ln, ev_pN, rx_astore_n, rx_dup_i, rx_dup_r, rx_getfield, ev_gf, rx_goto, rx_iadd, rx_iconst, rx_icmp_lt, rx_if_le, rx_iinc, ev_inc, rx_iload_n, rx_invv, ev_cv, rx_istore_n, rx_isub, rx_putfield, ev_pf, am_fok, am_ftv, rx_return, kl_12, kl_33, ev_K, ev_pI, ev_pR, ev_pVi, ev_pVr, ev_sI, ev_sR, ev_KC, ev_k, ev_ko, ev_pop0, ev_pops, am_ld, am_sv, am_at, am_st, am_g, List.length_cons, List.length_nil, Nat.reduceAdd, Nat.reduceLT, Nat.zero_add, if_true, if_false, and_self, true_or, or_true, true_and, and_true, not_true_eq_false, not_false_eq_true, reduceCtorEq, eq_self, Option.toList_some, Option.toList_none, List.cons_append, List.nil_append, Bool.false_eq_true, l1, e1, e4, e6, e7, e8, e9, hzta, am_up_ne, am_up_at, am_up_up, nlt, ne_eq]
      exact ih2
  have e1 : nI c < nI m := nI_lt hroom (by omega)
  have e5 : am_ix (nI c) m = some c := ev_ix hroom (by omega)
  have e7 := ev_rq 3 m c (tt c) G (nI c) (by omega) e5 (l5 c hroom)
  have l0 := loop c (Nat.le_refl _)
  rw [vs_sh_top, am_up_self l4, am_R_eq] at l0
  rw [am_M_eq]
  simp only [am_R_eq, cx_35, en_35, rt_35, rx_aaload, rx_aastore, ev_w1, ev_KW, rx_aload_n, rx_arraylength, ev_ln, ev_pN, rx_astore_n, rx_dup_i, rx_dup_r, rx_getfield, ev_gf, rx_goto, rx_iadd, rx_iconst, rx_icmp_lt, rx_if_le, rx_iinc, ev_inc, rx_iload_n, rx_invv, ev_cv, rx_istore_n, rx_isub, rx_putfield, ev_pf, am_fok, am_ftv, rx_return, kl_12, kl_33, ev_K, ev_pI, ev_pR, ev_pVi, ev_pVr, ev_sI, ev_sR, ev_KC, ev_k, ev_ko, ev_pop0, ev_pops, am_ld, am_sv, am_at, am_st, am_g, List.length_cons, List.length_nil, Nat.reduceAdd, Nat.reduceLT, Nat.zero_add, if_true, if_false, and_self, true_or, or_true, true_and, and_true, not_true_eq_false, not_false_eq_true, reduceCtorEq, eq_self, Option.toList_some, Option.toList_none, List.cons_append, List.nil_append, Bool.false_eq_true, l1, l4, ev_ln, ev_pN, e1, e7]
  exact l0
end ADDN
