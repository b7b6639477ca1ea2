section NM
variable {z : Nat} {h : am_H} {x : Nat} {A : Nat → Nat} {w : Nat → Int32} {F : Nat → Nat → Int32}
theorem m_vw_s {F : Nat → Nat → Int32} {s : Int32} (hv : m_vw F s = true) : s < 0 ∨ ∃ j, j < 3 ∧ s = nI j := by
  unfold m_vw at hv
  by_cases c1 : s < 0
  · exact Or.inl c1
  · rcases pk_ix s (n := 3) (by omega) with q | q | q
    · exact Or.inl q
    · have c2 : (3 : Int32) ≤ s := q
      have c3 : ¬ s = -1 := fun g => c1 (by rw [g]; decide)
      simp [c2, c3] at hv
    · exact Or.inr q
theorem mo_scanBad (d : Nat) {s fr k : Int32} (hk : ¬ m_vw F s = true ∨ k < 0) (hM : vs_M z h x A w F) : am_M z (d + 1 + 1) 137 [.ref x, .int s, .int fr, .int k] h (some (.int (-1))) h := by
  have m0 := hM.ob
  have q1 := mo_isView d (s := s) hM
  by_cases c1 : m_vw F s = true
  · have c2 := hk.resolve_left (fun q => q c1)
    have c3 : ¬ 0 ≤ k := by
      intro q
      rw [Int32.lt_iff_toInt_lt] at c2
      rw [Int32.le_iff_toInt_le] at q
      omega
    rw [if_pos c1] at q1
    rw [am_M_eq]
    simp only [am_R_eq, cx_137, en_137, rt_137, rx_aload_n, rx_bipush, rx_goto, rx_iconst, rx_icmp_ge, rx_icmp_ne, rx_if_eq, rx_if_ge, rx_if_ne, rx_iinc, ev_inc, rx_iload, rx_iload_n, rx_invv, ev_cv, rx_ireturn, rx_istore, kl_126, kl_138, ev_K, ev_pI, ev_pR, ev_pVi, ev_pVr, ev_sI, ev_sR, ev_KC, ev_k, ev_ko, ev_pop0, ev_pops, am_ld, am_sv, am_at, am_st, am_g, List.length_cons, List.length_nil, Nat.reduceAdd, Nat.reduceLT, Nat.zero_add, if_true, if_false, and_self, true_or, or_true, true_and, and_true, not_true_eq_false, not_false_eq_true, reduceCtorEq, eq_self, Option.toList_some, Option.toList_none, List.cons_append, List.nil_append, Bool.false_eq_true, m0]
    refine am_CL_of q1 ?_
    simp only [am_R_eq, cx_137, en_137, rt_137, rx_aload_n, rx_bipush, rx_goto, rx_iconst, rx_icmp_ge, rx_icmp_ne, rx_if_eq, rx_if_ge, rx_if_ne, rx_iinc, ev_inc, rx_iload, rx_iload_n, rx_invv, ev_cv, rx_ireturn, rx_istore, kl_126, kl_138, ev_K, ev_pI, ev_pR, ev_pVi, ev_pVr, ev_sI, ev_sR, ev_KC, ev_k, ev_ko, ev_pop0, ev_pops, am_ld, am_sv, am_at, am_st, am_g, List.length_cons, List.length_nil, Nat.reduceAdd, Nat.reduceLT, Nat.zero_add, if_true, if_false, and_self, true_or, or_true, true_and, and_true, not_true_eq_false, not_false_eq_true, reduceCtorEq, eq_self, Option.toList_some, Option.toList_none, List.cons_append, List.nil_append, Bool.false_eq_true, i_10, c2, c3]
  · rw [if_neg c1] at q1
    rw [am_M_eq]
    simp only [am_R_eq, cx_137, en_137, rt_137, rx_aload_n, rx_bipush, rx_goto, rx_iconst, rx_icmp_ge, rx_icmp_ne, rx_if_eq, rx_if_ge, rx_if_ne, rx_iinc, ev_inc, rx_iload, rx_iload_n, rx_invv, ev_cv, rx_ireturn, rx_istore, kl_126, kl_138, ev_K, ev_pI, ev_pR, ev_pVi, ev_pVr, ev_sI, ev_sR, ev_KC, ev_k, ev_ko, ev_pop0, ev_pops, am_ld, am_sv, am_at, am_st, am_g, List.length_cons, List.length_nil, Nat.reduceAdd, Nat.reduceLT, Nat.zero_add, if_true, if_false, and_self, true_or, or_true, true_and, and_true, not_true_eq_false, not_false_eq_true, reduceCtorEq, eq_self, Option.toList_some, Option.toList_none, List.cons_append, List.nil_append, Bool.false_eq_true, m0]
    refine am_CL_of q1 ?_
    simp only [am_R_eq, cx_137, en_137, rt_137, rx_aload_n, rx_bipush, rx_goto, rx_iconst, rx_icmp_ge, rx_icmp_ne, rx_if_eq, rx_if_ge, rx_if_ne, rx_iinc, ev_inc, rx_iload, rx_iload_n, rx_invv, ev_cv, rx_ireturn, rx_istore, kl_126, kl_138, ev_K, ev_pI, ev_pR, ev_pVi, ev_pVr, ev_sI, ev_sR, ev_KC, ev_k, ev_ko, ev_pop0, ev_pops, am_ld, am_sv, am_at, am_st, am_g, List.length_cons, List.length_nil, Nat.reduceAdd, Nat.reduceLT, Nat.zero_add, if_true, if_false, and_self, true_or, or_true, true_and, and_true, not_true_eq_false, not_false_eq_true, reduceCtorEq, eq_self, Option.toList_some, Option.toList_none, List.cons_append, List.nil_append, Bool.false_eq_true]
end NM
