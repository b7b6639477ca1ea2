section NM
variable {z : Nat} {h : am_H} {x : Nat} {A : Nat → Nat} {w : Nat → Int32} {F : Nat → Nat → Int32}
theorem m_vw_s {F : Nat → Nat → Int32} {s : Int32} (hv : m_vw F s = true) : s < 0 ∨ ∃ j, j < 3 ∧ s = nI j := by
  unfold m_vw at hv
  by_cases c1 : s < 0
  · exact Or.inl c1
  · rcases pk_ix s (n := 3) (by omega) with q | q | q
    · exact Or.inl q
    · have c2 : (3 : Int32) ≤ s := q
      have c3 : ¬ s = -1 := fun g => c1 (by rw [g]; decide)
      simp [c2, c3] at hv
    · exact Or.inr q
theorem mo_scanBad (d : Nat) {s fr k : Int32} (hk : ¬ m_vw F s = true ∨ k < 0) (hM : vs_M z h x A w F) : am_M z (d + 1 + 1) 137 [.ref x, .int s, .int fr, .int k] h (some (.int (-1))) h := by
  have m0 := hM.ob
  have q1 := mo_isView d (s := s) hM
  by_cases c1 : m_vw F s = true
  · have c2 := hk.resolve_left (fun q => q c1)
    have c3 : ¬ 0 ≤ k := by
      intro q
      rw [Int32.lt_iff_toInt_lt] at c2
      rw [Int32.le_iff_toInt_le] at q
      omega
    rw [if_pos c1] at q1
    rw [am_M_eq]
    simp only [am_R_eq, cx_137, en_137, rt_137, rx_aload_n, rx_bipush, rx_goto, rx_iconst, rx_icmp_ge, rx_icmp_ne, rx_if_eq, rx_if_ge, rx_if_ne, rx_iinc, ev_inc, rx_iload, rx_iload_n, rx_invv, ev_cv, rx_ireturn, rx_istore, kl_126, kl_138, ev_K, ev_pI, ev_pR, ev_pVi, ev_pVr, ev_sI, ev_sR, ev_KC, ev_k, ev_ko, ev_pop0, ev_pops, am_ld, am_sv, am_at, am_st, am_g, List.length_cons, List.length_nil, Nat.reduceAdd, Nat.reduceLT, Nat.zero_add, if_true, if_false, and_self, true_or, or_true, true_and, and_true, not_true_eq_false, not_false_eq_true, reduceCtorEq, eq_self, Option.toList_some, Option.toList_none, List.cons_append, List.nil_append, Bool.false_eq_true, m0]
    refine am_CL_of q1 ?_
    simp only [am_R_eq, cx_137, en_137, rt_137, rx_aload_n, rx_bipush, rx_goto, rx_iconst, rx_icmp_ge, rx_icmp_ne, rx_if_eq, rx_if_ge, rx_if_ne, rx_iinc, ev_inc, rx_iload, rx_iload_n, rx_invv, ev_cv, rx_ireturn, rx_istore, kl_126, kl_138, ev_K, ev_pI, ev_pR, ev_pVi, ev_pVr, ev_sI, ev_sR, ev_KC, ev_k, ev_ko, ev_pop0, ev_pops, am_ld, am_sv, am_at, am_st, am_g, List.length_cons, List.length_nil, Nat.reduceAdd, Nat.reduceLT, Nat.zero_add, if_true, if_false, and_self, true_or, or_true, true_and, and_true, not_true_eq_false, not_false_eq_true, reduceCtorEq, eq_self, Option.toList_some, Option.toList_none, List.cons_append, List.nil_append, Bool.false_eq_true, i_10, c2, c3]
  · rw [if_neg c1] at q1
    rw [am_M_eq]
    simp only [am_R_eq, cx_137, en_137, rt_137, rx_aload_n, rx_bipush, rx_goto, rx_iconst, rx_icmp_ge, rx_icmp_ne, rx_if_eq, rx_if_ge, rx_if_ne, rx_iinc, ev_inc, rx_iload, rx_iload_n, rx_invv, ev_cv, rx_ireturn, rx_istore, kl_126, kl_138, ev_K, ev_pI, ev_pR, ev_pVi, ev_pVr, ev_sI, ev_sR, ev_KC, ev_k, ev_ko, ev_pop0, ev_pops, am_ld, am_sv, am_at, am_st, am_g, List.length_cons, List.length_nil, Nat.reduceAdd, Nat.reduceLT, Nat.zero_add, if_true, if_false, and_self, true_or, or_true, true_and, and_true, not_true_eq_false, not_false_eq_true, reduceCtorEq, eq_self, Option.toList_some, Option.toList_none, List.cons_append, List.nil_append, Bool.false_eq_true, m0]
    refine am_CL_of q1 ?_
    simp only [am_R_eq, cx_137, en_137, rt_137, rx_aload_n, rx_bipush, rx_goto, rx_iconst, rx_icmp_ge, rx_icmp_ne, rx_if_eq, rx_if_ge, rx_if_ne, rx_iinc, ev_inc, rx_iload, rx_iload_n, rx_invv, ev_cv, rx_ireturn, rx_istore, kl_126, kl_138, ev_K, ev_pI, ev_pR, ev_pVi, ev_pVr, ev_sI, ev_sR, ev_KC, ev_k, ev_ko, ev_pop0, ev_pops, am_ld, am_sv, am_at, am_st, am_g, List.length_cons, List.length_nil, Nat.reduceAdd, Nat.reduceLT, Nat.zero_add, if_true, if_false, and_self, true_or, or_true, true_and, and_true, not_true_eq_false, not_false_eq_true, reduceCtorEq, eq_self, Option.toList_some, Option.toList_none, List.cons_append, List.nil_append, Bool.false_eq_true]
theorem mo_scanLoop (d : Nat) {n : Nat} {s fr k : Int32} (hn : w 1 = nI n) (hb : n ≤ 520) (hs : s < 0 ∨ ∃ j, j < 3 ∧ s = nI j) (hM : vs_M z h x A w F) : ∀ (m i : Nat) (p : Int32), m + i = 32 → am_R z (d + 1 + 1) 137 28 [some (.ref x), some (.int s), some (.int fr), some (.int k), some (.int p), some (.int (nI i))] [] h (some (.int (e_sc (fun q => !m_th F (w 0) n s (nI q)) k m i p))) h := by
  have m0 := hM.ob
  intro m
  induction m with
  | zero =>
    intro i p hm
    have hi : i = 32 := by omega
    subst hi
    have e1 : (32 : Int32) ≤ nI 32 := by decide
    rw [am_R_eq, cxh_137_28]
    simp only [am_R_eq, cx_137, en_137, rt_137, rx_aload_n, rx_bipush, rx_goto, rx_iconst, rx_icmp_ge, rx_icmp_ne, rx_if_eq, rx_if_ge, rx_if_ne, rx_iinc, ev_inc, rx_iload, rx_iload_n, rx_invv, ev_cv, rx_ireturn, rx_istore, kl_126, kl_138, ev_K, ev_pI, ev_pR, ev_pVi, ev_pVr, ev_sI, ev_sR, ev_KC, ev_k, ev_ko, ev_pop0, ev_pops, am_ld, am_sv, am_at, am_st, am_g, List.length_cons, List.length_nil, Nat.reduceAdd, Nat.reduceLT, Nat.zero_add, if_true, if_false, and_self, true_or, or_true, true_and, and_true, not_true_eq_false, not_false_eq_true, reduceCtorEq, eq_self, Option.toList_some, Option.toList_none, List.cons_append, List.nil_append, Bool.false_eq_true, e1, e_sc]
  | succ m ih =>
    intro i p hm
    have e1 : ¬ (32 : Int32) ≤ nI i := nI_ge (b := 32) (by omega) (by omega)
    have q1 := mo_there d (s := s) (key := nI i) hn hb hs hM
    rw [e_sc]
    by_cases c1 : m_th F (w 0) n s (nI i) = true
    · have c1' : ¬ (!m_th F (w 0) n s (nI i)) = true := by rw [c1]; decide
      rw [if_neg c1']
      rw [if_pos c1] at q1
      by_cases c2 : p = k
      · rw [if_pos c2]
        rw [am_R_eq, cxh_137_28]
        simp only [am_R_eq, cx_137, en_137, rt_137, rx_aload_n, rx_bipush, rx_goto, rx_iconst, rx_icmp_ge, rx_icmp_ne, rx_if_eq, rx_if_ge, rx_if_ne, rx_iinc, ev_inc, rx_iload, rx_iload_n, rx_invv, ev_cv, rx_ireturn, rx_istore, kl_126, kl_138, ev_K, ev_pI, ev_pR, ev_pVi, ev_pVr, ev_sI, ev_sR, ev_KC, ev_k, ev_ko, ev_pop0, ev_pops, am_ld, am_sv, am_at, am_st, am_g, List.length_cons, List.length_nil, Nat.reduceAdd, Nat.reduceLT, Nat.zero_add, if_true, if_false, and_self, true_or, or_true, true_and, and_true, not_true_eq_false, not_false_eq_true, reduceCtorEq, eq_self, Option.toList_some, Option.toList_none, List.cons_append, List.nil_append, Bool.false_eq_true, e1, m0]
        refine am_CL_of q1 ?_
        simp only [am_R_eq, cx_137, en_137, rt_137, rx_aload_n, rx_bipush, rx_goto, rx_iconst, rx_icmp_ge, rx_icmp_ne, rx_if_eq, rx_if_ge, rx_if_ne, rx_iinc, ev_inc, rx_iload, rx_iload_n, rx_invv, ev_cv, rx_ireturn, rx_istore, kl_126, kl_138, ev_K, ev_pI, ev_pR, ev_pVi, ev_pVr, ev_sI, ev_sR, ev_KC, ev_k, ev_ko, ev_pop0, ev_pops, am_ld, am_sv, am_at, am_st, am_g, List.length_cons, List.length_nil, Nat.reduceAdd, Nat.reduceLT, Nat.zero_add, if_true, if_false, and_self, true_or, or_true, true_and, and_true, not_true_eq_false, not_false_eq_true, reduceCtorEq, eq_self, Option.toList_some, Option.toList_none, List.cons_append, List.nil_append, Bool.false_eq_true, i_10, c2]
      · rw [if_neg c2]
        have i1 := ih (i + 1) (p + 1) (by omega)
        rw [am_R_eq] at i1
        rw [am_R_eq, cxh_137_28]
        simp only [am_R_eq, cx_137, en_137, rt_137, rx_aload_n, rx_bipush, rx_goto, rx_iconst, rx_icmp_ge, rx_icmp_ne, rx_if_eq, rx_if_ge, rx_if_ne, rx_iinc, ev_inc, rx_iload, rx_iload_n, rx_invv, ev_cv, rx_ireturn, rx_istore, kl_126, kl_138, ev_K, ev_pI, ev_pR, ev_pVi, ev_pVr, ev_sI, ev_sR, ev_KC, ev_k, ev_ko, ev_pop0, ev_pops, am_ld, am_sv, am_at, am_st, am_g, List.length_cons, List.length_nil, Nat.reduceAdd, Nat.reduceLT, Nat.zero_add, if_true, if_false, and_self, true_or, or_true, true_and, and_true, not_true_eq_false, not_false_eq_true, reduceCtorEq, eq_self, Option.toList_some, Option.toList_none, List.cons_append, List.nil_append, Bool.false_eq_true, e1, m0]
        refine am_CL_of q1 ?_
        simp only [am_R_eq, cx_137, en_137, rt_137, rx_aload_n, rx_bipush, rx_goto, rx_iconst, rx_icmp_ge, rx_icmp_ne, rx_if_eq, rx_if_ge, rx_if_ne, rx_iinc, ev_inc, rx_iload, rx_iload_n, rx_invv, ev_cv, rx_ireturn, rx_istore, kl_126, kl_138, ev_K, ev_pI, ev_pR, ev_pVi, ev_pVr, ev_sI, ev_sR, ev_KC, ev_k, ev_ko, ev_pop0, ev_pops, am_ld, am_sv, am_at, am_st, am_g, List.length_cons, List.length_nil, Nat.reduceAdd, Nat.reduceLT, Nat.zero_add, if_true, if_false, and_self, true_or, or_true, true_and, and_true, not_true_eq_false, not_false_eq_true, reduceCtorEq, eq_self, Option.toList_some, Option.toList_none, List.cons_append, List.nil_append, Bool.false_eq_true, i_10, c2, nI_ofs]
        exact i1
    · have c1' : (!m_th F (w 0) n s (nI i)) = true := by simpa using c1
      rw [if_pos c1']
      rw [if_neg c1] at q1
      have i1 := ih (i + 1) p (by omega)
      rw [am_R_eq] at i1
      rw [am_R_eq, cxh_137_28]
      simp only [am_R_eq, cx_137, en_137, rt_137, rx_aload_n, rx_bipush, rx_goto, rx_iconst, rx_icmp_ge, rx_icmp_ne, rx_if_eq, rx_if_ge, rx_if_ne, rx_iinc, ev_inc, rx_iload, rx_iload_n, rx_invv, ev_cv, rx_ireturn, rx_istore, kl_126, kl_138, ev_K, ev_pI, ev_pR, ev_pVi, ev_pVr, ev_sI, ev_sR, ev_KC, ev_k, ev_ko, ev_pop0, ev_pops, am_ld, am_sv, am_at, am_st, am_g, List.length_cons, List.length_nil, Nat.reduceAdd, Nat.reduceLT, Nat.zero_add, if_true, if_false, and_self, true_or, or_true, true_and, and_true, not_true_eq_false, not_false_eq_true, reduceCtorEq, eq_self, Option.toList_some, Option.toList_none, List.cons_append, List.nil_append, Bool.false_eq_true, e1, m0]
      refine am_CL_of q1 ?_
      simp only [am_R_eq, cx_137, en_137, rt_137, rx_aload_n, rx_bipush, rx_goto, rx_iconst, rx_icmp_ge, rx_icmp_ne, rx_if_eq, rx_if_ge, rx_if_ne, rx_iinc, ev_inc, rx_iload, rx_iload_n, rx_invv, ev_cv, rx_ireturn, rx_istore, kl_126, kl_138, ev_K, ev_pI, ev_pR, ev_pVi, ev_pVr, ev_sI, ev_sR, ev_KC, ev_k, ev_ko, ev_pop0, ev_pops, am_ld, am_sv, am_at, am_st, am_g, List.length_cons, List.length_nil, Nat.reduceAdd, Nat.reduceLT, Nat.zero_add, if_true, if_false, and_self, true_or, or_true, true_and, and_true, not_true_eq_false, not_false_eq_true, reduceCtorEq, eq_self, Option.toList_some, Option.toList_none, List.cons_append, List.nil_append, Bool.false_eq_true, nI_ofs]
      exact i1
theorem mo_scan (d : Nat) {n : Nat} {s fr k : Int32} (hn : w 1 = nI n) (hb : n ≤ 520) (hv : m_vw F s = true) (hk : ¬ k < 0) (hM : vs_M z h x A w F) : am_M z (d + 1 + 1 + 1) 137 [.ref x, .int s, .int fr, .int k] h (some (.int (e_sc (fun q => !m_th F (w 0) n s (nI q)) k (32 - e_s0 fr) (e_s0 fr) 0))) h := by
  have m0 := hM.ob
  have q1 := mo_isView (d + 1) (s := s) hM
  rw [if_pos hv] at q1
  have hk2 : 0 ≤ k := by
    rw [Int32.lt_iff_toInt_lt] at hk
    rw [Int32.le_iff_toInt_le]
    omega
  have hle : e_s0 fr ≤ 32 := by unfold e_s0; split <;> omega
  by_cases hn0 : fr < 0
  · have hn1 : ¬ 0 ≤ fr := by
      intro q
      rw [Int32.lt_iff_toInt_lt] at hn0
      rw [Int32.le_iff_toInt_le] at q
      omega
    have e0 : e_s0 fr = 0 := by unfold e_s0; rw [if_pos hn0]
    have i1 := mo_scanLoop d (s := s) (fr := fr) (k := k) hn hb (m_vw_s hv) hM (32 - e_s0 fr) (e_s0 fr) 0 (by omega)
    rw [e0] at i1 ⊢
    have z0 : nI 0 = 0 := rfl
    rw [z0] at i1
    rw [am_R_eq] at i1
    rw [am_M_eq]
    simp only [am_R_eq, cx_137, en_137, rt_137, rx_aload_n, rx_bipush, rx_goto, rx_iconst, rx_icmp_ge, rx_icmp_ne, rx_if_eq, rx_if_ge, rx_if_ne, rx_iinc, ev_inc, rx_iload, rx_iload_n, rx_invv, ev_cv, rx_ireturn, rx_istore, kl_126, kl_138, ev_K, ev_pI, ev_pR, ev_pVi, ev_pVr, ev_sI, ev_sR, ev_KC, ev_k, ev_ko, ev_pop0, ev_pops, am_ld, am_sv, am_at, am_st, am_g, List.length_cons, List.length_nil, Nat.reduceAdd, Nat.reduceLT, Nat.zero_add, if_true, if_false, and_self, true_or, or_true, true_and, and_true, not_true_eq_false, not_false_eq_true, reduceCtorEq, eq_self, Option.toList_some, Option.toList_none, List.cons_append, List.nil_append, Bool.false_eq_true, m0]
    refine am_CL_of q1 ?_
    simp only [am_R_eq, cx_137, en_137, rt_137, rx_aload_n, rx_bipush, rx_goto, rx_iconst, rx_icmp_ge, rx_icmp_ne, rx_if_eq, rx_if_ge, rx_if_ne, rx_iinc, ev_inc, rx_iload, rx_iload_n, rx_invv, ev_cv, rx_ireturn, rx_istore, kl_126, kl_138, ev_K, ev_pI, ev_pR, ev_pVi, ev_pVr, ev_sI, ev_sR, ev_KC, ev_k, ev_ko, ev_pop0, ev_pops, am_ld, am_sv, am_at, am_st, am_g, List.length_cons, List.length_nil, Nat.reduceAdd, Nat.reduceLT, Nat.zero_add, if_true, if_false, and_self, true_or, or_true, true_and, and_true, not_true_eq_false, not_false_eq_true, reduceCtorEq, eq_self, Option.toList_some, Option.toList_none, List.cons_append, List.nil_append, Bool.false_eq_true, i_10, hk, hk2, hn0, hn1]
    exact i1
  · obtain ⟨j, hj, rfl⟩ := nI_of hn0
    have hn1 : 0 ≤ nI j := nI_pos' hj
    by_cases hbig : 32 ≤ j
    · have e0 : e_s0 (nI j) = 32 := by
        unfold e_s0
        rw [if_neg hn0, nI_clamp hj]
        omega
      have hb2 : (32 : Int32) ≤ nI j := nI_le (a := 32) hbig hj
      rw [e0, Nat.sub_self, e_sc]
      have fin : am_R z (d + 1 + 1) 137 28 [some (.ref x), some (.int s), some (.int (nI j)), some (.int k), some (.int 0), some (.int (nI j))] [] h (some (.int (-2))) h := by
        rw [am_R_eq, cxh_137_28]
        simp only [am_R_eq, cx_137, en_137, rt_137, rx_aload_n, rx_bipush, rx_goto, rx_iconst, rx_icmp_ge, rx_icmp_ne, rx_if_eq, rx_if_ge, rx_if_ne, rx_iinc, ev_inc, rx_iload, rx_iload_n, rx_invv, ev_cv, rx_ireturn, rx_istore, kl_126, kl_138, ev_K, ev_pI, ev_pR, ev_pVi, ev_pVr, ev_sI, ev_sR, ev_KC, ev_k, ev_ko, ev_pop0, ev_pops, am_ld, am_sv, am_at, am_st, am_g, List.length_cons, List.length_nil, Nat.reduceAdd, Nat.reduceLT, Nat.zero_add, if_true, if_false, and_self, true_or, or_true, true_and, and_true, not_true_eq_false, not_false_eq_true, reduceCtorEq, eq_self, Option.toList_some, Option.toList_none, List.cons_append, List.nil_append, Bool.false_eq_true, hb2]
      rw [am_R_eq] at fin
      rw [am_M_eq]
      simp only [am_R_eq, cx_137, en_137, rt_137, rx_aload_n, rx_bipush, rx_goto, rx_iconst, rx_icmp_ge, rx_icmp_ne, rx_if_eq, rx_if_ge, rx_if_ne, rx_iinc, ev_inc, rx_iload, rx_iload_n, rx_invv, ev_cv, rx_ireturn, rx_istore, kl_126, kl_138, ev_K, ev_pI, ev_pR, ev_pVi, ev_pVr, ev_sI, ev_sR, ev_KC, ev_k, ev_ko, ev_pop0, ev_pops, am_ld, am_sv, am_at, am_st, am_g, List.length_cons, List.length_nil, Nat.reduceAdd, Nat.reduceLT, Nat.zero_add, if_true, if_false, and_self, true_or, or_true, true_and, and_true, not_true_eq_false, not_false_eq_true, reduceCtorEq, eq_self, Option.toList_some, Option.toList_none, List.cons_append, List.nil_append, Bool.false_eq_true, m0]
      refine am_CL_of q1 ?_
      simp only [am_R_eq, cx_137, en_137, rt_137, rx_aload_n, rx_bipush, rx_goto, rx_iconst, rx_icmp_ge, rx_icmp_ne, rx_if_eq, rx_if_ge, rx_if_ne, rx_iinc, ev_inc, rx_iload, rx_iload_n, rx_invv, ev_cv, rx_ireturn, rx_istore, kl_126, kl_138, ev_K, ev_pI, ev_pR, ev_pVi, ev_pVr, ev_sI, ev_sR, ev_KC, ev_k, ev_ko, ev_pop0, ev_pops, am_ld, am_sv, am_at, am_st, am_g, List.length_cons, List.length_nil, Nat.reduceAdd, Nat.reduceLT, Nat.zero_add, if_true, if_false, and_self, true_or, or_true, true_and, and_true, not_true_eq_false, not_false_eq_true, reduceCtorEq, eq_self, Option.toList_some, Option.toList_none, List.cons_append, List.nil_append, Bool.false_eq_true, i_10, hk, hk2, hn0, hn1]
      exact fin
    · have e0 : e_s0 (nI j) = j := by
        unfold e_s0
        rw [if_neg hn0, nI_clamp hj]
        omega
      have i1 := mo_scanLoop d (s := s) (fr := nI j) (k := k) hn hb (m_vw_s hv) hM (32 - e_s0 (nI j)) (e_s0 (nI j)) 0 (by omega)
      rw [e0] at i1 ⊢
      rw [am_R_eq] at i1
      rw [am_M_eq]
      simp only [am_R_eq, cx_137, en_137, rt_137, rx_aload_n, rx_bipush, rx_goto, rx_iconst, rx_icmp_ge, rx_icmp_ne, rx_if_eq, rx_if_ge, rx_if_ne, rx_iinc, ev_inc, rx_iload, rx_iload_n, rx_invv, ev_cv, rx_ireturn, rx_istore, kl_126, kl_138, ev_K, ev_pI, ev_pR, ev_pVi, ev_pVr, ev_sI, ev_sR, ev_KC, ev_k, ev_ko, ev_pop0, ev_pops, am_ld, am_sv, am_at, am_st, am_g, List.length_cons, List.length_nil, Nat.reduceAdd, Nat.reduceLT, Nat.zero_add, if_true, if_false, and_self, true_or, or_true, true_and, and_true, not_true_eq_false, not_false_eq_true, reduceCtorEq, eq_self, Option.toList_some, Option.toList_none, List.cons_append, List.nil_append, Bool.false_eq_true, m0]
      refine am_CL_of q1 ?_
      simp only [am_R_eq, cx_137, en_137, rt_137, rx_aload_n, rx_bipush, rx_goto, rx_iconst, rx_icmp_ge, rx_icmp_ne, rx_if_eq, rx_if_ge, rx_if_ne, rx_iinc, ev_inc, rx_iload, rx_iload_n, rx_invv, ev_cv, rx_ireturn, rx_istore, kl_126, kl_138, ev_K, ev_pI, ev_pR, ev_pVi, ev_pVr, ev_sI, ev_sR, ev_KC, ev_k, ev_ko, ev_pop0, ev_pops, am_ld, am_sv, am_at, am_st, am_g, List.length_cons, List.length_nil, Nat.reduceAdd, Nat.reduceLT, Nat.zero_add, if_true, if_false, and_self, true_or, or_true, true_and, and_true, not_true_eq_false, not_false_eq_true, reduceCtorEq, eq_self, Option.toList_some, Option.toList_none, List.cons_append, List.nil_append, Bool.false_eq_true, i_10, hk, hk2, hn0, hn1]
      exact i1
end NM
