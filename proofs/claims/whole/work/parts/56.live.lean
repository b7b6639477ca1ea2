section MZ
variable {z : Nat} {h : am_H} {x : Nat} {A : Nat → Nat} {w : Nat → Int32} {F : Nat → Nat → Int32}
def m_lv (F : Nat → Nat → Int32) (s : Int32) (e : Nat) : Bool := !decide (F 5 e = 9) && (decide (F 3 e = 0) && decide (F 7 e = s))
theorem mo_isLive (d : Nat) {e : Nat} {s : Int32} (he : e < 520) (hM : vs_M z h x A w F) : am_M z (d + 1) 118 [.ref x, .int (nI e), .int s] h (some (.int (if m_lv F s e = true then 1 else 0))) h := by
  obtain ⟨k0, k1, k2, k3, k4, k5, k6, k7, -⟩ := hM.all
  have m0 := hM.ob
  have ix := m_ix he
  unfold m_lv
  rw [am_M_eq]
  by_cases c1 : F 5 e = 9
  · simp only [am_R_eq, cx_118, en_118, rt_118, rx_aload_n, rx_baload, rx_bipush, rx_getfield, ev_gf, rx_goto, rx_iaload, rx_iconst, rx_icmp_eq, rx_icmp_ne, rx_if_ne, rx_iload_n, rx_ireturn, ev_K, ev_pI, ev_pR, ev_pVi, ev_pVr, ev_sI, ev_sR, ev_KC, ev_k, ev_ko, ev_pop0, ev_pops, am_ld, am_sv, am_at, am_st, am_g, List.length_cons, List.length_nil, Nat.reduceAdd, Nat.reduceLT, Nat.zero_add, if_true, if_false, and_self, true_or, or_true, true_and, and_true, not_true_eq_false, not_false_eq_true, reduceCtorEq, eq_self, Option.toList_some, Option.toList_none, List.cons_append, List.nil_append, Bool.false_eq_true, m0, k5, ix, c1, b00, decide_true, decide_false, Bool.not_true, Bool.not_false, Bool.or_false, Bool.false_or, Bool.true_or, Bool.or_true, Bool.and_false, Bool.false_and, Bool.true_and, Bool.and_true, Bool.and_self]
  · by_cases c2 : F 3 e = 0
    · by_cases c3 : F 7 e = s
      · simp only [am_R_eq, cx_118, en_118, rt_118, rx_aload_n, rx_baload, rx_bipush, rx_getfield, ev_gf, rx_goto, rx_iaload, rx_iconst, rx_icmp_eq, rx_icmp_ne, rx_if_ne, rx_iload_n, rx_ireturn, ev_K, ev_pI, ev_pR, ev_pVi, ev_pVr, ev_sI, ev_sR, ev_KC, ev_k, ev_ko, ev_pop0, ev_pops, am_ld, am_sv, am_at, am_st, am_g, List.length_cons, List.length_nil, Nat.reduceAdd, Nat.reduceLT, Nat.zero_add, if_true, if_false, and_self, true_or, or_true, true_and, and_true, not_true_eq_false, not_false_eq_true, reduceCtorEq, eq_self, Option.toList_some, Option.toList_none, List.cons_append, List.nil_append, Bool.false_eq_true, m0, k5, k3, k7, ix, c1, c2, c3, b11, decide_true, decide_false, Bool.not_true, Bool.not_false, Bool.or_false, Bool.false_or, Bool.true_or, Bool.or_true, Bool.and_false, Bool.false_and, Bool.true_and, Bool.and_true, Bool.and_self]
      · simp only [am_R_eq, cx_118, en_118, rt_118, rx_aload_n, rx_baload, rx_bipush, rx_getfield, ev_gf, rx_goto, rx_iaload, rx_iconst, rx_icmp_eq, rx_icmp_ne, rx_if_ne, rx_iload_n, rx_ireturn, ev_K, ev_pI, ev_pR, ev_pVi, ev_pVr, ev_sI, ev_sR, ev_KC, ev_k, ev_ko, ev_pop0, ev_pops, am_ld, am_sv, am_at, am_st, am_g, List.length_cons, List.length_nil, Nat.reduceAdd, Nat.reduceLT, Nat.zero_add, if_true, if_false, and_self, true_or, or_true, true_and, and_true, not_true_eq_false, not_false_eq_true, reduceCtorEq, eq_self, Option.toList_some, Option.toList_none, List.cons_append, List.nil_append, Bool.false_eq_true, m0, k5, k3, k7, ix, c1, c2, c3, b00, decide_true, decide_false, Bool.not_true, Bool.not_false, Bool.or_false, Bool.false_or, Bool.true_or, Bool.or_true, Bool.and_false, Bool.false_and, Bool.true_and, Bool.and_true, Bool.and_self]
    · simp only [am_R_eq, cx_118, en_118, rt_118, rx_aload_n, rx_baload, rx_bipush, rx_getfield, ev_gf, rx_goto, rx_iaload, rx_iconst, rx_icmp_eq, rx_icmp_ne, rx_if_ne, rx_iload_n, rx_ireturn, ev_K, ev_pI, ev_pR, ev_pVi, ev_pVr, ev_sI, ev_sR, ev_KC, ev_k, ev_ko, ev_pop0, ev_pops, am_ld, am_sv, am_at, am_st, am_g, List.length_cons, List.length_nil, Nat.reduceAdd, Nat.reduceLT, Nat.zero_add, if_true, if_false, and_self, true_or, or_true, true_and, and_true, not_true_eq_false, not_false_eq_true, reduceCtorEq, eq_self, Option.toList_some, Option.toList_none, List.cons_append, List.nil_append, Bool.false_eq_true, m0, k5, k3, k7, ix, c1, c2, b00, decide_true, decide_false, Bool.not_true, Bool.not_false, Bool.or_false, Bool.false_or, Bool.true_or, Bool.or_true, Bool.and_false, Bool.false_and, Bool.true_and, Bool.and_true, Bool.and_self]
theorem mo_liveIn (d : Nat) {n : Nat} {s : Int32} (hn : w 1 = nI n) (hb : n ≤ 520) (hM : vs_M z h x A w F) : am_M z (d + 1 + 1) 117 [.ref x, .int s] h (some (.int (nI (m_cn (m_lv F s) n)))) h := by
  have m0 := hM.ob
  have loop : ∀ m k, m + k = n → am_R z (d + 1) 117 4 [some (.ref x), some (.int s), some (.int (nI (m_cn (m_lv F s) k))), some (.int (nI k))] [] h (some (.int (nI (m_cn (m_lv F s) n)))) h := by
    intro m
    induction m with
    | zero =>
      intro k hk
      have hkn : k = n := by omega
      subst hkn
      have e1 : nI k ≤ nI k := nI_le (Nat.le_refl _) (by omega)
      rw [am_R_eq, cxh_117_4]
      simp only [am_R_eq, cx_117, en_117, rt_117, rx_aload_n, rx_getfield, ev_gf, rx_goto, rx_iconst, rx_icmp_ge, rx_if_eq, rx_iinc, ev_inc, rx_iload_n, rx_invv, ev_cv, rx_ireturn, rx_istore_n, kl_118, ev_K, ev_pI, ev_pR, ev_pVi, ev_pVr, ev_sI, ev_sR, ev_KC, ev_k, ev_ko, ev_pop0, ev_pops, am_ld, am_sv, am_at, am_st, am_g, List.length_cons, List.length_nil, Nat.reduceAdd, Nat.reduceLT, Nat.zero_add, if_true, if_false, and_self, true_or, or_true, true_and, and_true, not_true_eq_false, not_false_eq_true, reduceCtorEq, eq_self, Option.toList_some, Option.toList_none, List.cons_append, List.nil_append, Bool.false_eq_true, m0, hn, e1]
    | succ m ih =>
      intro k hk
      have e1 : ¬ nI n ≤ nI k := nI_ge (by omega) (by omega)
      have q1 := mo_isLive d (e := k) (s := s) (by omega) hM
      have i1 := ih (k + 1) (by omega)
      rw [m_cn, am_R_eq] at i1
      by_cases c1 : m_lv F s k = true
      · rw [if_pos c1] at i1 q1
        rw [am_R_eq, cxh_117_4]
        simp only [am_R_eq, cx_117, en_117, rt_117, rx_aload_n, rx_getfield, ev_gf, rx_goto, rx_iconst, rx_icmp_ge, rx_if_eq, rx_iinc, ev_inc, rx_iload_n, rx_invv, ev_cv, rx_ireturn, rx_istore_n, kl_118, ev_K, ev_pI, ev_pR, ev_pVi, ev_pVr, ev_sI, ev_sR, ev_KC, ev_k, ev_ko, ev_pop0, ev_pops, am_ld, am_sv, am_at, am_st, am_g, List.length_cons, List.length_nil, Nat.reduceAdd, Nat.reduceLT, Nat.zero_add, if_true, if_false, and_self, true_or, or_true, true_and, and_true, not_true_eq_false, not_false_eq_true, reduceCtorEq, eq_self, Option.toList_some, Option.toList_none, List.cons_append, List.nil_append, Bool.false_eq_true, m0, hn, e1]
        refine am_CL_of q1 ?_
        simp only [am_R_eq, cx_117, en_117, rt_117, rx_aload_n, rx_getfield, ev_gf, rx_goto, rx_iconst, rx_icmp_ge, rx_if_eq, rx_iinc, ev_inc, rx_iload_n, rx_invv, ev_cv, rx_ireturn, rx_istore_n, kl_118, ev_K, ev_pI, ev_pR, ev_pVi, ev_pVr, ev_sI, ev_sR, ev_KC, ev_k, ev_ko, ev_pop0, ev_pops, am_ld, am_sv, am_at, am_st, am_g, List.length_cons, List.length_nil, Nat.reduceAdd, Nat.reduceLT, Nat.zero_add, if_true, if_false, and_self, true_or, or_true, true_and, and_true, not_true_eq_false, not_false_eq_true, reduceCtorEq, eq_self, Option.toList_some, Option.toList_none, List.cons_append, List.nil_append, Bool.false_eq_true, i_10, nI_ofs]
        exact i1
      · rw [if_neg c1] at i1 q1
        rw [am_R_eq, cxh_117_4]
        simp only [am_R_eq, cx_117, en_117, rt_117, rx_aload_n, rx_getfield, ev_gf, rx_goto, rx_iconst, rx_icmp_ge, rx_if_eq, rx_iinc, ev_inc, rx_iload_n, rx_invv, ev_cv, rx_ireturn, rx_istore_n, kl_118, ev_K, ev_pI, ev_pR, ev_pVi, ev_pVr, ev_sI, ev_sR, ev_KC, ev_k, ev_ko, ev_pop0, ev_pops, am_ld, am_sv, am_at, am_st, am_g, List.length_cons, List.length_nil, Nat.reduceAdd, Nat.reduceLT, Nat.zero_add, if_true, if_false, and_self, true_or, or_true, true_and, and_true, not_true_eq_false, not_false_eq_true, reduceCtorEq, eq_self, Option.toList_some, Option.toList_none, List.cons_append, List.nil_append, Bool.false_eq_true, m0, hn, e1]
        refine am_CL_of q1 ?_
        simp only [am_R_eq, cx_117, en_117, rt_117, rx_aload_n, rx_getfield, ev_gf, rx_goto, rx_iconst, rx_icmp_ge, rx_if_eq, rx_iinc, ev_inc, rx_iload_n, rx_invv, ev_cv, rx_ireturn, rx_istore_n, kl_118, ev_K, ev_pI, ev_pR, ev_pVi, ev_pVr, ev_sI, ev_sR, ev_KC, ev_k, ev_ko, ev_pop0, ev_pops, am_ld, am_sv, am_at, am_st, am_g, List.length_cons, List.length_nil, Nat.reduceAdd, Nat.reduceLT, Nat.zero_add, if_true, if_false, and_self, true_or, or_true, true_and, and_true, not_true_eq_false, not_false_eq_true, reduceCtorEq, eq_self, Option.toList_some, Option.toList_none, List.cons_append, List.nil_append, Bool.false_eq_true, nI_ofs]
        exact i1
  have i1 := loop n 0 rfl
  rw [am_R_eq] at i1
  have z0 : nI 0 = 0 := rfl
  rw [m_cn, z0] at i1
  rw [am_M_eq]
  simp only [am_R_eq, cx_117, en_117, rt_117, rx_aload_n, rx_getfield, ev_gf, rx_goto, rx_iconst, rx_icmp_ge, rx_if_eq, rx_iinc, ev_inc, rx_iload_n, rx_invv, ev_cv, rx_ireturn, rx_istore_n, kl_118, ev_K, ev_pI, ev_pR, ev_pVi, ev_pVr, ev_sI, ev_sR, ev_KC, ev_k, ev_ko, ev_pop0, ev_pops, am_ld, am_sv, am_at, am_st, am_g, List.length_cons, List.length_nil, Nat.reduceAdd, Nat.reduceLT, Nat.zero_add, if_true, if_false, and_self, true_or, or_true, true_and, and_true, not_true_eq_false, not_false_eq_true, reduceCtorEq, eq_self, Option.toList_some, Option.toList_none, List.cons_append, List.nil_append, Bool.false_eq_true]
  exact i1
def m_lc (F : Nat → Nat → Int32) (f b : Nat) : Bool := !decide (F 8 b ≤ F 8 f)
theorem mo_nextLive (d : Nat) {n : Nat} (hn : w 1 = nI n) (hb : n ≤ 520) (hM : vs_M z h x A w F) : am_M z (d + 1 + 1) 120 [.ref x] h (some (.int (m_oi (m_arg (m_lv F (w 6)) (m_lc F) n)))) h := by
  obtain ⟨k0, k1, k2, k3, k4, k5, k6, k7, k8, -⟩ := hM.all
  have m0 := hM.ob
  have loop : ∀ m k, m + k = n → am_R z (d + 1) 120 4 [some (.ref x), some (.int (m_oi (m_arg (m_lv F (w 6)) (m_lc F) k))), some (.int (nI k))] [] h (some (.int (m_oi (m_arg (m_lv F (w 6)) (m_lc F) n)))) h := by
    intro m
    induction m with
    | zero =>
      intro k hk
      have hkn : k = n := by omega
      subst hkn
      have e1 : nI k ≤ nI k := nI_le (Nat.le_refl _) (by omega)
      rw [am_R_eq, cxh_120_4]
      simp only [am_R_eq, cx_120, en_120, rt_120, rx_aload_n, rx_getfield, ev_gf, rx_goto, rx_iaload, rx_iconst, rx_icmp_ge, rx_if_eq, rx_if_lt, rx_iinc, ev_inc, rx_iload_n, rx_invv, ev_cv, rx_ireturn, rx_istore_n, kl_118, ev_K, ev_pI, ev_pR, ev_pVi, ev_pVr, ev_sI, ev_sR, ev_KC, ev_k, ev_ko, ev_pop0, ev_pops, am_ld, am_sv, am_at, am_st, am_g, List.length_cons, List.length_nil, Nat.reduceAdd, Nat.reduceLT, Nat.zero_add, if_true, if_false, and_self, true_or, or_true, true_and, and_true, not_true_eq_false, not_false_eq_true, reduceCtorEq, eq_self, Option.toList_some, Option.toList_none, List.cons_append, List.nil_append, Bool.false_eq_true, m0, hn, e1]
    | succ m ih =>
      intro k hk
      have e1 : ¬ nI n ≤ nI k := nI_ge (by omega) (by omega)
      have ix := m_ix (k := k) (by omega)
      have q1 := mo_isLive d (e := k) (s := w 6) (by omega) hM
      have i1 := ih (k + 1) (by omega)
      by_cases hP : m_lv F (w 6) k = true
      · rw [if_pos hP] at q1
        cases ho : m_arg (m_lv F (w 6)) (m_lc F) k with
        | none =>
          rw [m_arg_N _ _ hP ho, am_R_eq] at i1
          rw [am_R_eq, cxh_120_4]
          simp only [am_R_eq, cx_120, en_120, rt_120, rx_aload_n, rx_getfield, ev_gf, rx_goto, rx_iaload, rx_iconst, rx_icmp_ge, rx_if_eq, rx_if_lt, rx_iinc, ev_inc, rx_iload_n, rx_invv, ev_cv, rx_ireturn, rx_istore_n, kl_118, ev_K, ev_pI, ev_pR, ev_pVi, ev_pVr, ev_sI, ev_sR, ev_KC, ev_k, ev_ko, ev_pop0, ev_pops, am_ld, am_sv, am_at, am_st, am_g, List.length_cons, List.length_nil, Nat.reduceAdd, Nat.reduceLT, Nat.zero_add, if_true, if_false, and_self, true_or, or_true, true_and, and_true, not_true_eq_false, not_false_eq_true, reduceCtorEq, eq_self, Option.toList_some, Option.toList_none, List.cons_append, List.nil_append, Bool.false_eq_true, m0, hn, e1]
          refine am_CL_of q1 ?_
          simp only [am_R_eq, cx_120, en_120, rt_120, rx_aload_n, rx_getfield, ev_gf, rx_goto, rx_iaload, rx_iconst, rx_icmp_ge, rx_if_eq, rx_if_lt, rx_iinc, ev_inc, rx_iload_n, rx_invv, ev_cv, rx_ireturn, rx_istore_n, kl_118, ev_K, ev_pI, ev_pR, ev_pVi, ev_pVr, ev_sI, ev_sR, ev_KC, ev_k, ev_ko, ev_pop0, ev_pops, am_ld, am_sv, am_at, am_st, am_g, List.length_cons, List.length_nil, Nat.reduceAdd, Nat.reduceLT, Nat.zero_add, if_true, if_false, and_self, true_or, or_true, true_and, and_true, not_true_eq_false, not_false_eq_true, reduceCtorEq, eq_self, Option.toList_some, Option.toList_none, List.cons_append, List.nil_append, Bool.false_eq_true, i_10, m_oi, m1_neg, nI_ofs]
          exact i1
        | some b =>
          have hlt := (m_arg_lt _ _ _ _ ho).1
          have ib := m_ix (k := b) (by omega)
          have nb : ¬ nI b < 0 := nI_pos (by omega)
          by_cases hq : m_lc F k b = true
          · rw [m_arg_B _ _ hP ho hq, am_R_eq] at i1
            have c4 : ¬ F 8 b ≤ F 8 k := by
              unfold m_lc at hq
              rw [Bool.not_eq_true', decide_eq_false_iff_not] at hq
              exact hq
            rw [am_R_eq, cxh_120_4]
            simp only [am_R_eq, cx_120, en_120, rt_120, rx_aload_n, rx_getfield, ev_gf, rx_goto, rx_iaload, rx_iconst, rx_icmp_ge, rx_if_eq, rx_if_lt, rx_iinc, ev_inc, rx_iload_n, rx_invv, ev_cv, rx_ireturn, rx_istore_n, kl_118, ev_K, ev_pI, ev_pR, ev_pVi, ev_pVr, ev_sI, ev_sR, ev_KC, ev_k, ev_ko, ev_pop0, ev_pops, am_ld, am_sv, am_at, am_st, am_g, List.length_cons, List.length_nil, Nat.reduceAdd, Nat.reduceLT, Nat.zero_add, if_true, if_false, and_self, true_or, or_true, true_and, and_true, not_true_eq_false, not_false_eq_true, reduceCtorEq, eq_self, Option.toList_some, Option.toList_none, List.cons_append, List.nil_append, Bool.false_eq_true, m0, hn, e1]
            refine am_CL_of q1 ?_
            simp only [am_R_eq, cx_120, en_120, rt_120, rx_aload_n, rx_getfield, ev_gf, rx_goto, rx_iaload, rx_iconst, rx_icmp_ge, rx_if_eq, rx_if_lt, rx_iinc, ev_inc, rx_iload_n, rx_invv, ev_cv, rx_ireturn, rx_istore_n, kl_118, ev_K, ev_pI, ev_pR, ev_pVi, ev_pVr, ev_sI, ev_sR, ev_KC, ev_k, ev_ko, ev_pop0, ev_pops, am_ld, am_sv, am_at, am_st, am_g, List.length_cons, List.length_nil, Nat.reduceAdd, Nat.reduceLT, Nat.zero_add, if_true, if_false, and_self, true_or, or_true, true_and, and_true, not_true_eq_false, not_false_eq_true, reduceCtorEq, eq_self, Option.toList_some, Option.toList_none, List.cons_append, List.nil_append, Bool.false_eq_true, i_10, m0, k8, ix, ib, nb, c4, m_oi, nI_ofs]
            exact i1
          · rw [m_arg_K _ _ hP ho hq, am_R_eq] at i1
            have c4 : F 8 b ≤ F 8 k := by
              unfold m_lc at hq
              rw [Bool.not_eq_true', decide_eq_false_iff_not] at hq
              exact Classical.not_not.mp hq
            rw [am_R_eq, cxh_120_4]
            simp only [am_R_eq, cx_120, en_120, rt_120, rx_aload_n, rx_getfield, ev_gf, rx_goto, rx_iaload, rx_iconst, rx_icmp_ge, rx_if_eq, rx_if_lt, rx_iinc, ev_inc, rx_iload_n, rx_invv, ev_cv, rx_ireturn, rx_istore_n, kl_118, ev_K, ev_pI, ev_pR, ev_pVi, ev_pVr, ev_sI, ev_sR, ev_KC, ev_k, ev_ko, ev_pop0, ev_pops, am_ld, am_sv, am_at, am_st, am_g, List.length_cons, List.length_nil, Nat.reduceAdd, Nat.reduceLT, Nat.zero_add, if_true, if_false, and_self, true_or, or_true, true_and, and_true, not_true_eq_false, not_false_eq_true, reduceCtorEq, eq_self, Option.toList_some, Option.toList_none, List.cons_append, List.nil_append, Bool.false_eq_true, m0, hn, e1]
            refine am_CL_of q1 ?_
            simp only [am_R_eq, cx_120, en_120, rt_120, rx_aload_n, rx_getfield, ev_gf, rx_goto, rx_iaload, rx_iconst, rx_icmp_ge, rx_if_eq, rx_if_lt, rx_iinc, ev_inc, rx_iload_n, rx_invv, ev_cv, rx_ireturn, rx_istore_n, kl_118, ev_K, ev_pI, ev_pR, ev_pVi, ev_pVr, ev_sI, ev_sR, ev_KC, ev_k, ev_ko, ev_pop0, ev_pops, am_ld, am_sv, am_at, am_st, am_g, List.length_cons, List.length_nil, Nat.reduceAdd, Nat.reduceLT, Nat.zero_add, if_true, if_false, and_self, true_or, or_true, true_and, and_true, not_true_eq_false, not_false_eq_true, reduceCtorEq, eq_self, Option.toList_some, Option.toList_none, List.cons_append, List.nil_append, Bool.false_eq_true, i_10, m0, k8, ix, ib, nb, c4, m_oi, nI_ofs]
            exact i1
      · rw [m_arg_F _ _ hP, am_R_eq] at i1
        rw [if_neg hP] at q1
        rw [am_R_eq, cxh_120_4]
        simp only [am_R_eq, cx_120, en_120, rt_120, rx_aload_n, rx_getfield, ev_gf, rx_goto, rx_iaload, rx_iconst, rx_icmp_ge, rx_if_eq, rx_if_lt, rx_iinc, ev_inc, rx_iload_n, rx_invv, ev_cv, rx_ireturn, rx_istore_n, kl_118, ev_K, ev_pI, ev_pR, ev_pVi, ev_pVr, ev_sI, ev_sR, ev_KC, ev_k, ev_ko, ev_pop0, ev_pops, am_ld, am_sv, am_at, am_st, am_g, List.length_cons, List.length_nil, Nat.reduceAdd, Nat.reduceLT, Nat.zero_add, if_true, if_false, and_self, true_or, or_true, true_and, and_true, not_true_eq_false, not_false_eq_true, reduceCtorEq, eq_self, Option.toList_some, Option.toList_none, List.cons_append, List.nil_append, Bool.false_eq_true, m0, hn, e1]
        refine am_CL_of q1 ?_
        simp only [am_R_eq, cx_120, en_120, rt_120, rx_aload_n, rx_getfield, ev_gf, rx_goto, rx_iaload, rx_iconst, rx_icmp_ge, rx_if_eq, rx_if_lt, rx_iinc, ev_inc, rx_iload_n, rx_invv, ev_cv, rx_ireturn, rx_istore_n, kl_118, ev_K, ev_pI, ev_pR, ev_pVi, ev_pVr, ev_sI, ev_sR, ev_KC, ev_k, ev_ko, ev_pop0, ev_pops, am_ld, am_sv, am_at, am_st, am_g, List.length_cons, List.length_nil, Nat.reduceAdd, Nat.reduceLT, Nat.zero_add, if_true, if_false, and_self, true_or, or_true, true_and, and_true, not_true_eq_false, not_false_eq_true, reduceCtorEq, eq_self, Option.toList_some, Option.toList_none, List.cons_append, List.nil_append, Bool.false_eq_true, nI_ofs]
        exact i1
  have i1 := loop n 0 rfl
  rw [am_R_eq] at i1
  have z0 : nI 0 = 0 := rfl
  have z1 : m_oi (m_arg (m_lv F (w 6)) (m_lc F) 0) = -1 := rfl
  rw [z1, z0] at i1
  rw [am_M_eq]
  simp only [am_R_eq, cx_120, en_120, rt_120, rx_aload_n, rx_getfield, ev_gf, rx_goto, rx_iaload, rx_iconst, rx_icmp_ge, rx_if_eq, rx_if_lt, rx_iinc, ev_inc, rx_iload_n, rx_invv, ev_cv, rx_ireturn, rx_istore_n, kl_118, ev_K, ev_pI, ev_pR, ev_pVi, ev_pVr, ev_sI, ev_sR, ev_KC, ev_k, ev_ko, ev_pop0, ev_pops, am_ld, am_sv, am_at, am_st, am_g, List.length_cons, List.length_nil, Nat.reduceAdd, Nat.reduceLT, Nat.zero_add, if_true, if_false, and_self, true_or, or_true, true_and, and_true, not_true_eq_false, not_false_eq_true, reduceCtorEq, eq_self, Option.toList_some, Option.toList_none, List.cons_append, List.nil_append, Bool.false_eq_true]
  exact i1
def m_op (F : Nat → Nat → Int32) : Nat → Option Nat
  | 0 => none
  | m + 1 => if F 14 (2 - m) = 0 then some (2 - m) else m_op F m
def m_tk (F : Nat → Nat → Int32) (i : Nat) (v : Int32) : Nat → Nat → Int32 := va_up (va_up F 14 (upd (F 14) i 1)) 15 (upd (F 15) i v)
theorem mo_take (d : Nat) (hM : vs_M z h x A w F) : ∃ h', am_M z (d + 1) 121 [.ref x] h (some (.int (match m_op F 3 with | some i => nI i | none => -3))) h' ∧ vs_M z h' x A w (match m_op F 3 with | some i => m_tk F i (w 4) | none => F) ∧ h'.2 = h.2 := by
  have m0 := hM.ob
  have nxs := hM.nxs
  have z14 := hM.za 14 (by omega)
  have z15 := hM.za 15 (by omega)
  have k14 : h.1 (A 14) = some (.inl (1, 3, .inl (F 14))) := hM.ar 14 (by omega)
  have k15 : h.1 (A 15) = some (.inl (0, 3, .inl (F 15))) := hM.ar 15 (by omega)
  have n1 : ¬ A 15 = A 14 := hM.dj 15 14 (by omega) (by omega) (by omega)
  have loop : ∀ m, m ≤ 3 → ∃ h', am_R z d 121 2 [some (.ref x), some (.int (nI (3 - m)))] [] h (some (.int (match m_op F m with | some i => nI i | none => -3))) h' ∧ vs_M z h' x A w (match m_op F m with | some i => m_tk F i (w 4) | none => F) ∧ h'.2 = h.2 := by
    intro m
    induction m with
    | zero =>
      intro _
      refine ⟨h, ?_, hM, rfl⟩
      have e1 : (3 : Int32) ≤ nI (3 - 0) := by decide
      rw [am_R_eq, cxh_121_2]
      simp only [am_R_eq, cx_121, en_121, rt_121, rx_aload_n, rx_baload, rx_bastore, ev_w1, ev_KW, rx_bipush, rx_getfield, ev_gf, rx_goto, rx_iastore, rx_iconst, rx_icmp_ge, rx_if_ne, rx_iinc, ev_inc, rx_iload_n, rx_ireturn, rx_istore_n, ev_K, ev_pI, ev_pR, ev_pVi, ev_pVr, ev_sI, ev_sR, ev_KC, ev_k, ev_ko, ev_pop0, ev_pops, am_ld, am_sv, am_at, am_st, am_g, List.length_cons, List.length_nil, Nat.reduceAdd, Nat.reduceLT, Nat.zero_add, if_true, if_false, and_self, true_or, or_true, true_and, and_true, not_true_eq_false, not_false_eq_true, reduceCtorEq, eq_self, Option.toList_some, Option.toList_none, List.cons_append, List.nil_append, Bool.false_eq_true, e1, m_op]
    | succ m ih =>
      intro hm
      have ek : 3 - (m + 1) = 2 - m := by omega
      have e1 : ¬ (3 : Int32) ≤ nI (2 - m) := nI_ge (b := 3) (by omega) (by omega)
      have ix := m_ri (n := 3) (k := 2 - m) (by omega) (by omega)
      have iw := m_wi (n := 3) (k := 2 - m) (by omega) (by omega)
      rw [ek, m_op]
      by_cases c1 : F 14 (2 - m) = 0
      · rw [if_pos c1]
        have g1 : vs_M z (am_up h (A 14) (.inl (1, 3, .inl (upd (F 14) (2 - m) 1)))) x A w (va_up F 14 (upd (F 14) (2 - m) 1)) := hM.arr (i := 14) (by omega) _
        have g2 : vs_M z (am_up (am_up h (A 14) (.inl (1, 3, .inl (upd (F 14) (2 - m) 1)))) (A 15) (.inl (0, 3, .inl (upd (F 15) (2 - m) (w 4))))) x A w (m_tk F (2 - m) (w 4)) := g1.arr (i := 15) (by omega) _
        refine ⟨_, ?_, g2, rfl⟩
        rw [am_R_eq, cxh_121_2]
        simp only [am_R_eq, cx_121, en_121, rt_121, rx_aload_n, rx_baload, rx_bastore, ev_w1, ev_KW, rx_bipush, rx_getfield, ev_gf, rx_goto, rx_iastore, rx_iconst, rx_icmp_ge, rx_if_ne, rx_iinc, ev_inc, rx_iload_n, rx_ireturn, rx_istore_n, ev_K, ev_pI, ev_pR, ev_pVi, ev_pVr, ev_sI, ev_sR, ev_KC, ev_k, ev_ko, ev_pop0, ev_pops, am_ld, am_sv, am_at, am_st, am_g, List.length_cons, List.length_nil, Nat.reduceAdd, Nat.reduceLT, Nat.zero_add, if_true, if_false, and_self, true_or, or_true, true_and, and_true, not_true_eq_false, not_false_eq_true, reduceCtorEq, eq_self, Option.toList_some, Option.toList_none, List.cons_append, List.nil_append, Bool.false_eq_true, m0, nxs, k14, k15, n1, z14, z15, ix, iw, e1, c1, b11, am_up_at, am_up_ne, ne_eq, not_false_eq_true]
      · rw [if_neg c1]
        obtain ⟨h', i1, i2, i3⟩ := ih (by omega)
        refine ⟨h', ?_, i2, i3⟩
        have ek2 : nI (2 - m) + 1 = nI (3 - m) := by rw [nI_1]; congr 1; omega
        rw [am_R_eq] at i1
        rw [am_R_eq, cxh_121_2]
        simp only [am_R_eq, cx_121, en_121, rt_121, rx_aload_n, rx_baload, rx_bastore, ev_w1, ev_KW, rx_bipush, rx_getfield, ev_gf, rx_goto, rx_iastore, rx_iconst, rx_icmp_ge, rx_if_ne, rx_iinc, ev_inc, rx_iload_n, rx_ireturn, rx_istore_n, ev_K, ev_pI, ev_pR, ev_pVi, ev_pVr, ev_sI, ev_sR, ev_KC, ev_k, ev_ko, ev_pop0, ev_pops, am_ld, am_sv, am_at, am_st, am_g, List.length_cons, List.length_nil, Nat.reduceAdd, Nat.reduceLT, Nat.zero_add, if_true, if_false, and_self, true_or, or_true, true_and, and_true, not_true_eq_false, not_false_eq_true, reduceCtorEq, eq_self, Option.toList_some, Option.toList_none, List.cons_append, List.nil_append, Bool.false_eq_true, m0, k14, ix, e1, c1, ek2]
        exact i1
  obtain ⟨h', i1, i2, i3⟩ := loop 3 (Nat.le_refl _)
  refine ⟨h', ?_, i2, i3⟩
  have z0 : nI (3 - 3) = 0 := rfl
  rw [z0] at i1
  rw [am_R_eq] at i1
  rw [am_M_eq]
  simp only [am_R_eq, cx_121, en_121, rt_121, rx_aload_n, rx_baload, rx_bastore, ev_w1, ev_KW, rx_bipush, rx_getfield, ev_gf, rx_goto, rx_iastore, rx_iconst, rx_icmp_ge, rx_if_ne, rx_iinc, ev_inc, rx_iload_n, rx_ireturn, rx_istore_n, ev_K, ev_pI, ev_pR, ev_pVi, ev_pVr, ev_sI, ev_sR, ev_KC, ev_k, ev_ko, ev_pop0, ev_pops, am_ld, am_sv, am_at, am_st, am_g, List.length_cons, List.length_nil, Nat.reduceAdd, Nat.reduceLT, Nat.zero_add, if_true, if_false, and_self, true_or, or_true, true_and, and_true, not_true_eq_false, not_false_eq_true, reduceCtorEq, eq_self, Option.toList_some, Option.toList_none, List.cons_append, List.nil_append, Bool.false_eq_true]
  exact i1
theorem mo_releaseNo (d : Nat) {k : Int32} (hk : k < 0 ∨ ¬ k ≤ 2) : am_M z (d + 1) 122 [.ref x, .int k] h (some (.int 0)) h := by
  rw [am_M_eq]
  by_cases c1 : k < 0
  · simp only [am_R_eq, cx_122, en_122, rt_122, rx_aload_n, rx_baload, rx_bastore, ev_w1, ev_KW, rx_getfield, ev_gf, rx_iconst, rx_icmp_le, rx_if_lt, rx_iload_n, rx_ireturn, rx_istore_n, ev_K, ev_pI, ev_pR, ev_pVi, ev_pVr, ev_sI, ev_sR, ev_KC, ev_k, ev_ko, ev_pop0, ev_pops, am_ld, am_sv, am_at, am_st, am_g, List.length_cons, List.length_nil, Nat.reduceAdd, Nat.reduceLT, Nat.zero_add, if_true, if_false, and_self, true_or, or_true, true_and, and_true, not_true_eq_false, not_false_eq_true, reduceCtorEq, eq_self, Option.toList_some, Option.toList_none, List.cons_append, List.nil_append, Bool.false_eq_true, c1, b00]
  · have c2 := hk.resolve_left c1
    simp only [am_R_eq, cx_122, en_122, rt_122, rx_aload_n, rx_baload, rx_bastore, ev_w1, ev_KW, rx_getfield, ev_gf, rx_iconst, rx_icmp_le, rx_if_lt, rx_iload_n, rx_ireturn, rx_istore_n, ev_K, ev_pI, ev_pR, ev_pVi, ev_pVr, ev_sI, ev_sR, ev_KC, ev_k, ev_ko, ev_pop0, ev_pops, am_ld, am_sv, am_at, am_st, am_g, List.length_cons, List.length_nil, Nat.reduceAdd, Nat.reduceLT, Nat.zero_add, if_true, if_false, and_self, true_or, or_true, true_and, and_true, not_true_eq_false, not_false_eq_true, reduceCtorEq, eq_self, Option.toList_some, Option.toList_none, List.cons_append, List.nil_append, Bool.false_eq_true, c1, c2, b00]
theorem mo_release (d : Nat) {i : Nat} (hi : i < 3) (hv : F 14 i &&& 1 = F 14 i) (hM : vs_M z h x A w F) : ∃ h', am_M z (d + 1) 122 [.ref x, .int (nI i)] h (some (.int (F 14 i))) h' ∧ vs_M z h' x A w (va_up F 14 (upd (F 14) i 0)) ∧ h'.2 = h.2 := by
  have m0 := hM.ob
  have z14 := hM.za 14 (by omega)
  have k14 : h.1 (A 14) = some (.inl (1, 3, .inl (F 14))) := hM.ar 14 (by omega)
  have g1 : vs_M z (am_up h (A 14) (.inl (1, 3, .inl (upd (F 14) i 0)))) x A w (va_up F 14 (upd (F 14) i 0)) := hM.arr (i := 14) (by omega) _
  have ix := m_ri (n := 3) (k := i) (by omega) (by omega)
  have iw := m_wi (n := 3) (k := i) (by omega) (by omega)
  have e1 : ¬ nI i < 0 := nI_pos (by omega)
  have e2 : nI i ≤ 2 := nI_le (b := 2) (by omega) (by omega)
  refine ⟨_, ?_, g1, rfl⟩
  rw [am_M_eq]
  simp only [am_R_eq, cx_122, en_122, rt_122, rx_aload_n, rx_baload, rx_bastore, ev_w1, ev_KW, rx_getfield, ev_gf, rx_iconst, rx_icmp_le, rx_if_lt, rx_iload_n, rx_ireturn, rx_istore_n, ev_K, ev_pI, ev_pR, ev_pVi, ev_pVr, ev_sI, ev_sR, ev_KC, ev_k, ev_ko, ev_pop0, ev_pops, am_ld, am_sv, am_at, am_st, am_g, List.length_cons, List.length_nil, Nat.reduceAdd, Nat.reduceLT, Nat.zero_add, if_true, if_false, and_self, true_or, or_true, true_and, and_true, not_true_eq_false, not_false_eq_true, reduceCtorEq, eq_self, Option.toList_some, Option.toList_none, List.cons_append, List.nil_append, Bool.false_eq_true, m0, k14, z14, ix, iw, e1, e2, b00, hv]
end MZ
