section NF
variable {z : Nat} {h : am_H} {x : Nat} {A : Nat → Nat} {w : Nat → Int32} {F : Nat → Nat → Int32}
def m_laP (F : Nat → Nat → Int32) (nw l k s key : Int32) (e : Nat) : Bool := m_li F nw l k e && (decide (F 0 e = key) && m_sn F s e)
def m_hi (F : Nat → Nat → Int32) (f b : Nat) : Bool := !decide (F 1 f ≤ F 1 b)
theorem mo_latest (d : Nat) {n : Nat} {l k s key : Int32} (hn : w 1 = nI n) (hb : n ≤ 520) (hs : s < 0 ∨ ∃ j, j < 3 ∧ s = nI j) (hM : vs_M z h x A w F) : am_M z (d + 1 + 1 + 1) 128 [.ref x, .int l, .int k, .int s, .int key] h (some (.int (m_oi (m_arg (m_laP F (w 2) l k s key) (m_hi F) n)))) h := by
  have m0 := hM.ob
  have k0 : h.1 (A 0) = some (.inl (0, 520, .inl (F 0))) := hM.ar 0 (by omega)
  have k1 : h.1 (A 1) = some (.inl (0, 520, .inl (F 1))) := hM.ar 1 (by omega)
  have loop : ∀ m e (v7 : Option Value), m + e = n → am_R z (d + 1 + 1) 128 6 [some (.ref x), some (.int l), some (.int k), some (.int s), some (.int key), some (.int (m_oi (m_arg (m_laP F (w 2) l k s key) (m_hi F) e))), some (.int (nI e)), v7] [] h (some (.int (m_oi (m_arg (m_laP F (w 2) l k s key) (m_hi F) n)))) h := by
    intro m
    induction m with
    | zero =>
      intro e v7 hk
      have hkn : e = n := by omega
      subst hkn
      have e1 : nI e ≤ nI e := nI_le (Nat.le_refl _) (by omega)
      rw [am_R_eq, cxh_128_6]
      simp only [am_R_eq, cx_128, en_128, rt_128, rx_aload_n, rx_getfield, ev_gf, rx_goto, rx_iaload, rx_iconst, rx_icmp_ge, rx_icmp_le, rx_icmp_ne, rx_if_eq, rx_if_lt, rx_iinc, ev_inc, rx_iload, rx_iload_n, rx_invv, ev_cv, rx_ireturn, rx_istore, kl_129, kl_131, ev_K, ev_pI, ev_pR, ev_pVi, ev_pVr, ev_sI, ev_sR, ev_KC, ev_k, ev_ko, ev_pop0, ev_pops, am_ld, am_sv, am_at, am_st, am_g, List.length_cons, List.length_nil, Nat.reduceAdd, Nat.reduceLT, Nat.zero_add, if_true, if_false, and_self, true_or, or_true, true_and, and_true, not_true_eq_false, not_false_eq_true, reduceCtorEq, eq_self, Option.toList_some, Option.toList_none, List.cons_append, List.nil_append, Bool.false_eq_true, m0, hn, e1]
    | succ m ih =>
      intro e v7 hk
      have e1 : ¬ nI n ≤ nI e := nI_ge (by omega) (by omega)
      have ix := m_ix (k := e) (by omega)
      have q1 := mo_lies d (e := e) (l := l) (k := k) (by omega) hM
      have q2 := mo_isSeen (d + 1) (e := e) (s := s) (by omega) hs hM
      by_cases hP : m_laP F (w 2) l k s key e = true
      · have i1 := ih (e + 1) (some (.int 1)) (by omega)
        have hQ := hP
        unfold m_laP at hQ
        rw [Bool.and_eq_true, Bool.and_eq_true, decide_eq_true_iff] at hQ
        obtain ⟨c1, c2, c3⟩ := hQ
        rw [if_pos c1] at q1
        rw [if_pos c3] at q2
        cases ho : m_arg (m_laP F (w 2) l k s key) (m_hi F) e with
        | none =>
          rw [m_arg_N _ _ hP ho, am_R_eq] at i1
          rw [am_R_eq, cxh_128_6]
          simp only [am_R_eq, cx_128, en_128, rt_128, rx_aload_n, rx_getfield, ev_gf, rx_goto, rx_iaload, rx_iconst, rx_icmp_ge, rx_icmp_le, rx_icmp_ne, rx_if_eq, rx_if_lt, rx_iinc, ev_inc, rx_iload, rx_iload_n, rx_invv, ev_cv, rx_ireturn, rx_istore, kl_129, kl_131, ev_K, ev_pI, ev_pR, ev_pVi, ev_pVr, ev_sI, ev_sR, ev_KC, ev_k, ev_ko, ev_pop0, ev_pops, am_ld, am_sv, am_at, am_st, am_g, List.length_cons, List.length_nil, Nat.reduceAdd, Nat.reduceLT, Nat.zero_add, if_true, if_false, and_self, true_or, or_true, true_and, and_true, not_true_eq_false, not_false_eq_true, reduceCtorEq, eq_self, Option.toList_some, Option.toList_none, List.cons_append, List.nil_append, Bool.false_eq_true, m0, hn, e1]
          refine am_CL_of q1 ?_
          simp only [am_R_eq, cx_128, en_128, rt_128, rx_aload_n, rx_getfield, ev_gf, rx_goto, rx_iaload, rx_iconst, rx_icmp_ge, rx_icmp_le, rx_icmp_ne, rx_if_eq, rx_if_lt, rx_iinc, ev_inc, rx_iload, rx_iload_n, rx_invv, ev_cv, rx_ireturn, rx_istore, kl_129, kl_131, ev_K, ev_pI, ev_pR, ev_pVi, ev_pVr, ev_sI, ev_sR, ev_KC, ev_k, ev_ko, ev_pop0, ev_pops, am_ld, am_sv, am_at, am_st, am_g, List.length_cons, List.length_nil, Nat.reduceAdd, Nat.reduceLT, Nat.zero_add, if_true, if_false, and_self, true_or, or_true, true_and, and_true, not_true_eq_false, not_false_eq_true, reduceCtorEq, eq_self, Option.toList_some, Option.toList_none, List.cons_append, List.nil_append, Bool.false_eq_true, i_10, m0, k0, ix, c2]
          refine am_CL_of q2 ?_
          simp only [am_R_eq, cx_128, en_128, rt_128, rx_aload_n, rx_getfield, ev_gf, rx_goto, rx_iaload, rx_iconst, rx_icmp_ge, rx_icmp_le, rx_icmp_ne, rx_if_eq, rx_if_lt, rx_iinc, ev_inc, rx_iload, rx_iload_n, rx_invv, ev_cv, rx_ireturn, rx_istore, kl_129, kl_131, ev_K, ev_pI, ev_pR, ev_pVi, ev_pVr, ev_sI, ev_sR, ev_KC, ev_k, ev_ko, ev_pop0, ev_pops, am_ld, am_sv, am_at, am_st, am_g, List.length_cons, List.length_nil, Nat.reduceAdd, Nat.reduceLT, Nat.zero_add, if_true, if_false, and_self, true_or, or_true, true_and, and_true, not_true_eq_false, not_false_eq_true, reduceCtorEq, eq_self, Option.toList_some, Option.toList_none, List.cons_append, List.nil_append, Bool.false_eq_true, i_10, m_oi, m1_neg, nI_ofs]
          exact i1
        | some b =>
          have hlt := (m_arg_lt _ _ _ _ ho).1
          have ib := m_ix (k := b) (by omega)
          have nb : ¬ nI b < 0 := nI_pos (by omega)
          by_cases hq : m_hi F e b = true
          · rw [m_arg_B _ _ hP ho hq, am_R_eq] at i1
            have c4 : ¬ F 1 e ≤ F 1 b := by
              unfold m_hi at hq
              rw [Bool.not_eq_true', decide_eq_false_iff_not] at hq
              exact hq
            rw [am_R_eq, cxh_128_6]
            simp only [am_R_eq, cx_128, en_128, rt_128, rx_aload_n, rx_getfield, ev_gf, rx_goto, rx_iaload, rx_iconst, rx_icmp_ge, rx_icmp_le, rx_icmp_ne, rx_if_eq, rx_if_lt, rx_iinc, ev_inc, rx_iload, rx_iload_n, rx_invv, ev_cv, rx_ireturn, rx_istore, kl_129, kl_131, ev_K, ev_pI, ev_pR, ev_pVi, ev_pVr, ev_sI, ev_sR, ev_KC, ev_k, ev_ko, ev_pop0, ev_pops, am_ld, am_sv, am_at, am_st, am_g, List.length_cons, List.length_nil, Nat.reduceAdd, Nat.reduceLT, Nat.zero_add, if_true, if_false, and_self, true_or, or_true, true_and, and_true, not_true_eq_false, not_false_eq_true, reduceCtorEq, eq_self, Option.toList_some, Option.toList_none, List.cons_append, List.nil_append, Bool.false_eq_true, m0, hn, e1]
            refine am_CL_of q1 ?_
            simp only [am_R_eq, cx_128, en_128, rt_128, rx_aload_n, rx_getfield, ev_gf, rx_goto, rx_iaload, rx_iconst, rx_icmp_ge, rx_icmp_le, rx_icmp_ne, rx_if_eq, rx_if_lt, rx_iinc, ev_inc, rx_iload, rx_iload_n, rx_invv, ev_cv, rx_ireturn, rx_istore, kl_129, kl_131, ev_K, ev_pI, ev_pR, ev_pVi, ev_pVr, ev_sI, ev_sR, ev_KC, ev_k, ev_ko, ev_pop0, ev_pops, am_ld, am_sv, am_at, am_st, am_g, List.length_cons, List.length_nil, Nat.reduceAdd, Nat.reduceLT, Nat.zero_add, if_true, if_false, and_self, true_or, or_true, true_and, and_true, not_true_eq_false, not_false_eq_true, reduceCtorEq, eq_self, Option.toList_some, Option.toList_none, List.cons_append, List.nil_append, Bool.false_eq_true, i_10, m0, k0, ix, c2]
            refine am_CL_of q2 ?_
            simp only [am_R_eq, cx_128, en_128, rt_128, rx_aload_n, rx_getfield, ev_gf, rx_goto, rx_iaload, rx_iconst, rx_icmp_ge, rx_icmp_le, rx_icmp_ne, rx_if_eq, rx_if_lt, rx_iinc, ev_inc, rx_iload, rx_iload_n, rx_invv, ev_cv, rx_ireturn, rx_istore, kl_129, kl_131, ev_K, ev_pI, ev_pR, ev_pVi, ev_pVr, ev_sI, ev_sR, ev_KC, ev_k, ev_ko, ev_pop0, ev_pops, am_ld, am_sv, am_at, am_st, am_g, List.length_cons, List.length_nil, Nat.reduceAdd, Nat.reduceLT, Nat.zero_add, if_true, if_false, and_self, true_or, or_true, true_and, and_true, not_true_eq_false, not_false_eq_true, reduceCtorEq, eq_self, Option.toList_some, Option.toList_none, List.cons_append, List.nil_append, Bool.false_eq_true, i_10, m0, k1, ix, ib, nb, c4, m_oi, nI_ofs]
            exact i1
          · rw [m_arg_K _ _ hP ho hq, am_R_eq] at i1
            have c4 : F 1 e ≤ F 1 b := by
              unfold m_hi at hq
              rw [Bool.not_eq_true', decide_eq_false_iff_not] at hq
              exact Classical.not_not.mp hq
            rw [am_R_eq, cxh_128_6]
            simp only [am_R_eq, cx_128, en_128, rt_128, rx_aload_n, rx_getfield, ev_gf, rx_goto, rx_iaload, rx_iconst, rx_icmp_ge, rx_icmp_le, rx_icmp_ne, rx_if_eq, rx_if_lt, rx_iinc, ev_inc, rx_iload, rx_iload_n, rx_invv, ev_cv, rx_ireturn, rx_istore, kl_129, kl_131, ev_K, ev_pI, ev_pR, ev_pVi, ev_pVr, ev_sI, ev_sR, ev_KC, ev_k, ev_ko, ev_pop0, ev_pops, am_ld, am_sv, am_at, am_st, am_g, List.length_cons, List.length_nil, Nat.reduceAdd, Nat.reduceLT, Nat.zero_add, if_true, if_false, and_self, true_or, or_true, true_and, and_true, not_true_eq_false, not_false_eq_true, reduceCtorEq, eq_self, Option.toList_some, Option.toList_none, List.cons_append, List.nil_append, Bool.false_eq_true, m0, hn, e1]
            refine am_CL_of q1 ?_
            simp only [am_R_eq, cx_128, en_128, rt_128, rx_aload_n, rx_getfield, ev_gf, rx_goto, rx_iaload, rx_iconst, rx_icmp_ge, rx_icmp_le, rx_icmp_ne, rx_if_eq, rx_if_lt, rx_iinc, ev_inc, rx_iload, rx_iload_n, rx_invv, ev_cv, rx_ireturn, rx_istore, kl_129, kl_131, ev_K, ev_pI, ev_pR, ev_pVi, ev_pVr, ev_sI, ev_sR, ev_KC, ev_k, ev_ko, ev_pop0, ev_pops, am_ld, am_sv, am_at, am_st, am_g, List.length_cons, List.length_nil, Nat.reduceAdd, Nat.reduceLT, Nat.zero_add, if_true, if_false, and_self, true_or, or_true, true_and, and_true, not_true_eq_false, not_false_eq_true, reduceCtorEq, eq_self, Option.toList_some, Option.toList_none, List.cons_append, List.nil_append, Bool.false_eq_true, i_10, m0, k0, ix, c2]
            refine am_CL_of q2 ?_
            simp only [am_R_eq, cx_128, en_128, rt_128, rx_aload_n, rx_getfield, ev_gf, rx_goto, rx_iaload, rx_iconst, rx_icmp_ge, rx_icmp_le, rx_icmp_ne, rx_if_eq, rx_if_lt, rx_iinc, ev_inc, rx_iload, rx_iload_n, rx_invv, ev_cv, rx_ireturn, rx_istore, kl_129, kl_131, ev_K, ev_pI, ev_pR, ev_pVi, ev_pVr, ev_sI, ev_sR, ev_KC, ev_k, ev_ko, ev_pop0, ev_pops, am_ld, am_sv, am_at, am_st, am_g, List.length_cons, List.length_nil, Nat.reduceAdd, Nat.reduceLT, Nat.zero_add, if_true, if_false, and_self, true_or, or_true, true_and, and_true, not_true_eq_false, not_false_eq_true, reduceCtorEq, eq_self, Option.toList_some, Option.toList_none, List.cons_append, List.nil_append, Bool.false_eq_true, i_10, m0, k1, ix, ib, nb, c4, m_oi, nI_ofs]
            exact i1
      · have i1 := ih (e + 1) (some (.int 0)) (by omega)
        rw [m_arg_F _ _ hP, am_R_eq] at i1
        by_cases c1 : m_li F (w 2) l k e = true
        · rw [if_pos c1] at q1
          by_cases c2 : F 0 e = key
          · have c3 : ¬ m_sn F s e = true := by
              intro q
              apply hP
              unfold m_laP
              simp [c1, c2, q]
            rw [if_neg c3] at q2
            rw [am_R_eq, cxh_128_6]
            simp only [am_R_eq, cx_128, en_128, rt_128, rx_aload_n, rx_getfield, ev_gf, rx_goto, rx_iaload, rx_iconst, rx_icmp_ge, rx_icmp_le, rx_icmp_ne, rx_if_eq, rx_if_lt, rx_iinc, ev_inc, rx_iload, rx_iload_n, rx_invv, ev_cv, rx_ireturn, rx_istore, kl_129, kl_131, ev_K, ev_pI, ev_pR, ev_pVi, ev_pVr, ev_sI, ev_sR, ev_KC, ev_k, ev_ko, ev_pop0, ev_pops, am_ld, am_sv, am_at, am_st, am_g, List.length_cons, List.length_nil, Nat.reduceAdd, Nat.reduceLT, Nat.zero_add, if_true, if_false, and_self, true_or, or_true, true_and, and_true, not_true_eq_false, not_false_eq_true, reduceCtorEq, eq_self, Option.toList_some, Option.toList_none, List.cons_append, List.nil_append, Bool.false_eq_true, m0, hn, e1]
            refine am_CL_of q1 ?_
            simp only [am_R_eq, cx_128, en_128, rt_128, rx_aload_n, rx_getfield, ev_gf, rx_goto, rx_iaload, rx_iconst, rx_icmp_ge, rx_icmp_le, rx_icmp_ne, rx_if_eq, rx_if_lt, rx_iinc, ev_inc, rx_iload, rx_iload_n, rx_invv, ev_cv, rx_ireturn, rx_istore, kl_129, kl_131, ev_K, ev_pI, ev_pR, ev_pVi, ev_pVr, ev_sI, ev_sR, ev_KC, ev_k, ev_ko, ev_pop0, ev_pops, am_ld, am_sv, am_at, am_st, am_g, List.length_cons, List.length_nil, Nat.reduceAdd, Nat.reduceLT, Nat.zero_add, if_true, if_false, and_self, true_or, or_true, true_and, and_true, not_true_eq_false, not_false_eq_true, reduceCtorEq, eq_self, Option.toList_some, Option.toList_none, List.cons_append, List.nil_append, Bool.false_eq_true, i_10, m0, k0, ix, c2]
            refine am_CL_of q2 ?_
            simp only [am_R_eq, cx_128, en_128, rt_128, rx_aload_n, rx_getfield, ev_gf, rx_goto, rx_iaload, rx_iconst, rx_icmp_ge, rx_icmp_le, rx_icmp_ne, rx_if_eq, rx_if_lt, rx_iinc, ev_inc, rx_iload, rx_iload_n, rx_invv, ev_cv, rx_ireturn, rx_istore, kl_129, kl_131, ev_K, ev_pI, ev_pR, ev_pVi, ev_pVr, ev_sI, ev_sR, ev_KC, ev_k, ev_ko, ev_pop0, ev_pops, am_ld, am_sv, am_at, am_st, am_g, List.length_cons, List.length_nil, Nat.reduceAdd, Nat.reduceLT, Nat.zero_add, if_true, if_false, and_self, true_or, or_true, true_and, and_true, not_true_eq_false, not_false_eq_true, reduceCtorEq, eq_self, Option.toList_some, Option.toList_none, List.cons_append, List.nil_append, Bool.false_eq_true, nI_ofs]
            exact i1
          · rw [am_R_eq, cxh_128_6]
            simp only [am_R_eq, cx_128, en_128, rt_128, rx_aload_n, rx_getfield, ev_gf, rx_goto, rx_iaload, rx_iconst, rx_icmp_ge, rx_icmp_le, rx_icmp_ne, rx_if_eq, rx_if_lt, rx_iinc, ev_inc, rx_iload, rx_iload_n, rx_invv, ev_cv, rx_ireturn, rx_istore, kl_129, kl_131, ev_K, ev_pI, ev_pR, ev_pVi, ev_pVr, ev_sI, ev_sR, ev_KC, ev_k, ev_ko, ev_pop0, ev_pops, am_ld, am_sv, am_at, am_st, am_g, List.length_cons, List.length_nil, Nat.reduceAdd, Nat.reduceLT, Nat.zero_add, if_true, if_false, and_self, true_or, or_true, true_and, and_true, not_true_eq_false, not_false_eq_true, reduceCtorEq, eq_self, Option.toList_some, Option.toList_none, List.cons_append, List.nil_append, Bool.false_eq_true, m0, hn, e1]
            refine am_CL_of q1 ?_
            simp only [am_R_eq, cx_128, en_128, rt_128, rx_aload_n, rx_getfield, ev_gf, rx_goto, rx_iaload, rx_iconst, rx_icmp_ge, rx_icmp_le, rx_icmp_ne, rx_if_eq, rx_if_lt, rx_iinc, ev_inc, rx_iload, rx_iload_n, rx_invv, ev_cv, rx_ireturn, rx_istore, kl_129, kl_131, ev_K, ev_pI, ev_pR, ev_pVi, ev_pVr, ev_sI, ev_sR, ev_KC, ev_k, ev_ko, ev_pop0, ev_pops, am_ld, am_sv, am_at, am_st, am_g, List.length_cons, List.length_nil, Nat.reduceAdd, Nat.reduceLT, Nat.zero_add, if_true, if_false, and_self, true_or, or_true, true_and, and_true, not_true_eq_false, not_false_eq_true, reduceCtorEq, eq_self, Option.toList_some, Option.toList_none, List.cons_append, List.nil_append, Bool.false_eq_true, i_10, m0, k0, ix, c2, nI_ofs]
            exact i1
        · rw [if_neg c1] at q1
          rw [am_R_eq, cxh_128_6]
          simp only [am_R_eq, cx_128, en_128, rt_128, rx_aload_n, rx_getfield, ev_gf, rx_goto, rx_iaload, rx_iconst, rx_icmp_ge, rx_icmp_le, rx_icmp_ne, rx_if_eq, rx_if_lt, rx_iinc, ev_inc, rx_iload, rx_iload_n, rx_invv, ev_cv, rx_ireturn, rx_istore, kl_129, kl_131, ev_K, ev_pI, ev_pR, ev_pVi, ev_pVr, ev_sI, ev_sR, ev_KC, ev_k, ev_ko, ev_pop0, ev_pops, am_ld, am_sv, am_at, am_st, am_g, List.length_cons, List.length_nil, Nat.reduceAdd, Nat.reduceLT, Nat.zero_add, if_true, if_false, and_self, true_or, or_true, true_and, and_true, not_true_eq_false, not_false_eq_true, reduceCtorEq, eq_self, Option.toList_some, Option.toList_none, List.cons_append, List.nil_append, Bool.false_eq_true, m0, hn, e1]
          refine am_CL_of q1 ?_
          simp only [am_R_eq, cx_128, en_128, rt_128, rx_aload_n, rx_getfield, ev_gf, rx_goto, rx_iaload, rx_iconst, rx_icmp_ge, rx_icmp_le, rx_icmp_ne, rx_if_eq, rx_if_lt, rx_iinc, ev_inc, rx_iload, rx_iload_n, rx_invv, ev_cv, rx_ireturn, rx_istore, kl_129, kl_131, ev_K, ev_pI, ev_pR, ev_pVi, ev_pVr, ev_sI, ev_sR, ev_KC, ev_k, ev_ko, ev_pop0, ev_pops, am_ld, am_sv, am_at, am_st, am_g, List.length_cons, List.length_nil, Nat.reduceAdd, Nat.reduceLT, Nat.zero_add, if_true, if_false, and_self, true_or, or_true, true_and, and_true, not_true_eq_false, not_false_eq_true, reduceCtorEq, eq_self, Option.toList_some, Option.toList_none, List.cons_append, List.nil_append, Bool.false_eq_true, nI_ofs]
          exact i1
  have i1 := loop n 0 none rfl
  rw [am_R_eq] at i1
  have z0 : nI 0 = 0 := rfl
  have z1 : m_oi (m_arg (m_laP F (w 2) l k s key) (m_hi F) 0) = -1 := rfl
  rw [z1, z0] at i1
  rw [am_M_eq]
  simp only [am_R_eq, cx_128, en_128, rt_128, rx_aload_n, rx_getfield, ev_gf, rx_goto, rx_iaload, rx_iconst, rx_icmp_ge, rx_icmp_le, rx_icmp_ne, rx_if_eq, rx_if_lt, rx_iinc, ev_inc, rx_iload, rx_iload_n, rx_invv, ev_cv, rx_ireturn, rx_istore, kl_129, kl_131, ev_K, ev_pI, ev_pR, ev_pVi, ev_pVr, ev_sI, ev_sR, ev_KC, ev_k, ev_ko, ev_pop0, ev_pops, am_ld, am_sv, am_at, am_st, am_g, List.length_cons, List.length_nil, Nat.reduceAdd, Nat.reduceLT, Nat.zero_add, if_true, if_false, and_self, true_or, or_true, true_and, and_true, not_true_eq_false, not_false_eq_true, reduceCtorEq, eq_self, Option.toList_some, Option.toList_none, List.cons_append, List.nil_append, Bool.false_eq_true]
  exact i1
end NF
