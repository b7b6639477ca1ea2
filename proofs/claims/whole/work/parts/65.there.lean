section NI0
variable {z : Nat} {h : am_H} {x : Nat} {A : Nat → Nat} {w : Nat → Int32} {F : Nat → Nat → Int32}
def m_thP (F : Nat → Nat → Int32) (s key : Int32) (e : Nat) : Bool := !decide (F 5 e = 9) && (decide (F 0 e = key) && m_sn F s e)
def m_th (F : Nat → Nat → Int32) (t : Int32) (n : Nat) (s key : Int32) : Bool := match m_arg (m_thP F s key) (m_hi F) n with
  | none => false
  | some e => !m_gone F t e
theorem mo_there (d : Nat) {n : Nat} {s key : Int32} (hn : w 1 = nI n) (hb : n ≤ 520) (hs : s < 0 ∨ ∃ j, j < 3 ∧ s = nI j) (hM : vs_M z h x A w F) : am_M z (d + 1 + 1) 138 [.ref x, .int s, .int key] h (some (.int (if m_th F (w 0) n s key = true then 1 else 0))) h := by
  have m0 := hM.ob
  have k0 : h.1 (A 0) = some (.inl (0, 520, .inl (F 0))) := hM.ar 0 (by omega)
  have k1 : h.1 (A 1) = some (.inl (0, 520, .inl (F 1))) := hM.ar 1 (by omega)
  have k5 : h.1 (A 5) = some (.inl (0, 520, .inl (F 5))) := hM.ar 5 (by omega)
  have loop : ∀ m e (v5 : Option Value), m + e = n → am_R z (d + 1) 138 5 [some (.ref x), some (.int s), some (.int key), some (.int (m_oi (m_arg (m_thP F s key) (m_hi F) e))), some (.int (nI e)), v5] [] h (some (.int (if m_th F (w 0) n s key = true then 1 else 0))) h := by
    intro m
    induction m with
    | zero =>
      intro e v5 hk
      have hkn : e = n := by omega
      subst hkn
      have e1 : nI e ≤ nI e := nI_le (Nat.le_refl _) (by omega)
      unfold m_th
      cases ho : m_arg (m_thP F s key) (m_hi F) e with
      | none =>
        rw [am_R_eq, cxh_138_5]
        simp only [am_R_eq, cx_138, en_138, rt_138, rx_aload_n, rx_bipush, rx_getfield, ev_gf, rx_goto, rx_iaload, rx_iconst, rx_icmp_eq, rx_icmp_ge, rx_icmp_le, rx_icmp_ne, rx_if_eq, rx_if_lt, rx_if_ne, rx_iinc, ev_inc, rx_iload, rx_iload_n, rx_invv, ev_cv, rx_ireturn, rx_istore, rx_istore_n, kl_107, kl_131, ev_K, ev_pI, ev_pR, ev_pVi, ev_pVr, ev_sI, ev_sR, ev_KC, ev_k, ev_ko, ev_pop0, ev_pops, am_ld, am_sv, am_at, am_st, am_g, List.length_cons, List.length_nil, Nat.reduceAdd, Nat.reduceLT, Nat.zero_add, if_true, if_false, and_self, true_or, or_true, true_and, and_true, not_true_eq_false, not_false_eq_true, reduceCtorEq, eq_self, Option.toList_some, Option.toList_none, List.cons_append, List.nil_append, Bool.false_eq_true, m0, hn, e1, m_oi, m1_neg, b00, decide_true, decide_false, Bool.not_true, Bool.not_false, Bool.or_false, Bool.false_or, Bool.true_or, Bool.or_true, Bool.and_false, Bool.false_and, Bool.true_and, Bool.and_true, Bool.and_self]
      | some b =>
        have hlt := (m_arg_lt _ _ _ _ ho).1
        have nb : ¬ nI b < 0 := nI_pos (by omega)
        have q3 := mo_gone d (e := b) (by omega) hM
        by_cases c1 : m_gone F (w 0) b = true
        · rw [if_pos c1] at q3
          rw [am_R_eq, cxh_138_5]
          simp only [am_R_eq, cx_138, en_138, rt_138, rx_aload_n, rx_bipush, rx_getfield, ev_gf, rx_goto, rx_iaload, rx_iconst, rx_icmp_eq, rx_icmp_ge, rx_icmp_le, rx_icmp_ne, rx_if_eq, rx_if_lt, rx_if_ne, rx_iinc, ev_inc, rx_iload, rx_iload_n, rx_invv, ev_cv, rx_ireturn, rx_istore, rx_istore_n, kl_107, kl_131, ev_K, ev_pI, ev_pR, ev_pVi, ev_pVr, ev_sI, ev_sR, ev_KC, ev_k, ev_ko, ev_pop0, ev_pops, am_ld, am_sv, am_at, am_st, am_g, List.length_cons, List.length_nil, Nat.reduceAdd, Nat.reduceLT, Nat.zero_add, if_true, if_false, and_self, true_or, or_true, true_and, and_true, not_true_eq_false, not_false_eq_true, reduceCtorEq, eq_self, Option.toList_some, Option.toList_none, List.cons_append, List.nil_append, Bool.false_eq_true, m0, hn, e1, m_oi, nb]
          refine am_CL_of q3 ?_
          simp only [am_R_eq, cx_138, en_138, rt_138, rx_aload_n, rx_bipush, rx_getfield, ev_gf, rx_goto, rx_iaload, rx_iconst, rx_icmp_eq, rx_icmp_ge, rx_icmp_le, rx_icmp_ne, rx_if_eq, rx_if_lt, rx_if_ne, rx_iinc, ev_inc, rx_iload, rx_iload_n, rx_invv, ev_cv, rx_ireturn, rx_istore, rx_istore_n, kl_107, kl_131, ev_K, ev_pI, ev_pR, ev_pVi, ev_pVr, ev_sI, ev_sR, ev_KC, ev_k, ev_ko, ev_pop0, ev_pops, am_ld, am_sv, am_at, am_st, am_g, List.length_cons, List.length_nil, Nat.reduceAdd, Nat.reduceLT, Nat.zero_add, if_true, if_false, and_self, true_or, or_true, true_and, and_true, not_true_eq_false, not_false_eq_true, reduceCtorEq, eq_self, Option.toList_some, Option.toList_none, List.cons_append, List.nil_append, Bool.false_eq_true, i_10, c1, b00, decide_true, decide_false, Bool.not_true, Bool.not_false, Bool.or_false, Bool.false_or, Bool.true_or, Bool.or_true, Bool.and_false, Bool.false_and, Bool.true_and, Bool.and_true, Bool.and_self]
        · rw [if_neg c1] at q3
          have c1' : m_gone F (w 0) b = false := by simpa using c1
          rw [am_R_eq, cxh_138_5]
          simp only [am_R_eq, cx_138, en_138, rt_138, rx_aload_n, rx_bipush, rx_getfield, ev_gf, rx_goto, rx_iaload, rx_iconst, rx_icmp_eq, rx_icmp_ge, rx_icmp_le, rx_icmp_ne, rx_if_eq, rx_if_lt, rx_if_ne, rx_iinc, ev_inc, rx_iload, rx_iload_n, rx_invv, ev_cv, rx_ireturn, rx_istore, rx_istore_n, kl_107, kl_131, ev_K, ev_pI, ev_pR, ev_pVi, ev_pVr, ev_sI, ev_sR, ev_KC, ev_k, ev_ko, ev_pop0, ev_pops, am_ld, am_sv, am_at, am_st, am_g, List.length_cons, List.length_nil, Nat.reduceAdd, Nat.reduceLT, Nat.zero_add, if_true, if_false, and_self, true_or, or_true, true_and, and_true, not_true_eq_false, not_false_eq_true, reduceCtorEq, eq_self, Option.toList_some, Option.toList_none, List.cons_append, List.nil_append, Bool.false_eq_true, m0, hn, e1, m_oi, nb]
          refine am_CL_of q3 ?_
          simp only [am_R_eq, cx_138, en_138, rt_138, rx_aload_n, rx_bipush, rx_getfield, ev_gf, rx_goto, rx_iaload, rx_iconst, rx_icmp_eq, rx_icmp_ge, rx_icmp_le, rx_icmp_ne, rx_if_eq, rx_if_lt, rx_if_ne, rx_iinc, ev_inc, rx_iload, rx_iload_n, rx_invv, ev_cv, rx_ireturn, rx_istore, rx_istore_n, kl_107, kl_131, ev_K, ev_pI, ev_pR, ev_pVi, ev_pVr, ev_sI, ev_sR, ev_KC, ev_k, ev_ko, ev_pop0, ev_pops, am_ld, am_sv, am_at, am_st, am_g, List.length_cons, List.length_nil, Nat.reduceAdd, Nat.reduceLT, Nat.zero_add, if_true, if_false, and_self, true_or, or_true, true_and, and_true, not_true_eq_false, not_false_eq_true, reduceCtorEq, eq_self, Option.toList_some, Option.toList_none, List.cons_append, List.nil_append, Bool.false_eq_true, c1', b11, decide_true, decide_false, Bool.not_true, Bool.not_false, Bool.or_false, Bool.false_or, Bool.true_or, Bool.or_true, Bool.and_false, Bool.false_and, Bool.true_and, Bool.and_true, Bool.and_self]
    | succ m ih =>
      intro e v5 hk
      have e1 : ¬ nI n ≤ nI e := nI_ge (by omega) (by omega)
      have ix := m_ix (k := e) (by omega)
      have q2 := mo_isSeen d (e := e) (s := s) (by omega) hs hM
      by_cases hP : m_thP F s key e = true
      · have i1 := ih (e + 1) (some (.int 1)) (by omega)
        have hQ := hP
        unfold m_thP at hQ
        rw [Bool.and_eq_true, Bool.and_eq_true, Bool.not_eq_true', decide_eq_false_iff_not, decide_eq_true_iff] at hQ
        obtain ⟨c1, c2, c3⟩ := hQ
        rw [if_pos c3] at q2
        cases ho : m_arg (m_thP F s key) (m_hi F) e with
        | none =>
          rw [m_arg_N _ _ hP ho, am_R_eq] at i1
          rw [am_R_eq, cxh_138_5]
          simp only [am_R_eq, cx_138, en_138, rt_138, rx_aload_n, rx_bipush, rx_getfield, ev_gf, rx_goto, rx_iaload, rx_iconst, rx_icmp_eq, rx_icmp_ge, rx_icmp_le, rx_icmp_ne, rx_if_eq, rx_if_lt, rx_if_ne, rx_iinc, ev_inc, rx_iload, rx_iload_n, rx_invv, ev_cv, rx_ireturn, rx_istore, rx_istore_n, kl_107, kl_131, ev_K, ev_pI, ev_pR, ev_pVi, ev_pVr, ev_sI, ev_sR, ev_KC, ev_k, ev_ko, ev_pop0, ev_pops, am_ld, am_sv, am_at, am_st, am_g, List.length_cons, List.length_nil, Nat.reduceAdd, Nat.reduceLT, Nat.zero_add, if_true, if_false, and_self, true_or, or_true, true_and, and_true, not_true_eq_false, not_false_eq_true, reduceCtorEq, eq_self, Option.toList_some, Option.toList_none, List.cons_append, List.nil_append, Bool.false_eq_true, m0, hn, e1, k0, k5, ix, c1, c2]
          refine am_CL_of q2 ?_
          simp only [am_R_eq, cx_138, en_138, rt_138, rx_aload_n, rx_bipush, rx_getfield, ev_gf, rx_goto, rx_iaload, rx_iconst, rx_icmp_eq, rx_icmp_ge, rx_icmp_le, rx_icmp_ne, rx_if_eq, rx_if_lt, rx_if_ne, rx_iinc, ev_inc, rx_iload, rx_iload_n, rx_invv, ev_cv, rx_ireturn, rx_istore, rx_istore_n, kl_107, kl_131, ev_K, ev_pI, ev_pR, ev_pVi, ev_pVr, ev_sI, ev_sR, ev_KC, ev_k, ev_ko, ev_pop0, ev_pops, am_ld, am_sv, am_at, am_st, am_g, List.length_cons, List.length_nil, Nat.reduceAdd, Nat.reduceLT, Nat.zero_add, if_true, if_false, and_self, true_or, or_true, true_and, and_true, not_true_eq_false, not_false_eq_true, reduceCtorEq, eq_self, Option.toList_some, Option.toList_none, List.cons_append, List.nil_append, Bool.false_eq_true, i_10, m_oi, m1_neg, nI_ofs]
          exact i1
        | some b =>
          have hlt := (m_arg_lt _ _ _ _ ho).1
          have ib := m_ix (k := b) (by omega)
          have nb : ¬ nI b < 0 := nI_pos (by omega)
          by_cases hq : m_hi F e b = true
          · rw [m_arg_B _ _ hP ho hq, am_R_eq] at i1
            have c4 : ¬ F 1 e ≤ F 1 b := by
              unfold m_hi at hq
              rw [Bool.not_eq_true', decide_eq_false_iff_not] at hq
              exact hq
            rw [am_R_eq, cxh_138_5]
            simp only [am_R_eq, cx_138, en_138, rt_138, rx_aload_n, rx_bipush, rx_getfield, ev_gf, rx_goto, rx_iaload, rx_iconst, rx_icmp_eq, rx_icmp_ge, rx_icmp_le, rx_icmp_ne, rx_if_eq, rx_if_lt, rx_if_ne, rx_iinc, ev_inc, rx_iload, rx_iload_n, rx_invv, ev_cv, rx_ireturn, rx_istore, rx_istore_n, kl_107, kl_131, ev_K, ev_pI, ev_pR, ev_pVi, ev_pVr, ev_sI, ev_sR, ev_KC, ev_k, ev_ko, ev_pop0, ev_pops, am_ld, am_sv, am_at, am_st, am_g, List.length_cons, List.length_nil, Nat.reduceAdd, Nat.reduceLT, Nat.zero_add, if_true, if_false, and_self, true_or, or_true, true_and, and_true, not_true_eq_false, not_false_eq_true, reduceCtorEq, eq_self, Option.toList_some, Option.toList_none, List.cons_append, List.nil_append, Bool.false_eq_true, m0, hn, e1, k0, k5, ix, c1, c2]
            refine am_CL_of q2 ?_
            simp only [am_R_eq, cx_138, en_138, rt_138, rx_aload_n, rx_bipush, rx_getfield, ev_gf, rx_goto, rx_iaload, rx_iconst, rx_icmp_eq, rx_icmp_ge, rx_icmp_le, rx_icmp_ne, rx_if_eq, rx_if_lt, rx_if_ne, rx_iinc, ev_inc, rx_iload, rx_iload_n, rx_invv, ev_cv, rx_ireturn, rx_istore, rx_istore_n, kl_107, kl_131, ev_K, ev_pI, ev_pR, ev_pVi, ev_pVr, ev_sI, ev_sR, ev_KC, ev_k, ev_ko, ev_pop0, ev_pops, am_ld, am_sv, am_at, am_st, am_g, List.length_cons, List.length_nil, Nat.reduceAdd, Nat.reduceLT, Nat.zero_add, if_true, if_false, and_self, true_or, or_true, true_and, and_true, not_true_eq_false, not_false_eq_true, reduceCtorEq, eq_self, Option.toList_some, Option.toList_none, List.cons_append, List.nil_append, Bool.false_eq_true, i_10, m0, k1, ix, ib, nb, c4, m_oi, nI_ofs]
            exact i1
          · rw [m_arg_K _ _ hP ho hq, am_R_eq] at i1
            have c4 : F 1 e ≤ F 1 b := by
              unfold m_hi at hq
              rw [Bool.not_eq_true', decide_eq_false_iff_not] at hq
              exact Classical.not_not.mp hq
            rw [am_R_eq, cxh_138_5]
            simp only [am_R_eq, cx_138, en_138, rt_138, rx_aload_n, rx_bipush, rx_getfield, ev_gf, rx_goto, rx_iaload, rx_iconst, rx_icmp_eq, rx_icmp_ge, rx_icmp_le, rx_icmp_ne, rx_if_eq, rx_if_lt, rx_if_ne, rx_iinc, ev_inc, rx_iload, rx_iload_n, rx_invv, ev_cv, rx_ireturn, rx_istore, rx_istore_n, kl_107, kl_131, ev_K, ev_pI, ev_pR, ev_pVi, ev_pVr, ev_sI, ev_sR, ev_KC, ev_k, ev_ko, ev_pop0, ev_pops, am_ld, am_sv, am_at, am_st, am_g, List.length_cons, List.length_nil, Nat.reduceAdd, Nat.reduceLT, Nat.zero_add, if_true, if_false, and_self, true_or, or_true, true_and, and_true, not_true_eq_false, not_false_eq_true, reduceCtorEq, eq_self, Option.toList_some, Option.toList_none, List.cons_append, List.nil_append, Bool.false_eq_true, m0, hn, e1, k0, k5, ix, c1, c2]
            refine am_CL_of q2 ?_
            simp only [am_R_eq, cx_138, en_138, rt_138, rx_aload_n, rx_bipush, rx_getfield, ev_gf, rx_goto, rx_iaload, rx_iconst, rx_icmp_eq, rx_icmp_ge, rx_icmp_le, rx_icmp_ne, rx_if_eq, rx_if_lt, rx_if_ne, rx_iinc, ev_inc, rx_iload, rx_iload_n, rx_invv, ev_cv, rx_ireturn, rx_istore, rx_istore_n, kl_107, kl_131, ev_K, ev_pI, ev_pR, ev_pVi, ev_pVr, ev_sI, ev_sR, ev_KC, ev_k, ev_ko, ev_pop0, ev_pops, am_ld, am_sv, am_at, am_st, am_g, List.length_cons, List.length_nil, Nat.reduceAdd, Nat.reduceLT, Nat.zero_add, if_true, if_false, and_self, true_or, or_true, true_and, and_true, not_true_eq_false, not_false_eq_true, reduceCtorEq, eq_self, Option.toList_some, Option.toList_none, List.cons_append, List.nil_append, Bool.false_eq_true, i_10, m0, k1, ix, ib, nb, c4, m_oi, nI_ofs]
            exact i1
      · have i1 := ih (e + 1) (some (.int 0)) (by omega)
        rw [m_arg_F _ _ hP, am_R_eq] at i1
        by_cases c1 : F 5 e = 9
        · rw [am_R_eq, cxh_138_5]
          simp only [am_R_eq, cx_138, en_138, rt_138, rx_aload_n, rx_bipush, rx_getfield, ev_gf, rx_goto, rx_iaload, rx_iconst, rx_icmp_eq, rx_icmp_ge, rx_icmp_le, rx_icmp_ne, rx_if_eq, rx_if_lt, rx_if_ne, rx_iinc, ev_inc, rx_iload, rx_iload_n, rx_invv, ev_cv, rx_ireturn, rx_istore, rx_istore_n, kl_107, kl_131, ev_K, ev_pI, ev_pR, ev_pVi, ev_pVr, ev_sI, ev_sR, ev_KC, ev_k, ev_ko, ev_pop0, ev_pops, am_ld, am_sv, am_at, am_st, am_g, List.length_cons, List.length_nil, Nat.reduceAdd, Nat.reduceLT, Nat.zero_add, if_true, if_false, and_self, true_or, or_true, true_and, and_true, not_true_eq_false, not_false_eq_true, reduceCtorEq, eq_self, Option.toList_some, Option.toList_none, List.cons_append, List.nil_append, Bool.false_eq_true, m0, hn, e1, k0, k5, ix, c1, nI_ofs]
          exact i1
        · by_cases c2 : F 0 e = key
          · have c3 : ¬ m_sn F s e = true := by
              intro q
              apply hP
              unfold m_thP
              simp [c1, c2, q]
            rw [if_neg c3] at q2
            rw [am_R_eq, cxh_138_5]
            simp only [am_R_eq, cx_138, en_138, rt_138, rx_aload_n, rx_bipush, rx_getfield, ev_gf, rx_goto, rx_iaload, rx_iconst, rx_icmp_eq, rx_icmp_ge, rx_icmp_le, rx_icmp_ne, rx_if_eq, rx_if_lt, rx_if_ne, rx_iinc, ev_inc, rx_iload, rx_iload_n, rx_invv, ev_cv, rx_ireturn, rx_istore, rx_istore_n, kl_107, kl_131, ev_K, ev_pI, ev_pR, ev_pVi, ev_pVr, ev_sI, ev_sR, ev_KC, ev_k, ev_ko, ev_pop0, ev_pops, am_ld, am_sv, am_at, am_st, am_g, List.length_cons, List.length_nil, Nat.reduceAdd, Nat.reduceLT, Nat.zero_add, if_true, if_false, and_self, true_or, or_true, true_and, and_true, not_true_eq_false, not_false_eq_true, reduceCtorEq, eq_self, Option.toList_some, Option.toList_none, List.cons_append, List.nil_append, Bool.false_eq_true, m0, hn, e1, k0, k5, ix, c1, c2]
            refine am_CL_of q2 ?_
            simp only [am_R_eq, cx_138, en_138, rt_138, rx_aload_n, rx_bipush, rx_getfield, ev_gf, rx_goto, rx_iaload, rx_iconst, rx_icmp_eq, rx_icmp_ge, rx_icmp_le, rx_icmp_ne, rx_if_eq, rx_if_lt, rx_if_ne, rx_iinc, ev_inc, rx_iload, rx_iload_n, rx_invv, ev_cv, rx_ireturn, rx_istore, rx_istore_n, kl_107, kl_131, ev_K, ev_pI, ev_pR, ev_pVi, ev_pVr, ev_sI, ev_sR, ev_KC, ev_k, ev_ko, ev_pop0, ev_pops, am_ld, am_sv, am_at, am_st, am_g, List.length_cons, List.length_nil, Nat.reduceAdd, Nat.reduceLT, Nat.zero_add, if_true, if_false, and_self, true_or, or_true, true_and, and_true, not_true_eq_false, not_false_eq_true, reduceCtorEq, eq_self, Option.toList_some, Option.toList_none, List.cons_append, List.nil_append, Bool.false_eq_true, nI_ofs]
            exact i1
          · rw [am_R_eq, cxh_138_5]
            simp only [am_R_eq, cx_138, en_138, rt_138, rx_aload_n, rx_bipush, rx_getfield, ev_gf, rx_goto, rx_iaload, rx_iconst, rx_icmp_eq, rx_icmp_ge, rx_icmp_le, rx_icmp_ne, rx_if_eq, rx_if_lt, rx_if_ne, rx_iinc, ev_inc, rx_iload, rx_iload_n, rx_invv, ev_cv, rx_ireturn, rx_istore, rx_istore_n, kl_107, kl_131, ev_K, ev_pI, ev_pR, ev_pVi, ev_pVr, ev_sI, ev_sR, ev_KC, ev_k, ev_ko, ev_pop0, ev_pops, am_ld, am_sv, am_at, am_st, am_g, List.length_cons, List.length_nil, Nat.reduceAdd, Nat.reduceLT, Nat.zero_add, if_true, if_false, and_self, true_or, or_true, true_and, and_true, not_true_eq_false, not_false_eq_true, reduceCtorEq, eq_self, Option.toList_some, Option.toList_none, List.cons_append, List.nil_append, Bool.false_eq_true, m0, hn, e1, k0, k5, ix, c1, c2, nI_ofs]
            exact i1
  have i1 := loop n 0 none rfl
  rw [am_R_eq] at i1
  have z0 : nI 0 = 0 := rfl
  have z1 : m_oi (m_arg (m_thP F s key) (m_hi F) 0) = -1 := rfl
  rw [z1, z0] at i1
  rw [am_M_eq]
  simp only [am_R_eq, cx_138, en_138, rt_138, rx_aload_n, rx_bipush, rx_getfield, ev_gf, rx_goto, rx_iaload, rx_iconst, rx_icmp_eq, rx_icmp_ge, rx_icmp_le, rx_icmp_ne, rx_if_eq, rx_if_lt, rx_if_ne, rx_iinc, ev_inc, rx_iload, rx_iload_n, rx_invv, ev_cv, rx_ireturn, rx_istore, rx_istore_n, kl_107, kl_131, ev_K, ev_pI, ev_pR, ev_pVi, ev_pVr, ev_sI, ev_sR, ev_KC, ev_k, ev_ko, ev_pop0, ev_pops, am_ld, am_sv, am_at, am_st, am_g, List.length_cons, List.length_nil, Nat.reduceAdd, Nat.reduceLT, Nat.zero_add, if_true, if_false, and_self, true_or, or_true, true_and, and_true, not_true_eq_false, not_false_eq_true, reduceCtorEq, eq_self, Option.toList_some, Option.toList_none, List.cons_append, List.nil_append, Bool.false_eq_true]
  exact i1
end NI0
