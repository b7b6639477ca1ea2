section NG
variable {z : Nat} {h : am_H} {x : Nat} {A : Nat → Nat} {w : Nat → Int32} {F : Nat → Nat → Int32}
def m_h1 (k : Int32) : Int32 := 1 <<< ((5 * k + 1 - (5 * k + 1) / 32 * 32) &&& 31)
def m_h2 (k : Int32) : Int32 := 1 <<< ((11 * k + 7 - (11 * k + 7) / 32 * 32) &&& 31)
def m_fi (P : Nat → Bool) (F : Nat → Nat → Int32) : Nat → Int32
  | 0 => 0
  | n + 1 => if P n = true then m_fi P F n ||| m_h1 (F 0 n) ||| m_h2 (F 0 n) else m_fi P F n
theorem mo_filter (d : Nat) {n : Nat} {l k : Int32} (hn : w 1 = nI n) (hb : n ≤ 520) (hM : vs_M z h x A w F) : am_M z (d + 1 + 1 + 1) 134 [.ref x, .int l, .int k] h (some (.int (m_fi (m_li F (w 2) l k) F n))) h := by
  have m0 := hM.ob
  have k0 : h.1 (A 0) = some (.inl (0, 520, .inl (F 0))) := hM.ar 0 (by omega)
  have loop : ∀ m e, m + e = n → am_R z (d + 1 + 1) 134 5 [some (.ref x), some (.int l), some (.int k), some (.int (m_fi (m_li F (w 2) l k) F e)), some (.int (nI e))] [] h (some (.int (m_fi (m_li F (w 2) l k) F n))) h := by
    intro m
    induction m with
    | zero =>
      intro e hk
      have hkn : e = n := by omega
      subst hkn
      have e1 : nI e ≤ nI e := nI_le (Nat.le_refl _) (by omega)
      rw [am_R_eq, cxh_134_5]
      simp only [am_R_eq, cx_134, en_134, rt_134, rx_aload_n, rx_bipush, rx_getfield, ev_gf, rx_goto, rx_iadd, rx_iaload, rx_iconst, rx_icmp_ge, rx_if_eq, rx_iinc, ev_inc, rx_iload, rx_iload_n, rx_imul, rx_invv, ev_cv, rx_ior, rx_irem, rx_ireturn, rx_ishl, rx_istore, rx_istore_n, kl_129, ev_K, ev_pI, ev_pR, ev_pVi, ev_pVr, ev_sI, ev_sR, ev_KC, ev_k, ev_ko, ev_pop0, ev_pops, am_ld, am_sv, am_at, am_st, am_g, List.length_cons, List.length_nil, Nat.reduceAdd, Nat.reduceLT, Nat.zero_add, if_true, if_false, and_self, true_or, or_true, true_and, and_true, not_true_eq_false, not_false_eq_true, reduceCtorEq, eq_self, Option.toList_some, Option.toList_none, List.cons_append, List.nil_append, Bool.false_eq_true, m0, hn, e1]
    | succ m ih =>
      intro e hk
      have e1 : ¬ nI n ≤ nI e := nI_ge (by omega) (by omega)
      have ix := m_ix (k := e) (by omega)
      have q1 := mo_lies d (e := e) (l := l) (k := k) (by omega) hM
      have i1 := ih (e + 1) (by omega)
      rw [m_fi, am_R_eq] at i1
      by_cases c1 : m_li F (w 2) l k e = true
      · rw [if_pos c1] at i1 q1
        rw [am_R_eq, cxh_134_5]
        simp only [am_R_eq, cx_134, en_134, rt_134, rx_aload_n, rx_bipush, rx_getfield, ev_gf, rx_goto, rx_iadd, rx_iaload, rx_iconst, rx_icmp_ge, rx_if_eq, rx_iinc, ev_inc, rx_iload, rx_iload_n, rx_imul, rx_invv, ev_cv, rx_ior, rx_irem, rx_ireturn, rx_ishl, rx_istore, rx_istore_n, kl_129, ev_K, ev_pI, ev_pR, ev_pVi, ev_pVr, ev_sI, ev_sR, ev_KC, ev_k, ev_ko, ev_pop0, ev_pops, am_ld, am_sv, am_at, am_st, am_g, List.length_cons, List.length_nil, Nat.reduceAdd, Nat.reduceLT, Nat.zero_add, if_true, if_false, and_self, true_or, or_true, true_and, and_true, not_true_eq_false, not_false_eq_true, reduceCtorEq, eq_self, Option.toList_some, Option.toList_none, List.cons_append, List.nil_append, Bool.false_eq_true, m0, hn, e1]
        refine am_CL_of q1 ?_
        simp only [am_R_eq, cx_134, en_134, rt_134, rx_aload_n, rx_bipush, rx_getfield, ev_gf, rx_goto, rx_iadd, rx_iaload, rx_iconst, rx_icmp_ge, rx_if_eq, rx_iinc, ev_inc, rx_iload, rx_iload_n, rx_imul, rx_invv, ev_cv, rx_ior, rx_irem, rx_ireturn, rx_ishl, rx_istore, rx_istore_n, kl_129, ev_K, ev_pI, ev_pR, ev_pVi, ev_pVr, ev_sI, ev_sR, ev_KC, ev_k, ev_ko, ev_pop0, ev_pops, am_ld, am_sv, am_at, am_st, am_g, List.length_cons, List.length_nil, Nat.reduceAdd, Nat.reduceLT, Nat.zero_add, if_true, if_false, and_self, true_or, or_true, true_and, and_true, not_true_eq_false, not_false_eq_true, reduceCtorEq, eq_self, Option.toList_some, Option.toList_none, List.cons_append, List.nil_append, Bool.false_eq_true, i_10, i_32, m0, k0, ix, nI_ofs]
        exact i1
      · rw [if_neg c1] at i1 q1
        rw [am_R_eq, cxh_134_5]
        simp only [am_R_eq, cx_134, en_134, rt_134, rx_aload_n, rx_bipush, rx_getfield, ev_gf, rx_goto, rx_iadd, rx_iaload, rx_iconst, rx_icmp_ge, rx_if_eq, rx_iinc, ev_inc, rx_iload, rx_iload_n, rx_imul, rx_invv, ev_cv, rx_ior, rx_irem, rx_ireturn, rx_ishl, rx_istore, rx_istore_n, kl_129, ev_K, ev_pI, ev_pR, ev_pVi, ev_pVr, ev_sI, ev_sR, ev_KC, ev_k, ev_ko, ev_pop0, ev_pops, am_ld, am_sv, am_at, am_st, am_g, List.length_cons, List.length_nil, Nat.reduceAdd, Nat.reduceLT, Nat.zero_add, if_true, if_false, and_self, true_or, or_true, true_and, and_true, not_true_eq_false, not_false_eq_true, reduceCtorEq, eq_self, Option.toList_some, Option.toList_none, List.cons_append, List.nil_append, Bool.false_eq_true, m0, hn, e1]
        refine am_CL_of q1 ?_
        simp only [am_R_eq, cx_134, en_134, rt_134, rx_aload_n, rx_bipush, rx_getfield, ev_gf, rx_goto, rx_iadd, rx_iaload, rx_iconst, rx_icmp_ge, rx_if_eq, rx_iinc, ev_inc, rx_iload, rx_iload_n, rx_imul, rx_invv, ev_cv, rx_ior, rx_irem, rx_ireturn, rx_ishl, rx_istore, rx_istore_n, kl_129, ev_K, ev_pI, ev_pR, ev_pVi, ev_pVr, ev_sI, ev_sR, ev_KC, ev_k, ev_ko, ev_pop0, ev_pops, am_ld, am_sv, am_at, am_st, am_g, List.length_cons, List.length_nil, Nat.reduceAdd, Nat.reduceLT, Nat.zero_add, if_true, if_false, and_self, true_or, or_true, true_and, and_true, not_true_eq_false, not_false_eq_true, reduceCtorEq, eq_self, Option.toList_some, Option.toList_none, List.cons_append, List.nil_append, Bool.false_eq_true, nI_ofs]
        exact i1
  have i1 := loop n 0 rfl
  rw [am_R_eq] at i1
  have z0 : nI 0 = 0 := rfl
  rw [m_fi, z0] at i1
  rw [am_M_eq]
  simp only [am_R_eq, cx_134, en_134, rt_134, rx_aload_n, rx_bipush, rx_getfield, ev_gf, rx_goto, rx_iadd, rx_iaload, rx_iconst, rx_icmp_ge, rx_if_eq, rx_iinc, ev_inc, rx_iload, rx_iload_n, rx_imul, rx_invv, ev_cv, rx_ior, rx_irem, rx_ireturn, rx_ishl, rx_istore, rx_istore_n, kl_129, ev_K, ev_pI, ev_pR, ev_pVi, ev_pVr, ev_sI, ev_sR, ev_KC, ev_k, ev_ko, ev_pop0, ev_pops, am_ld, am_sv, am_at, am_st, am_g, List.length_cons, List.length_nil, Nat.reduceAdd, Nat.reduceLT, Nat.zero_add, if_true, if_false, and_self, true_or, or_true, true_and, and_true, not_true_eq_false, not_false_eq_true, reduceCtorEq, eq_self, Option.toList_some, Option.toList_none, List.cons_append, List.nil_append, Bool.false_eq_true]
  exact i1
def m_bt (g : Int32) (ky b : Int32) : Bool := decide (b < 0) || (if g = 0 then !decide (b ≤ ky) else !decide (ky ≤ b))
def m_bd (P : Nat → Bool) (F : Nat → Nat → Int32) (g : Int32) : Nat → Int32
  | 0 => -1
  | n + 1 => if P n = true then (if m_bt g (F 0 n) (m_bd P F g n) = true then F 0 n else m_bd P F g n) else m_bd P F g n
theorem mo_bound (d : Nat) {n : Nat} {l k g : Int32} (hn : w 1 = nI n) (hb : n ≤ 520) (hM : vs_M z h x A w F) : am_M z (d + 1 + 1 + 1) 135 [.ref x, .int l, .int k, .int g] h (some (.int (m_bd (m_li F (w 2) l k) F g n))) h := by
  have m0 := hM.ob
  have k0 : h.1 (A 0) = some (.inl (0, 520, .inl (F 0))) := hM.ar 0 (by omega)
  have loop : ∀ m e, m + e = n → am_R z (d + 1 + 1) 135 6 [some (.ref x), some (.int l), some (.int k), some (.int g), some (.int (m_bd (m_li F (w 2) l k) F g e)), some (.int (nI e))] [] h (some (.int (m_bd (m_li F (w 2) l k) F g n))) h := by
    intro m
    induction m with
    | zero =>
      intro e hk
      have hkn : e = n := by omega
      subst hkn
      have e1 : nI e ≤ nI e := nI_le (Nat.le_refl _) (by omega)
      rw [am_R_eq, cxh_135_6]
      simp only [am_R_eq, cx_135, en_135, rt_135, rx_aload_n, rx_getfield, ev_gf, rx_goto, rx_iaload, rx_iconst, rx_icmp_ge, rx_icmp_le, rx_if_eq, rx_if_lt, rx_if_ne, rx_iinc, ev_inc, rx_iload, rx_iload_n, rx_invv, ev_cv, rx_ireturn, rx_istore, kl_129, ev_K, ev_pI, ev_pR, ev_pVi, ev_pVr, ev_sI, ev_sR, ev_KC, ev_k, ev_ko, ev_pop0, ev_pops, am_ld, am_sv, am_at, am_st, am_g, List.length_cons, List.length_nil, Nat.reduceAdd, Nat.reduceLT, Nat.zero_add, if_true, if_false, and_self, true_or, or_true, true_and, and_true, not_true_eq_false, not_false_eq_true, reduceCtorEq, eq_self, Option.toList_some, Option.toList_none, List.cons_append, List.nil_append, Bool.false_eq_true, m0, hn, e1]
    | succ m ih =>
      intro e hk
      have e1 : ¬ nI n ≤ nI e := nI_ge (by omega) (by omega)
      have ix := m_ix (k := e) (by omega)
      have q1 := mo_lies d (e := e) (l := l) (k := k) (by omega) hM
      have i1 := ih (e + 1) (by omega)
      rw [m_bd, am_R_eq] at i1
      generalize m_bd (m_li F (w 2) l k) F g e = b at *
      by_cases c1 : m_li F (w 2) l k e = true
      · rw [if_pos c1] at i1 q1
        unfold m_bt at i1
        by_cases c2 : b < 0
        · rw [decide_eq_true c2, Bool.true_or, if_pos rfl] at i1
          rw [am_R_eq, cxh_135_6]
          simp only [am_R_eq, cx_135, en_135, rt_135, rx_aload_n, rx_getfield, ev_gf, rx_goto, rx_iaload, rx_iconst, rx_icmp_ge, rx_icmp_le, rx_if_eq, rx_if_lt, rx_if_ne, rx_iinc, ev_inc, rx_iload, rx_iload_n, rx_invv, ev_cv, rx_ireturn, rx_istore, kl_129, ev_K, ev_pI, ev_pR, ev_pVi, ev_pVr, ev_sI, ev_sR, ev_KC, ev_k, ev_ko, ev_pop0, ev_pops, am_ld, am_sv, am_at, am_st, am_g, List.length_cons, List.length_nil, Nat.reduceAdd, Nat.reduceLT, Nat.zero_add, if_true, if_false, and_self, true_or, or_true, true_and, and_true, not_true_eq_false, not_false_eq_true, reduceCtorEq, eq_self, Option.toList_some, Option.toList_none, List.cons_append, List.nil_append, Bool.false_eq_true, m0, hn, e1]
          refine am_CL_of q1 ?_
          simp only [am_R_eq, cx_135, en_135, rt_135, rx_aload_n, rx_getfield, ev_gf, rx_goto, rx_iaload, rx_iconst, rx_icmp_ge, rx_icmp_le, rx_if_eq, rx_if_lt, rx_if_ne, rx_iinc, ev_inc, rx_iload, rx_iload_n, rx_invv, ev_cv, rx_ireturn, rx_istore, kl_129, ev_K, ev_pI, ev_pR, ev_pVi, ev_pVr, ev_sI, ev_sR, ev_KC, ev_k, ev_ko, ev_pop0, ev_pops, am_ld, am_sv, am_at, am_st, am_g, List.length_cons, List.length_nil, Nat.reduceAdd, Nat.reduceLT, Nat.zero_add, if_true, if_false, and_self, true_or, or_true, true_and, and_true, not_true_eq_false, not_false_eq_true, reduceCtorEq, eq_self, Option.toList_some, Option.toList_none, List.cons_append, List.nil_append, Bool.false_eq_true, i_10, c2, m0, k0, ix, nI_ofs]
          exact i1
        · rw [decide_eq_false c2, Bool.false_or] at i1
          by_cases c3 : g = 0
          · rw [if_pos c3] at i1
            by_cases c4 : b ≤ F 0 e
            · rw [decide_eq_true c4, Bool.not_true, if_neg (by decide)] at i1
              rw [am_R_eq, cxh_135_6]
              simp only [am_R_eq, cx_135, en_135, rt_135, rx_aload_n, rx_getfield, ev_gf, rx_goto, rx_iaload, rx_iconst, rx_icmp_ge, rx_icmp_le, rx_if_eq, rx_if_lt, rx_if_ne, rx_iinc, ev_inc, rx_iload, rx_iload_n, rx_invv, ev_cv, rx_ireturn, rx_istore, kl_129, ev_K, ev_pI, ev_pR, ev_pVi, ev_pVr, ev_sI, ev_sR, ev_KC, ev_k, ev_ko, ev_pop0, ev_pops, am_ld, am_sv, am_at, am_st, am_g, List.length_cons, List.length_nil, Nat.reduceAdd, Nat.reduceLT, Nat.zero_add, if_true, if_false, and_self, true_or, or_true, true_and, and_true, not_true_eq_false, not_false_eq_true, reduceCtorEq, eq_self, Option.toList_some, Option.toList_none, List.cons_append, List.nil_append, Bool.false_eq_true, m0, hn, e1]
              refine am_CL_of q1 ?_
              simp only [am_R_eq, cx_135, en_135, rt_135, rx_aload_n, rx_getfield, ev_gf, rx_goto, rx_iaload, rx_iconst, rx_icmp_ge, rx_icmp_le, rx_if_eq, rx_if_lt, rx_if_ne, rx_iinc, ev_inc, rx_iload, rx_iload_n, rx_invv, ev_cv, rx_ireturn, rx_istore, kl_129, ev_K, ev_pI, ev_pR, ev_pVi, ev_pVr, ev_sI, ev_sR, ev_KC, ev_k, ev_ko, ev_pop0, ev_pops, am_ld, am_sv, am_at, am_st, am_g, List.length_cons, List.length_nil, Nat.reduceAdd, Nat.reduceLT, Nat.zero_add, if_true, if_false, and_self, true_or, or_true, true_and, and_true, not_true_eq_false, not_false_eq_true, reduceCtorEq, eq_self, Option.toList_some, Option.toList_none, List.cons_append, List.nil_append, Bool.false_eq_true, i_10, c2, c3, c4, m0, k0, ix, nI_ofs]
              subst c3
              exact i1
            · rw [decide_eq_false c4, Bool.not_false, if_pos rfl] at i1
              rw [am_R_eq, cxh_135_6]
              simp only [am_R_eq, cx_135, en_135, rt_135, rx_aload_n, rx_getfield, ev_gf, rx_goto, rx_iaload, rx_iconst, rx_icmp_ge, rx_icmp_le, rx_if_eq, rx_if_lt, rx_if_ne, rx_iinc, ev_inc, rx_iload, rx_iload_n, rx_invv, ev_cv, rx_ireturn, rx_istore, kl_129, ev_K, ev_pI, ev_pR, ev_pVi, ev_pVr, ev_sI, ev_sR, ev_KC, ev_k, ev_ko, ev_pop0, ev_pops, am_ld, am_sv, am_at, am_st, am_g, List.length_cons, List.length_nil, Nat.reduceAdd, Nat.reduceLT, Nat.zero_add, if_true, if_false, and_self, true_or, or_true, true_and, and_true, not_true_eq_false, not_false_eq_true, reduceCtorEq, eq_self, Option.toList_some, Option.toList_none, List.cons_append, List.nil_append, Bool.false_eq_true, m0, hn, e1]
              refine am_CL_of q1 ?_
              simp only [am_R_eq, cx_135, en_135, rt_135, rx_aload_n, rx_getfield, ev_gf, rx_goto, rx_iaload, rx_iconst, rx_icmp_ge, rx_icmp_le, rx_if_eq, rx_if_lt, rx_if_ne, rx_iinc, ev_inc, rx_iload, rx_iload_n, rx_invv, ev_cv, rx_ireturn, rx_istore, kl_129, ev_K, ev_pI, ev_pR, ev_pVi, ev_pVr, ev_sI, ev_sR, ev_KC, ev_k, ev_ko, ev_pop0, ev_pops, am_ld, am_sv, am_at, am_st, am_g, List.length_cons, List.length_nil, Nat.reduceAdd, Nat.reduceLT, Nat.zero_add, if_true, if_false, and_self, true_or, or_true, true_and, and_true, not_true_eq_false, not_false_eq_true, reduceCtorEq, eq_self, Option.toList_some, Option.toList_none, List.cons_append, List.nil_append, Bool.false_eq_true, i_10, c2, c3, c4, m0, k0, ix, nI_ofs]
              subst c3
              exact i1
          · rw [if_neg c3] at i1
            by_cases c4 : F 0 e ≤ b
            · rw [decide_eq_true c4, Bool.not_true, if_neg (by decide)] at i1
              rw [am_R_eq, cxh_135_6]
              simp only [am_R_eq, cx_135, en_135, rt_135, rx_aload_n, rx_getfield, ev_gf, rx_goto, rx_iaload, rx_iconst, rx_icmp_ge, rx_icmp_le, rx_if_eq, rx_if_lt, rx_if_ne, rx_iinc, ev_inc, rx_iload, rx_iload_n, rx_invv, ev_cv, rx_ireturn, rx_istore, kl_129, ev_K, ev_pI, ev_pR, ev_pVi, ev_pVr, ev_sI, ev_sR, ev_KC, ev_k, ev_ko, ev_pop0, ev_pops, am_ld, am_sv, am_at, am_st, am_g, List.length_cons, List.length_nil, Nat.reduceAdd, Nat.reduceLT, Nat.zero_add, if_true, if_false, and_self, true_or, or_true, true_and, and_true, not_true_eq_false, not_false_eq_true, reduceCtorEq, eq_self, Option.toList_some, Option.toList_none, List.cons_append, List.nil_append, Bool.false_eq_true, m0, hn, e1]
              refine am_CL_of q1 ?_
              simp only [am_R_eq, cx_135, en_135, rt_135, rx_aload_n, rx_getfield, ev_gf, rx_goto, rx_iaload, rx_iconst, rx_icmp_ge, rx_icmp_le, rx_if_eq, rx_if_lt, rx_if_ne, rx_iinc, ev_inc, rx_iload, rx_iload_n, rx_invv, ev_cv, rx_ireturn, rx_istore, kl_129, ev_K, ev_pI, ev_pR, ev_pVi, ev_pVr, ev_sI, ev_sR, ev_KC, ev_k, ev_ko, ev_pop0, ev_pops, am_ld, am_sv, am_at, am_st, am_g, List.length_cons, List.length_nil, Nat.reduceAdd, Nat.reduceLT, Nat.zero_add, if_true, if_false, and_self, true_or, or_true, true_and, and_true, not_true_eq_false, not_false_eq_true, reduceCtorEq, eq_self, Option.toList_some, Option.toList_none, List.cons_append, List.nil_append, Bool.false_eq_true, i_10, c2, c3, c4, m0, k0, ix, nI_ofs]
              exact i1
            · rw [decide_eq_false c4, Bool.not_false, if_pos rfl] at i1
              rw [am_R_eq, cxh_135_6]
              simp only [am_R_eq, cx_135, en_135, rt_135, rx_aload_n, rx_getfield, ev_gf, rx_goto, rx_iaload, rx_iconst, rx_icmp_ge, rx_icmp_le, rx_if_eq, rx_if_lt, rx_if_ne, rx_iinc, ev_inc, rx_iload, rx_iload_n, rx_invv, ev_cv, rx_ireturn, rx_istore, kl_129, ev_K, ev_pI, ev_pR, ev_pVi, ev_pVr, ev_sI, ev_sR, ev_KC, ev_k, ev_ko, ev_pop0, ev_pops, am_ld, am_sv, am_at, am_st, am_g, List.length_cons, List.length_nil, Nat.reduceAdd, Nat.reduceLT, Nat.zero_add, if_true, if_false, and_self, true_or, or_true, true_and, and_true, not_true_eq_false, not_false_eq_true, reduceCtorEq, eq_self, Option.toList_some, Option.toList_none, List.cons_append, List.nil_append, Bool.false_eq_true, m0, hn, e1]
              refine am_CL_of q1 ?_
              simp only [am_R_eq, cx_135, en_135, rt_135, rx_aload_n, rx_getfield, ev_gf, rx_goto, rx_iaload, rx_iconst, rx_icmp_ge, rx_icmp_le, rx_if_eq, rx_if_lt, rx_if_ne, rx_iinc, ev_inc, rx_iload, rx_iload_n, rx_invv, ev_cv, rx_ireturn, rx_istore, kl_129, ev_K, ev_pI, ev_pR, ev_pVi, ev_pVr, ev_sI, ev_sR, ev_KC, ev_k, ev_ko, ev_pop0, ev_pops, am_ld, am_sv, am_at, am_st, am_g, List.length_cons, List.length_nil, Nat.reduceAdd, Nat.reduceLT, Nat.zero_add, if_true, if_false, and_self, true_or, or_true, true_and, and_true, not_true_eq_false, not_false_eq_true, reduceCtorEq, eq_self, Option.toList_some, Option.toList_none, List.cons_append, List.nil_append, Bool.false_eq_true, i_10, c2, c3, c4, m0, k0, ix, nI_ofs]
              exact i1
      · rw [if_neg c1] at i1 q1
        rw [am_R_eq, cxh_135_6]
        simp only [am_R_eq, cx_135, en_135, rt_135, rx_aload_n, rx_getfield, ev_gf, rx_goto, rx_iaload, rx_iconst, rx_icmp_ge, rx_icmp_le, rx_if_eq, rx_if_lt, rx_if_ne, rx_iinc, ev_inc, rx_iload, rx_iload_n, rx_invv, ev_cv, rx_ireturn, rx_istore, kl_129, ev_K, ev_pI, ev_pR, ev_pVi, ev_pVr, ev_sI, ev_sR, ev_KC, ev_k, ev_ko, ev_pop0, ev_pops, am_ld, am_sv, am_at, am_st, am_g, List.length_cons, List.length_nil, Nat.reduceAdd, Nat.reduceLT, Nat.zero_add, if_true, if_false, and_self, true_or, or_true, true_and, and_true, not_true_eq_false, not_false_eq_true, reduceCtorEq, eq_self, Option.toList_some, Option.toList_none, List.cons_append, List.nil_append, Bool.false_eq_true, m0, hn, e1]
        refine am_CL_of q1 ?_
        simp only [am_R_eq, cx_135, en_135, rt_135, rx_aload_n, rx_getfield, ev_gf, rx_goto, rx_iaload, rx_iconst, rx_icmp_ge, rx_icmp_le, rx_if_eq, rx_if_lt, rx_if_ne, rx_iinc, ev_inc, rx_iload, rx_iload_n, rx_invv, ev_cv, rx_ireturn, rx_istore, kl_129, ev_K, ev_pI, ev_pR, ev_pVi, ev_pVr, ev_sI, ev_sR, ev_KC, ev_k, ev_ko, ev_pop0, ev_pops, am_ld, am_sv, am_at, am_st, am_g, List.length_cons, List.length_nil, Nat.reduceAdd, Nat.reduceLT, Nat.zero_add, if_true, if_false, and_self, true_or, or_true, true_and, and_true, not_true_eq_false, not_false_eq_true, reduceCtorEq, eq_self, Option.toList_some, Option.toList_none, List.cons_append, List.nil_append, Bool.false_eq_true, nI_ofs]
        exact i1
  have i1 := loop n 0 rfl
  rw [am_R_eq] at i1
  have z0 : nI 0 = 0 := rfl
  rw [m_bd, z0] at i1
  rw [am_M_eq]
  simp only [am_R_eq, cx_135, en_135, rt_135, rx_aload_n, rx_getfield, ev_gf, rx_goto, rx_iaload, rx_iconst, rx_icmp_ge, rx_icmp_le, rx_if_eq, rx_if_lt, rx_if_ne, rx_iinc, ev_inc, rx_iload, rx_iload_n, rx_invv, ev_cv, rx_ireturn, rx_istore, kl_129, ev_K, ev_pI, ev_pR, ev_pVi, ev_pVr, ev_sI, ev_sR, ev_KC, ev_k, ev_ko, ev_pop0, ev_pops, am_ld, am_sv, am_at, am_st, am_g, List.length_cons, List.length_nil, Nat.reduceAdd, Nat.reduceLT, Nat.zero_add, if_true, if_false, and_self, true_or, or_true, true_and, and_true, not_true_eq_false, not_false_eq_true, reduceCtorEq, eq_self, Option.toList_some, Option.toList_none, List.cons_append, List.nil_append, Bool.false_eq_true]
  exact i1
end NG
