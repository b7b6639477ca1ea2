section NN
variable {z : Nat} {h : am_H} {x : Nat} {A : Nat → Nat} {w : Nat → Int32} {F : Nat → Nat → Int32}
theorem mo_tableNo (d : Nat) {l k t : Int32} (hl : l < 0 ∨ ¬ l ≤ 2) : am_M z (d + 1) 140 [.ref x, .int l, .int k, .int t] h (some (.int (-2))) h := by
  rw [am_M_eq]
  by_cases c1 : l < 0
  · simp only [am_R_eq, cx_140, en_140, rt_140, rx_aload_n, rx_bipush, rx_getfield, ev_gf, rx_goto, rx_iaload, rx_iconst, rx_icmp_ge, rx_icmp_le, rx_icmp_lt, rx_icmp_ne, rx_if_lt, rx_if_ne, rx_iinc, ev_inc, rx_iload, rx_iload_n, rx_invv, ev_cv, rx_ireturn, rx_istore, rx_tableswitch, kl_129, kl_132, kl_134, kl_135, ev_K, ev_pI, ev_pR, ev_pVi, ev_pVr, ev_sI, ev_sR, ev_KC, ev_k, ev_ko, ev_pop0, ev_pops, am_ld, am_sv, am_at, am_st, am_g, List.length_cons, List.length_nil, Nat.reduceAdd, Nat.reduceLT, Nat.zero_add, if_true, if_false, and_self, true_or, or_true, true_and, and_true, not_true_eq_false, not_false_eq_true, reduceCtorEq, eq_self, Option.toList_some, Option.toList_none, List.cons_append, List.nil_append, Bool.false_eq_true, c1]
  · have c2 := hl.resolve_left c1
    simp only [am_R_eq, cx_140, en_140, rt_140, rx_aload_n, rx_bipush, rx_getfield, ev_gf, rx_goto, rx_iaload, rx_iconst, rx_icmp_ge, rx_icmp_le, rx_icmp_lt, rx_icmp_ne, rx_if_lt, rx_if_ne, rx_iinc, ev_inc, rx_iload, rx_iload_n, rx_invv, ev_cv, rx_ireturn, rx_istore, rx_tableswitch, kl_129, kl_132, kl_134, kl_135, ev_K, ev_pI, ev_pR, ev_pVi, ev_pVr, ev_sI, ev_sR, ev_KC, ev_k, ev_ko, ev_pop0, ev_pops, am_ld, am_sv, am_at, am_st, am_g, List.length_cons, List.length_nil, Nat.reduceAdd, Nat.reduceLT, Nat.zero_add, if_true, if_false, and_self, true_or, or_true, true_and, and_true, not_true_eq_false, not_false_eq_true, reduceCtorEq, eq_self, Option.toList_some, Option.toList_none, List.cons_append, List.nil_append, Bool.false_eq_true, c1, c2]
theorem mo_tableCount (d : Nat) {n zr l : Nat} {t : Int32} (hn : w 1 = nI n) (hb : n ≤ 520) (hz : w 3 = nI zr) (hl : l < 3) (hM : vs_M z h x A w F) : am_M z (d + 1 + 1 + 1) 140 [.ref x, .int (nI l), .int (-1), .int t] h (some (.int (nI (m_tn F zr n l)))) h := by
  have m0 := hM.ob
  have q1 := mo_tablesN d (l := l) hn hb hz hl hM
  have e1 : ¬ nI l < 0 := nI_pos (by omega)
  have e2 : nI l ≤ 2 := nI_le (b := 2) (by omega) (by omega)
  rw [am_M_eq]
  simp only [am_R_eq, cx_140, en_140, rt_140, rx_aload_n, rx_bipush, rx_getfield, ev_gf, rx_goto, rx_iaload, rx_iconst, rx_icmp_ge, rx_icmp_le, rx_icmp_lt, rx_icmp_ne, rx_if_lt, rx_if_ne, rx_iinc, ev_inc, rx_iload, rx_iload_n, rx_invv, ev_cv, rx_ireturn, rx_istore, rx_tableswitch, kl_129, kl_132, kl_134, kl_135, ev_K, ev_pI, ev_pR, ev_pVi, ev_pVr, ev_sI, ev_sR, ev_KC, ev_k, ev_ko, ev_pop0, ev_pops, am_ld, am_sv, am_at, am_st, am_g, List.length_cons, List.length_nil, Nat.reduceAdd, Nat.reduceLT, Nat.zero_add, if_true, if_false, and_self, true_or, or_true, true_and, and_true, not_true_eq_false, not_false_eq_true, reduceCtorEq, eq_self, Option.toList_some, Option.toList_none, List.cons_append, List.nil_append, Bool.false_eq_true, e1, e2, m0]
  refine am_CL_of q1 ?_
  simp only [am_R_eq, cx_140, en_140, rt_140, rx_aload_n, rx_bipush, rx_getfield, ev_gf, rx_goto, rx_iaload, rx_iconst, rx_icmp_ge, rx_icmp_le, rx_icmp_lt, rx_icmp_ne, rx_if_lt, rx_if_ne, rx_iinc, ev_inc, rx_iload, rx_iload_n, rx_invv, ev_cv, rx_ireturn, rx_istore, rx_tableswitch, kl_129, kl_132, kl_134, kl_135, ev_K, ev_pI, ev_pR, ev_pVi, ev_pVr, ev_sI, ev_sR, ev_KC, ev_k, ev_ko, ev_pop0, ev_pops, am_ld, am_sv, am_at, am_st, am_g, List.length_cons, List.length_nil, Nat.reduceAdd, Nat.reduceLT, Nat.zero_add, if_true, if_false, and_self, true_or, or_true, true_and, and_true, not_true_eq_false, not_false_eq_true, reduceCtorEq, eq_self, Option.toList_some, Option.toList_none, List.cons_append, List.nil_append, Bool.false_eq_true]
theorem mo_tableOut (d : Nat) {n zr l : Nat} {k t : Int32} (hn : w 1 = nI n) (hb : n ≤ 520) (hz : w 3 = nI zr) (hl : l < 3) (hk1 : ¬ k = -1) (hk : k < 0 ∨ ¬ k < nI (m_tn F zr n l)) (hM : vs_M z h x A w F) : am_M z (d + 1 + 1 + 1) 140 [.ref x, .int (nI l), .int k, .int t] h (some (.int (-2))) h := by
  have m0 := hM.ob
  have q1 := mo_tablesN d (l := l) hn hb hz hl hM
  have e1 : ¬ nI l < 0 := nI_pos (by omega)
  have e2 : nI l ≤ 2 := nI_le (b := 2) (by omega) (by omega)
  rw [am_M_eq]
  simp only [am_R_eq, cx_140, en_140, rt_140, rx_aload_n, rx_bipush, rx_getfield, ev_gf, rx_goto, rx_iaload, rx_iconst, rx_icmp_ge, rx_icmp_le, rx_icmp_lt, rx_icmp_ne, rx_if_lt, rx_if_ne, rx_iinc, ev_inc, rx_iload, rx_iload_n, rx_invv, ev_cv, rx_ireturn, rx_istore, rx_tableswitch, kl_129, kl_132, kl_134, kl_135, ev_K, ev_pI, ev_pR, ev_pVi, ev_pVr, ev_sI, ev_sR, ev_KC, ev_k, ev_ko, ev_pop0, ev_pops, am_ld, am_sv, am_at, am_st, am_g, List.length_cons, List.length_nil, Nat.reduceAdd, Nat.reduceLT, Nat.zero_add, if_true, if_false, and_self, true_or, or_true, true_and, and_true, not_true_eq_false, not_false_eq_true, reduceCtorEq, eq_self, Option.toList_some, Option.toList_none, List.cons_append, List.nil_append, Bool.false_eq_true, e1, e2, m0]
  refine am_CL_of q1 ?_
  by_cases c1 : k < 0
  · simp only [am_R_eq, cx_140, en_140, rt_140, rx_aload_n, rx_bipush, rx_getfield, ev_gf, rx_goto, rx_iaload, rx_iconst, rx_icmp_ge, rx_icmp_le, rx_icmp_lt, rx_icmp_ne, rx_if_lt, rx_if_ne, rx_iinc, ev_inc, rx_iload, rx_iload_n, rx_invv, ev_cv, rx_ireturn, rx_istore, rx_tableswitch, kl_129, kl_132, kl_134, kl_135, ev_K, ev_pI, ev_pR, ev_pVi, ev_pVr, ev_sI, ev_sR, ev_KC, ev_k, ev_ko, ev_pop0, ev_pops, am_ld, am_sv, am_at, am_st, am_g, List.length_cons, List.length_nil, Nat.reduceAdd, Nat.reduceLT, Nat.zero_add, if_true, if_false, and_self, true_or, or_true, true_and, and_true, not_true_eq_false, not_false_eq_true, reduceCtorEq, eq_self, Option.toList_some, Option.toList_none, List.cons_append, List.nil_append, Bool.false_eq_true, hk1, c1]
  · have c2 := hk.resolve_left c1
    simp only [am_R_eq, cx_140, en_140, rt_140, rx_aload_n, rx_bipush, rx_getfield, ev_gf, rx_goto, rx_iaload, rx_iconst, rx_icmp_ge, rx_icmp_le, rx_icmp_lt, rx_icmp_ne, rx_if_lt, rx_if_ne, rx_iinc, ev_inc, rx_iload, rx_iload_n, rx_invv, ev_cv, rx_ireturn, rx_istore, rx_tableswitch, kl_129, kl_132, kl_134, kl_135, ev_K, ev_pI, ev_pR, ev_pVi, ev_pVr, ev_sI, ev_sR, ev_KC, ev_k, ev_ko, ev_pop0, ev_pops, am_ld, am_sv, am_at, am_st, am_g, List.length_cons, List.length_nil, Nat.reduceAdd, Nat.reduceLT, Nat.zero_add, if_true, if_false, and_self, true_or, or_true, true_and, and_true, not_true_eq_false, not_false_eq_true, reduceCtorEq, eq_self, Option.toList_some, Option.toList_none, List.cons_append, List.nil_append, Bool.false_eq_true, hk1, c1, c2]
def m_gr (P : Nat → Bool) (F : Nat → Nat → Int32) : Nat → Int32
  | 0 => 0
  | n + 1 => if P n = true then (if F 1 n ≤ m_gr P F n then m_gr P F n else F 1 n) else m_gr P F n
theorem mo_tableLoop (d : Nat) {n : Nat} {l k t T : Int32} {r : Option Value} (hn : w 1 = nI n) (hb : n ≤ 520) (hM : vs_M z h x A w F) (hfin : am_R z (d + 1 + 1) 140 107 [some (.ref x), some (.int l), some (.int k), some (.int t), some (.int T), some (.int (nI (m_cn (m_li F (w 2) l k) n))), some (.int (m_gr (m_li F (w 2) l k) F n)), some (.int (nI n))] [] h r h) : ∀ m e, m + e = n → am_R z (d + 1 + 1) 140 49 [some (.ref x), some (.int l), some (.int k), some (.int t), some (.int T), some (.int (nI (m_cn (m_li F (w 2) l k) e))), some (.int (m_gr (m_li F (w 2) l k) F e)), some (.int (nI e))] [] h r h := by
  have m0 := hM.ob
  have k1 : h.1 (A 1) = some (.inl (0, 520, .inl (F 1))) := hM.ar 1 (by omega)
  intro m
  induction m with
  | zero =>
    intro e hk
    have hkn : e = n := by omega
    subst hkn
    have e1 : nI e ≤ nI e := nI_le (Nat.le_refl _) (by omega)
    rw [am_R_eq, cxh_140_49]
    revert hfin
    simp only [am_R_eq, cx_140, en_140, rt_140, rx_aload_n, rx_bipush, rx_getfield, ev_gf, rx_goto, rx_iaload, rx_iconst, rx_icmp_ge, rx_icmp_le, rx_icmp_lt, rx_icmp_ne, rx_if_lt, rx_if_ne, rx_iinc, ev_inc, rx_iload, rx_iload_n, rx_invv, ev_cv, rx_ireturn, rx_istore, rx_tableswitch, kl_129, kl_132, kl_134, kl_135, ev_K, ev_pI, ev_pR, ev_pVi, ev_pVr, ev_sI, ev_sR, ev_KC, ev_k, ev_ko, ev_pop0, ev_pops, am_ld, am_sv, am_at, am_st, am_g, List.length_cons, List.length_nil, Nat.reduceAdd, Nat.reduceLT, Nat.zero_add, if_true, if_false, and_self, true_or, or_true, true_and, and_true, not_true_eq_false, not_false_eq_true, reduceCtorEq, eq_self, Option.toList_some, Option.toList_none, List.cons_append, List.nil_append, Bool.false_eq_true, m0, hn, e1]
    exact fun q => q
  | succ m ih =>
    intro e hk
    have e1 : ¬ nI n ≤ nI e := nI_ge (by omega) (by omega)
    have ix := m_ix (k := e) (by omega)
    have q1 := mo_lies d (e := e) (l := l) (k := k) (by omega) hM
    have i1 := ih (e + 1) (by omega)
    rw [m_cn, m_gr, am_R_eq] at i1
    by_cases c1 : m_li F (w 2) l k e = true
    · rw [if_pos c1] at q1
      rw [if_pos c1, if_pos c1] at i1
      by_cases c2 : F 1 e ≤ m_gr (m_li F (w 2) l k) F e
      · rw [if_pos c2] at i1
        rw [am_R_eq, cxh_140_49]
        simp only [am_R_eq, cx_140, en_140, rt_140, rx_aload_n, rx_bipush, rx_getfield, ev_gf, rx_goto, rx_iaload, rx_iconst, rx_icmp_ge, rx_icmp_le, rx_icmp_lt, rx_icmp_ne, rx_if_lt, rx_if_ne, rx_iinc, ev_inc, rx_iload, rx_iload_n, rx_invv, ev_cv, rx_ireturn, rx_istore, rx_tableswitch, kl_129, kl_132, kl_134, kl_135, ev_K, ev_pI, ev_pR, ev_pVi, ev_pVr, ev_sI, ev_sR, ev_KC, ev_k, ev_ko, ev_pop0, ev_pops, am_ld, am_sv, am_at, am_st, am_g, List.length_cons, List.length_nil, Nat.reduceAdd, Nat.reduceLT, Nat.zero_add, if_true, if_false, and_self, true_or, or_true, true_and, and_true, not_true_eq_false, not_false_eq_true, reduceCtorEq, eq_self, Option.toList_some, Option.toList_none, List.cons_append, List.nil_append, Bool.false_eq_true, m0, hn, e1]
        refine am_CL_of q1 ?_
        simp only [am_R_eq, cx_140, en_140, rt_140, rx_aload_n, rx_bipush, rx_getfield, ev_gf, rx_goto, rx_iaload, rx_iconst, rx_icmp_ge, rx_icmp_le, rx_icmp_lt, rx_icmp_ne, rx_if_lt, rx_if_ne, rx_iinc, ev_inc, rx_iload, rx_iload_n, rx_invv, ev_cv, rx_ireturn, rx_istore, rx_tableswitch, kl_129, kl_132, kl_134, kl_135, ev_K, ev_pI, ev_pR, ev_pVi, ev_pVr, ev_sI, ev_sR, ev_KC, ev_k, ev_ko, ev_pop0, ev_pops, am_ld, am_sv, am_at, am_st, am_g, List.length_cons, List.length_nil, Nat.reduceAdd, Nat.reduceLT, Nat.zero_add, if_true, if_false, and_self, true_or, or_true, true_and, and_true, not_true_eq_false, not_false_eq_true, reduceCtorEq, eq_self, Option.toList_some, Option.toList_none, List.cons_append, List.nil_append, Bool.false_eq_true, i_10, m0, k1, ix, c2, nI_ofs]
        exact i1
      · rw [if_neg c2] at i1
        rw [am_R_eq, cxh_140_49]
        simp only [am_R_eq, cx_140, en_140, rt_140, rx_aload_n, rx_bipush, rx_getfield, ev_gf, rx_goto, rx_iaload, rx_iconst, rx_icmp_ge, rx_icmp_le, rx_icmp_lt, rx_icmp_ne, rx_if_lt, rx_if_ne, rx_iinc, ev_inc, rx_iload, rx_iload_n, rx_invv, ev_cv, rx_ireturn, rx_istore, rx_tableswitch, kl_129, kl_132, kl_134, kl_135, ev_K, ev_pI, ev_pR, ev_pVi, ev_pVr, ev_sI, ev_sR, ev_KC, ev_k, ev_ko, ev_pop0, ev_pops, am_ld, am_sv, am_at, am_st, am_g, List.length_cons, List.length_nil, Nat.reduceAdd, Nat.reduceLT, Nat.zero_add, if_true, if_false, and_self, true_or, or_true, true_and, and_true, not_true_eq_false, not_false_eq_true, reduceCtorEq, eq_self, Option.toList_some, Option.toList_none, List.cons_append, List.nil_append, Bool.false_eq_true, m0, hn, e1]
        refine am_CL_of q1 ?_
        simp only [am_R_eq, cx_140, en_140, rt_140, rx_aload_n, rx_bipush, rx_getfield, ev_gf, rx_goto, rx_iaload, rx_iconst, rx_icmp_ge, rx_icmp_le, rx_icmp_lt, rx_icmp_ne, rx_if_lt, rx_if_ne, rx_iinc, ev_inc, rx_iload, rx_iload_n, rx_invv, ev_cv, rx_ireturn, rx_istore, rx_tableswitch, kl_129, kl_132, kl_134, kl_135, ev_K, ev_pI, ev_pR, ev_pVi, ev_pVr, ev_sI, ev_sR, ev_KC, ev_k, ev_ko, ev_pop0, ev_pops, am_ld, am_sv, am_at, am_st, am_g, List.length_cons, List.length_nil, Nat.reduceAdd, Nat.reduceLT, Nat.zero_add, if_true, if_false, and_self, true_or, or_true, true_and, and_true, not_true_eq_false, not_false_eq_true, reduceCtorEq, eq_self, Option.toList_some, Option.toList_none, List.cons_append, List.nil_append, Bool.false_eq_true, i_10, m0, k1, ix, c2, nI_ofs]
        exact i1
    · rw [if_neg c1] at q1
      rw [if_neg c1, if_neg c1] at i1
      rw [am_R_eq, cxh_140_49]
      simp only [am_R_eq, cx_140, en_140, rt_140, rx_aload_n, rx_bipush, rx_getfield, ev_gf, rx_goto, rx_iaload, rx_iconst, rx_icmp_ge, rx_icmp_le, rx_icmp_lt, rx_icmp_ne, rx_if_lt, rx_if_ne, rx_iinc, ev_inc, rx_iload, rx_iload_n, rx_invv, ev_cv, rx_ireturn, rx_istore, rx_tableswitch, kl_129, kl_132, kl_134, kl_135, ev_K, ev_pI, ev_pR, ev_pVi, ev_pVr, ev_sI, ev_sR, ev_KC, ev_k, ev_ko, ev_pop0, ev_pops, am_ld, am_sv, am_at, am_st, am_g, List.length_cons, List.length_nil, Nat.reduceAdd, Nat.reduceLT, Nat.zero_add, if_true, if_false, and_self, true_or, or_true, true_and, and_true, not_true_eq_false, not_false_eq_true, reduceCtorEq, eq_self, Option.toList_some, Option.toList_none, List.cons_append, List.nil_append, Bool.false_eq_true, m0, hn, e1]
      refine am_CL_of q1 ?_
      simp only [am_R_eq, cx_140, en_140, rt_140, rx_aload_n, rx_bipush, rx_getfield, ev_gf, rx_goto, rx_iaload, rx_iconst, rx_icmp_ge, rx_icmp_le, rx_icmp_lt, rx_icmp_ne, rx_if_lt, rx_if_ne, rx_iinc, ev_inc, rx_iload, rx_iload_n, rx_invv, ev_cv, rx_ireturn, rx_istore, rx_tableswitch, kl_129, kl_132, kl_134, kl_135, ev_K, ev_pI, ev_pR, ev_pVi, ev_pVr, ev_sI, ev_sR, ev_KC, ev_k, ev_ko, ev_pop0, ev_pops, am_ld, am_sv, am_at, am_st, am_g, List.length_cons, List.length_nil, Nat.reduceAdd, Nat.reduceLT, Nat.zero_add, if_true, if_false, and_self, true_or, or_true, true_and, and_true, not_true_eq_false, not_false_eq_true, reduceCtorEq, eq_self, Option.toList_some, Option.toList_none, List.cons_append, List.nil_append, Bool.false_eq_true, nI_ofs]
      exact i1
def m_tl (F : Nat → Nat → Int32) (nw : Int32) (n : Nat) (l k : Int32) (t : Int32) : Int32 := if t = 0 then nI (m_cn (m_li F nw l k) n) else if t = 1 then m_fi (m_li F nw l k) F n else if t = 2 then m_bd (m_li F nw l k) F 0 n else if t = 3 then m_bd (m_li F nw l k) F 1 n else if t = 4 then m_gr (m_li F nw l k) F n else -2
theorem mo_table (d : Nat) {n zr l k : Nat} {t : Int32} (hn : w 1 = nI n) (hb : n ≤ 520) (hz : w 3 = nI zr) (hzb : zr ≤ 10) (hl : l < 3) (hk : k < m_tn F zr n l) (hM : vs_M z h x A w F) : am_M z (d + 1 + 1 + 1 + 1) 140 [.ref x, .int (nI l), .int (nI k), .int t] h (some (.int (m_tl F (w 2) n (nI l) (nI k) t))) h := by
  have m0 := hM.ob
  have hT : m_tn F zr n l ≤ 100 := by
    unfold m_tn
    have := m_cn_le (fun e => decide (F 5 e = nI l)) n
    split <;> omega
  have q1 := mo_tablesN (d + 1) (l := l) hn hb hz hl hM
  have q2 := mo_filter d (l := nI l) (k := nI k) hn hb hM
  have q3 := mo_bound d (l := nI l) (k := nI k) (g := 0) hn hb hM
  have q4 := mo_bound d (l := nI l) (k := nI k) (g := 1) hn hb hM
  have e1 : ¬ nI l < 0 := nI_pos (by omega)
  have e2 : nI l ≤ 2 := nI_le (b := 2) (by omega) (by omega)
  have e3 : ¬ nI k < 0 := nI_pos (by omega)
  have e4 : nI k < nI (m_tn F zr n l) := nI_lt hk (by omega)
  have e5 : ¬ nI k = -1 := by
    intro q
    rw [q] at e3
    exact e3 (by decide)
  have fin : am_R z (d + 1 + 1 + 1) 140 107 [some (.ref x), some (.int (nI l)), some (.int (nI k)), some (.int t), some (.int (nI (m_tn F zr n l))), some (.int (nI (m_cn (m_li F (w 2) (nI l) (nI k)) n))), some (.int (m_gr (m_li F (w 2) (nI l) (nI k)) F n)), some (.int (nI n))] [] h (some (.int (m_tl F (w 2) n (nI l) (nI k) t))) h := by
    by_cases c : t < 0 ∨ 5 ≤ t.toNatClampNeg
    · have er : m_tl F (w 2) n (nI l) (nI k) t = -2 := by
        unfold m_tl
        rw [if_neg (by rintro rfl; revert c; decide), if_neg (by rintro rfl; revert c; decide), if_neg (by rintro rfl; revert c; decide), if_neg (by rintro rfl; revert c; decide), if_neg (by rintro rfl; revert c; decide)]
      rw [er]
      simp only [am_R_eq, cx_140, en_140, rt_140, rx_aload_n, rx_bipush, rx_getfield, ev_gf, rx_goto, rx_iaload, rx_iconst, rx_icmp_ge, rx_icmp_le, rx_icmp_lt, rx_icmp_ne, rx_if_lt, rx_if_ne, rx_iinc, ev_inc, rx_iload, rx_iload_n, rx_invv, ev_cv, rx_ireturn, rx_istore, rx_tableswitch, kl_129, kl_132, kl_134, kl_135, ev_K, ev_pI, ev_pR, ev_pVi, ev_pVr, ev_sI, ev_sR, ev_KC, ev_k, ev_ko, ev_pop0, ev_pops, am_ld, am_sv, am_at, am_st, am_g, List.length_cons, List.length_nil, Nat.reduceAdd, Nat.reduceLT, Nat.zero_add, if_true, if_false, and_self, true_or, or_true, true_and, and_true, not_true_eq_false, not_false_eq_true, reduceCtorEq, eq_self, Option.toList_some, Option.toList_none, List.cons_append, List.nil_append, Bool.false_eq_true, c]
    · obtain ⟨j, hj, rfl⟩ := nI_of (x := t) (fun q => c (Or.inl q))
      have hj5 : j < 5 := by
        apply Classical.byContradiction
        intro q
        apply c
        right
        rw [nI_clamp hj]
        omega
      rcases (by omega : j = 0 ∨ j = 1 ∨ j = 2 ∨ j = 3 ∨ j = 4) with q | q | q | q | q <;> subst q
      · have c1 := sw_n 0 (by omega)
        have c2 := sw_c 0 (by omega)
        have er : m_tl F (w 2) n (nI l) (nI k) (nI 0) = nI (m_cn (m_li F (w 2) (nI l) (nI k)) n) := rfl
        rw [er]
        simp only [am_R_eq, cx_140, en_140, rt_140, rx_aload_n, rx_bipush, rx_getfield, ev_gf, rx_goto, rx_iaload, rx_iconst, rx_icmp_ge, rx_icmp_le, rx_icmp_lt, rx_icmp_ne, rx_if_lt, rx_if_ne, rx_iinc, ev_inc, rx_iload, rx_iload_n, rx_invv, ev_cv, rx_ireturn, rx_istore, rx_tableswitch, kl_129, kl_132, kl_134, kl_135, ev_K, ev_pI, ev_pR, ev_pVi, ev_pVr, ev_sI, ev_sR, ev_KC, ev_k, ev_ko, ev_pop0, ev_pops, am_ld, am_sv, am_at, am_st, am_g, List.length_cons, List.length_nil, Nat.reduceAdd, Nat.reduceLT, Nat.zero_add, if_true, if_false, and_self, true_or, or_true, true_and, and_true, not_true_eq_false, not_false_eq_true, reduceCtorEq, eq_self, Option.toList_some, Option.toList_none, List.cons_append, List.nil_append, Bool.false_eq_true, c1, c2, am_tn, Nat.reduceLeDiff, or_self]
      · have c1 := sw_n 1 (by omega)
        have c2 := sw_c 1 (by omega)
        have er : m_tl F (w 2) n (nI l) (nI k) (nI 1) = m_fi (m_li F (w 2) (nI l) (nI k)) F n := rfl
        rw [er]
        simp only [am_R_eq, cx_140, en_140, rt_140, rx_aload_n, rx_bipush, rx_getfield, ev_gf, rx_goto, rx_iaload, rx_iconst, rx_icmp_ge, rx_icmp_le, rx_icmp_lt, rx_icmp_ne, rx_if_lt, rx_if_ne, rx_iinc, ev_inc, rx_iload, rx_iload_n, rx_invv, ev_cv, rx_ireturn, rx_istore, rx_tableswitch, kl_129, kl_132, kl_134, kl_135, ev_K, ev_pI, ev_pR, ev_pVi, ev_pVr, ev_sI, ev_sR, ev_KC, ev_k, ev_ko, ev_pop0, ev_pops, am_ld, am_sv, am_at, am_st, am_g, List.length_cons, List.length_nil, Nat.reduceAdd, Nat.reduceLT, Nat.zero_add, if_true, if_false, and_self, true_or, or_true, true_and, and_true, not_true_eq_false, not_false_eq_true, reduceCtorEq, eq_self, Option.toList_some, Option.toList_none, List.cons_append, List.nil_append, Bool.false_eq_true, c1, c2, am_tn, Nat.reduceLeDiff, or_self, m0]
        refine am_CL_of q2 ?_
        simp only [am_R_eq, cx_140, en_140, rt_140, rx_aload_n, rx_bipush, rx_getfield, ev_gf, rx_goto, rx_iaload, rx_iconst, rx_icmp_ge, rx_icmp_le, rx_icmp_lt, rx_icmp_ne, rx_if_lt, rx_if_ne, rx_iinc, ev_inc, rx_iload, rx_iload_n, rx_invv, ev_cv, rx_ireturn, rx_istore, rx_tableswitch, kl_129, kl_132, kl_134, kl_135, ev_K, ev_pI, ev_pR, ev_pVi, ev_pVr, ev_sI, ev_sR, ev_KC, ev_k, ev_ko, ev_pop0, ev_pops, am_ld, am_sv, am_at, am_st, am_g, List.length_cons, List.length_nil, Nat.reduceAdd, Nat.reduceLT, Nat.zero_add, if_true, if_false, and_self, true_or, or_true, true_and, and_true, not_true_eq_false, not_false_eq_true, reduceCtorEq, eq_self, Option.toList_some, Option.toList_none, List.cons_append, List.nil_append, Bool.false_eq_true]
      · have c1 := sw_n 2 (by omega)
        have c2 := sw_c 2 (by omega)
        have er : m_tl F (w 2) n (nI l) (nI k) (nI 2) = m_bd (m_li F (w 2) (nI l) (nI k)) F 0 n := rfl
        rw [er]
        simp only [am_R_eq, cx_140, en_140, rt_140, rx_aload_n, rx_bipush, rx_getfield, ev_gf, rx_goto, rx_iaload, rx_iconst, rx_icmp_ge, rx_icmp_le, rx_icmp_lt, rx_icmp_ne, rx_if_lt, rx_if_ne, rx_iinc, ev_inc, rx_iload, rx_iload_n, rx_invv, ev_cv, rx_ireturn, rx_istore, rx_tableswitch, kl_129, kl_132, kl_134, kl_135, ev_K, ev_pI, ev_pR, ev_pVi, ev_pVr, ev_sI, ev_sR, ev_KC, ev_k, ev_ko, ev_pop0, ev_pops, am_ld, am_sv, am_at, am_st, am_g, List.length_cons, List.length_nil, Nat.reduceAdd, Nat.reduceLT, Nat.zero_add, if_true, if_false, and_self, true_or, or_true, true_and, and_true, not_true_eq_false, not_false_eq_true, reduceCtorEq, eq_self, Option.toList_some, Option.toList_none, List.cons_append, List.nil_append, Bool.false_eq_true, c1, c2, am_tn, Nat.reduceLeDiff, or_self, m0]
        refine am_CL_of q3 ?_
        simp only [am_R_eq, cx_140, en_140, rt_140, rx_aload_n, rx_bipush, rx_getfield, ev_gf, rx_goto, rx_iaload, rx_iconst, rx_icmp_ge, rx_icmp_le, rx_icmp_lt, rx_icmp_ne, rx_if_lt, rx_if_ne, rx_iinc, ev_inc, rx_iload, rx_iload_n, rx_invv, ev_cv, rx_ireturn, rx_istore, rx_tableswitch, kl_129, kl_132, kl_134, kl_135, ev_K, ev_pI, ev_pR, ev_pVi, ev_pVr, ev_sI, ev_sR, ev_KC, ev_k, ev_ko, ev_pop0, ev_pops, am_ld, am_sv, am_at, am_st, am_g, List.length_cons, List.length_nil, Nat.reduceAdd, Nat.reduceLT, Nat.zero_add, if_true, if_false, and_self, true_or, or_true, true_and, and_true, not_true_eq_false, not_false_eq_true, reduceCtorEq, eq_self, Option.toList_some, Option.toList_none, List.cons_append, List.nil_append, Bool.false_eq_true]
      · have c1 := sw_n 3 (by omega)
        have c2 := sw_c 3 (by omega)
        have er : m_tl F (w 2) n (nI l) (nI k) (nI 3) = m_bd (m_li F (w 2) (nI l) (nI k)) F 1 n := rfl
        rw [er]
        simp only [am_R_eq, cx_140, en_140, rt_140, rx_aload_n, rx_bipush, rx_getfield, ev_gf, rx_goto, rx_iaload, rx_iconst, rx_icmp_ge, rx_icmp_le, rx_icmp_lt, rx_icmp_ne, rx_if_lt, rx_if_ne, rx_iinc, ev_inc, rx_iload, rx_iload_n, rx_invv, ev_cv, rx_ireturn, rx_istore, rx_tableswitch, kl_129, kl_132, kl_134, kl_135, ev_K, ev_pI, ev_pR, ev_pVi, ev_pVr, ev_sI, ev_sR, ev_KC, ev_k, ev_ko, ev_pop0, ev_pops, am_ld, am_sv, am_at, am_st, am_g, List.length_cons, List.length_nil, Nat.reduceAdd, Nat.reduceLT, Nat.zero_add, if_true, if_false, and_self, true_or, or_true, true_and, and_true, not_true_eq_false, not_false_eq_true, reduceCtorEq, eq_self, Option.toList_some, Option.toList_none, List.cons_append, List.nil_append, Bool.false_eq_true, c1, c2, am_tn, Nat.reduceLeDiff, or_self, m0]
        refine am_CL_of q4 ?_
        simp only [am_R_eq, cx_140, en_140, rt_140, rx_aload_n, rx_bipush, rx_getfield, ev_gf, rx_goto, rx_iaload, rx_iconst, rx_icmp_ge, rx_icmp_le, rx_icmp_lt, rx_icmp_ne, rx_if_lt, rx_if_ne, rx_iinc, ev_inc, rx_iload, rx_iload_n, rx_invv, ev_cv, rx_ireturn, rx_istore, rx_tableswitch, kl_129, kl_132, kl_134, kl_135, ev_K, ev_pI, ev_pR, ev_pVi, ev_pVr, ev_sI, ev_sR, ev_KC, ev_k, ev_ko, ev_pop0, ev_pops, am_ld, am_sv, am_at, am_st, am_g, List.length_cons, List.length_nil, Nat.reduceAdd, Nat.reduceLT, Nat.zero_add, if_true, if_false, and_self, true_or, or_true, true_and, and_true, not_true_eq_false, not_false_eq_true, reduceCtorEq, eq_self, Option.toList_some, Option.toList_none, List.cons_append, List.nil_append, Bool.false_eq_true]
      · have c1 := sw_n 4 (by omega)
        have c2 := sw_c 4 (by omega)
        have er : m_tl F (w 2) n (nI l) (nI k) (nI 4) = m_gr (m_li F (w 2) (nI l) (nI k)) F n := rfl
        rw [er]
        simp only [am_R_eq, cx_140, en_140, rt_140, rx_aload_n, rx_bipush, rx_getfield, ev_gf, rx_goto, rx_iaload, rx_iconst, rx_icmp_ge, rx_icmp_le, rx_icmp_lt, rx_icmp_ne, rx_if_lt, rx_if_ne, rx_iinc, ev_inc, rx_iload, rx_iload_n, rx_invv, ev_cv, rx_ireturn, rx_istore, rx_tableswitch, kl_129, kl_132, kl_134, kl_135, ev_K, ev_pI, ev_pR, ev_pVi, ev_pVr, ev_sI, ev_sR, ev_KC, ev_k, ev_ko, ev_pop0, ev_pops, am_ld, am_sv, am_at, am_st, am_g, List.length_cons, List.length_nil, Nat.reduceAdd, Nat.reduceLT, Nat.zero_add, if_true, if_false, and_self, true_or, or_true, true_and, and_true, not_true_eq_false, not_false_eq_true, reduceCtorEq, eq_self, Option.toList_some, Option.toList_none, List.cons_append, List.nil_append, Bool.false_eq_true, c1, c2, am_tn, Nat.reduceLeDiff, or_self]
  have i1 := mo_tableLoop (d + 1) hn hb hM fin n 0 rfl
  rw [m_cn, m_gr, am_R_eq] at i1
  have z0 : nI 0 = 0 := rfl
  rw [z0] at i1
  rw [am_M_eq]
  simp only [am_R_eq, cx_140, en_140, rt_140, rx_aload_n, rx_bipush, rx_getfield, ev_gf, rx_goto, rx_iaload, rx_iconst, rx_icmp_ge, rx_icmp_le, rx_icmp_lt, rx_icmp_ne, rx_if_lt, rx_if_ne, rx_iinc, ev_inc, rx_iload, rx_iload_n, rx_invv, ev_cv, rx_ireturn, rx_istore, rx_tableswitch, kl_129, kl_132, kl_134, kl_135, ev_K, ev_pI, ev_pR, ev_pVi, ev_pVr, ev_sI, ev_sR, ev_KC, ev_k, ev_ko, ev_pop0, ev_pops, am_ld, am_sv, am_at, am_st, am_g, List.length_cons, List.length_nil, Nat.reduceAdd, Nat.reduceLT, Nat.zero_add, if_true, if_false, and_self, true_or, or_true, true_and, and_true, not_true_eq_false, not_false_eq_true, reduceCtorEq, eq_self, Option.toList_some, Option.toList_none, List.cons_append, List.nil_append, Bool.false_eq_true, e1, e2, m0]
  refine am_CL_of q1 ?_
  simp only [am_R_eq, cx_140, en_140, rt_140, rx_aload_n, rx_bipush, rx_getfield, ev_gf, rx_goto, rx_iaload, rx_iconst, rx_icmp_ge, rx_icmp_le, rx_icmp_lt, rx_icmp_ne, rx_if_lt, rx_if_ne, rx_iinc, ev_inc, rx_iload, rx_iload_n, rx_invv, ev_cv, rx_ireturn, rx_istore, rx_tableswitch, kl_129, kl_132, kl_134, kl_135, ev_K, ev_pI, ev_pR, ev_pVi, ev_pVr, ev_sI, ev_sR, ev_KC, ev_k, ev_ko, ev_pop0, ev_pops, am_ld, am_sv, am_at, am_st, am_g, List.length_cons, List.length_nil, Nat.reduceAdd, Nat.reduceLT, Nat.zero_add, if_true, if_false, and_self, true_or, or_true, true_and, and_true, not_true_eq_false, not_false_eq_true, reduceCtorEq, eq_self, Option.toList_some, Option.toList_none, List.cons_append, List.nil_append, Bool.false_eq_true, e5, e3, e4]
  exact i1
end NN
