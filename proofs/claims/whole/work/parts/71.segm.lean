section NO
variable {z : Nat} {h : am_H} {x : Nat} {A : Nat → Nat} {w : Nat → Int32} {F : Nat → Nat → Int32}
theorem mo_segCount (d : Nat) {hd tl : Nat} {t : Int32} (hh : w 7 = nI hd) (ht : w 6 = nI tl) (h1 : tl ≤ hd) (hM : vs_M z h x A w F) : am_M z (d + 1) 141 [.ref x, .int (-1), .int t] h (some (.int (nI (hd - tl + 1)))) h := by
  have m0 := hM.ob
  have e2 : nI hd - nI tl + 1 = nI (hd - tl + 1) := by rw [pk_sub h1, nI_1]
  rw [am_M_eq]
  simp only [am_R_eq, cx_141, en_141, rt_141, rx_aload_n, rx_bipush, rx_getfield, ev_gf, rx_iadd, rx_iaload, rx_iconst, rx_icmp_lt, rx_icmp_ne, rx_if_lt, rx_iload_n, rx_invv, ev_cv, rx_irem, rx_ireturn, rx_istore_n, rx_isub, rx_tableswitch, kl_117, ev_K, ev_pI, ev_pR, ev_pVi, ev_pVr, ev_sI, ev_sR, ev_KC, ev_k, ev_ko, ev_pop0, ev_pops, am_ld, am_sv, am_at, am_st, am_g, List.length_cons, List.length_nil, Nat.reduceAdd, Nat.reduceLT, Nat.zero_add, if_true, if_false, and_self, true_or, or_true, true_and, and_true, not_true_eq_false, not_false_eq_true, reduceCtorEq, eq_self, Option.toList_some, Option.toList_none, List.cons_append, List.nil_append, Bool.false_eq_true, m0, hh, ht, e2]
theorem mo_segOut (d : Nat) {hd tl : Nat} {k t : Int32} (hh : w 7 = nI hd) (ht : w 6 = nI tl) (h1 : tl ≤ hd) (hk1 : ¬ k = -1) (hk : k < 0 ∨ ¬ k < nI (hd - tl + 1)) (hM : vs_M z h x A w F) : am_M z (d + 1) 141 [.ref x, .int k, .int t] h (some (.int (-2))) h := by
  have m0 := hM.ob
  have e2 : nI hd - nI tl + 1 = nI (hd - tl + 1) := by rw [pk_sub h1, nI_1]
  rw [am_M_eq]
  by_cases c1 : k < 0
  · simp only [am_R_eq, cx_141, en_141, rt_141, rx_aload_n, rx_bipush, rx_getfield, ev_gf, rx_iadd, rx_iaload, rx_iconst, rx_icmp_lt, rx_icmp_ne, rx_if_lt, rx_iload_n, rx_invv, ev_cv, rx_irem, rx_ireturn, rx_istore_n, rx_isub, rx_tableswitch, kl_117, ev_K, ev_pI, ev_pR, ev_pVi, ev_pVr, ev_sI, ev_sR, ev_KC, ev_k, ev_ko, ev_pop0, ev_pops, am_ld, am_sv, am_at, am_st, am_g, List.length_cons, List.length_nil, Nat.reduceAdd, Nat.reduceLT, Nat.zero_add, if_true, if_false, and_self, true_or, or_true, true_and, and_true, not_true_eq_false, not_false_eq_true, reduceCtorEq, eq_self, Option.toList_some, Option.toList_none, List.cons_append, List.nil_append, Bool.false_eq_true, m0, hh, ht, e2, hk1, c1]
  · have c2 := hk.resolve_left c1
    simp only [am_R_eq, cx_141, en_141, rt_141, rx_aload_n, rx_bipush, rx_getfield, ev_gf, rx_iadd, rx_iaload, rx_iconst, rx_icmp_lt, rx_icmp_ne, rx_if_lt, rx_iload_n, rx_invv, ev_cv, rx_irem, rx_ireturn, rx_istore_n, rx_isub, rx_tableswitch, kl_117, ev_K, ev_pI, ev_pR, ev_pVi, ev_pVr, ev_sI, ev_sR, ev_KC, ev_k, ev_ko, ev_pop0, ev_pops, am_ld, am_sv, am_at, am_st, am_g, List.length_cons, List.length_nil, Nat.reduceAdd, Nat.reduceLT, Nat.zero_add, if_true, if_false, and_self, true_or, or_true, true_and, and_true, not_true_eq_false, not_false_eq_true, reduceCtorEq, eq_self, Option.toList_some, Option.toList_none, List.cons_append, List.nil_append, Bool.false_eq_true, m0, hh, ht, e2, hk1, c1, c2]
theorem mo_seg (d : Nat) {n hd tl k : Nat} (hn : w 1 = nI n) (hb : n ≤ 520) (hh : w 7 = nI hd) (hhb : hd ≤ 10000) (ht : w 6 = nI tl) (h1 : tl ≤ hd) (hk : k < hd - tl + 1) (hM : vs_M z h x A w F) : am_M z (d + 1) 141 [.ref x, .int (nI k), .int (nI 0)] h (some (.int (nI (tl + k)))) h ∧ am_M z (d + 1) 141 [.ref x, .int (nI k), .int (nI 1)] h (some (.int (F 16 ((tl + k) % 8)))) h ∧ am_M z (d + 1 + 1 + 1) 141 [.ref x, .int (nI k), .int (nI 2)] h (some (.int (nI (m_cn (m_lv F (nI (tl + k))) n)))) h ∧ ∀ t : Int32, (t < 0 ∨ 3 ≤ t.toNatClampNeg) → am_M z (d + 1) 141 [.ref x, .int (nI k), .int t] h (some (.int (-2))) h := by
  have m0 := hM.ob
  have k16 : h.1 (A 16) = some (.inl (0, 8, .inl (F 16))) := hM.ar 16 (by omega)
  have e2 : nI hd - nI tl + 1 = nI (hd - tl + 1) := by rw [pk_sub h1, nI_1]
  have e3 : ¬ nI k < 0 := nI_pos (by omega)
  have e4 : nI k < nI (hd - tl + 1) := nI_lt hk (by omega)
  have e5 : ¬ nI k = -1 := by
    intro q
    rw [q] at e3
    exact e3 (by decide)
  refine ⟨?_, ?_, ?_, ?_⟩
  · have c1 := sw_n 0 (by omega)
    have c2 := sw_c 0 (by omega)
    rw [am_M_eq]
    simp only [am_R_eq, cx_141, en_141, rt_141, rx_aload_n, rx_bipush, rx_getfield, ev_gf, rx_iadd, rx_iaload, rx_iconst, rx_icmp_lt, rx_icmp_ne, rx_if_lt, rx_iload_n, rx_invv, ev_cv, rx_irem, rx_ireturn, rx_istore_n, rx_isub, rx_tableswitch, kl_117, ev_K, ev_pI, ev_pR, ev_pVi, ev_pVr, ev_sI, ev_sR, ev_KC, ev_k, ev_ko, ev_pop0, ev_pops, am_ld, am_sv, am_at, am_st, am_g, List.length_cons, List.length_nil, Nat.reduceAdd, Nat.reduceLT, Nat.zero_add, if_true, if_false, and_self, true_or, or_true, true_and, and_true, not_true_eq_false, not_false_eq_true, reduceCtorEq, eq_self, Option.toList_some, Option.toList_none, List.cons_append, List.nil_append, Bool.false_eq_true, m0, hh, ht, e2, e3, e4, e5, c1, c2, am_tn, nI_add, Nat.reduceLeDiff, or_self]
  · have c1 := sw_n 1 (by omega)
    have c2 := sw_c 1 (by omega)
    have er : nI (tl + k) - nI (tl + k) / 8 * 8 = nI ((tl + k) % 8) := pk_rem (a := tl + k) (d := 8) (by omega) (by omega) (by omega)
    have ix := m_ri (n := 8) (k := (tl + k) % 8) (by omega) (by omega)
    rw [am_M_eq]
    simp only [am_R_eq, cx_141, en_141, rt_141, rx_aload_n, rx_bipush, rx_getfield, ev_gf, rx_iadd, rx_iaload, rx_iconst, rx_icmp_lt, rx_icmp_ne, rx_if_lt, rx_iload_n, rx_invv, ev_cv, rx_irem, rx_ireturn, rx_istore_n, rx_isub, rx_tableswitch, kl_117, ev_K, ev_pI, ev_pR, ev_pVi, ev_pVr, ev_sI, ev_sR, ev_KC, ev_k, ev_ko, ev_pop0, ev_pops, am_ld, am_sv, am_at, am_st, am_g, List.length_cons, List.length_nil, Nat.reduceAdd, Nat.reduceLT, Nat.zero_add, if_true, if_false, and_self, true_or, or_true, true_and, and_true, not_true_eq_false, not_false_eq_true, reduceCtorEq, eq_self, Option.toList_some, Option.toList_none, List.cons_append, List.nil_append, Bool.false_eq_true, m0, hh, ht, e2, e3, e4, e5, c1, c2, am_tn, nI_add, k16, er, i_8, ix, Nat.reduceLeDiff, or_self]
  · have c1 := sw_n 2 (by omega)
    have c2 := sw_c 2 (by omega)
    have q1 := mo_liveIn d (s := nI (tl + k)) hn hb hM
    rw [am_M_eq]
    simp only [am_R_eq, cx_141, en_141, rt_141, rx_aload_n, rx_bipush, rx_getfield, ev_gf, rx_iadd, rx_iaload, rx_iconst, rx_icmp_lt, rx_icmp_ne, rx_if_lt, rx_iload_n, rx_invv, ev_cv, rx_irem, rx_ireturn, rx_istore_n, rx_isub, rx_tableswitch, kl_117, ev_K, ev_pI, ev_pR, ev_pVi, ev_pVr, ev_sI, ev_sR, ev_KC, ev_k, ev_ko, ev_pop0, ev_pops, am_ld, am_sv, am_at, am_st, am_g, List.length_cons, List.length_nil, Nat.reduceAdd, Nat.reduceLT, Nat.zero_add, if_true, if_false, and_self, true_or, or_true, true_and, and_true, not_true_eq_false, not_false_eq_true, reduceCtorEq, eq_self, Option.toList_some, Option.toList_none, List.cons_append, List.nil_append, Bool.false_eq_true, m0, hh, ht, e2, e3, e4, e5, c1, c2, am_tn, nI_add, Nat.reduceLeDiff, or_self]
    refine am_CL_of q1 ?_
    simp only [am_R_eq, cx_141, en_141, rt_141, rx_aload_n, rx_bipush, rx_getfield, ev_gf, rx_iadd, rx_iaload, rx_iconst, rx_icmp_lt, rx_icmp_ne, rx_if_lt, rx_iload_n, rx_invv, ev_cv, rx_irem, rx_ireturn, rx_istore_n, rx_isub, rx_tableswitch, kl_117, ev_K, ev_pI, ev_pR, ev_pVi, ev_pVr, ev_sI, ev_sR, ev_KC, ev_k, ev_ko, ev_pop0, ev_pops, am_ld, am_sv, am_at, am_st, am_g, List.length_cons, List.length_nil, Nat.reduceAdd, Nat.reduceLT, Nat.zero_add, if_true, if_false, and_self, true_or, or_true, true_and, and_true, not_true_eq_false, not_false_eq_true, reduceCtorEq, eq_self, Option.toList_some, Option.toList_none, List.cons_append, List.nil_append, Bool.false_eq_true]
  · intro t hw
    rw [am_M_eq]
    simp only [am_R_eq, cx_141, en_141, rt_141, rx_aload_n, rx_bipush, rx_getfield, ev_gf, rx_iadd, rx_iaload, rx_iconst, rx_icmp_lt, rx_icmp_ne, rx_if_lt, rx_iload_n, rx_invv, ev_cv, rx_irem, rx_ireturn, rx_istore_n, rx_isub, rx_tableswitch, kl_117, ev_K, ev_pI, ev_pR, ev_pVi, ev_pVr, ev_sI, ev_sR, ev_KC, ev_k, ev_ko, ev_pop0, ev_pops, am_ld, am_sv, am_at, am_st, am_g, List.length_cons, List.length_nil, Nat.reduceAdd, Nat.reduceLT, Nat.zero_add, if_true, if_false, and_self, true_or, or_true, true_and, and_true, not_true_eq_false, not_false_eq_true, reduceCtorEq, eq_self, Option.toList_some, Option.toList_none, List.cons_append, List.nil_append, Bool.false_eq_true, m0, hh, ht, e2, e3, e4, e5, hw]
def m_ct (F : Nat → Nat → Int32) : Nat := (if F 14 0 = 0 then 0 else 1) + (if F 14 1 = 0 then 0 else 1) + (if F 14 2 = 0 then 0 else 1)
theorem mo_look (d : Nat) {n : Nat} (hn : w 1 = nI n) (hb : n ≤ 520) (hM : vs_M z h x A w F) : am_M z (d + 1 + 1) 142 [.ref x, .int (nI 0)] h (some (.int (nI (m_cn (fun e => decide (F 5 e = -1)) n)))) h ∧ am_M z (d + 1) 142 [.ref x, .int (nI 1)] h (some (.int (w 4))) h ∧ am_M z (d + 1) 142 [.ref x, .int (nI 2)] h (some (.int (w 8))) h ∧ am_M z (d + 1) 142 [.ref x, .int (nI 3)] h (some (.int (w 5))) h ∧ am_M z (d + 1) 142 [.ref x, .int (nI 4)] h (some (.int (nI (m_ct F)))) h ∧ ∀ t : Int32, (t < 0 ∨ 5 ≤ t.toNatClampNeg) → am_M z (d + 1) 142 [.ref x, .int t] h (some (.int (-2))) h := by
  have m0 := hM.ob
  have k14 : h.1 (A 14) = some (.inl (1, 3, .inl (F 14))) := hM.ar 14 (by omega)
  refine ⟨?_, ?_, ?_, ?_, ?_, ?_⟩
  · have c1 := sw_n 0 (by omega)
    have c2 := sw_c 0 (by omega)
    have q1 := mo_size d (l := -1) hn hb hM
    rw [am_M_eq]
    simp only [am_R_eq, cx_142, en_142, rt_142, rx_aload_n, rx_baload, rx_bipush, rx_getfield, ev_gf, rx_goto, rx_iadd, rx_iconst, rx_if_eq, rx_iload_n, rx_invv, ev_cv, rx_ireturn, rx_tableswitch, kl_100, ev_K, ev_pI, ev_pR, ev_pVi, ev_pVr, ev_sI, ev_sR, ev_KC, ev_k, ev_ko, ev_pop0, ev_pops, am_ld, am_sv, am_at, am_st, am_g, List.length_cons, List.length_nil, Nat.reduceAdd, Nat.reduceLT, Nat.zero_add, if_true, if_false, and_self, true_or, or_true, true_and, and_true, not_true_eq_false, not_false_eq_true, reduceCtorEq, eq_self, Option.toList_some, Option.toList_none, List.cons_append, List.nil_append, Bool.false_eq_true, m0, c1, c2, am_tn, Nat.reduceLeDiff, or_self]
    refine am_CL_of q1 ?_
    simp only [am_R_eq, cx_142, en_142, rt_142, rx_aload_n, rx_baload, rx_bipush, rx_getfield, ev_gf, rx_goto, rx_iadd, rx_iconst, rx_if_eq, rx_iload_n, rx_invv, ev_cv, rx_ireturn, rx_tableswitch, kl_100, ev_K, ev_pI, ev_pR, ev_pVi, ev_pVr, ev_sI, ev_sR, ev_KC, ev_k, ev_ko, ev_pop0, ev_pops, am_ld, am_sv, am_at, am_st, am_g, List.length_cons, List.length_nil, Nat.reduceAdd, Nat.reduceLT, Nat.zero_add, if_true, if_false, and_self, true_or, or_true, true_and, and_true, not_true_eq_false, not_false_eq_true, reduceCtorEq, eq_self, Option.toList_some, Option.toList_none, List.cons_append, List.nil_append, Bool.false_eq_true]
  · have c1 := sw_n 1 (by omega)
    have c2 := sw_c 1 (by omega)
    rw [am_M_eq]
    simp only [am_R_eq, cx_142, en_142, rt_142, rx_aload_n, rx_baload, rx_bipush, rx_getfield, ev_gf, rx_goto, rx_iadd, rx_iconst, rx_if_eq, rx_iload_n, rx_invv, ev_cv, rx_ireturn, rx_tableswitch, kl_100, ev_K, ev_pI, ev_pR, ev_pVi, ev_pVr, ev_sI, ev_sR, ev_KC, ev_k, ev_ko, ev_pop0, ev_pops, am_ld, am_sv, am_at, am_st, am_g, List.length_cons, List.length_nil, Nat.reduceAdd, Nat.reduceLT, Nat.zero_add, if_true, if_false, and_self, true_or, or_true, true_and, and_true, not_true_eq_false, not_false_eq_true, reduceCtorEq, eq_self, Option.toList_some, Option.toList_none, List.cons_append, List.nil_append, Bool.false_eq_true, m0, c1, c2, am_tn, Nat.reduceLeDiff, or_self]
  · have c1 := sw_n 2 (by omega)
    have c2 := sw_c 2 (by omega)
    rw [am_M_eq]
    simp only [am_R_eq, cx_142, en_142, rt_142, rx_aload_n, rx_baload, rx_bipush, rx_getfield, ev_gf, rx_goto, rx_iadd, rx_iconst, rx_if_eq, rx_iload_n, rx_invv, ev_cv, rx_ireturn, rx_tableswitch, kl_100, ev_K, ev_pI, ev_pR, ev_pVi, ev_pVr, ev_sI, ev_sR, ev_KC, ev_k, ev_ko, ev_pop0, ev_pops, am_ld, am_sv, am_at, am_st, am_g, List.length_cons, List.length_nil, Nat.reduceAdd, Nat.reduceLT, Nat.zero_add, if_true, if_false, and_self, true_or, or_true, true_and, and_true, not_true_eq_false, not_false_eq_true, reduceCtorEq, eq_self, Option.toList_some, Option.toList_none, List.cons_append, List.nil_append, Bool.false_eq_true, m0, c1, c2, am_tn, Nat.reduceLeDiff, or_self]
  · have c1 := sw_n 3 (by omega)
    have c2 := sw_c 3 (by omega)
    rw [am_M_eq]
    simp only [am_R_eq, cx_142, en_142, rt_142, rx_aload_n, rx_baload, rx_bipush, rx_getfield, ev_gf, rx_goto, rx_iadd, rx_iconst, rx_if_eq, rx_iload_n, rx_invv, ev_cv, rx_ireturn, rx_tableswitch, kl_100, ev_K, ev_pI, ev_pR, ev_pVi, ev_pVr, ev_sI, ev_sR, ev_KC, ev_k, ev_ko, ev_pop0, ev_pops, am_ld, am_sv, am_at, am_st, am_g, List.length_cons, List.length_nil, Nat.reduceAdd, Nat.reduceLT, Nat.zero_add, if_true, if_false, and_self, true_or, or_true, true_and, and_true, not_true_eq_false, not_false_eq_true, reduceCtorEq, eq_self, Option.toList_some, Option.toList_none, List.cons_append, List.nil_append, Bool.false_eq_true, m0, c1, c2, am_tn, Nat.reduceLeDiff, or_self]
  · have c1 := sw_n 4 (by omega)
    have c2 := sw_c 4 (by omega)
    have i0 : ∀ (t : Nat) (g : Nat → Int32), am_ri t (some (.inl (t, 3, .inl g))) 0 = some (.int (g 0)) := m_ri (n := 3) (k := 0) (by omega) (by omega)
    have i1 : ∀ (t : Nat) (g : Nat → Int32), am_ri t (some (.inl (t, 3, .inl g))) 1 = some (.int (g 1)) := m_ri (n := 3) (k := 1) (by omega) (by omega)
    have i2 : ∀ (t : Nat) (g : Nat → Int32), am_ri t (some (.inl (t, 3, .inl g))) 2 = some (.int (g 2)) := m_ri (n := 3) (k := 2) (by omega) (by omega)
    unfold m_ct
    rw [am_M_eq]
    by_cases g0 : F 14 0 = 0 <;> by_cases g1 : F 14 1 = 0 <;> by_cases g2 : F 14 2 = 0 <;> (simp only [am_R_eq, cx_142, en_142, rt_142, rx_aload_n, rx_baload, rx_bipush, rx_getfield, ev_gf, rx_goto, rx_iadd, rx_iconst, rx_if_eq, rx_iload_n, rx_invv, ev_cv, rx_ireturn, rx_tableswitch, kl_100, ev_K, ev_pI, ev_pR, ev_pVi, ev_pVr, ev_sI, ev_sR, ev_KC, ev_k, ev_ko, ev_pop0, ev_pops, am_ld, am_sv, am_at, am_st, am_g, List.length_cons, List.length_nil, Nat.reduceAdd, Nat.reduceLT, Nat.zero_add, if_true, if_false, and_self, true_or, or_true, true_and, and_true, not_true_eq_false, not_false_eq_true, reduceCtorEq, eq_self, Option.toList_some, Option.toList_none, List.cons_append, List.nil_append, Bool.false_eq_true, m0, k14, i0, i1, i2, g0, g1, g2, c1, c2, am_tn, Nat.reduceLeDiff, or_self]) <;> rfl
  · intro t hw
    rw [am_M_eq]
    simp only [am_R_eq, cx_142, en_142, rt_142, rx_aload_n, rx_baload, rx_bipush, rx_getfield, ev_gf, rx_goto, rx_iadd, rx_iconst, rx_if_eq, rx_iload_n, rx_invv, ev_cv, rx_ireturn, rx_tableswitch, kl_100, ev_K, ev_pI, ev_pR, ev_pVi, ev_pVr, ev_sI, ev_sR, ev_KC, ev_k, ev_ko, ev_pop0, ev_pops, am_ld, am_sv, am_at, am_st, am_g, List.length_cons, List.length_nil, Nat.reduceAdd, Nat.reduceLT, Nat.zero_add, if_true, if_false, and_self, true_or, or_true, true_and, and_true, not_true_eq_false, not_false_eq_true, reduceCtorEq, eq_self, Option.toList_some, Option.toList_none, List.cons_append, List.nil_append, Bool.false_eq_true, hw]
end NO
