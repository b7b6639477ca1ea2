section MU
variable {z : Nat} {h : am_H} {x : Nat} {A : Nat → Nat} {w : Nat → Int32} {F : Nat → Nat → Int32}
theorem am_ft7 : am_ft 7 0 = 0 ∧ am_ft 7 1 = 0 ∧ am_ft 7 13 = 0 ∧ am_ft 7 14 = 0 ∧ am_ft 7 15 = 0 ∧ am_ft 7 16 = 0 ∧ am_ft 7 22 = 0 ∧ am_ft 7 23 = 0 ∧ am_ft 7 25 = 0 ∧ am_ft 7 29 = 0 := by decide +kernel
def m_ch (F : Nat → Nat → Int32) (n : Nat) (a b : Int32) : Nat → Nat → Int32 := va_up F 9 (m_fill (F 9) (m_chV F a b) n)
def m_mg (F : Nat → Nat → Int32) (t : Int32) (n last : Nat) (a b l : Int32) : Nat → Nat → Int32 := m_sf (m_ch F n a b) t n last l
def m_mc (F : Nat → Nat → Int32) (t : Int32) (n last : Nat) (a b l : Int32) : Nat := m_cn (m_c3 (m_ch F n a b) (m_fa (m_ch F n a b) t n last l)) n
def m_ag (F : Nat → Nat → Int32) (n : Nat) : Nat → Nat → Int32 := va_up F 6 (m_fill (F 6) (m_arV F n) n)
theorem mo_mergeNext (d : Nat) {n last : Nat} (hn : w 1 = nI n) (hb : n ≤ 520) (hl : w 4 = nI last) (hlb : last ≤ 5000) (hM : vs_M z h x A w F) : ∃ h', am_M z (d + 1 + 1 + 1) 109 [.ref x] h (some (.int (nI (m_mc F (w 0) n last 1 2 2)))) h' ∧ vs_M z h' x A w (m_mg F (w 0) n last 1 2 2) ∧ h'.2 = h.2 := by
  obtain ⟨h1, a1, a2, a3⟩ := mo_choose (d + 1) (a := 1) (b := 2) hn hb hM
  obtain ⟨h2, b1, b2, b3⟩ := mo_sift d (l := 2) hn hb hl hlb a2
  refine ⟨h2, ?_, b2, by rw [b3, a3]⟩
  have m0 := hM.ob
  have m1 := a2.ob
  rw [am_M_eq]
  simp only [am_R_eq, cx_109, en_109, rt_109, rx_aload_n, rx_iconst, rx_invv, ev_cv, rx_ireturn, kl_103, kl_104, ev_K, ev_pI, ev_pR, ev_pVi, ev_pVr, ev_sI, ev_sR, ev_KC, ev_k, ev_ko, ev_pop0, ev_pops, am_ld, am_sv, am_at, am_st, am_g, List.length_cons, List.length_nil, Nat.reduceAdd, Nat.reduceLT, Nat.zero_add, if_true, if_false, and_self, true_or, or_true, true_and, and_true, not_true_eq_false, not_false_eq_true, reduceCtorEq, eq_self, Option.toList_some, Option.toList_none, List.cons_append, List.nil_append, Bool.false_eq_true, m0]
  refine am_CL_of a1 ?_
  simp only [am_R_eq, cx_109, en_109, rt_109, rx_aload_n, rx_iconst, rx_invv, ev_cv, rx_ireturn, kl_103, kl_104, ev_K, ev_pI, ev_pR, ev_pVi, ev_pVr, ev_sI, ev_sR, ev_KC, ev_k, ev_ko, ev_pop0, ev_pops, am_ld, am_sv, am_at, am_st, am_g, List.length_cons, List.length_nil, Nat.reduceAdd, Nat.reduceLT, Nat.zero_add, if_true, if_false, and_self, true_or, or_true, true_and, and_true, not_true_eq_false, not_false_eq_true, reduceCtorEq, eq_self, Option.toList_some, Option.toList_none, List.cons_append, List.nil_append, Bool.false_eq_true, m1]
  refine am_CL_of b1 ?_
  simp only [am_R_eq, cx_109, en_109, rt_109, rx_aload_n, rx_iconst, rx_invv, ev_cv, rx_ireturn, kl_103, kl_104, ev_K, ev_pI, ev_pR, ev_pVi, ev_pVr, ev_sI, ev_sR, ev_KC, ev_k, ev_ko, ev_pop0, ev_pops, am_ld, am_sv, am_at, am_st, am_g, List.length_cons, List.length_nil, Nat.reduceAdd, Nat.reduceLT, Nat.zero_add, if_true, if_false, and_self, true_or, or_true, true_and, and_true, not_true_eq_false, not_false_eq_true, reduceCtorEq, eq_self, Option.toList_some, Option.toList_none, List.cons_append, List.nil_append, Bool.false_eq_true]
  rfl
theorem mo_mergeOf1 (d : Nat) {n last : Nat} (hn : w 1 = nI n) (hb : n ≤ 520) (hl : w 4 = nI last) (hlb : last ≤ 5000) (hM : vs_M z h x A w F) : ∃ h', am_M z (d + 1 + 1 + 1) 102 [.ref x, .int 1] h (some (.int (nI (m_mc F (w 0) n last 1 2 2)))) h' ∧ vs_M z h' x A w (m_ag (m_mg F (w 0) n last 1 2 2) n) ∧ h'.2 = h.2 := by
  obtain ⟨h1, a1, a2, a3⟩ := mo_choose (d + 1) (a := 1) (b := 2) hn hb hM
  obtain ⟨h2, b1, b2, b3⟩ := mo_sift d (l := 2) hn hb hl hlb a2
  obtain ⟨h3, c1, c2, c3⟩ := mo_arrange d hn hb b2
  refine ⟨h3, ?_, c2, by rw [c3, b3, a3]⟩
  have m0 := hM.ob
  have m1 := a2.ob
  have m2 := b2.ob
  have e1 : (1 : Int32) + 1 = 2 := by decide
  rw [am_M_eq]
  simp only [am_R_eq, cx_102, en_102, rt_102, rx_aload_n, rx_bipush, rx_iadd, rx_iconst, rx_icmp_le, rx_if_ne, rx_iload_n, rx_invv, ev_cv, rx_ireturn, rx_istore_n, rx_putfield, ev_pf, ev_w1, ev_KW, am_fok, am_ftv, kl_100, kl_103, kl_104, kl_109, kl_110, ev_K, ev_pI, ev_pR, ev_pVi, ev_pVr, ev_sI, ev_sR, ev_KC, ev_k, ev_ko, ev_pop0, ev_pops, am_ld, am_sv, am_at, am_st, am_g, List.length_cons, List.length_nil, Nat.reduceAdd, Nat.reduceLT, Nat.zero_add, if_true, if_false, and_self, true_or, or_true, true_and, and_true, not_true_eq_false, not_false_eq_true, reduceCtorEq, eq_self, Option.toList_some, Option.toList_none, List.cons_append, List.nil_append, Bool.false_eq_true, m0, e1]
  refine am_CL_of a1 ?_
  simp only [am_R_eq, cx_102, en_102, rt_102, rx_aload_n, rx_bipush, rx_iadd, rx_iconst, rx_icmp_le, rx_if_ne, rx_iload_n, rx_invv, ev_cv, rx_ireturn, rx_istore_n, rx_putfield, ev_pf, ev_w1, ev_KW, am_fok, am_ftv, kl_100, kl_103, kl_104, kl_109, kl_110, ev_K, ev_pI, ev_pR, ev_pVi, ev_pVr, ev_sI, ev_sR, ev_KC, ev_k, ev_ko, ev_pop0, ev_pops, am_ld, am_sv, am_at, am_st, am_g, List.length_cons, List.length_nil, Nat.reduceAdd, Nat.reduceLT, Nat.zero_add, if_true, if_false, and_self, true_or, or_true, true_and, and_true, not_true_eq_false, not_false_eq_true, reduceCtorEq, eq_self, Option.toList_some, Option.toList_none, List.cons_append, List.nil_append, Bool.false_eq_true, m1, e1]
  refine am_CL_of b1 ?_
  simp only [am_R_eq, cx_102, en_102, rt_102, rx_aload_n, rx_bipush, rx_iadd, rx_iconst, rx_icmp_le, rx_if_ne, rx_iload_n, rx_invv, ev_cv, rx_ireturn, rx_istore_n, rx_putfield, ev_pf, ev_w1, ev_KW, am_fok, am_ftv, kl_100, kl_103, kl_104, kl_109, kl_110, ev_K, ev_pI, ev_pR, ev_pVi, ev_pVr, ev_sI, ev_sR, ev_KC, ev_k, ev_ko, ev_pop0, ev_pops, am_ld, am_sv, am_at, am_st, am_g, List.length_cons, List.length_nil, Nat.reduceAdd, Nat.reduceLT, Nat.zero_add, if_true, if_false, and_self, true_or, or_true, true_and, and_true, not_true_eq_false, not_false_eq_true, reduceCtorEq, eq_self, Option.toList_some, Option.toList_none, List.cons_append, List.nil_append, Bool.false_eq_true, m2, i_10]
  refine am_CL_of c1 ?_
  simp only [am_R_eq, cx_102, en_102, rt_102, rx_aload_n, rx_bipush, rx_iadd, rx_iconst, rx_icmp_le, rx_if_ne, rx_iload_n, rx_invv, ev_cv, rx_ireturn, rx_istore_n, rx_putfield, ev_pf, ev_w1, ev_KW, am_fok, am_ftv, kl_100, kl_103, kl_104, kl_109, kl_110, ev_K, ev_pI, ev_pR, ev_pVi, ev_pVr, ev_sI, ev_sR, ev_KC, ev_k, ev_ko, ev_pop0, ev_pops, am_ld, am_sv, am_at, am_st, am_g, List.length_cons, List.length_nil, Nat.reduceAdd, Nat.reduceLT, Nat.zero_add, if_true, if_false, and_self, true_or, or_true, true_and, and_true, not_true_eq_false, not_false_eq_true, reduceCtorEq, eq_self, Option.toList_some, Option.toList_none, List.cons_append, List.nil_append, Bool.false_eq_true]
  rfl
def m_o0 (F : Nat → Nat → Int32) (t : Int32) (n last : Nat) : Nat → Nat → Int32 := if 12 < m_cn (fun e => decide (m_mg F t n last 0 1 1 5 e = 1)) n then m_ag (m_mg (m_mg F t n last 0 1 1) t n last 1 2 2) n else m_ag (m_mg F t n last 0 1 1) n
def m_o0c (F : Nat → Nat → Int32) (t : Int32) (n last : Nat) : Nat := if 12 < m_cn (fun e => decide (m_mg F t n last 0 1 1 5 e = 1)) n then m_mc F t n last 0 1 1 + m_mc (m_mg F t n last 0 1 1) t n last 1 2 2 else m_mc F t n last 0 1 1
theorem mo_mergeOf0 (d : Nat) {n last : Nat} (hn : w 1 = nI n) (hb : n ≤ 520) (hl : w 4 = nI last) (hlb : last ≤ 5000) (hM : vs_M z h x A w F) : ∃ h', am_M z (d + 1 + 1 + 1 + 1) 102 [.ref x, .int 0] h (some (.int (nI (m_o0c F (w 0) n last)))) h' ∧ vs_M z h' x A (va_up w 3 0) (m_o0 F (w 0) n last) ∧ h'.2 = h.2 := by
  obtain ⟨h1, a1, a2, a3⟩ := mo_choose (d + 1 + 1) (a := 0) (b := 1) hn hb hM
  obtain ⟨h2, b1, b2, b3⟩ := mo_sift (d + 1) (l := 1) hn hb hl hlb a2
  have hC := b2.fld (va_up w 3 0)
  have b2' : vs_M z h2 x A w (m_mg F (w 0) n last 0 1 1) := b2
  have hC' : vs_M z _ x A (va_up w 3 0) (m_mg F (w 0) n last 0 1 1) := hC
  have q1 := mo_size (w := va_up w 3 0) (d + 1 + 1) (l := 1) (n := n) hn hb hC'
  have m0 := hM.ob
  have m1 := a2.ob
  have m2 := b2.ob
  have m3 := hC.ob
  have zx := hM.zx
  have e1 : (0 : Int32) + 1 = 1 := by decide
  have hcle := m_cn_le (fun e => decide (m_mg F (w 0) n last 0 1 1 5 e = 1)) n
  rw [vmo_3] at q1 m3
  by_cases c1 : 12 < m_cn (fun e => decide (m_mg F (w 0) n last 0 1 1 5 e = 1)) n
  · obtain ⟨h4, d1, d2, d3⟩ := mo_mergeNext (w := va_up w 3 0) d (n := n) (last := last) hn hb hl hlb hC'
    obtain ⟨h5, f1, f2, f3⟩ := mo_arrange (w := va_up w 3 0) (d + 1) (n := n) hn hb d2
    have m4 := d2.ob
    refine ⟨h5, ?_, by unfold m_o0; rw [if_pos c1]; exact f2, by rw [f3, d3, am_up_2, b3, a3]⟩
    have c2 : ¬ nI (m_cn (fun e => decide (m_mg F (w 0) n last 0 1 1 5 e = 1)) n) ≤ 12 := nI_ge (a := 12) c1 (by omega)
    rw [vmo_3] at d1
    have er : m_o0c F (w 0) n last = m_mc F (w 0) n last 0 1 1 + m_mc (m_mg F (w 0) n last 0 1 1) (w 0) n last 1 2 2 := by unfold m_o0c; rw [if_pos c1]
    rw [er, ← nI_add]
    rw [am_M_eq]
    simp only [am_R_eq, cx_102, en_102, rt_102, rx_aload_n, rx_bipush, rx_iadd, rx_iconst, rx_icmp_le, rx_if_ne, rx_iload_n, rx_invv, ev_cv, rx_ireturn, rx_istore_n, rx_putfield, ev_pf, ev_w1, ev_KW, am_fok, am_ftv, kl_100, kl_103, kl_104, kl_109, kl_110, ev_K, ev_pI, ev_pR, ev_pVi, ev_pVr, ev_sI, ev_sR, ev_KC, ev_k, ev_ko, ev_pop0, ev_pops, am_ld, am_sv, am_at, am_st, am_g, List.length_cons, List.length_nil, Nat.reduceAdd, Nat.reduceLT, Nat.zero_add, if_true, if_false, and_self, true_or, or_true, true_and, and_true, not_true_eq_false, not_false_eq_true, reduceCtorEq, eq_self, Option.toList_some, Option.toList_none, List.cons_append, List.nil_append, Bool.false_eq_true, m0, e1]
    refine am_CL_of a1 ?_
    simp only [am_R_eq, cx_102, en_102, rt_102, rx_aload_n, rx_bipush, rx_iadd, rx_iconst, rx_icmp_le, rx_if_ne, rx_iload_n, rx_invv, ev_cv, rx_ireturn, rx_istore_n, rx_putfield, ev_pf, ev_w1, ev_KW, am_fok, am_ftv, kl_100, kl_103, kl_104, kl_109, kl_110, ev_K, ev_pI, ev_pR, ev_pVi, ev_pVr, ev_sI, ev_sR, ev_KC, ev_k, ev_ko, ev_pop0, ev_pops, am_ld, am_sv, am_at, am_st, am_g, List.length_cons, List.length_nil, Nat.reduceAdd, Nat.reduceLT, Nat.zero_add, if_true, if_false, and_self, true_or, or_true, true_and, and_true, not_true_eq_false, not_false_eq_true, reduceCtorEq, eq_self, Option.toList_some, Option.toList_none, List.cons_append, List.nil_append, Bool.false_eq_true, m1, e1]
    refine am_CL_of b1 ?_
    simp only [am_R_eq, cx_102, en_102, rt_102, rx_aload_n, rx_bipush, rx_iadd, rx_iconst, rx_icmp_le, rx_if_ne, rx_iload_n, rx_invv, ev_cv, rx_ireturn, rx_istore_n, rx_putfield, ev_pf, ev_w1, ev_KW, am_fok, am_ftv, kl_100, kl_103, kl_104, kl_109, kl_110, ev_K, ev_pI, ev_pR, ev_pVi, ev_pVr, ev_sI, ev_sR, ev_KC, ev_k, ev_ko, ev_pop0, ev_pops, am_ld, am_sv, am_at, am_st, am_g, List.length_cons, List.length_nil, Nat.reduceAdd, Nat.reduceLT, Nat.zero_add, if_true, if_false, and_self, true_or, or_true, true_and, and_true, not_true_eq_false, not_false_eq_true, reduceCtorEq, eq_self, Option.toList_some, Option.toList_none, List.cons_append, List.nil_append, Bool.false_eq_true, m2, zx, m3, am_ft7, am_up_at, Nat.reduceLeDiff, beq_self_eq_true]
    refine am_CL_of q1 ?_
    simp only [am_R_eq, cx_102, en_102, rt_102, rx_aload_n, rx_bipush, rx_iadd, rx_iconst, rx_icmp_le, rx_if_ne, rx_iload_n, rx_invv, ev_cv, rx_ireturn, rx_istore_n, rx_putfield, ev_pf, ev_w1, ev_KW, am_fok, am_ftv, kl_100, kl_103, kl_104, kl_109, kl_110, ev_K, ev_pI, ev_pR, ev_pVi, ev_pVr, ev_sI, ev_sR, ev_KC, ev_k, ev_ko, ev_pop0, ev_pops, am_ld, am_sv, am_at, am_st, am_g, List.length_cons, List.length_nil, Nat.reduceAdd, Nat.reduceLT, Nat.zero_add, if_true, if_false, and_self, true_or, or_true, true_and, and_true, not_true_eq_false, not_false_eq_true, reduceCtorEq, eq_self, Option.toList_some, Option.toList_none, List.cons_append, List.nil_append, Bool.false_eq_true, c2, m3]
    refine am_CL_of d1 ?_
    simp only [am_R_eq, cx_102, en_102, rt_102, rx_aload_n, rx_bipush, rx_iadd, rx_iconst, rx_icmp_le, rx_if_ne, rx_iload_n, rx_invv, ev_cv, rx_ireturn, rx_istore_n, rx_putfield, ev_pf, ev_w1, ev_KW, am_fok, am_ftv, kl_100, kl_103, kl_104, kl_109, kl_110, ev_K, ev_pI, ev_pR, ev_pVi, ev_pVr, ev_sI, ev_sR, ev_KC, ev_k, ev_ko, ev_pop0, ev_pops, am_ld, am_sv, am_at, am_st, am_g, List.length_cons, List.length_nil, Nat.reduceAdd, Nat.reduceLT, Nat.zero_add, if_true, if_false, and_self, true_or, or_true, true_and, and_true, not_true_eq_false, not_false_eq_true, reduceCtorEq, eq_self, Option.toList_some, Option.toList_none, List.cons_append, List.nil_append, Bool.false_eq_true, m4]
    refine am_CL_of f1 ?_
    simp only [am_R_eq, cx_102, en_102, rt_102, rx_aload_n, rx_bipush, rx_iadd, rx_iconst, rx_icmp_le, rx_if_ne, rx_iload_n, rx_invv, ev_cv, rx_ireturn, rx_istore_n, rx_putfield, ev_pf, ev_w1, ev_KW, am_fok, am_ftv, kl_100, kl_103, kl_104, kl_109, kl_110, ev_K, ev_pI, ev_pR, ev_pVi, ev_pVr, ev_sI, ev_sR, ev_KC, ev_k, ev_ko, ev_pop0, ev_pops, am_ld, am_sv, am_at, am_st, am_g, List.length_cons, List.length_nil, Nat.reduceAdd, Nat.reduceLT, Nat.zero_add, if_true, if_false, and_self, true_or, or_true, true_and, and_true, not_true_eq_false, not_false_eq_true, reduceCtorEq, eq_self, Option.toList_some, Option.toList_none, List.cons_append, List.nil_append, Bool.false_eq_true]
    rfl
  · obtain ⟨h5, f1, f2, f3⟩ := mo_arrange (w := va_up w 3 0) (d + 1) (n := n) hn hb hC'
    refine ⟨h5, ?_, by unfold m_o0; rw [if_neg c1]; exact f2, by rw [f3, am_up_2, b3, a3]⟩
    have c2 : nI (m_cn (fun e => decide (m_mg F (w 0) n last 0 1 1 5 e = 1)) n) ≤ 12 := nI_le (b := 12) (by omega) (by omega)
    rw [vmo_3] at f1
    have er : m_o0c F (w 0) n last = m_mc F (w 0) n last 0 1 1 := by unfold m_o0c; rw [if_neg c1]
    rw [er]
    rw [am_M_eq]
    simp only [am_R_eq, cx_102, en_102, rt_102, rx_aload_n, rx_bipush, rx_iadd, rx_iconst, rx_icmp_le, rx_if_ne, rx_iload_n, rx_invv, ev_cv, rx_ireturn, rx_istore_n, rx_putfield, ev_pf, ev_w1, ev_KW, am_fok, am_ftv, kl_100, kl_103, kl_104, kl_109, kl_110, ev_K, ev_pI, ev_pR, ev_pVi, ev_pVr, ev_sI, ev_sR, ev_KC, ev_k, ev_ko, ev_pop0, ev_pops, am_ld, am_sv, am_at, am_st, am_g, List.length_cons, List.length_nil, Nat.reduceAdd, Nat.reduceLT, Nat.zero_add, if_true, if_false, and_self, true_or, or_true, true_and, and_true, not_true_eq_false, not_false_eq_true, reduceCtorEq, eq_self, Option.toList_some, Option.toList_none, List.cons_append, List.nil_append, Bool.false_eq_true, m0, e1]
    refine am_CL_of a1 ?_
    simp only [am_R_eq, cx_102, en_102, rt_102, rx_aload_n, rx_bipush, rx_iadd, rx_iconst, rx_icmp_le, rx_if_ne, rx_iload_n, rx_invv, ev_cv, rx_ireturn, rx_istore_n, rx_putfield, ev_pf, ev_w1, ev_KW, am_fok, am_ftv, kl_100, kl_103, kl_104, kl_109, kl_110, ev_K, ev_pI, ev_pR, ev_pVi, ev_pVr, ev_sI, ev_sR, ev_KC, ev_k, ev_ko, ev_pop0, ev_pops, am_ld, am_sv, am_at, am_st, am_g, List.length_cons, List.length_nil, Nat.reduceAdd, Nat.reduceLT, Nat.zero_add, if_true, if_false, and_self, true_or, or_true, true_and, and_true, not_true_eq_false, not_false_eq_true, reduceCtorEq, eq_self, Option.toList_some, Option.toList_none, List.cons_append, List.nil_append, Bool.false_eq_true, m1, e1]
    refine am_CL_of b1 ?_
    simp only [am_R_eq, cx_102, en_102, rt_102, rx_aload_n, rx_bipush, rx_iadd, rx_iconst, rx_icmp_le, rx_if_ne, rx_iload_n, rx_invv, ev_cv, rx_ireturn, rx_istore_n, rx_putfield, ev_pf, ev_w1, ev_KW, am_fok, am_ftv, kl_100, kl_103, kl_104, kl_109, kl_110, ev_K, ev_pI, ev_pR, ev_pVi, ev_pVr, ev_sI, ev_sR, ev_KC, ev_k, ev_ko, ev_pop0, ev_pops, am_ld, am_sv, am_at, am_st, am_g, List.length_cons, List.length_nil, Nat.reduceAdd, Nat.reduceLT, Nat.zero_add, if_true, if_false, and_self, true_or, or_true, true_and, and_true, not_true_eq_false, not_false_eq_true, reduceCtorEq, eq_self, Option.toList_some, Option.toList_none, List.cons_append, List.nil_append, Bool.false_eq_true, m2, zx, m3, am_ft7, am_up_at, Nat.reduceLeDiff, beq_self_eq_true]
    refine am_CL_of q1 ?_
    simp only [am_R_eq, cx_102, en_102, rt_102, rx_aload_n, rx_bipush, rx_iadd, rx_iconst, rx_icmp_le, rx_if_ne, rx_iload_n, rx_invv, ev_cv, rx_ireturn, rx_istore_n, rx_putfield, ev_pf, ev_w1, ev_KW, am_fok, am_ftv, kl_100, kl_103, kl_104, kl_109, kl_110, ev_K, ev_pI, ev_pR, ev_pVi, ev_pVr, ev_sI, ev_sR, ev_KC, ev_k, ev_ko, ev_pop0, ev_pops, am_ld, am_sv, am_at, am_st, am_g, List.length_cons, List.length_nil, Nat.reduceAdd, Nat.reduceLT, Nat.zero_add, if_true, if_false, and_self, true_or, or_true, true_and, and_true, not_true_eq_false, not_false_eq_true, reduceCtorEq, eq_self, Option.toList_some, Option.toList_none, List.cons_append, List.nil_append, Bool.false_eq_true, c2, m3]
    refine am_CL_of f1 ?_
    simp only [am_R_eq, cx_102, en_102, rt_102, rx_aload_n, rx_bipush, rx_iadd, rx_iconst, rx_icmp_le, rx_if_ne, rx_iload_n, rx_invv, ev_cv, rx_ireturn, rx_istore_n, rx_putfield, ev_pf, ev_w1, ev_KW, am_fok, am_ftv, kl_100, kl_103, kl_104, kl_109, kl_110, ev_K, ev_pI, ev_pR, ev_pVi, ev_pVr, ev_sI, ev_sR, ev_KC, ev_k, ev_ko, ev_pop0, ev_pops, am_ld, am_sv, am_at, am_st, am_g, List.length_cons, List.length_nil, Nat.reduceAdd, Nat.reduceLT, Nat.zero_add, if_true, if_false, and_self, true_or, or_true, true_and, and_true, not_true_eq_false, not_false_eq_true, reduceCtorEq, eq_self, Option.toList_some, Option.toList_none, List.cons_append, List.nil_append, Bool.false_eq_true]
    rfl
end MU
