section MW
variable {z : Nat} {h : am_H} {x : Nat} {A : Nat → Nat} {w : Nat → Int32} {F : Nat → Nat → Int32}
def m_hd (hd u v : Nat) : Nat := if 16 < u + 1 + v then hd + 1 else hd
def m_us (u v : Nat) : Nat := if 16 < u + 1 + v then 0 else u
theorem mo_record (d : Nat) {hd u v : Nat} (hh : w 7 = nI hd) (hb : hd ≤ 10000) (hu : F 16 (hd % 8) = nI u) (hub : u ≤ 1000) (hv : v ≤ 1000) (hM : vs_M z h x A w F) : ∃ h', am_M z (d + 1 + 1) 112 [.ref x, .int (nI v)] h (some (.int (nI (m_us u v + 1)))) h' ∧ vs_M z h' x A (va_up w 7 (nI (m_hd hd u v))) (va_up F 16 (upd (F 16) (m_hd hd u v % 8) (nI (m_us u v + 1 + v)))) ∧ h'.2 = h.2 := by
  have m0 := hM.ob
  have zx := hM.zx
  have z16 := hM.za 16 (by omega)
  have k16 : h.1 (A 16) = some (.inl (0, 8, .inl (F 16))) := hM.ar 16 (by omega)
  have nx : x ≠ A 16 := (hM.ne (i := 16) (by omega)).symm
  have q1 := mo_needsHead d hh hb hu hub hv hM
  unfold m_hd m_us
  by_cases c1 : 16 < u + 1 + v
  · rw [if_pos c1] at q1 ⊢
    rw [if_pos c1]
    have er : nI (hd + 1) - nI (hd + 1) / 8 * 8 = nI ((hd + 1) % 8) := pk_rem (a := hd + 1) (d := 8) (by omega) (by omega) (by omega)
    have ix := m_ri (n := 8) (k := (hd + 1) % 8) (by omega) (by omega)
    have iw := m_wi (n := 8) (k := (hd + 1) % 8) (by omega) (by omega)
    have hA := hM.fld (va_up w 7 (nI (hd + 1)))
    have hB : vs_M z (am_up (am_up h x (vm_o A (va_up w 7 (nI (hd + 1))))) (A 16) (.inl (0, 8, .inl (upd (F 16) ((hd + 1) % 8) (nI (0 + 1 + v)))))) x A (va_up w 7 (nI (hd + 1))) (va_up F 16 (upd (F 16) ((hd + 1) % 8) (nI (0 + 1 + v)))) := hA.arr (i := 16) (by omega) _
    refine ⟨_, ?_, hB, rfl⟩
    rw [vmo_7]
    have es : (0 : Int32) + 1 + nI v = nI (0 + 1 + v) := by rw [show (0 : Int32) + 1 = nI 1 from rfl, nI_add]
    have ez : (0 : Int32) + 1 = nI (0 + 1) := rfl
    have eu : upd (F 16) ((hd + 1) % 8) 0 ((hd + 1) % 8) = 0 := by simp [upd]
    have nx' := nx.symm
    rw [am_M_eq]
    simp only [am_R_eq, cx_112, en_112, rt_112, rx_aload_n, rx_bipush, rx_dup_i, rx_dup_r, rx_getfield, ev_gf, rx_iadd, rx_iaload, rx_iastore, ev_w1, ev_KW, rx_iconst, rx_if_eq, rx_iload_n, rx_invv, ev_cv, rx_irem, rx_ireturn, rx_istore_n, rx_putfield, ev_pf, am_fok, am_ftv, kl_99, ev_K, ev_pI, ev_pR, ev_pVi, ev_pVr, ev_sI, ev_sR, ev_KC, ev_k, ev_ko, ev_pop0, ev_pops, am_ld, am_sv, am_at, am_st, am_g, List.length_cons, List.length_nil, Nat.reduceAdd, Nat.reduceLT, Nat.zero_add, if_true, if_false, and_self, true_or, or_true, true_and, and_true, not_true_eq_false, not_false_eq_true, reduceCtorEq, eq_self, Option.toList_some, Option.toList_none, List.cons_append, List.nil_append, Bool.false_eq_true, m0]
    refine am_CL_of q1 ?_
    simp only [am_R_eq, cx_112, en_112, rt_112, rx_aload_n, rx_bipush, rx_dup_i, rx_dup_r, rx_getfield, ev_gf, rx_iadd, rx_iaload, rx_iastore, ev_w1, ev_KW, rx_iconst, rx_if_eq, rx_iload_n, rx_invv, ev_cv, rx_irem, rx_ireturn, rx_istore_n, rx_putfield, ev_pf, am_fok, am_ftv, kl_99, ev_K, ev_pI, ev_pR, ev_pVi, ev_pVr, ev_sI, ev_sR, ev_KC, ev_k, ev_ko, ev_pop0, ev_pops, am_ld, am_sv, am_at, am_st, am_g, List.length_cons, List.length_nil, Nat.reduceAdd, Nat.reduceLT, Nat.zero_add, if_true, if_false, and_self, true_or, or_true, true_and, and_true, not_true_eq_false, not_false_eq_true, reduceCtorEq, eq_self, Option.toList_some, Option.toList_none, List.cons_append, List.nil_append, Bool.false_eq_true, i_10, m0, hh, nI_ofs, zx, am_ft7, k16, nx, nx', er, i_8, ix, iw, z16, eu, es, m_uu, am_up_at, am_up_ne, am_up_up, ne_eq, Nat.reduceLeDiff, beq_self_eq_true]
    rfl
  · rw [if_neg c1] at q1 ⊢
    rw [if_neg c1]
    have er : nI hd - nI hd / 8 * 8 = nI (hd % 8) := pk_rem (a := hd) (d := 8) (by omega) (by omega) (by omega)
    have ix := m_ri (n := 8) (k := hd % 8) (by omega) (by omega)
    have iw := m_wi (n := 8) (k := hd % 8) (by omega) (by omega)
    have ew : va_up w 7 (nI hd) = w := by rw [← hh, va_up_id]
    rw [ew]
    have hB : vs_M z (am_up h (A 16) (.inl (0, 8, .inl (upd (F 16) (hd % 8) (nI (u + 1 + v)))))) x A w (va_up F 16 (upd (F 16) (hd % 8) (nI (u + 1 + v)))) := hM.arr (i := 16) (by omega) _
    refine ⟨_, ?_, hB, rfl⟩
    rw [am_M_eq]
    simp only [am_R_eq, cx_112, en_112, rt_112, rx_aload_n, rx_bipush, rx_dup_i, rx_dup_r, rx_getfield, ev_gf, rx_iadd, rx_iaload, rx_iastore, ev_w1, ev_KW, rx_iconst, rx_if_eq, rx_iload_n, rx_invv, ev_cv, rx_irem, rx_ireturn, rx_istore_n, rx_putfield, ev_pf, am_fok, am_ftv, kl_99, ev_K, ev_pI, ev_pR, ev_pVi, ev_pVr, ev_sI, ev_sR, ev_KC, ev_k, ev_ko, ev_pop0, ev_pops, am_ld, am_sv, am_at, am_st, am_g, List.length_cons, List.length_nil, Nat.reduceAdd, Nat.reduceLT, Nat.zero_add, if_true, if_false, and_self, true_or, or_true, true_and, and_true, not_true_eq_false, not_false_eq_true, reduceCtorEq, eq_self, Option.toList_some, Option.toList_none, List.cons_append, List.nil_append, Bool.false_eq_true, m0]
    refine am_CL_of q1 ?_
    simp only [am_R_eq, cx_112, en_112, rt_112, rx_aload_n, rx_bipush, rx_dup_i, rx_dup_r, rx_getfield, ev_gf, rx_iadd, rx_iaload, rx_iastore, ev_w1, ev_KW, rx_iconst, rx_if_eq, rx_iload_n, rx_invv, ev_cv, rx_irem, rx_ireturn, rx_istore_n, rx_putfield, ev_pf, am_fok, am_ftv, kl_99, ev_K, ev_pI, ev_pR, ev_pVi, ev_pVr, ev_sI, ev_sR, ev_KC, ev_k, ev_ko, ev_pop0, ev_pops, am_ld, am_sv, am_at, am_st, am_g, List.length_cons, List.length_nil, Nat.reduceAdd, Nat.reduceLT, Nat.zero_add, if_true, if_false, and_self, true_or, or_true, true_and, and_true, not_true_eq_false, not_false_eq_true, reduceCtorEq, eq_self, Option.toList_some, Option.toList_none, List.cons_append, List.nil_append, Bool.false_eq_true, m0, hh, nI_ofs, nI_add, k16, nx, er, i_8, ix, iw, hu, z16, am_up_at, am_up_ne, ne_eq, Nat.reduceLeDiff, beq_self_eq_true]
theorem mo_isKey (z d : Nat) (h : am_H) (k : Int32) : am_M z (d + 1) 95 [.int k] h (some (.int (if k < 0 ∨ 32 ≤ k then 0 else 1))) h := by
  rw [am_M_eq]
  by_cases c1 : k < 0
  · simp only [am_R_eq, cx_95, en_95, rt_95, rx_bipush, rx_goto, rx_iconst, rx_icmp_ge, rx_if_lt, rx_iload_n, rx_ireturn, ev_K, ev_pI, ev_pR, ev_pVi, ev_pVr, ev_sI, ev_sR, ev_KC, ev_k, ev_ko, ev_pop0, ev_pops, am_ld, am_sv, am_at, am_st, am_g, List.length_cons, List.length_nil, Nat.reduceAdd, Nat.reduceLT, Nat.zero_add, if_true, if_false, and_self, true_or, or_true, true_and, and_true, not_true_eq_false, not_false_eq_true, reduceCtorEq, eq_self, Option.toList_some, Option.toList_none, List.cons_append, List.nil_append, Bool.false_eq_true, c1, b00]
  · by_cases c2 : 32 ≤ k
    · simp only [am_R_eq, cx_95, en_95, rt_95, rx_bipush, rx_goto, rx_iconst, rx_icmp_ge, rx_if_lt, rx_iload_n, rx_ireturn, ev_K, ev_pI, ev_pR, ev_pVi, ev_pVr, ev_sI, ev_sR, ev_KC, ev_k, ev_ko, ev_pop0, ev_pops, am_ld, am_sv, am_at, am_st, am_g, List.length_cons, List.length_nil, Nat.reduceAdd, Nat.reduceLT, Nat.zero_add, if_true, if_false, and_self, true_or, or_true, true_and, and_true, not_true_eq_false, not_false_eq_true, reduceCtorEq, eq_self, Option.toList_some, Option.toList_none, List.cons_append, List.nil_append, Bool.false_eq_true, c1, c2, b00]
    · simp only [am_R_eq, cx_95, en_95, rt_95, rx_bipush, rx_goto, rx_iconst, rx_icmp_ge, rx_if_lt, rx_iload_n, rx_ireturn, ev_K, ev_pI, ev_pR, ev_pVi, ev_pVr, ev_sI, ev_sR, ev_KC, ev_k, ev_ko, ev_pop0, ev_pops, am_ld, am_sv, am_at, am_st, am_g, List.length_cons, List.length_nil, Nat.reduceAdd, Nat.reduceLT, Nat.zero_add, if_true, if_false, and_self, true_or, or_true, true_and, and_true, not_true_eq_false, not_false_eq_true, reduceCtorEq, eq_self, Option.toList_some, Option.toList_none, List.cons_append, List.nil_append, Bool.false_eq_true, c1, c2, b11, or_self]
theorem mo_addFull (d : Nat) {k v l : Int32} (hr : w 5 = nI 6) (hM : vs_M z h x A w F) : am_M z (d + 1) 96 [.ref x, .int k, .int v, .int l] h (some (.int (-3))) h := by
  have m0 := hM.ob
  have e6 : nI 6 = 6 := rfl
  rw [am_M_eq]
  simp only [am_R_eq, cx_96, en_96, rt_96, rx_aload_n, rx_bipush, rx_dup_i, rx_dup_r, rx_getfield, ev_gf, rx_iadd, rx_iastore, ev_w1, ev_KW, rx_iconst, rx_icmp_ne, rx_iload_n, rx_ireturn, rx_putfield, ev_pf, am_fok, am_ftv, ev_K, ev_pI, ev_pR, ev_pVi, ev_pVr, ev_sI, ev_sR, ev_KC, ev_k, ev_ko, ev_pop0, ev_pops, am_ld, am_sv, am_at, am_st, am_g, List.length_cons, List.length_nil, Nat.reduceAdd, Nat.reduceLT, Nat.zero_add, if_true, if_false, and_self, true_or, or_true, true_and, and_true, not_true_eq_false, not_false_eq_true, reduceCtorEq, eq_self, Option.toList_some, Option.toList_none, List.cons_append, List.nil_append, Bool.false_eq_true, m0, hr, e6]
def m_add (F : Nat → Nat → Int32) (r : Nat) (k v l : Int32) : Nat → Nat → Int32 := va_up (va_up (va_up F 11 (upd (F 11) r k)) 12 (upd (F 12) r v)) 13 (upd (F 13) r l)
theorem mo_add (d : Nat) {r : Nat} {k v l : Int32} (hr : w 5 = nI r) (hr6 : r < 6) (hM : vs_M z h x A w F) : ∃ h', am_M z (d + 1) 96 [.ref x, .int k, .int v, .int l] h (some (.int (nI (r + 1)))) h' ∧ vs_M z h' x A (va_up w 5 (nI (r + 1))) (m_add F r k v l) ∧ h'.2 = h.2 := by
  have m0 := hM.ob
  have zx := hM.zx
  have z11 := hM.za 11 (by omega)
  have z12 := hM.za 12 (by omega)
  have z13 := hM.za 13 (by omega)
  have k11 : h.1 (A 11) = some (.inl (0, 6, .inl (F 11))) := hM.ar 11 (by omega)
  have k12 : h.1 (A 12) = some (.inl (0, 6, .inl (F 12))) := hM.ar 12 (by omega)
  have k13 : h.1 (A 13) = some (.inl (0, 6, .inl (F 13))) := hM.ar 13 (by omega)
  have x11 : x ≠ A 11 := (hM.ne (i := 11) (by omega)).symm
  have x12 : x ≠ A 12 := (hM.ne (i := 12) (by omega)).symm
  have x13 : x ≠ A 13 := (hM.ne (i := 13) (by omega)).symm
  have n1 : A 12 ≠ A 11 := hM.dj 12 11 (by omega) (by omega) (by omega)
  have n2 : A 13 ≠ A 11 := hM.dj 13 11 (by omega) (by omega) (by omega)
  have n3 : A 13 ≠ A 12 := hM.dj 13 12 (by omega) (by omega) (by omega)
  have iw := m_wi (n := 6) (k := r) (by omega) (by omega)
  have e6 : ¬ nI r = 6 := by
    intro q
    have := (nI_eq (a := r) (b := 6) (by omega) (by omega)).mp q
    omega
  have h1 : vs_M z (am_up h (A 11) (.inl (0, 6, .inl (upd (F 11) r k)))) x A w (va_up F 11 (upd (F 11) r k)) := hM.arr (i := 11) (by omega) _
  have h2 : vs_M z (am_up (am_up h (A 11) (.inl (0, 6, .inl (upd (F 11) r k)))) (A 12) (.inl (0, 6, .inl (upd (F 12) r v)))) x A w (va_up (va_up F 11 (upd (F 11) r k)) 12 (upd (F 12) r v)) := h1.arr (i := 12) (by omega) _
  have h3 : vs_M z (am_up (am_up (am_up h (A 11) (.inl (0, 6, .inl (upd (F 11) r k)))) (A 12) (.inl (0, 6, .inl (upd (F 12) r v)))) (A 13) (.inl (0, 6, .inl (upd (F 13) r l)))) x A w (m_add F r k v l) := h2.arr (i := 13) (by omega) _
  have h4 := h3.fld (va_up w 5 (nI (r + 1)))
  refine ⟨_, ?_, h4, rfl⟩
  rw [vmo_5]
  rw [am_M_eq]
  simp only [am_R_eq, cx_96, en_96, rt_96, rx_aload_n, rx_bipush, rx_dup_i, rx_dup_r, rx_getfield, ev_gf, rx_iadd, rx_iastore, ev_w1, ev_KW, rx_iconst, rx_icmp_ne, rx_iload_n, rx_ireturn, rx_putfield, ev_pf, am_fok, am_ftv, ev_K, ev_pI, ev_pR, ev_pVi, ev_pVr, ev_sI, ev_sR, ev_KC, ev_k, ev_ko, ev_pop0, ev_pops, am_ld, am_sv, am_at, am_st, am_g, List.length_cons, List.length_nil, Nat.reduceAdd, Nat.reduceLT, Nat.zero_add, if_true, if_false, and_self, true_or, or_true, true_and, and_true, not_true_eq_false, not_false_eq_true, reduceCtorEq, eq_self, Option.toList_some, Option.toList_none, List.cons_append, List.nil_append, Bool.false_eq_true, m0, hr, e6, zx, z11, z12, z13, k11, k12, k13, x11, x12, x13, n1, n2, n3, iw, am_ft7, nI_ofs, am_up_at, am_up_ne, ne_eq, Nat.reduceLeDiff, beq_self_eq_true]
theorem mo_putBad (d : Nat) {k v l : Int32} (hk : (k < 0 ∨ 32 ≤ k) ∨ l < 0 ∨ ¬ l ≤ 1000) : am_M z (d + 1 + 1) 94 [.ref x, .int k, .int v, .int l] h (some (.int (-1))) h := by
  have q1 := mo_isKey z d h k
  rw [am_M_eq]
  simp only [am_R_eq, cx_94, en_94, rt_94, rx_aload_n, rx_goto, rx_iconst, rx_icmp_le, rx_if_eq, rx_if_lt, rx_iload_n, rx_invs, rx_max2, rx_min2, rx_copy2, rx_invv, ev_cv, rx_ireturn, rx_sipush, kl_95, kl_96, ev_K, ev_pI, ev_pR, ev_pVi, ev_pVr, ev_sI, ev_sR, ev_KC, ev_k, ev_ko, ev_pop0, ev_pops, am_ld, am_sv, am_at, am_st, am_g, List.length_cons, List.length_nil, Nat.reduceAdd, Nat.reduceLT, Nat.zero_add, if_true, if_false, and_self, true_or, or_true, true_and, and_true, not_true_eq_false, not_false_eq_true, reduceCtorEq, eq_self, Option.toList_some, Option.toList_none, List.cons_append, List.nil_append, Bool.false_eq_true]
  refine am_CL_of q1 ?_
  by_cases c1 : k < 0 ∨ 32 ≤ k
  · simp only [am_R_eq, cx_94, en_94, rt_94, rx_aload_n, rx_goto, rx_iconst, rx_icmp_le, rx_if_eq, rx_if_lt, rx_iload_n, rx_invs, rx_max2, rx_min2, rx_copy2, rx_invv, ev_cv, rx_ireturn, rx_sipush, kl_95, kl_96, ev_K, ev_pI, ev_pR, ev_pVi, ev_pVr, ev_sI, ev_sR, ev_KC, ev_k, ev_ko, ev_pop0, ev_pops, am_ld, am_sv, am_at, am_st, am_g, List.length_cons, List.length_nil, Nat.reduceAdd, Nat.reduceLT, Nat.zero_add, if_true, if_false, and_self, true_or, or_true, true_and, and_true, not_true_eq_false, not_false_eq_true, reduceCtorEq, eq_self, Option.toList_some, Option.toList_none, List.cons_append, List.nil_append, Bool.false_eq_true, c1]
  · have h2 := hk.resolve_left c1
    by_cases c2 : l < 0
    · simp only [am_R_eq, cx_94, en_94, rt_94, rx_aload_n, rx_goto, rx_iconst, rx_icmp_le, rx_if_eq, rx_if_lt, rx_iload_n, rx_invs, rx_max2, rx_min2, rx_copy2, rx_invv, ev_cv, rx_ireturn, rx_sipush, kl_95, kl_96, ev_K, ev_pI, ev_pR, ev_pVi, ev_pVr, ev_sI, ev_sR, ev_KC, ev_k, ev_ko, ev_pop0, ev_pops, am_ld, am_sv, am_at, am_st, am_g, List.length_cons, List.length_nil, Nat.reduceAdd, Nat.reduceLT, Nat.zero_add, if_true, if_false, and_self, true_or, or_true, true_and, and_true, not_true_eq_false, not_false_eq_true, reduceCtorEq, eq_self, Option.toList_some, Option.toList_none, List.cons_append, List.nil_append, Bool.false_eq_true, c1, c2, i_10]
    · have c3 := h2.resolve_left c2
      simp only [am_R_eq, cx_94, en_94, rt_94, rx_aload_n, rx_goto, rx_iconst, rx_icmp_le, rx_if_eq, rx_if_lt, rx_iload_n, rx_invs, rx_max2, rx_min2, rx_copy2, rx_invv, ev_cv, rx_ireturn, rx_sipush, kl_95, kl_96, ev_K, ev_pI, ev_pR, ev_pVi, ev_pVr, ev_sI, ev_sR, ev_KC, ev_k, ev_ko, ev_pop0, ev_pops, am_ld, am_sv, am_at, am_st, am_g, List.length_cons, List.length_nil, Nat.reduceAdd, Nat.reduceLT, Nat.zero_add, if_true, if_false, and_self, true_or, or_true, true_and, and_true, not_true_eq_false, not_false_eq_true, reduceCtorEq, eq_self, Option.toList_some, Option.toList_none, List.cons_append, List.nil_append, Bool.false_eq_true, c1, c2, c3, i_10]
theorem mo_put (d : Nat) {k v l : Int32} {r : Int32} {h' : am_H} (hk : ¬ (k < 0 ∨ 32 ≤ k)) (h1 : ¬ l < 0) (h2 : l ≤ 1000) (hM : vs_M z h x A w F) (q2 : am_M z (d + 1) 96 [.ref x, .int k, .int v, .int l] h (some (.int r)) h') : am_M z (d + 1 + 1) 94 [.ref x, .int k, .int v, .int l] h (some (.int r)) h' := by
  have q1 := mo_isKey z d h k
  have m0 := hM.ob
  rw [am_M_eq]
  simp only [am_R_eq, cx_94, en_94, rt_94, rx_aload_n, rx_goto, rx_iconst, rx_icmp_le, rx_if_eq, rx_if_lt, rx_iload_n, rx_invs, rx_max2, rx_min2, rx_copy2, rx_invv, ev_cv, rx_ireturn, rx_sipush, kl_95, kl_96, ev_K, ev_pI, ev_pR, ev_pVi, ev_pVr, ev_sI, ev_sR, ev_KC, ev_k, ev_ko, ev_pop0, ev_pops, am_ld, am_sv, am_at, am_st, am_g, List.length_cons, List.length_nil, Nat.reduceAdd, Nat.reduceLT, Nat.zero_add, if_true, if_false, and_self, true_or, or_true, true_and, and_true, not_true_eq_false, not_false_eq_true, reduceCtorEq, eq_self, Option.toList_some, Option.toList_none, List.cons_append, List.nil_append, Bool.false_eq_true]
  refine am_CL_of q1 ?_
  simp only [am_R_eq, cx_94, en_94, rt_94, rx_aload_n, rx_goto, rx_iconst, rx_icmp_le, rx_if_eq, rx_if_lt, rx_iload_n, rx_invs, rx_max2, rx_min2, rx_copy2, rx_invv, ev_cv, rx_ireturn, rx_sipush, kl_95, kl_96, ev_K, ev_pI, ev_pR, ev_pVi, ev_pVr, ev_sI, ev_sR, ev_KC, ev_k, ev_ko, ev_pop0, ev_pops, am_ld, am_sv, am_at, am_st, am_g, List.length_cons, List.length_nil, Nat.reduceAdd, Nat.reduceLT, Nat.zero_add, if_true, if_false, and_self, true_or, or_true, true_and, and_true, not_true_eq_false, not_false_eq_true, reduceCtorEq, eq_self, Option.toList_some, Option.toList_none, List.cons_append, List.nil_append, Bool.false_eq_true, hk, h1, h2, i_10, m0]
  refine am_CL_of q2 ?_
  simp only [am_R_eq, cx_94, en_94, rt_94, rx_aload_n, rx_goto, rx_iconst, rx_icmp_le, rx_if_eq, rx_if_lt, rx_iload_n, rx_invs, rx_max2, rx_min2, rx_copy2, rx_invv, ev_cv, rx_ireturn, rx_sipush, kl_95, kl_96, ev_K, ev_pI, ev_pR, ev_pVi, ev_pVr, ev_sI, ev_sR, ev_KC, ev_k, ev_ko, ev_pop0, ev_pops, am_ld, am_sv, am_at, am_st, am_g, List.length_cons, List.length_nil, Nat.reduceAdd, Nat.reduceLT, Nat.zero_add, if_true, if_false, and_self, true_or, or_true, true_and, and_true, not_true_eq_false, not_false_eq_true, reduceCtorEq, eq_self, Option.toList_some, Option.toList_none, List.cons_append, List.nil_append, Bool.false_eq_true]
theorem mo_deleteBad (d : Nat) {k : Int32} (hk : k < 0 ∨ 32 ≤ k) : am_M z (d + 1 + 1) 97 [.ref x, .int k] h (some (.int (-1))) h := by
  have q1 := mo_isKey z d h k
  rw [am_M_eq]
  simp only [am_R_eq, cx_97, en_97, rt_97, rx_aload_n, rx_goto, rx_iconst, rx_if_eq, rx_iload_n, rx_invs, rx_max2, rx_min2, rx_copy2, rx_invv, ev_cv, rx_ireturn, kl_95, kl_96, ev_K, ev_pI, ev_pR, ev_pVi, ev_pVr, ev_sI, ev_sR, ev_KC, ev_k, ev_ko, ev_pop0, ev_pops, am_ld, am_sv, am_at, am_st, am_g, List.length_cons, List.length_nil, Nat.reduceAdd, Nat.reduceLT, Nat.zero_add, if_true, if_false, and_self, true_or, or_true, true_and, and_true, not_true_eq_false, not_false_eq_true, reduceCtorEq, eq_self, Option.toList_some, Option.toList_none, List.cons_append, List.nil_append, Bool.false_eq_true]
  refine am_CL_of q1 ?_
  simp only [am_R_eq, cx_97, en_97, rt_97, rx_aload_n, rx_goto, rx_iconst, rx_if_eq, rx_iload_n, rx_invs, rx_max2, rx_min2, rx_copy2, rx_invv, ev_cv, rx_ireturn, kl_95, kl_96, ev_K, ev_pI, ev_pR, ev_pVi, ev_pVr, ev_sI, ev_sR, ev_KC, ev_k, ev_ko, ev_pop0, ev_pops, am_ld, am_sv, am_at, am_st, am_g, List.length_cons, List.length_nil, Nat.reduceAdd, Nat.reduceLT, Nat.zero_add, if_true, if_false, and_self, true_or, or_true, true_and, and_true, not_true_eq_false, not_false_eq_true, reduceCtorEq, eq_self, Option.toList_some, Option.toList_none, List.cons_append, List.nil_append, Bool.false_eq_true, hk]
theorem mo_delete (d : Nat) {k : Int32} {r : Int32} {h' : am_H} (hk : ¬ (k < 0 ∨ 32 ≤ k)) (hM : vs_M z h x A w F) (q2 : am_M z (d + 1) 96 [.ref x, .int k, .int 0, .int (-1)] h (some (.int r)) h') : am_M z (d + 1 + 1) 97 [.ref x, .int k] h (some (.int r)) h' := by
  have q1 := mo_isKey z d h k
  have m0 := hM.ob
  rw [am_M_eq]
  simp only [am_R_eq, cx_97, en_97, rt_97, rx_aload_n, rx_goto, rx_iconst, rx_if_eq, rx_iload_n, rx_invs, rx_max2, rx_min2, rx_copy2, rx_invv, ev_cv, rx_ireturn, kl_95, kl_96, ev_K, ev_pI, ev_pR, ev_pVi, ev_pVr, ev_sI, ev_sR, ev_KC, ev_k, ev_ko, ev_pop0, ev_pops, am_ld, am_sv, am_at, am_st, am_g, List.length_cons, List.length_nil, Nat.reduceAdd, Nat.reduceLT, Nat.zero_add, if_true, if_false, and_self, true_or, or_true, true_and, and_true, not_true_eq_false, not_false_eq_true, reduceCtorEq, eq_self, Option.toList_some, Option.toList_none, List.cons_append, List.nil_append, Bool.false_eq_true]
  refine am_CL_of q1 ?_
  simp only [am_R_eq, cx_97, en_97, rt_97, rx_aload_n, rx_goto, rx_iconst, rx_if_eq, rx_iload_n, rx_invs, rx_max2, rx_min2, rx_copy2, rx_invv, ev_cv, rx_ireturn, kl_95, kl_96, ev_K, ev_pI, ev_pR, ev_pVi, ev_pVr, ev_sI, ev_sR, ev_KC, ev_k, ev_ko, ev_pop0, ev_pops, am_ld, am_sv, am_at, am_st, am_g, List.length_cons, List.length_nil, Nat.reduceAdd, Nat.reduceLT, Nat.zero_add, if_true, if_false, and_self, true_or, or_true, true_and, and_true, not_true_eq_false, not_false_eq_true, reduceCtorEq, eq_self, Option.toList_some, Option.toList_none, List.cons_append, List.nil_append, Bool.false_eq_true, hk, i_10, m0]
  refine am_CL_of q2 ?_
  simp only [am_R_eq, cx_97, en_97, rt_97, rx_aload_n, rx_goto, rx_iconst, rx_if_eq, rx_iload_n, rx_invs, rx_max2, rx_min2, rx_copy2, rx_invv, ev_cv, rx_ireturn, kl_95, kl_96, ev_K, ev_pI, ev_pR, ev_pVi, ev_pVr, ev_sI, ev_sR, ev_KC, ev_k, ev_ko, ev_pop0, ev_pops, am_ld, am_sv, am_at, am_st, am_g, List.length_cons, List.length_nil, Nat.reduceAdd, Nat.reduceLT, Nat.zero_add, if_true, if_false, and_self, true_or, or_true, true_and, and_true, not_true_eq_false, not_false_eq_true, reduceCtorEq, eq_self, Option.toList_some, Option.toList_none, List.cons_append, List.nil_append, Bool.false_eq_true]
theorem mo_sync (d : Nat) (hM : vs_M z h x A w F) : ∃ h', am_M z (d + 1) 113 [.ref x] h (some (.int (w 8))) h' ∧ vs_M z h' x A (va_up w 8 0) F ∧ h'.2 = h.2 := by
  have m0 := hM.ob
  have zx := hM.zx
  refine ⟨_, ?_, hM.fld (va_up w 8 0), rfl⟩
  rw [vmo_8]
  rw [am_M_eq]
  simp only [am_R_eq, cx_113, en_113, rt_113, rx_aload_n, rx_getfield, ev_gf, rx_iconst, rx_iload_n, rx_ireturn, rx_istore_n, rx_putfield, ev_pf, ev_w1, ev_KW, am_fok, am_ftv, ev_K, ev_pI, ev_pR, ev_pVi, ev_pVr, ev_sI, ev_sR, ev_KC, ev_k, ev_ko, ev_pop0, ev_pops, am_ld, am_sv, am_at, am_st, am_g, List.length_cons, List.length_nil, Nat.reduceAdd, Nat.reduceLT, Nat.zero_add, if_true, if_false, and_self, true_or, or_true, true_and, and_true, not_true_eq_false, not_false_eq_true, reduceCtorEq, eq_self, Option.toList_some, Option.toList_none, List.cons_append, List.nil_append, Bool.false_eq_true, m0, zx, am_ft7, Nat.reduceLeDiff, beq_self_eq_true]
theorem mo_flush (d : Nat) {n : Nat} {h' : am_H} (hn : w 1 = nI n) (hb : n ≤ 520) (hM : vs_M z h x A w F) (q2 : am_M z (d + 1) 101 [.ref x] h none h') : am_M z (d + 1 + 1) 114 [.ref x] h (some (.int (nI (m_cn (fun e => decide (F 5 e = -1)) n)))) h' := by
  have q1 := mo_size d (l := -1) hn hb hM
  have m0 := hM.ob
  rw [am_M_eq]
  simp only [am_R_eq, cx_114, en_114, rt_114, rx_aload_n, rx_iconst, rx_iload_n, rx_invv, ev_cv, rx_ireturn, rx_istore_n, kl_100, kl_101, ev_K, ev_pI, ev_pR, ev_pVi, ev_pVr, ev_sI, ev_sR, ev_KC, ev_k, ev_ko, ev_pop0, ev_pops, am_ld, am_sv, am_at, am_st, am_g, List.length_cons, List.length_nil, Nat.reduceAdd, Nat.reduceLT, Nat.zero_add, if_true, if_false, and_self, true_or, or_true, true_and, and_true, not_true_eq_false, not_false_eq_true, reduceCtorEq, eq_self, Option.toList_some, Option.toList_none, List.cons_append, List.nil_append, Bool.false_eq_true, m0]
  refine am_CL_of q1 ?_
  simp only [am_R_eq, cx_114, en_114, rt_114, rx_aload_n, rx_iconst, rx_iload_n, rx_invv, ev_cv, rx_ireturn, rx_istore_n, kl_100, kl_101, ev_K, ev_pI, ev_pR, ev_pVi, ev_pVr, ev_sI, ev_sR, ev_KC, ev_k, ev_ko, ev_pop0, ev_pops, am_ld, am_sv, am_at, am_st, am_g, List.length_cons, List.length_nil, Nat.reduceAdd, Nat.reduceLT, Nat.zero_add, if_true, if_false, and_self, true_or, or_true, true_and, and_true, not_true_eq_false, not_false_eq_true, reduceCtorEq, eq_self, Option.toList_some, Option.toList_none, List.cons_append, List.nil_append, Bool.false_eq_true, m0]
  refine am_CL_of q2 ?_
  simp only [am_R_eq, cx_114, en_114, rt_114, rx_aload_n, rx_iconst, rx_iload_n, rx_invv, ev_cv, rx_ireturn, rx_istore_n, kl_100, kl_101, ev_K, ev_pI, ev_pR, ev_pVi, ev_pVr, ev_sI, ev_sR, ev_KC, ev_k, ev_ko, ev_pop0, ev_pops, am_ld, am_sv, am_at, am_st, am_g, List.length_cons, List.length_nil, Nat.reduceAdd, Nat.reduceLT, Nat.zero_add, if_true, if_false, and_self, true_or, or_true, true_and, and_true, not_true_eq_false, not_false_eq_true, reduceCtorEq, eq_self, Option.toList_some, Option.toList_none, List.cons_append, List.nil_append, Bool.false_eq_true]
theorem mo_mergeBad (d : Nat) {k : Int32} (hk : k < 0 ∨ ¬ k ≤ 1) : am_M z (d + 1) 115 [.ref x, .int k] h (some (.int (-1))) h := by
  rw [am_M_eq]
  by_cases c1 : k < 0
  · simp only [am_R_eq, cx_115, en_115, rt_115, rx_aload_n, rx_bipush, rx_goto, rx_iconst, rx_icmp_le, rx_if_lt, rx_if_ne, rx_iload_n, rx_invv, ev_cv, rx_ireturn, kl_100, kl_102, ev_K, ev_pI, ev_pR, ev_pVi, ev_pVr, ev_sI, ev_sR, ev_KC, ev_k, ev_ko, ev_pop0, ev_pops, am_ld, am_sv, am_at, am_st, am_g, List.length_cons, List.length_nil, Nat.reduceAdd, Nat.reduceLT, Nat.zero_add, if_true, if_false, and_self, true_or, or_true, true_and, and_true, not_true_eq_false, not_false_eq_true, reduceCtorEq, eq_self, Option.toList_some, Option.toList_none, List.cons_append, List.nil_append, Bool.false_eq_true, c1]
  · have c2 := hk.resolve_left c1
    simp only [am_R_eq, cx_115, en_115, rt_115, rx_aload_n, rx_bipush, rx_goto, rx_iconst, rx_icmp_le, rx_if_lt, rx_if_ne, rx_iload_n, rx_invv, ev_cv, rx_ireturn, kl_100, kl_102, ev_K, ev_pI, ev_pR, ev_pVi, ev_pVr, ev_sI, ev_sR, ev_KC, ev_k, ev_ko, ev_pop0, ev_pops, am_ld, am_sv, am_at, am_st, am_g, List.length_cons, List.length_nil, Nat.reduceAdd, Nat.reduceLT, Nat.zero_add, if_true, if_false, and_self, true_or, or_true, true_and, and_true, not_true_eq_false, not_false_eq_true, reduceCtorEq, eq_self, Option.toList_some, Option.toList_none, List.cons_append, List.nil_append, Bool.false_eq_true, c1, c2]
theorem mo_mergeNone (d : Nat) {n : Nat} {k : Int32} (hk1 : ¬ k < 0) (hk2 : k ≤ 1) (hn : w 1 = nI n) (hb : n ≤ 520) (hM : vs_M z h x A w F) (h0 : m_cn (fun e => decide (F 5 e = k)) n = 0) : am_M z (d + 1 + 1) 115 [.ref x, .int k] h (some (.int (-2))) h := by
  have q1 := mo_size d (l := k) hn hb hM
  rw [h0] at q1
  have m0 := hM.ob
  have z0 : nI 0 = 0 := rfl
  rw [am_M_eq]
  simp only [am_R_eq, cx_115, en_115, rt_115, rx_aload_n, rx_bipush, rx_goto, rx_iconst, rx_icmp_le, rx_if_lt, rx_if_ne, rx_iload_n, rx_invv, ev_cv, rx_ireturn, kl_100, kl_102, ev_K, ev_pI, ev_pR, ev_pVi, ev_pVr, ev_sI, ev_sR, ev_KC, ev_k, ev_ko, ev_pop0, ev_pops, am_ld, am_sv, am_at, am_st, am_g, List.length_cons, List.length_nil, Nat.reduceAdd, Nat.reduceLT, Nat.zero_add, if_true, if_false, and_self, true_or, or_true, true_and, and_true, not_true_eq_false, not_false_eq_true, reduceCtorEq, eq_self, Option.toList_some, Option.toList_none, List.cons_append, List.nil_append, Bool.false_eq_true, m0, hk1, hk2]
  refine am_CL_of q1 ?_
  simp only [am_R_eq, cx_115, en_115, rt_115, rx_aload_n, rx_bipush, rx_goto, rx_iconst, rx_icmp_le, rx_if_lt, rx_if_ne, rx_iload_n, rx_invv, ev_cv, rx_ireturn, kl_100, kl_102, ev_K, ev_pI, ev_pR, ev_pVi, ev_pVr, ev_sI, ev_sR, ev_KC, ev_k, ev_ko, ev_pop0, ev_pops, am_ld, am_sv, am_at, am_st, am_g, List.length_cons, List.length_nil, Nat.reduceAdd, Nat.reduceLT, Nat.zero_add, if_true, if_false, and_self, true_or, or_true, true_and, and_true, not_true_eq_false, not_false_eq_true, reduceCtorEq, eq_self, Option.toList_some, Option.toList_none, List.cons_append, List.nil_append, Bool.false_eq_true, z0]
theorem mo_merge (d : Nat) {n : Nat} {k r : Int32} {h' : am_H} (hk1 : ¬ k < 0) (hk2 : k ≤ 1) (hn : w 1 = nI n) (hb : n ≤ 520) (hM : vs_M z h x A w F) (h0 : 0 < m_cn (fun e => decide (F 5 e = k)) n) (q2 : am_M z (d + 1) 102 [.ref x, .int k] h (some (.int r)) h') : am_M z (d + 1 + 1) 115 [.ref x, .int k] h (some (.int r)) h' := by
  have q1 := mo_size d (l := k) hn hb hM
  have hle := m_cn_le (fun e => decide (F 5 e = k)) n
  have e1 : ¬ nI (m_cn (fun e => decide (F 5 e = k)) n) = 0 := nI_ne0 h0 (by omega)
  have m0 := hM.ob
  rw [am_M_eq]
  simp only [am_R_eq, cx_115, en_115, rt_115, rx_aload_n, rx_bipush, rx_goto, rx_iconst, rx_icmp_le, rx_if_lt, rx_if_ne, rx_iload_n, rx_invv, ev_cv, rx_ireturn, kl_100, kl_102, ev_K, ev_pI, ev_pR, ev_pVi, ev_pVr, ev_sI, ev_sR, ev_KC, ev_k, ev_ko, ev_pop0, ev_pops, am_ld, am_sv, am_at, am_st, am_g, List.length_cons, List.length_nil, Nat.reduceAdd, Nat.reduceLT, Nat.zero_add, if_true, if_false, and_self, true_or, or_true, true_and, and_true, not_true_eq_false, not_false_eq_true, reduceCtorEq, eq_self, Option.toList_some, Option.toList_none, List.cons_append, List.nil_append, Bool.false_eq_true, m0, hk1, hk2]
  refine am_CL_of q1 ?_
  simp only [am_R_eq, cx_115, en_115, rt_115, rx_aload_n, rx_bipush, rx_goto, rx_iconst, rx_icmp_le, rx_if_lt, rx_if_ne, rx_iload_n, rx_invv, ev_cv, rx_ireturn, kl_100, kl_102, ev_K, ev_pI, ev_pR, ev_pVi, ev_pVr, ev_sI, ev_sR, ev_KC, ev_k, ev_ko, ev_pop0, ev_pops, am_ld, am_sv, am_at, am_st, am_g, List.length_cons, List.length_nil, Nat.reduceAdd, Nat.reduceLT, Nat.zero_add, if_true, if_false, and_self, true_or, or_true, true_and, and_true, not_true_eq_false, not_false_eq_true, reduceCtorEq, eq_self, Option.toList_some, Option.toList_none, List.cons_append, List.nil_append, Bool.false_eq_true, e1, m0]
  refine am_CL_of q2 ?_
  simp only [am_R_eq, cx_115, en_115, rt_115, rx_aload_n, rx_bipush, rx_goto, rx_iconst, rx_icmp_le, rx_if_lt, rx_if_ne, rx_iload_n, rx_invv, ev_cv, rx_ireturn, kl_100, kl_102, ev_K, ev_pI, ev_pR, ev_pVi, ev_pVr, ev_sI, ev_sR, ev_KC, ev_k, ev_ko, ev_pop0, ev_pops, am_ld, am_sv, am_at, am_st, am_g, List.length_cons, List.length_nil, Nat.reduceAdd, Nat.reduceLT, Nat.zero_add, if_true, if_false, and_self, true_or, or_true, true_and, and_true, not_true_eq_false, not_false_eq_true, reduceCtorEq, eq_self, Option.toList_some, Option.toList_none, List.cons_append, List.nil_append, Bool.false_eq_true]
theorem mo_tickNo (d : Nat) {k : Int32} (hk : k < 0 ∨ ¬ k ≤ 1000) : am_M z (d + 1) 123 [.ref x, .int k] h (some (.int (-1))) h := by
  rw [am_M_eq]
  by_cases c1 : k < 0
  · simp only [am_R_eq, cx_123, en_123, rt_123, rx_aload_n, rx_getfield, ev_gf, rx_iadd, rx_iconst, rx_icmp_le, rx_if_lt, rx_iload_n, rx_ireturn, rx_putfield, ev_pf, ev_w1, ev_KW, am_fok, am_ftv, rx_sipush, ev_K, ev_pI, ev_pR, ev_pVi, ev_pVr, ev_sI, ev_sR, ev_KC, ev_k, ev_ko, ev_pop0, ev_pops, am_ld, am_sv, am_at, am_st, am_g, List.length_cons, List.length_nil, Nat.reduceAdd, Nat.reduceLT, Nat.zero_add, if_true, if_false, and_self, true_or, or_true, true_and, and_true, not_true_eq_false, not_false_eq_true, reduceCtorEq, eq_self, Option.toList_some, Option.toList_none, List.cons_append, List.nil_append, Bool.false_eq_true, c1]
  · have c2 := hk.resolve_left c1
    simp only [am_R_eq, cx_123, en_123, rt_123, rx_aload_n, rx_getfield, ev_gf, rx_iadd, rx_iconst, rx_icmp_le, rx_if_lt, rx_iload_n, rx_ireturn, rx_putfield, ev_pf, ev_w1, ev_KW, am_fok, am_ftv, rx_sipush, ev_K, ev_pI, ev_pR, ev_pVi, ev_pVr, ev_sI, ev_sR, ev_KC, ev_k, ev_ko, ev_pop0, ev_pops, am_ld, am_sv, am_at, am_st, am_g, List.length_cons, List.length_nil, Nat.reduceAdd, Nat.reduceLT, Nat.zero_add, if_true, if_false, and_self, true_or, or_true, true_and, and_true, not_true_eq_false, not_false_eq_true, reduceCtorEq, eq_self, Option.toList_some, Option.toList_none, List.cons_append, List.nil_append, Bool.false_eq_true, c1, c2]
theorem mo_tick (d : Nat) {k : Int32} (h1 : ¬ k < 0) (h2 : k ≤ 1000) (hM : vs_M z h x A w F) : ∃ h', am_M z (d + 1) 123 [.ref x, .int k] h (some (.int (w 0 + k))) h' ∧ vs_M z h' x A (va_up w 0 (w 0 + k)) F ∧ h'.2 = h.2 := by
  have m0 := hM.ob
  have zx := hM.zx
  refine ⟨_, ?_, hM.fld (va_up w 0 (w 0 + k)), rfl⟩
  rw [vmo_0]
  rw [am_M_eq]
  simp only [am_R_eq, cx_123, en_123, rt_123, rx_aload_n, rx_getfield, ev_gf, rx_iadd, rx_iconst, rx_icmp_le, rx_if_lt, rx_iload_n, rx_ireturn, rx_putfield, ev_pf, ev_w1, ev_KW, am_fok, am_ftv, rx_sipush, ev_K, ev_pI, ev_pR, ev_pVi, ev_pVr, ev_sI, ev_sR, ev_KC, ev_k, ev_ko, ev_pop0, ev_pops, am_ld, am_sv, am_at, am_st, am_g, List.length_cons, List.length_nil, Nat.reduceAdd, Nat.reduceLT, Nat.zero_add, if_true, if_false, and_self, true_or, or_true, true_and, and_true, not_true_eq_false, not_false_eq_true, reduceCtorEq, eq_self, Option.toList_some, Option.toList_none, List.cons_append, List.nil_append, Bool.false_eq_true, m0, zx, h1, h2, am_ft7, am_up_at, Nat.reduceLeDiff, beq_self_eq_true]
theorem mo_probes (d : Nat) (hM : vs_M z h x A w F) : am_M z (d + 1) 139 [.ref x] h (some (.int (w 9))) h := by
  have m0 := hM.ob
  rw [am_M_eq]
  simp only [am_R_eq, cx_139, en_139, rt_139, rx_aload_n, rx_getfield, ev_gf, rx_ireturn, ev_K, ev_pI, ev_pR, ev_pVi, ev_pVr, ev_sI, ev_sR, ev_KC, ev_k, ev_ko, ev_pop0, ev_pops, am_ld, am_sv, am_at, am_st, am_g, List.length_cons, List.length_nil, Nat.reduceAdd, Nat.reduceLT, Nat.zero_add, if_true, if_false, and_self, true_or, or_true, true_and, and_true, not_true_eq_false, not_false_eq_true, reduceCtorEq, eq_self, Option.toList_some, Option.toList_none, List.cons_append, List.nil_append, Bool.false_eq_true, m0]
end MW
