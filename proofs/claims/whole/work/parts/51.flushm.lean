section MV
variable {z : Nat} {h : am_H} {x : Nat} {A : Nat → Nat} {w : Nat → Int32} {F : Nat → Nat → Int32}
def m_stV (F : Nat → Nat → Int32) (nw : Int32) (e : Nat) : Int32 := if ¬ F 9 e = 0 ∧ F 5 e = 0 then nw else F 6 e
def m_st (F : Nat → Nat → Int32) (nw : Int32) (n : Nat) : Nat → Nat → Int32 := va_up F 6 (m_fill (F 6) (m_stV F nw) n)
theorem mo_flushLoop (d : Nat) {n : Nat} (hn : w 1 = nI n) (hb : n ≤ 520) (zA : z ≤ A 6) (zx : z ≤ x) : ∀ m k hh, m + k = n → vs_M z hh x A w (va_up F 6 (m_fill (F 6) (m_stV F (w 2)) k)) →
    ∃ h', am_R z d 101 57 [some (.ref x), some (.int (nI k))] [] hh none h' ∧ vs_M z h' x A (va_up w 8 0) (m_st F (w 2) n) ∧ h'.2 = hh.2 := by
  intro m
  induction m with
  | zero =>
    intro k hh hk hW
    have hkn : k = n := by omega
    subst hkn
    have e1 : nI k ≤ nI k := nI_le (Nat.le_refl _) (by omega)
    have m0 := hW.ob
    refine ⟨_, ?_, hW.fld (va_up w 8 0), rfl⟩
    rw [vmo_8]
    rw [am_R_eq, cxh_101_57]
    simp only [am_R_eq, cx_101, en_101, rt_101, rx_aload_n, rx_baload, rx_dup_i, rx_dup_r, rx_getfield, ev_gf, rx_goto, rx_iadd, rx_iaload, rx_iastore, ev_w1, ev_KW, rx_iconst, rx_icmp_ge, rx_icmp_ne, rx_if_eq, rx_if_ne, rx_iinc, ev_inc, rx_iload_n, rx_invv, ev_cv, rx_istore_n, rx_pop_i, rx_pop_r, rx_putfield, ev_pf, am_fok, am_ftv, rx_return, kl_100, kl_102, kl_103, kl_104, ev_K, ev_pI, ev_pR, ev_pVi, ev_pVr, ev_sI, ev_sR, ev_KC, ev_k, ev_ko, ev_pop0, ev_pops, am_ld, am_sv, am_at, am_st, am_g, List.length_cons, List.length_nil, Nat.reduceAdd, Nat.reduceLT, Nat.zero_add, if_true, if_false, and_self, true_or, or_true, true_and, and_true, not_true_eq_false, not_false_eq_true, reduceCtorEq, eq_self, Option.toList_some, Option.toList_none, List.cons_append, List.nil_append, Bool.false_eq_true, m0, hn, e1, zx, am_ft7, Nat.reduceLeDiff, beq_self_eq_true]
  | succ m ih =>
    intro k hh hk hW
    have e1 : ¬ nI n ≤ nI k := nI_ge (by omega) (by omega)
    have ix := m_ix (k := k) (by omega)
    have iw := m_wi (n := 520) (k := k) (by omega) (by omega)
    have m0 := hW.ob
    have k6 : hh.1 (A 6) = some (.inl (0, 520, .inl (m_fill (F 6) (m_stV F (w 2)) k))) := hW.ar 6 (by omega)
    have k9 : hh.1 (A 9) = some (.inl (1, 520, .inl (F 9))) := hW.ar 9 (by omega)
    have k5 : hh.1 (A 5) = some (.inl (0, 520, .inl (F 5))) := hW.ar 5 (by omega)
    have hW2 : vs_M z (am_up hh (A 6) (.inl (0, 520, .inl (m_fill (F 6) (m_stV F (w 2)) (k + 1))))) x A w (va_up (va_up F 6 (m_fill (F 6) (m_stV F (w 2)) k)) 6 (m_fill (F 6) (m_stV F (w 2)) (k + 1))) := hW.arr (i := 6) (by omega) _
    rw [bx_uu] at hW2
    have fs := m_fill_s (F 6) (m_stV F (w 2)) k
    by_cases c0 : ¬ F 9 k = 0 ∧ F 5 k = 0
    · have ev : m_stV F (w 2) k = w 2 := by unfold m_stV; rw [if_pos c0]
      rw [ev] at fs
      obtain ⟨c1, c2⟩ := c0
      obtain ⟨h', i1, i2, i3⟩ := ih (k + 1) _ (by omega) hW2
      refine ⟨h', ?_, i2, i3⟩
      rw [am_R_eq] at i1
      rw [am_R_eq, cxh_101_57]
      simp only [am_R_eq, cx_101, en_101, rt_101, rx_aload_n, rx_baload, rx_dup_i, rx_dup_r, rx_getfield, ev_gf, rx_goto, rx_iadd, rx_iaload, rx_iastore, ev_w1, ev_KW, rx_iconst, rx_icmp_ge, rx_icmp_ne, rx_if_eq, rx_if_ne, rx_iinc, ev_inc, rx_iload_n, rx_invv, ev_cv, rx_istore_n, rx_pop_i, rx_pop_r, rx_putfield, ev_pf, am_fok, am_ftv, rx_return, kl_100, kl_102, kl_103, kl_104, ev_K, ev_pI, ev_pR, ev_pVi, ev_pVr, ev_sI, ev_sR, ev_KC, ev_k, ev_ko, ev_pop0, ev_pops, am_ld, am_sv, am_at, am_st, am_g, List.length_cons, List.length_nil, Nat.reduceAdd, Nat.reduceLT, Nat.zero_add, if_true, if_false, and_self, true_or, or_true, true_and, and_true, not_true_eq_false, not_false_eq_true, reduceCtorEq, eq_self, Option.toList_some, Option.toList_none, List.cons_append, List.nil_append, Bool.false_eq_true, m0, hn, e1, k9, k5, k6, ix, iw, c1, c2, zA, fs, nI_ofs]
      exact i1
    · have ev : m_stV F (w 2) k = F 6 k := by unfold m_stV; rw [if_neg c0]
      have fi := m_fill_i (F 6) (m_stV F (w 2)) (k := k) ev
      rw [← fi] at hW
      obtain ⟨h', i1, i2, i3⟩ := ih (k + 1) hh (by omega) hW
      refine ⟨h', ?_, i2, i3⟩
      rw [am_R_eq] at i1
      by_cases c1 : F 9 k = 0
      · rw [am_R_eq, cxh_101_57]
        simp only [am_R_eq, cx_101, en_101, rt_101, rx_aload_n, rx_baload, rx_dup_i, rx_dup_r, rx_getfield, ev_gf, rx_goto, rx_iadd, rx_iaload, rx_iastore, ev_w1, ev_KW, rx_iconst, rx_icmp_ge, rx_icmp_ne, rx_if_eq, rx_if_ne, rx_iinc, ev_inc, rx_iload_n, rx_invv, ev_cv, rx_istore_n, rx_pop_i, rx_pop_r, rx_putfield, ev_pf, am_fok, am_ftv, rx_return, kl_100, kl_102, kl_103, kl_104, ev_K, ev_pI, ev_pR, ev_pVi, ev_pVr, ev_sI, ev_sR, ev_KC, ev_k, ev_ko, ev_pop0, ev_pops, am_ld, am_sv, am_at, am_st, am_g, List.length_cons, List.length_nil, Nat.reduceAdd, Nat.reduceLT, Nat.zero_add, if_true, if_false, and_self, true_or, or_true, true_and, and_true, not_true_eq_false, not_false_eq_true, reduceCtorEq, eq_self, Option.toList_some, Option.toList_none, List.cons_append, List.nil_append, Bool.false_eq_true, m0, hn, e1, k9, k5, ix, c1, nI_ofs]
        exact i1
      · have c2 : ¬ F 5 k = 0 := fun q => c0 ⟨c1, q⟩
        rw [am_R_eq, cxh_101_57]
        simp only [am_R_eq, cx_101, en_101, rt_101, rx_aload_n, rx_baload, rx_dup_i, rx_dup_r, rx_getfield, ev_gf, rx_goto, rx_iadd, rx_iaload, rx_iastore, ev_w1, ev_KW, rx_iconst, rx_icmp_ge, rx_icmp_ne, rx_if_eq, rx_if_ne, rx_iinc, ev_inc, rx_iload_n, rx_invv, ev_cv, rx_istore_n, rx_pop_i, rx_pop_r, rx_putfield, ev_pf, am_fok, am_ftv, rx_return, kl_100, kl_102, kl_103, kl_104, ev_K, ev_pI, ev_pR, ev_pVi, ev_pVr, ev_sI, ev_sR, ev_KC, ev_k, ev_ko, ev_pop0, ev_pops, am_ld, am_sv, am_at, am_st, am_g, List.length_cons, List.length_nil, Nat.reduceAdd, Nat.reduceLT, Nat.zero_add, if_true, if_false, and_self, true_or, or_true, true_and, and_true, not_true_eq_false, not_false_eq_true, reduceCtorEq, eq_self, Option.toList_some, Option.toList_none, List.cons_append, List.nil_append, Bool.false_eq_true, m0, hn, e1, k9, k5, ix, c1, c2, nI_ofs]
        exact i1
theorem mo_flush0 (d : Nat) {n : Nat} (hn : w 1 = nI n) (hb : n ≤ 520) (hM : vs_M z h x A w F) (h0 : m_cn (fun e => decide (F 5 e = -1)) n = 0) : am_M z (d + 1 + 1) 101 [.ref x] h none h := by
  have q1 := mo_size d (l := -1) hn hb hM
  rw [h0] at q1
  have m0 := hM.ob
  have z0 : nI 0 = 0 := rfl
  rw [am_M_eq]
  simp only [am_R_eq, cx_101, en_101, rt_101, rx_aload_n, rx_baload, rx_dup_i, rx_dup_r, rx_getfield, ev_gf, rx_goto, rx_iadd, rx_iaload, rx_iastore, ev_w1, ev_KW, rx_iconst, rx_icmp_ge, rx_icmp_ne, rx_if_eq, rx_if_ne, rx_iinc, ev_inc, rx_iload_n, rx_invv, ev_cv, rx_istore_n, rx_pop_i, rx_pop_r, rx_putfield, ev_pf, am_fok, am_ftv, rx_return, kl_100, kl_102, kl_103, kl_104, ev_K, ev_pI, ev_pR, ev_pVi, ev_pVr, ev_sI, ev_sR, ev_KC, ev_k, ev_ko, ev_pop0, ev_pops, am_ld, am_sv, am_at, am_st, am_g, List.length_cons, List.length_nil, Nat.reduceAdd, Nat.reduceLT, Nat.zero_add, if_true, if_false, and_self, true_or, or_true, true_and, and_true, not_true_eq_false, not_false_eq_true, reduceCtorEq, eq_self, Option.toList_some, Option.toList_none, List.cons_append, List.nil_append, Bool.false_eq_true, m0]
  refine am_CL_of q1 ?_
  simp only [am_R_eq, cx_101, en_101, rt_101, rx_aload_n, rx_baload, rx_dup_i, rx_dup_r, rx_getfield, ev_gf, rx_goto, rx_iadd, rx_iaload, rx_iastore, ev_w1, ev_KW, rx_iconst, rx_icmp_ge, rx_icmp_ne, rx_if_eq, rx_if_ne, rx_iinc, ev_inc, rx_iload_n, rx_invv, ev_cv, rx_istore_n, rx_pop_i, rx_pop_r, rx_putfield, ev_pf, am_fok, am_ftv, rx_return, kl_100, kl_102, kl_103, kl_104, ev_K, ev_pI, ev_pR, ev_pVi, ev_pVr, ev_sI, ev_sR, ev_KC, ev_k, ev_ko, ev_pop0, ev_pops, am_ld, am_sv, am_at, am_st, am_g, List.length_cons, List.length_nil, Nat.reduceAdd, Nat.reduceLT, Nat.zero_add, if_true, if_false, and_self, true_or, or_true, true_and, and_true, not_true_eq_false, not_false_eq_true, reduceCtorEq, eq_self, Option.toList_some, Option.toList_none, List.cons_append, List.nil_append, Bool.false_eq_true, z0]
def m_fl (F : Nat → Nat → Int32) (t nw : Int32) (n last : Nat) : Nat → Nat → Int32 := m_st (m_mg F t n last (-1) (-1) 0) (nw + 1) n
theorem mo_flushRest (d : Nat) {n last : Nat} (hn : w 1 = nI n) (hb : n ≤ 520) (hl : w 4 = nI last) (hlb : last ≤ 5000) (hM : vs_M z h x A w F) : ∃ h', am_R z (d + 1 + 1) 101 23 [some (.ref x), none] [] h none h' ∧ vs_M z h' x A (va_up (va_up (va_up w 2 (w 2 + 1)) 3 (w 3 + 1)) 8 0) (m_fl F (w 0) (w 2) n last) ∧ h'.2 = h.2 := by
  obtain ⟨h1, a1, a2, a3⟩ := mo_choose (d + 1) (a := -1) (b := -1) hn hb hM
  obtain ⟨h2, b1, b2, b3⟩ := mo_sift d (l := 0) hn hb hl hlb a2
  have b2' : vs_M z h2 x A w (m_mg F (w 0) n last (-1) (-1) 0) := b2
  have hC := b2'.fld (va_up (va_up w 2 (w 2 + 1)) 3 (w 3 + 1))
  have m0 := hM.ob
  have m1 := a2.ob
  have m2 := b2.ob
  have zx := hM.zx
  have z6 := hM.za 6 (by omega)
  obtain ⟨h3, d1, d2, d3⟩ := mo_flushLoop (F := m_mg F (w 0) n last (-1) (-1) 0) (w := va_up (va_up w 2 (w 2 + 1)) 3 (w 3 + 1)) (d + 1 + 1) hn hb z6 zx n 0 _ rfl (by rw [m_fill_0, va_up_id]; exact hC)
  have e1 : vm_o A (va_up (va_up w 2 (w 2 + 1)) 3 (w 3 + 1)) = .inr (7, [.int (w 0), .int (w 1), .ref (A 0), .ref (A 1), .ref (A 2), .ref (A 3), .ref (A 4), .ref (A 5), .ref (A 6), .ref (A 7), .ref (A 8), .ref (A 9), .ref (A 10), .int (w 2 + 1), .int (w 3 + 1), .int (w 4), .int (w 5), .ref (A 11), .ref (A 12), .ref (A 13), .ref (A 14), .ref (A 15), .int (w 6), .int (w 7), .ref (A 16), .int (w 8), .ref (A 17), .ref (A 18), .ref (A 19), .int (w 9)]) := rfl
  refine ⟨h3, ?_, d2, by rw [d3, am_up_2, b3, a3]⟩
  have z0 : nI 0 = 0 := rfl
  rw [z0, e1] at d1
  rw [am_R_eq] at d1
  simp only [am_R_eq, cx_101, en_101, rt_101, rx_aload_n, rx_baload, rx_dup_i, rx_dup_r, rx_getfield, ev_gf, rx_goto, rx_iadd, rx_iaload, rx_iastore, ev_w1, ev_KW, rx_iconst, rx_icmp_ge, rx_icmp_ne, rx_if_eq, rx_if_ne, rx_iinc, ev_inc, rx_iload_n, rx_invv, ev_cv, rx_istore_n, rx_pop_i, rx_pop_r, rx_putfield, ev_pf, am_fok, am_ftv, rx_return, kl_100, kl_102, kl_103, kl_104, ev_K, ev_pI, ev_pR, ev_pVi, ev_pVr, ev_sI, ev_sR, ev_KC, ev_k, ev_ko, ev_pop0, ev_pops, am_ld, am_sv, am_at, am_st, am_g, List.length_cons, List.length_nil, Nat.reduceAdd, Nat.reduceLT, Nat.zero_add, if_true, if_false, and_self, true_or, or_true, true_and, and_true, not_true_eq_false, not_false_eq_true, reduceCtorEq, eq_self, Option.toList_some, Option.toList_none, List.cons_append, List.nil_append, Bool.false_eq_true, m0]
  refine am_CL_of a1 ?_
  simp only [am_R_eq, cx_101, en_101, rt_101, rx_aload_n, rx_baload, rx_dup_i, rx_dup_r, rx_getfield, ev_gf, rx_goto, rx_iadd, rx_iaload, rx_iastore, ev_w1, ev_KW, rx_iconst, rx_icmp_ge, rx_icmp_ne, rx_if_eq, rx_if_ne, rx_iinc, ev_inc, rx_iload_n, rx_invv, ev_cv, rx_istore_n, rx_pop_i, rx_pop_r, rx_putfield, ev_pf, am_fok, am_ftv, rx_return, kl_100, kl_102, kl_103, kl_104, ev_K, ev_pI, ev_pR, ev_pVi, ev_pVr, ev_sI, ev_sR, ev_KC, ev_k, ev_ko, ev_pop0, ev_pops, am_ld, am_sv, am_at, am_st, am_g, List.length_cons, List.length_nil, Nat.reduceAdd, Nat.reduceLT, Nat.zero_add, if_true, if_false, and_self, true_or, or_true, true_and, and_true, not_true_eq_false, not_false_eq_true, reduceCtorEq, eq_self, Option.toList_some, Option.toList_none, List.cons_append, List.nil_append, Bool.false_eq_true, m1]
  refine am_CL_of b1 ?_
  simp only [am_R_eq, cx_101, en_101, rt_101, rx_aload_n, rx_baload, rx_dup_i, rx_dup_r, rx_getfield, ev_gf, rx_goto, rx_iadd, rx_iaload, rx_iastore, ev_w1, ev_KW, rx_iconst, rx_icmp_ge, rx_icmp_ne, rx_if_eq, rx_if_ne, rx_iinc, ev_inc, rx_iload_n, rx_invv, ev_cv, rx_istore_n, rx_pop_i, rx_pop_r, rx_putfield, ev_pf, am_fok, am_ftv, rx_return, kl_100, kl_102, kl_103, kl_104, ev_K, ev_pI, ev_pR, ev_pVi, ev_pVr, ev_sI, ev_sR, ev_KC, ev_k, ev_ko, ev_pop0, ev_pops, am_ld, am_sv, am_at, am_st, am_g, List.length_cons, List.length_nil, Nat.reduceAdd, Nat.reduceLT, Nat.zero_add, if_true, if_false, and_self, true_or, or_true, true_and, and_true, not_true_eq_false, not_false_eq_true, reduceCtorEq, eq_self, Option.toList_some, Option.toList_none, List.cons_append, List.nil_append, Bool.false_eq_true, m2, zx, am_ft7, am_up_at, am_up_up, Nat.reduceLeDiff, beq_self_eq_true]
  exact d1
theorem mo_flushA (d : Nat) {n last : Nat} (hn : w 1 = nI n) (hb : n ≤ 520) (hl : w 4 = nI last) (hlb : last ≤ 5000) (hM : vs_M z h x A w F) (h0 : 0 < m_cn (fun e => decide (F 5 e = -1)) n) (hz4 : ¬ w 3 = 4) : ∃ h', am_M z (d + 1 + 1 + 1) 101 [.ref x] h none h' ∧ vs_M z h' x A (va_up (va_up (va_up w 2 (w 2 + 1)) 3 (w 3 + 1)) 8 0) (m_fl F (w 0) (w 2) n last) ∧ h'.2 = h.2 := by
  have q1 := mo_size (d + 1) (l := -1) hn hb hM
  have hle := m_cn_le (fun e => decide (F 5 e = -1)) n
  have e1 : ¬ nI (m_cn (fun e => decide (F 5 e = -1)) n) = 0 := nI_ne0 h0 (by omega)
  obtain ⟨h', a1, a2, a3⟩ := mo_flushRest d hn hb hl hlb hM
  refine ⟨h', ?_, a2, a3⟩
  have m0 := hM.ob
  rw [am_M_eq]
  simp only [am_R_eq, cx_101, en_101, rt_101, rx_aload_n, rx_baload, rx_dup_i, rx_dup_r, rx_getfield, ev_gf, rx_goto, rx_iadd, rx_iaload, rx_iastore, ev_w1, ev_KW, rx_iconst, rx_icmp_ge, rx_icmp_ne, rx_if_eq, rx_if_ne, rx_iinc, ev_inc, rx_iload_n, rx_invv, ev_cv, rx_istore_n, rx_pop_i, rx_pop_r, rx_putfield, ev_pf, am_fok, am_ftv, rx_return, kl_100, kl_102, kl_103, kl_104, ev_K, ev_pI, ev_pR, ev_pVi, ev_pVr, ev_sI, ev_sR, ev_KC, ev_k, ev_ko, ev_pop0, ev_pops, am_ld, am_sv, am_at, am_st, am_g, List.length_cons, List.length_nil, Nat.reduceAdd, Nat.reduceLT, Nat.zero_add, if_true, if_false, and_self, true_or, or_true, true_and, and_true, not_true_eq_false, not_false_eq_true, reduceCtorEq, eq_self, Option.toList_some, Option.toList_none, List.cons_append, List.nil_append, Bool.false_eq_true, m0]
  refine am_CL_of q1 ?_
  revert a1
  simp only [am_R_eq, cx_101, en_101, rt_101, rx_aload_n, rx_baload, rx_dup_i, rx_dup_r, rx_getfield, ev_gf, rx_goto, rx_iadd, rx_iaload, rx_iastore, ev_w1, ev_KW, rx_iconst, rx_icmp_ge, rx_icmp_ne, rx_if_eq, rx_if_ne, rx_iinc, ev_inc, rx_iload_n, rx_invv, ev_cv, rx_istore_n, rx_pop_i, rx_pop_r, rx_putfield, ev_pf, am_fok, am_ftv, rx_return, kl_100, kl_102, kl_103, kl_104, ev_K, ev_pI, ev_pR, ev_pVi, ev_pVr, ev_sI, ev_sR, ev_KC, ev_k, ev_ko, ev_pop0, ev_pops, am_ld, am_sv, am_at, am_st, am_g, List.length_cons, List.length_nil, Nat.reduceAdd, Nat.reduceLT, Nat.zero_add, if_true, if_false, and_self, true_or, or_true, true_and, and_true, not_true_eq_false, not_false_eq_true, reduceCtorEq, eq_self, Option.toList_some, Option.toList_none, List.cons_append, List.nil_append, Bool.false_eq_true, e1, m0, hz4]
  exact fun q => q
theorem mo_flushB (d : Nat) {n last : Nat} (hn : w 1 = nI n) (hb : n ≤ 520) (hl : w 4 = nI last) (hlb : last ≤ 5000) (hM : vs_M z h x A w F) (h0 : 0 < m_cn (fun e => decide (F 5 e = -1)) n) (hz4 : w 3 = 4) : ∃ h', am_M z (d + 1 + 1 + 1 + 1 + 1) 101 [.ref x] h none h' ∧ vs_M z h' x A (va_up (va_up (va_up w 2 (w 2 + 1)) 3 1) 8 0) (m_fl (m_o0 F (w 0) n last) (w 0) (w 2) n last) ∧ h'.2 = h.2 := by
  have q1 := mo_size (d + 1 + 1 + 1) (l := -1) hn hb hM
  have hle := m_cn_le (fun e => decide (F 5 e = -1)) n
  have e1 : ¬ nI (m_cn (fun e => decide (F 5 e = -1)) n) = 0 := nI_ne0 h0 (by omega)
  obtain ⟨h1, b1, b2, b3⟩ := mo_mergeOf0 d hn hb hl hlb hM
  obtain ⟨h', a1, a2, a3⟩ := mo_flushRest (w := va_up w 3 0) (d + 1 + 1) hn hb hl hlb b2
  have ew : va_up (va_up (va_up (va_up w 3 0) 2 (va_up w 3 0 2 + 1)) 3 (va_up w 3 0 3 + 1)) 8 0 = va_up (va_up (va_up w 2 (w 2 + 1)) 3 1) 8 0 := by
    funext i
    have e3 : va_up w 3 0 2 = w 2 := rfl
    have e4 : va_up w 3 0 3 = 0 := rfl
    rw [e3, e4]
    unfold va_up
    by_cases i1 : i = 8
    · simp [i1]
    · by_cases i2 : i = 3
      · simp [i2]
      · by_cases i3 : i = 2
        · simp [i3]
        · simp [i1, i2, i3]
  rw [ew] at a2
  refine ⟨h', ?_, a2, by rw [a3, b3]⟩
  have m0 := hM.ob
  have m1 := b2.ob
  rw [am_M_eq]
  simp only [am_R_eq, cx_101, en_101, rt_101, rx_aload_n, rx_baload, rx_dup_i, rx_dup_r, rx_getfield, ev_gf, rx_goto, rx_iadd, rx_iaload, rx_iastore, ev_w1, ev_KW, rx_iconst, rx_icmp_ge, rx_icmp_ne, rx_if_eq, rx_if_ne, rx_iinc, ev_inc, rx_iload_n, rx_invv, ev_cv, rx_istore_n, rx_pop_i, rx_pop_r, rx_putfield, ev_pf, am_fok, am_ftv, rx_return, kl_100, kl_102, kl_103, kl_104, ev_K, ev_pI, ev_pR, ev_pVi, ev_pVr, ev_sI, ev_sR, ev_KC, ev_k, ev_ko, ev_pop0, ev_pops, am_ld, am_sv, am_at, am_st, am_g, List.length_cons, List.length_nil, Nat.reduceAdd, Nat.reduceLT, Nat.zero_add, if_true, if_false, and_self, true_or, or_true, true_and, and_true, not_true_eq_false, not_false_eq_true, reduceCtorEq, eq_self, Option.toList_some, Option.toList_none, List.cons_append, List.nil_append, Bool.false_eq_true, m0]
  refine am_CL_of q1 ?_
  simp only [am_R_eq, cx_101, en_101, rt_101, rx_aload_n, rx_baload, rx_dup_i, rx_dup_r, rx_getfield, ev_gf, rx_goto, rx_iadd, rx_iaload, rx_iastore, ev_w1, ev_KW, rx_iconst, rx_icmp_ge, rx_icmp_ne, rx_if_eq, rx_if_ne, rx_iinc, ev_inc, rx_iload_n, rx_invv, ev_cv, rx_istore_n, rx_pop_i, rx_pop_r, rx_putfield, ev_pf, am_fok, am_ftv, rx_return, kl_100, kl_102, kl_103, kl_104, ev_K, ev_pI, ev_pR, ev_pVi, ev_pVr, ev_sI, ev_sR, ev_KC, ev_k, ev_ko, ev_pop0, ev_pops, am_ld, am_sv, am_at, am_st, am_g, List.length_cons, List.length_nil, Nat.reduceAdd, Nat.reduceLT, Nat.zero_add, if_true, if_false, and_self, true_or, or_true, true_and, and_true, not_true_eq_false, not_false_eq_true, reduceCtorEq, eq_self, Option.toList_some, Option.toList_none, List.cons_append, List.nil_append, Bool.false_eq_true, e1, m0, hz4]
  refine am_CL_of b1 ?_
  revert a1
  simp only [am_R_eq, cx_101, en_101, rt_101, rx_aload_n, rx_baload, rx_dup_i, rx_dup_r, rx_getfield, ev_gf, rx_goto, rx_iadd, rx_iaload, rx_iastore, ev_w1, ev_KW, rx_iconst, rx_icmp_ge, rx_icmp_ne, rx_if_eq, rx_if_ne, rx_iinc, ev_inc, rx_iload_n, rx_invv, ev_cv, rx_istore_n, rx_pop_i, rx_pop_r, rx_putfield, ev_pf, am_fok, am_ftv, rx_return, kl_100, kl_102, kl_103, kl_104, ev_K, ev_pI, ev_pR, ev_pVi, ev_pVr, ev_sI, ev_sR, ev_KC, ev_k, ev_ko, ev_pop0, ev_pops, am_ld, am_sv, am_at, am_st, am_g, List.length_cons, List.length_nil, Nat.reduceAdd, Nat.reduceLT, Nat.zero_add, if_true, if_false, and_self, true_or, or_true, true_and, and_true, not_true_eq_false, not_false_eq_true, reduceCtorEq, eq_self, Option.toList_some, Option.toList_none, List.cons_append, List.nil_append, Bool.false_eq_true]
  exact fun q => q
theorem i_8 : ¬ (8 : Int32) = 0 := by decide
theorem mo_needsHead (d : Nat) {hd u v : Nat} (hh : w 7 = nI hd) (hb : hd ≤ 10000) (hu : F 16 (hd % 8) = nI u) (hub : u ≤ 1000) (hv : v ≤ 1000) (hM : vs_M z h x A w F) : am_M z (d + 1) 99 [.ref x, .int (nI v)] h (some (.int (if 16 < u + 1 + v then 1 else 0))) h := by
  have m0 := hM.ob
  have k16 : h.1 (A 16) = some (.inl (0, 8, .inl (F 16))) := hM.ar 16 (by omega)
  have er : nI hd - nI hd / 8 * 8 = nI (hd % 8) := pk_rem (a := hd) (d := 8) (by omega) (by omega) (by omega)
  have ix := m_ri (n := 8) (k := hd % 8) (by omega) (by omega)
  have es : nI u + 1 + nI v = nI (u + 1 + v) := by rw [nI_1, nI_add]
  rw [am_M_eq]
  by_cases c1 : 16 < u + 1 + v
  · have c2 : ¬ nI (u + 1 + v) ≤ 16 := nI_ge (a := 16) c1 (by omega)
    simp only [am_R_eq, cx_99, en_99, rt_99, rx_aload_n, rx_bipush, rx_getfield, ev_gf, rx_goto, rx_iadd, rx_iaload, rx_iconst, rx_icmp_le, rx_iload_n, rx_irem, rx_ireturn, ev_K, ev_pI, ev_pR, ev_pVi, ev_pVr, ev_sI, ev_sR, ev_KC, ev_k, ev_ko, ev_pop0, ev_pops, am_ld, am_sv, am_at, am_st, am_g, List.length_cons, List.length_nil, Nat.reduceAdd, Nat.reduceLT, Nat.zero_add, if_true, if_false, and_self, true_or, or_true, true_and, and_true, not_true_eq_false, not_false_eq_true, reduceCtorEq, eq_self, Option.toList_some, Option.toList_none, List.cons_append, List.nil_append, Bool.false_eq_true, m0, hh, k16, er, i_8, ix, hu, es, c1, c2, b11]
  · have c2 : nI (u + 1 + v) ≤ 16 := nI_le (b := 16) (by omega) (by omega)
    simp only [am_R_eq, cx_99, en_99, rt_99, rx_aload_n, rx_bipush, rx_getfield, ev_gf, rx_goto, rx_iadd, rx_iaload, rx_iconst, rx_icmp_le, rx_iload_n, rx_irem, rx_ireturn, ev_K, ev_pI, ev_pR, ev_pVi, ev_pVr, ev_sI, ev_sR, ev_KC, ev_k, ev_ko, ev_pop0, ev_pops, am_ld, am_sv, am_at, am_st, am_g, List.length_cons, List.length_nil, Nat.reduceAdd, Nat.reduceLT, Nat.zero_add, if_true, if_false, and_self, true_or, or_true, true_and, and_true, not_true_eq_false, not_false_eq_true, reduceCtorEq, eq_self, Option.toList_some, Option.toList_none, List.cons_append, List.nil_append, Bool.false_eq_true, m0, hh, k16, er, i_8, ix, hu, es, c1, c2, b00]
end MV
