section MY
variable {z : Nat} {h : am_H} {x : Nat} {A : Nat → Nat} {w : Nat → Int32} {F : Nat → Nat → Int32}
def m_k1 (F : Nat → Nat → Int32) (un u r last : Nat) : Nat → Nat → Int32 := va_up (va_up (va_up F 19 (upd (F 19) un (if 16 < u + 1 + r then 1 else 0))) 17 (upd (F 17) un (nI (last + 1)))) 18 (upd (F 18) un (nI (1 + r)))
def m_k2 (F : Nat → Nat → Int32) (un u r last hd : Nat) : Nat → Nat → Int32 := va_up (m_k1 F un u r last) 16 (upd (F 16) (m_hd hd u r % 8) (nI (m_us u r + 1 + r)))
def m_k3 (F : Nat → Nat → Int32) (t : Int32) (un u r last hd n : Nat) : Nat → Nat → Int32 := m_cw (m_k2 F un u r last hd) t (m_hd hd u r) (m_us u r + 1) n last r
def m_kw (w : Nat → Int32) (un u r last hd n : Nat) : Nat → Int32 := va_up (va_up (va_up (va_up (va_up w 8 (nI (un + 1))) 7 (nI (m_hd hd u r))) 4 (nI (last + r))) 1 (nI (n + r))) 5 0
theorem mo_commitRest (d : Nat) {n last r hd u un : Nat} (hn : w 1 = nI n) (hb : n + r ≤ 520) (hr : w 5 = nI r) (hr6 : r ≤ 6) (hl : w 4 = nI last) (hlb : last ≤ 5000) (hu : w 8 = nI un) (hub : un < 16) (hh : w 7 = nI hd) (hhb : hd ≤ 9999) (hu2 : F 16 (hd % 8) = nI u) (hu3 : u ≤ 1000) (hM : vs_M z h x A w F) :
    ∃ h', am_R z (d + 1 + 1) 98 59 [some (.ref x), none, none, none] [] h (some (.int (nI r))) h' ∧ vs_M z h' x A (m_kw w un u r last hd n) (m_k3 F (w 0) un u r last hd n) ∧ h'.2 = h.2 := by
  have m0 := hM.ob
  have zx := hM.zx
  have nxs := hM.nxs
  have z17 := hM.za 17 (by omega)
  have z18 := hM.za 18 (by omega)
  have z19 := hM.za 19 (by omega)
  have k17 : h.1 (A 17) = some (.inl (0, 16, .inl (F 17))) := hM.ar 17 (by omega)
  have k18 : h.1 (A 18) = some (.inl (0, 16, .inl (F 18))) := hM.ar 18 (by omega)
  have k19 : h.1 (A 19) = some (.inl (1, 16, .inl (F 19))) := hM.ar 19 (by omega)
  have n1 : ¬ A 17 = A 19 := hM.dj 17 19 (by omega) (by omega) (by omega)
  have n2 : ¬ A 18 = A 19 := hM.dj 18 19 (by omega) (by omega) (by omega)
  have n3 : ¬ A 18 = A 17 := hM.dj 18 17 (by omega) (by omega) (by omega)
  have iw := m_wi (n := 16) (k := un) (by omega) (by omega)
  have q1 := mo_needsHead (d + 1) hh (by omega) hu2 hu3 (v := r) (by omega) hM
  generalize hbb : (if 16 < u + 1 + r then (1 : Int32) else 0) = bb at *
  have hb1 : bb &&& 1 = bb := by rw [← hbb]; split <;> decide
  have g1 : vs_M z (am_up h (A 19) (.inl (1, 16, .inl (upd (F 19) un bb)))) x A w (va_up F 19 (upd (F 19) un bb)) := hM.arr (i := 19) (by omega) _
  have g2 : vs_M z (am_up (am_up h (A 19) (.inl (1, 16, .inl (upd (F 19) un bb)))) (A 17) (.inl (0, 16, .inl (upd (F 17) un (nI (last + 1)))))) x A w (va_up (va_up F 19 (upd (F 19) un bb)) 17 (upd (F 17) un (nI (last + 1)))) := g1.arr (i := 17) (by omega) _
  have g3 : vs_M z (am_up (am_up (am_up h (A 19) (.inl (1, 16, .inl (upd (F 19) un bb)))) (A 17) (.inl (0, 16, .inl (upd (F 17) un (nI (last + 1)))))) (A 18) (.inl (0, 16, .inl (upd (F 18) un (nI (1 + r)))))) x A w (m_k1 F un u r last) := by
    unfold m_k1
    rw [hbb]
    exact g2.arr (i := 18) (by omega) _
  have g4 := g3.fld (va_up w 8 (nI (un + 1)))
  obtain ⟨h5, a1, a2, a3⟩ := mo_record (w := va_up w 8 (nI (un + 1))) (F := m_k1 F un u r last) d (hd := hd) (u := u) (v := r) hh (by omega) hu2 hu3 (by omega) g4
  have a2' : vs_M z h5 x A (va_up (va_up w 8 (nI (un + 1))) 7 (nI (m_hd hd u r))) (m_k2 F un u r last hd) := a2
  obtain ⟨h6, c1, c2, c3⟩ := mo_commitLoop (w := w) (F := m_k2 F un u r last hd) (d + 1 + 1) (n := n) (last := last) (r := r) (hd := m_hd hd u r) (a0 := m_us u r + 1) hb hr6 hlb zx hM.za r 0 h5 (va_up (va_up w 8 (nI (un + 1))) 7 (nI (m_hd hd u r))) none (by omega) hn hl hr rfl rfl a2'
  refine ⟨h6, ?_, c2, by rw [c3, a3]; rfl⟩
  have z0 : nI 0 = 0 := rfl
  rw [z0] at c1
  rw [am_R_eq] at c1
  rw [vmo_8, hr, hl] at a1
  have er : (1 : Int32) + nI r = nI (1 + r) := by rw [show (1 : Int32) = nI 1 from rfl, nI_add]
  simp only [am_R_eq, cx_98, en_98, rt_98, rx_aload_n, rx_bastore, ev_w1, ev_KW, rx_bipush, rx_dup_i, rx_dup_r, rx_getfield, ev_gf, rx_goto, rx_iadd, rx_iaload, rx_iastore, rx_iconst, rx_icmp_ge, rx_icmp_le, rx_icmp_lt, rx_if_eq, rx_if_ge, rx_if_le, rx_if_ne, rx_iinc, ev_inc, rx_iload_n, rx_invv, ev_cv, rx_ireturn, rx_istore_n, rx_isub, rx_putfield, ev_pf, am_fok, am_ftv, kl_99, kl_100, kl_101, kl_112, ev_K, ev_pI, ev_pR, ev_pVi, ev_pVr, ev_sI, ev_sR, ev_KC, ev_k, ev_ko, ev_pop0, ev_pops, am_ld, am_sv, am_at, am_st, am_g, List.length_cons, List.length_nil, Nat.reduceAdd, Nat.reduceLT, Nat.zero_add, if_true, if_false, and_self, true_or, or_true, true_and, and_true, not_true_eq_false, not_false_eq_true, reduceCtorEq, eq_self, Option.toList_some, Option.toList_none, List.cons_append, List.nil_append, Bool.false_eq_true, m0, hr]
  refine am_CL_of q1 ?_
  simp only [am_R_eq, cx_98, en_98, rt_98, rx_aload_n, rx_bastore, ev_w1, ev_KW, rx_bipush, rx_dup_i, rx_dup_r, rx_getfield, ev_gf, rx_goto, rx_iadd, rx_iaload, rx_iastore, rx_iconst, rx_icmp_ge, rx_icmp_le, rx_icmp_lt, rx_if_eq, rx_if_ge, rx_if_le, rx_if_ne, rx_iinc, ev_inc, rx_iload_n, rx_invv, ev_cv, rx_ireturn, rx_istore_n, rx_isub, rx_putfield, ev_pf, am_fok, am_ftv, kl_99, kl_100, kl_101, kl_112, ev_K, ev_pI, ev_pR, ev_pVi, ev_pVr, ev_sI, ev_sR, ev_KC, ev_k, ev_ko, ev_pop0, ev_pops, am_ld, am_sv, am_at, am_st, am_g, List.length_cons, List.length_nil, Nat.reduceAdd, Nat.reduceLT, Nat.zero_add, if_true, if_false, and_self, true_or, or_true, true_and, and_true, not_true_eq_false, not_false_eq_true, reduceCtorEq, eq_self, Option.toList_some, Option.toList_none, List.cons_append, List.nil_append, Bool.false_eq_true, m0, hr, hl, hu, hb1, nxs, n1, n2, n3, k17, k18, k19, z17, z18, z19, zx, iw, er, nI_ofs, am_ft7, am_up_at, am_up_ne, am_up_up, ne_eq, not_false_eq_true, Nat.reduceLeDiff, beq_self_eq_true]
  refine am_CL_of a1 ?_
  simp only [am_R_eq, cx_98, en_98, rt_98, rx_aload_n, rx_bastore, ev_w1, ev_KW, rx_bipush, rx_dup_i, rx_dup_r, rx_getfield, ev_gf, rx_goto, rx_iadd, rx_iaload, rx_iastore, rx_iconst, rx_icmp_ge, rx_icmp_le, rx_icmp_lt, rx_if_eq, rx_if_ge, rx_if_le, rx_if_ne, rx_iinc, ev_inc, rx_iload_n, rx_invv, ev_cv, rx_ireturn, rx_istore_n, rx_isub, rx_putfield, ev_pf, am_fok, am_ftv, kl_99, kl_100, kl_101, kl_112, ev_K, ev_pI, ev_pR, ev_pVi, ev_pVr, ev_sI, ev_sR, ev_KC, ev_k, ev_ko, ev_pop0, ev_pops, am_ld, am_sv, am_at, am_st, am_g, List.length_cons, List.length_nil, Nat.reduceAdd, Nat.reduceLT, Nat.zero_add, if_true, if_false, and_self, true_or, or_true, true_and, and_true, not_true_eq_false, not_false_eq_true, reduceCtorEq, eq_self, Option.toList_some, Option.toList_none, List.cons_append, List.nil_append, Bool.false_eq_true]
  exact c1
theorem mo_commitNone (d : Nat) (hr : w 5 = nI 0) (hM : vs_M z h x A w F) : am_M z (d + 1) 98 [.ref x] h (some (.int (-2))) h := by
  have m0 := hM.ob
  have z0 : nI 0 = 0 := rfl
  rw [am_M_eq]
  simp only [am_R_eq, cx_98, en_98, rt_98, rx_aload_n, rx_bastore, ev_w1, ev_KW, rx_bipush, rx_dup_i, rx_dup_r, rx_getfield, ev_gf, rx_goto, rx_iadd, rx_iaload, rx_iastore, rx_iconst, rx_icmp_ge, rx_icmp_le, rx_icmp_lt, rx_if_eq, rx_if_ge, rx_if_le, rx_if_ne, rx_iinc, ev_inc, rx_iload_n, rx_invv, ev_cv, rx_ireturn, rx_istore_n, rx_isub, rx_putfield, ev_pf, am_fok, am_ftv, kl_99, kl_100, kl_101, kl_112, ev_K, ev_pI, ev_pR, ev_pVi, ev_pVr, ev_sI, ev_sR, ev_KC, ev_k, ev_ko, ev_pop0, ev_pops, am_ld, am_sv, am_at, am_st, am_g, List.length_cons, List.length_nil, Nat.reduceAdd, Nat.reduceLT, Nat.zero_add, if_true, if_false, and_self, true_or, or_true, true_and, and_true, not_true_eq_false, not_false_eq_true, reduceCtorEq, eq_self, Option.toList_some, Option.toList_none, List.cons_append, List.nil_append, Bool.false_eq_true, m0, hr, z0]
theorem mo_commitFull (d : Nat) {r hd tl u : Nat} (hr : w 5 = nI r) (hr0 : 0 < r) (hr6 : r ≤ 6) (hh : w 7 = nI hd) (hhb : hd ≤ 9999) (ht : w 6 = nI tl) (hu2 : F 16 (hd % 8) = nI u) (hu3 : u ≤ 1000) (h1 : tl ≤ hd) (hf : 16 < u + 1 + r ∧ 8 ≤ hd - tl + 1) (hM : vs_M z h x A w F) : am_M z (d + 1 + 1) 98 [.ref x] h (some (.int (-3))) h := by
  have m0 := hM.ob
  have q1 := mo_needsHead d hh (by omega) hu2 hu3 (v := r) (by omega) hM
  rw [if_pos hf.1] at q1
  have e1 : ¬ nI r = 0 := nI_ne0 hr0 (by omega)
  have e2 : nI hd - nI tl + 1 = nI (hd - tl + 1) := by rw [pk_sub h1, nI_1]
  have e3 : ¬ nI (hd - tl + 1) < 8 := nI_nlt (b := 8) hf.2 (by omega)
  rw [am_M_eq]
  simp only [am_R_eq, cx_98, en_98, rt_98, rx_aload_n, rx_bastore, ev_w1, ev_KW, rx_bipush, rx_dup_i, rx_dup_r, rx_getfield, ev_gf, rx_goto, rx_iadd, rx_iaload, rx_iastore, rx_iconst, rx_icmp_ge, rx_icmp_le, rx_icmp_lt, rx_if_eq, rx_if_ge, rx_if_le, rx_if_ne, rx_iinc, ev_inc, rx_iload_n, rx_invv, ev_cv, rx_ireturn, rx_istore_n, rx_isub, rx_putfield, ev_pf, am_fok, am_ftv, kl_99, kl_100, kl_101, kl_112, ev_K, ev_pI, ev_pR, ev_pVi, ev_pVr, ev_sI, ev_sR, ev_KC, ev_k, ev_ko, ev_pop0, ev_pops, am_ld, am_sv, am_at, am_st, am_g, List.length_cons, List.length_nil, Nat.reduceAdd, Nat.reduceLT, Nat.zero_add, if_true, if_false, and_self, true_or, or_true, true_and, and_true, not_true_eq_false, not_false_eq_true, reduceCtorEq, eq_self, Option.toList_some, Option.toList_none, List.cons_append, List.nil_append, Bool.false_eq_true, m0, hr, e1]
  refine am_CL_of q1 ?_
  simp only [am_R_eq, cx_98, en_98, rt_98, rx_aload_n, rx_bastore, ev_w1, ev_KW, rx_bipush, rx_dup_i, rx_dup_r, rx_getfield, ev_gf, rx_goto, rx_iadd, rx_iaload, rx_iastore, rx_iconst, rx_icmp_ge, rx_icmp_le, rx_icmp_lt, rx_if_eq, rx_if_ge, rx_if_le, rx_if_ne, rx_iinc, ev_inc, rx_iload_n, rx_invv, ev_cv, rx_ireturn, rx_istore_n, rx_isub, rx_putfield, ev_pf, am_fok, am_ftv, kl_99, kl_100, kl_101, kl_112, ev_K, ev_pI, ev_pR, ev_pVi, ev_pVr, ev_sI, ev_sR, ev_KC, ev_k, ev_ko, ev_pop0, ev_pops, am_ld, am_sv, am_at, am_st, am_g, List.length_cons, List.length_nil, Nat.reduceAdd, Nat.reduceLT, Nat.zero_add, if_true, if_false, and_self, true_or, or_true, true_and, and_true, not_true_eq_false, not_false_eq_true, reduceCtorEq, eq_self, Option.toList_some, Option.toList_none, List.cons_append, List.nil_append, Bool.false_eq_true, i_10, m0, hh, ht, e2, e3]
theorem mo_commit1 (d : Nat) {n r hd tl u : Nat} {rr : Option Value} {h' : am_H} (hn : w 1 = nI n) (hnb : n ≤ 520) (hr : w 5 = nI r) (hr0 : 0 < r) (hr6 : r ≤ 6) (hh : w 7 = nI hd) (hhb : hd ≤ 9999) (ht : w 6 = nI tl) (hu2 : F 16 (hd % 8) = nI u) (hu3 : u ≤ 1000) (h1 : tl ≤ hd) (hf : ¬ (16 < u + 1 + r ∧ 8 ≤ hd - tl + 1)) (hM : vs_M z h x A w F) (hc : m_cn (fun e => decide (F 5 e = -1)) n + r ≤ 8) (k1 : am_R z (d + 1) 98 59 [some (.ref x), none, none, none] [] h rr h') : am_M z (d + 1 + 1) 98 [.ref x] h rr h' := by
  have m0 := hM.ob
  have q1 := mo_needsHead d hh (by omega) hu2 hu3 (v := r) (by omega) hM
  have q2 := mo_size d (l := -1) hn hnb hM
  have e1 : ¬ nI r = 0 := nI_ne0 hr0 (by omega)
  have e2 : nI hd - nI tl + 1 = nI (hd - tl + 1) := by rw [pk_sub h1, nI_1]
  have e4 : nI (m_cn (fun e => decide (F 5 e = -1)) n) + nI r ≤ 8 := by rw [nI_add]; exact nI_le (b := 8) hc (by omega)
  rw [am_M_eq]
  simp only [am_R_eq, cx_98, en_98, rt_98, rx_aload_n, rx_bastore, ev_w1, ev_KW, rx_bipush, rx_dup_i, rx_dup_r, rx_getfield, ev_gf, rx_goto, rx_iadd, rx_iaload, rx_iastore, rx_iconst, rx_icmp_ge, rx_icmp_le, rx_icmp_lt, rx_if_eq, rx_if_ge, rx_if_le, rx_if_ne, rx_iinc, ev_inc, rx_iload_n, rx_invv, ev_cv, rx_ireturn, rx_istore_n, rx_isub, rx_putfield, ev_pf, am_fok, am_ftv, kl_99, kl_100, kl_101, kl_112, ev_K, ev_pI, ev_pR, ev_pVi, ev_pVr, ev_sI, ev_sR, ev_KC, ev_k, ev_ko, ev_pop0, ev_pops, am_ld, am_sv, am_at, am_st, am_g, List.length_cons, List.length_nil, Nat.reduceAdd, Nat.reduceLT, Nat.zero_add, if_true, if_false, and_self, true_or, or_true, true_and, and_true, not_true_eq_false, not_false_eq_true, reduceCtorEq, eq_self, Option.toList_some, Option.toList_none, List.cons_append, List.nil_append, Bool.false_eq_true, m0, hr, e1]
  refine am_CL_of q1 ?_
  by_cases c1 : 16 < u + 1 + r
  · have c2 : ¬ 8 ≤ hd - tl + 1 := fun q => hf ⟨c1, q⟩
    have e3 : nI (hd - tl + 1) < 8 := nI_lt (b := 8) (by omega) (by omega)
    simp only [am_R_eq, cx_98, en_98, rt_98, rx_aload_n, rx_bastore, ev_w1, ev_KW, rx_bipush, rx_dup_i, rx_dup_r, rx_getfield, ev_gf, rx_goto, rx_iadd, rx_iaload, rx_iastore, rx_iconst, rx_icmp_ge, rx_icmp_le, rx_icmp_lt, rx_if_eq, rx_if_ge, rx_if_le, rx_if_ne, rx_iinc, ev_inc, rx_iload_n, rx_invv, ev_cv, rx_ireturn, rx_istore_n, rx_isub, rx_putfield, ev_pf, am_fok, am_ftv, kl_99, kl_100, kl_101, kl_112, ev_K, ev_pI, ev_pR, ev_pVi, ev_pVr, ev_sI, ev_sR, ev_KC, ev_k, ev_ko, ev_pop0, ev_pops, am_ld, am_sv, am_at, am_st, am_g, List.length_cons, List.length_nil, Nat.reduceAdd, Nat.reduceLT, Nat.zero_add, if_true, if_false, and_self, true_or, or_true, true_and, and_true, not_true_eq_false, not_false_eq_true, reduceCtorEq, eq_self, Option.toList_some, Option.toList_none, List.cons_append, List.nil_append, Bool.false_eq_true, c1, i_10, m0, hh, ht, e2, e3]
    refine am_CL_of q2 ?_
    revert k1
    simp only [am_R_eq, cx_98, en_98, rt_98, rx_aload_n, rx_bastore, ev_w1, ev_KW, rx_bipush, rx_dup_i, rx_dup_r, rx_getfield, ev_gf, rx_goto, rx_iadd, rx_iaload, rx_iastore, rx_iconst, rx_icmp_ge, rx_icmp_le, rx_icmp_lt, rx_if_eq, rx_if_ge, rx_if_le, rx_if_ne, rx_iinc, ev_inc, rx_iload_n, rx_invv, ev_cv, rx_ireturn, rx_istore_n, rx_isub, rx_putfield, ev_pf, am_fok, am_ftv, kl_99, kl_100, kl_101, kl_112, ev_K, ev_pI, ev_pR, ev_pVi, ev_pVr, ev_sI, ev_sR, ev_KC, ev_k, ev_ko, ev_pop0, ev_pops, am_ld, am_sv, am_at, am_st, am_g, List.length_cons, List.length_nil, Nat.reduceAdd, Nat.reduceLT, Nat.zero_add, if_true, if_false, and_self, true_or, or_true, true_and, and_true, not_true_eq_false, not_false_eq_true, reduceCtorEq, eq_self, Option.toList_some, Option.toList_none, List.cons_append, List.nil_append, Bool.false_eq_true, m0, hr, e4]
    exact fun q => q
  · simp only [am_R_eq, cx_98, en_98, rt_98, rx_aload_n, rx_bastore, ev_w1, ev_KW, rx_bipush, rx_dup_i, rx_dup_r, rx_getfield, ev_gf, rx_goto, rx_iadd, rx_iaload, rx_iastore, rx_iconst, rx_icmp_ge, rx_icmp_le, rx_icmp_lt, rx_if_eq, rx_if_ge, rx_if_le, rx_if_ne, rx_iinc, ev_inc, rx_iload_n, rx_invv, ev_cv, rx_ireturn, rx_istore_n, rx_isub, rx_putfield, ev_pf, am_fok, am_ftv, kl_99, kl_100, kl_101, kl_112, ev_K, ev_pI, ev_pR, ev_pVi, ev_pVr, ev_sI, ev_sR, ev_KC, ev_k, ev_ko, ev_pop0, ev_pops, am_ld, am_sv, am_at, am_st, am_g, List.length_cons, List.length_nil, Nat.reduceAdd, Nat.reduceLT, Nat.zero_add, if_true, if_false, and_self, true_or, or_true, true_and, and_true, not_true_eq_false, not_false_eq_true, reduceCtorEq, eq_self, Option.toList_some, Option.toList_none, List.cons_append, List.nil_append, Bool.false_eq_true, c1, m0]
    refine am_CL_of q2 ?_
    revert k1
    simp only [am_R_eq, cx_98, en_98, rt_98, rx_aload_n, rx_bastore, ev_w1, ev_KW, rx_bipush, rx_dup_i, rx_dup_r, rx_getfield, ev_gf, rx_goto, rx_iadd, rx_iaload, rx_iastore, rx_iconst, rx_icmp_ge, rx_icmp_le, rx_icmp_lt, rx_if_eq, rx_if_ge, rx_if_le, rx_if_ne, rx_iinc, ev_inc, rx_iload_n, rx_invv, ev_cv, rx_ireturn, rx_istore_n, rx_isub, rx_putfield, ev_pf, am_fok, am_ftv, kl_99, kl_100, kl_101, kl_112, ev_K, ev_pI, ev_pR, ev_pVi, ev_pVr, ev_sI, ev_sR, ev_KC, ev_k, ev_ko, ev_pop0, ev_pops, am_ld, am_sv, am_at, am_st, am_g, List.length_cons, List.length_nil, Nat.reduceAdd, Nat.reduceLT, Nat.zero_add, if_true, if_false, and_self, true_or, or_true, true_and, and_true, not_true_eq_false, not_false_eq_true, reduceCtorEq, eq_self, Option.toList_some, Option.toList_none, List.cons_append, List.nil_append, Bool.false_eq_true, m0, hr, e4]
    exact fun q => q
theorem mo_commit2 (d : Nat) {n r hd tl u : Nat} {rr : Option Value} {h1' h' : am_H} (hn : w 1 = nI n) (hnb : n ≤ 520) (hr : w 5 = nI r) (hr0 : 0 < r) (hr6 : r ≤ 6) (hh : w 7 = nI hd) (hhb : hd ≤ 9999) (ht : w 6 = nI tl) (hu2 : F 16 (hd % 8) = nI u) (hu3 : u ≤ 1000) (h1 : tl ≤ hd) (hf : ¬ (16 < u + 1 + r ∧ 8 ≤ hd - tl + 1)) (hM : vs_M z h x A w F) (hc : 8 < m_cn (fun e => decide (F 5 e = -1)) n + r) (q3 : am_M z (d + 1) 101 [.ref x] h none h1') (k1 : am_R z (d + 1) 98 59 [some (.ref x), none, none, none] [] h1' rr h') : am_M z (d + 1 + 1) 98 [.ref x] h rr h' := by
  have m0 := hM.ob
  have q1 := mo_needsHead d hh (by omega) hu2 hu3 (v := r) (by omega) hM
  have q2 := mo_size d (l := -1) hn hnb hM
  have hle := m_cn_le (fun e => decide (F 5 e = -1)) n
  have e1 : ¬ nI r = 0 := nI_ne0 hr0 (by omega)
  have e2 : nI hd - nI tl + 1 = nI (hd - tl + 1) := by rw [pk_sub h1, nI_1]
  have e4 : ¬ nI (m_cn (fun e => decide (F 5 e = -1)) n) + nI r ≤ 8 := by rw [nI_add]; exact nI_ge (a := 8) hc (by omega)
  rw [am_M_eq]
  simp only [am_R_eq, cx_98, en_98, rt_98, rx_aload_n, rx_bastore, ev_w1, ev_KW, rx_bipush, rx_dup_i, rx_dup_r, rx_getfield, ev_gf, rx_goto, rx_iadd, rx_iaload, rx_iastore, rx_iconst, rx_icmp_ge, rx_icmp_le, rx_icmp_lt, rx_if_eq, rx_if_ge, rx_if_le, rx_if_ne, rx_iinc, ev_inc, rx_iload_n, rx_invv, ev_cv, rx_ireturn, rx_istore_n, rx_isub, rx_putfield, ev_pf, am_fok, am_ftv, kl_99, kl_100, kl_101, kl_112, ev_K, ev_pI, ev_pR, ev_pVi, ev_pVr, ev_sI, ev_sR, ev_KC, ev_k, ev_ko, ev_pop0, ev_pops, am_ld, am_sv, am_at, am_st, am_g, List.length_cons, List.length_nil, Nat.reduceAdd, Nat.reduceLT, Nat.zero_add, if_true, if_false, and_self, true_or, or_true, true_and, and_true, not_true_eq_false, not_false_eq_true, reduceCtorEq, eq_self, Option.toList_some, Option.toList_none, List.cons_append, List.nil_append, Bool.false_eq_true, m0, hr, e1]
  refine am_CL_of q1 ?_
  by_cases c1 : 16 < u + 1 + r
  · have c2 : ¬ 8 ≤ hd - tl + 1 := fun q => hf ⟨c1, q⟩
    have e3 : nI (hd - tl + 1) < 8 := nI_lt (b := 8) (by omega) (by omega)
    simp only [am_R_eq, cx_98, en_98, rt_98, rx_aload_n, rx_bastore, ev_w1, ev_KW, rx_bipush, rx_dup_i, rx_dup_r, rx_getfield, ev_gf, rx_goto, rx_iadd, rx_iaload, rx_iastore, rx_iconst, rx_icmp_ge, rx_icmp_le, rx_icmp_lt, rx_if_eq, rx_if_ge, rx_if_le, rx_if_ne, rx_iinc, ev_inc, rx_iload_n, rx_invv, ev_cv, rx_ireturn, rx_istore_n, rx_isub, rx_putfield, ev_pf, am_fok, am_ftv, kl_99, kl_100, kl_101, kl_112, ev_K, ev_pI, ev_pR, ev_pVi, ev_pVr, ev_sI, ev_sR, ev_KC, ev_k, ev_ko, ev_pop0, ev_pops, am_ld, am_sv, am_at, am_st, am_g, List.length_cons, List.length_nil, Nat.reduceAdd, Nat.reduceLT, Nat.zero_add, if_true, if_false, and_self, true_or, or_true, true_and, and_true, not_true_eq_false, not_false_eq_true, reduceCtorEq, eq_self, Option.toList_some, Option.toList_none, List.cons_append, List.nil_append, Bool.false_eq_true, c1, i_10, m0, hh, ht, e2, e3]
    refine am_CL_of q2 ?_
    simp only [am_R_eq, cx_98, en_98, rt_98, rx_aload_n, rx_bastore, ev_w1, ev_KW, rx_bipush, rx_dup_i, rx_dup_r, rx_getfield, ev_gf, rx_goto, rx_iadd, rx_iaload, rx_iastore, rx_iconst, rx_icmp_ge, rx_icmp_le, rx_icmp_lt, rx_if_eq, rx_if_ge, rx_if_le, rx_if_ne, rx_iinc, ev_inc, rx_iload_n, rx_invv, ev_cv, rx_ireturn, rx_istore_n, rx_isub, rx_putfield, ev_pf, am_fok, am_ftv, kl_99, kl_100, kl_101, kl_112, ev_K, ev_pI, ev_pR, ev_pVi, ev_pVr, ev_sI, ev_sR, ev_KC, ev_k, ev_ko, ev_pop0, ev_pops, am_ld, am_sv, am_at, am_st, am_g, List.length_cons, List.length_nil, Nat.reduceAdd, Nat.reduceLT, Nat.zero_add, if_true, if_false, and_self, true_or, or_true, true_and, and_true, not_true_eq_false, not_false_eq_true, reduceCtorEq, eq_self, Option.toList_some, Option.toList_none, List.cons_append, List.nil_append, Bool.false_eq_true, m0, hr, e4]
    refine am_CL_of q3 ?_
    revert k1
    simp only [am_R_eq, cx_98, en_98, rt_98, rx_aload_n, rx_bastore, ev_w1, ev_KW, rx_bipush, rx_dup_i, rx_dup_r, rx_getfield, ev_gf, rx_goto, rx_iadd, rx_iaload, rx_iastore, rx_iconst, rx_icmp_ge, rx_icmp_le, rx_icmp_lt, rx_if_eq, rx_if_ge, rx_if_le, rx_if_ne, rx_iinc, ev_inc, rx_iload_n, rx_invv, ev_cv, rx_ireturn, rx_istore_n, rx_isub, rx_putfield, ev_pf, am_fok, am_ftv, kl_99, kl_100, kl_101, kl_112, ev_K, ev_pI, ev_pR, ev_pVi, ev_pVr, ev_sI, ev_sR, ev_KC, ev_k, ev_ko, ev_pop0, ev_pops, am_ld, am_sv, am_at, am_st, am_g, List.length_cons, List.length_nil, Nat.reduceAdd, Nat.reduceLT, Nat.zero_add, if_true, if_false, and_self, true_or, or_true, true_and, and_true, not_true_eq_false, not_false_eq_true, reduceCtorEq, eq_self, Option.toList_some, Option.toList_none, List.cons_append, List.nil_append, Bool.false_eq_true]
    exact fun q => q
  · simp only [am_R_eq, cx_98, en_98, rt_98, rx_aload_n, rx_bastore, ev_w1, ev_KW, rx_bipush, rx_dup_i, rx_dup_r, rx_getfield, ev_gf, rx_goto, rx_iadd, rx_iaload, rx_iastore, rx_iconst, rx_icmp_ge, rx_icmp_le, rx_icmp_lt, rx_if_eq, rx_if_ge, rx_if_le, rx_if_ne, rx_iinc, ev_inc, rx_iload_n, rx_invv, ev_cv, rx_ireturn, rx_istore_n, rx_isub, rx_putfield, ev_pf, am_fok, am_ftv, kl_99, kl_100, kl_101, kl_112, ev_K, ev_pI, ev_pR, ev_pVi, ev_pVr, ev_sI, ev_sR, ev_KC, ev_k, ev_ko, ev_pop0, ev_pops, am_ld, am_sv, am_at, am_st, am_g, List.length_cons, List.length_nil, Nat.reduceAdd, Nat.reduceLT, Nat.zero_add, if_true, if_false, and_self, true_or, or_true, true_and, and_true, not_true_eq_false, not_false_eq_true, reduceCtorEq, eq_self, Option.toList_some, Option.toList_none, List.cons_append, List.nil_append, Bool.false_eq_true, c1, m0]
    refine am_CL_of q2 ?_
    simp only [am_R_eq, cx_98, en_98, rt_98, rx_aload_n, rx_bastore, ev_w1, ev_KW, rx_bipush, rx_dup_i, rx_dup_r, rx_getfield, ev_gf, rx_goto, rx_iadd, rx_iaload, rx_iastore, rx_iconst, rx_icmp_ge, rx_icmp_le, rx_icmp_lt, rx_if_eq, rx_if_ge, rx_if_le, rx_if_ne, rx_iinc, ev_inc, rx_iload_n, rx_invv, ev_cv, rx_ireturn, rx_istore_n, rx_isub, rx_putfield, ev_pf, am_fok, am_ftv, kl_99, kl_100, kl_101, kl_112, ev_K, ev_pI, ev_pR, ev_pVi, ev_pVr, ev_sI, ev_sR, ev_KC, ev_k, ev_ko, ev_pop0, ev_pops, am_ld, am_sv, am_at, am_st, am_g, List.length_cons, List.length_nil, Nat.reduceAdd, Nat.reduceLT, Nat.zero_add, if_true, if_false, and_self, true_or, or_true, true_and, and_true, not_true_eq_false, not_false_eq_true, reduceCtorEq, eq_self, Option.toList_some, Option.toList_none, List.cons_append, List.nil_append, Bool.false_eq_true, m0, hr, e4]
    refine am_CL_of q3 ?_
    revert k1
    simp only [am_R_eq, cx_98, en_98, rt_98, rx_aload_n, rx_bastore, ev_w1, ev_KW, rx_bipush, rx_dup_i, rx_dup_r, rx_getfield, ev_gf, rx_goto, rx_iadd, rx_iaload, rx_iastore, rx_iconst, rx_icmp_ge, rx_icmp_le, rx_icmp_lt, rx_if_eq, rx_if_ge, rx_if_le, rx_if_ne, rx_iinc, ev_inc, rx_iload_n, rx_invv, ev_cv, rx_ireturn, rx_istore_n, rx_isub, rx_putfield, ev_pf, am_fok, am_ftv, kl_99, kl_100, kl_101, kl_112, ev_K, ev_pI, ev_pR, ev_pVi, ev_pVr, ev_sI, ev_sR, ev_KC, ev_k, ev_ko, ev_pop0, ev_pops, am_ld, am_sv, am_at, am_st, am_g, List.length_cons, List.length_nil, Nat.reduceAdd, Nat.reduceLT, Nat.zero_add, if_true, if_false, and_self, true_or, or_true, true_and, and_true, not_true_eq_false, not_false_eq_true, reduceCtorEq, eq_self, Option.toList_some, Option.toList_none, List.cons_append, List.nil_append, Bool.false_eq_true]
    exact fun q => q
end MY
