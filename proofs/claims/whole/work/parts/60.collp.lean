section ND
variable {z : Nat} {h : am_H} {x : Nat} {A : Nat → Nat} {w : Nat → Int32} {F : Nat → Nat → Int32}
theorem mo_collNone (d : Nat) (ht : w 6 = w 7) (hM : vs_M z h x A w F) : am_M z (d + 1) 116 [.ref x] h (some (.int (-2))) h := by
  have m0 := hM.ob
  rw [am_M_eq]
  simp only [am_R_eq, cx_116, en_116, rt_116, rx_aload_n, rx_bipush, rx_dup_i, rx_dup_r, rx_getfield, ev_gf, rx_goto, rx_iadd, rx_iastore, ev_w1, ev_KW, rx_iconst, rx_icmp_ge, rx_icmp_le, rx_icmp_ne, rx_if_le, rx_iinc, ev_inc, rx_iload, rx_iload_n, rx_invv, ev_cv, rx_ireturn, rx_istore, rx_istore_n, rx_isub, rx_putfield, ev_pf, am_fok, am_ftv, kl_101, kl_112, kl_117, kl_119, kl_120, ev_K, ev_pI, ev_pR, ev_pVi, ev_pVr, ev_sI, ev_sR, ev_KC, ev_k, ev_ko, ev_pop0, ev_pops, am_ld, am_sv, am_at, am_st, am_g, List.length_cons, List.length_nil, Nat.reduceAdd, Nat.reduceLT, Nat.zero_add, if_true, if_false, and_self, true_or, or_true, true_and, and_true, not_true_eq_false, not_false_eq_true, reduceCtorEq, eq_self, Option.toList_some, Option.toList_none, List.cons_append, List.nil_append, Bool.false_eq_true, m0, ht]
theorem mo_collGo (d : Nat) {h1 : am_H} {r : Option Value} {h' : am_H} (ht : ¬ w 6 = w 7) (hM : vs_M z h x A w F) (q1 : am_M z (d + 1) 101 [.ref x] h none h1) (k1 : am_R z (d + 1) 116 18 [some (.ref x), none, none, none, none, none, none] [] h1 r h') : am_M z (d + 1 + 1) 116 [.ref x] h r h' := by
  have m0 := hM.ob
  rw [am_M_eq]
  simp only [am_R_eq, cx_116, en_116, rt_116, rx_aload_n, rx_bipush, rx_dup_i, rx_dup_r, rx_getfield, ev_gf, rx_goto, rx_iadd, rx_iastore, ev_w1, ev_KW, rx_iconst, rx_icmp_ge, rx_icmp_le, rx_icmp_ne, rx_if_le, rx_iinc, ev_inc, rx_iload, rx_iload_n, rx_invv, ev_cv, rx_ireturn, rx_istore, rx_istore_n, rx_isub, rx_putfield, ev_pf, am_fok, am_ftv, kl_101, kl_112, kl_117, kl_119, kl_120, ev_K, ev_pI, ev_pR, ev_pVi, ev_pVr, ev_sI, ev_sR, ev_KC, ev_k, ev_ko, ev_pop0, ev_pops, am_ld, am_sv, am_at, am_st, am_g, List.length_cons, List.length_nil, Nat.reduceAdd, Nat.reduceLT, Nat.zero_add, if_true, if_false, and_self, true_or, or_true, true_and, and_true, not_true_eq_false, not_false_eq_true, reduceCtorEq, eq_self, Option.toList_some, Option.toList_none, List.cons_append, List.nil_append, Bool.false_eq_true, m0, ht]
  refine am_CL_of q1 ?_
  revert k1
  simp only [am_R_eq, cx_116, en_116, rt_116, rx_aload_n, rx_bipush, rx_dup_i, rx_dup_r, rx_getfield, ev_gf, rx_goto, rx_iadd, rx_iastore, ev_w1, ev_KW, rx_iconst, rx_icmp_ge, rx_icmp_le, rx_icmp_ne, rx_if_le, rx_iinc, ev_inc, rx_iload, rx_iload_n, rx_invv, ev_cv, rx_ireturn, rx_istore, rx_istore_n, rx_isub, rx_putfield, ev_pf, am_fok, am_ftv, kl_101, kl_112, kl_117, kl_119, kl_120, ev_K, ev_pI, ev_pR, ev_pVi, ev_pVr, ev_sI, ev_sR, ev_KC, ev_k, ev_ko, ev_pop0, ev_pops, am_ld, am_sv, am_at, am_st, am_g, List.length_cons, List.length_nil, Nat.reduceAdd, Nat.reduceLT, Nat.zero_add, if_true, if_false, and_self, true_or, or_true, true_and, and_true, not_true_eq_false, not_false_eq_true, reduceCtorEq, eq_self, Option.toList_some, Option.toList_none, List.cons_append, List.nil_append, Bool.false_eq_true]
  exact fun q => q
theorem m_hf_ge : ∀ q s f l, s ≤ m_hf q s f l
  | 0, s, f, l => Nat.le_refl _
  | q + 1, s, f, l => by
    unfold m_hf
    split
    · exact Nat.le_refl _
    · split
      · exact Nat.le_trans (Nat.le_succ s) (m_hf_ge q _ _ _)
      · exact m_hf_ge q _ _ _
theorem m_hf_le : ∀ q s f l, m_hf q s f l ≤ s + q
  | 0, s, f, l => Nat.le_refl _
  | q + 1, s, f, l => by
    unfold m_hf
    split
    · omega
    · split
      · have := m_hf_le q (s + 1) (1 + min l 6) (l - 6)
        omega
      · have := m_hf_le q s (f + (1 + min l 6)) (l - 6)
        omega
theorem mo_collFull (d : Nat) {n hd tl u : Nat} (hn : w 1 = nI n) (hb : n ≤ 520) (hh : w 7 = nI hd) (hhb : hd ≤ 9999) (ht : w 6 = nI tl) (htl : tl ≤ hd) (hu : F 16 (hd % 8) = nI u) (hub : u ≤ 16) (hcb : m_cn (m_lv F (nI tl)) n ≤ 100) (hf : 8 < hd - tl + 1 + m_hf (m_cn (m_lv F (nI tl)) n + 1) 0 u (m_cn (m_lv F (nI tl)) n)) (hM : vs_M z h x A w F) : am_R z (d + 1 + 1) 116 18 [some (.ref x), none, none, none, none, none, none] [] h (some (.int (-3))) h := by
  have m0 := hM.ob
  have q1 := mo_liveIn d (s := w 6) hn hb hM
  rw [ht] at q1
  generalize hc : m_cn (m_lv F (nI tl)) n = c at *
  have q2 := mo_headsFor (d + 1) hh (by omega) hu hub hcb hM
  have hle := m_hf_le (c + 1) 0 u c
  have e1 : nI hd - nI tl + 1 + nI (m_hf (c + 1) 0 u c) = nI (hd - tl + 1 + m_hf (c + 1) 0 u c) := by rw [pk_sub htl, nI_1, nI_add]
  have e2 : ¬ nI (hd - tl + 1 + m_hf (c + 1) 0 u c) ≤ 8 := nI_ge (a := 8) hf (by omega)
  simp only [am_R_eq, cx_116, en_116, rt_116, rx_aload_n, rx_bipush, rx_dup_i, rx_dup_r, rx_getfield, ev_gf, rx_goto, rx_iadd, rx_iastore, ev_w1, ev_KW, rx_iconst, rx_icmp_ge, rx_icmp_le, rx_icmp_ne, rx_if_le, rx_iinc, ev_inc, rx_iload, rx_iload_n, rx_invv, ev_cv, rx_ireturn, rx_istore, rx_istore_n, rx_isub, rx_putfield, ev_pf, am_fok, am_ftv, kl_101, kl_112, kl_117, kl_119, kl_120, ev_K, ev_pI, ev_pR, ev_pVi, ev_pVr, ev_sI, ev_sR, ev_KC, ev_k, ev_ko, ev_pop0, ev_pops, am_ld, am_sv, am_at, am_st, am_g, List.length_cons, List.length_nil, Nat.reduceAdd, Nat.reduceLT, Nat.zero_add, if_true, if_false, and_self, true_or, or_true, true_and, and_true, not_true_eq_false, not_false_eq_true, reduceCtorEq, eq_self, Option.toList_some, Option.toList_none, List.cons_append, List.nil_append, Bool.false_eq_true, m0, ht]
  refine am_CL_of q1 ?_
  simp only [am_R_eq, cx_116, en_116, rt_116, rx_aload_n, rx_bipush, rx_dup_i, rx_dup_r, rx_getfield, ev_gf, rx_goto, rx_iadd, rx_iastore, ev_w1, ev_KW, rx_iconst, rx_icmp_ge, rx_icmp_le, rx_icmp_ne, rx_if_le, rx_iinc, ev_inc, rx_iload, rx_iload_n, rx_invv, ev_cv, rx_ireturn, rx_istore, rx_istore_n, rx_isub, rx_putfield, ev_pf, am_fok, am_ftv, kl_101, kl_112, kl_117, kl_119, kl_120, ev_K, ev_pI, ev_pR, ev_pVi, ev_pVr, ev_sI, ev_sR, ev_KC, ev_k, ev_ko, ev_pop0, ev_pops, am_ld, am_sv, am_at, am_st, am_g, List.length_cons, List.length_nil, Nat.reduceAdd, Nat.reduceLT, Nat.zero_add, if_true, if_false, and_self, true_or, or_true, true_and, and_true, not_true_eq_false, not_false_eq_true, reduceCtorEq, eq_self, Option.toList_some, Option.toList_none, List.cons_append, List.nil_append, Bool.false_eq_true, m0, hh, ht]
  refine am_CL_of q2 ?_
  simp only [am_R_eq, cx_116, en_116, rt_116, rx_aload_n, rx_bipush, rx_dup_i, rx_dup_r, rx_getfield, ev_gf, rx_goto, rx_iadd, rx_iastore, ev_w1, ev_KW, rx_iconst, rx_icmp_ge, rx_icmp_le, rx_icmp_ne, rx_if_le, rx_iinc, ev_inc, rx_iload, rx_iload_n, rx_invv, ev_cv, rx_ireturn, rx_istore, rx_istore_n, rx_isub, rx_putfield, ev_pf, am_fok, am_ftv, kl_101, kl_112, kl_117, kl_119, kl_120, ev_K, ev_pI, ev_pR, ev_pVi, ev_pVr, ev_sI, ev_sR, ev_KC, ev_k, ev_ko, ev_pop0, ev_pops, am_ld, am_sv, am_at, am_st, am_g, List.length_cons, List.length_nil, Nat.reduceAdd, Nat.reduceLT, Nat.zero_add, if_true, if_false, and_self, true_or, or_true, true_and, and_true, not_true_eq_false, not_false_eq_true, reduceCtorEq, eq_self, Option.toList_some, Option.toList_none, List.cons_append, List.nil_append, Bool.false_eq_true, e1, e2]
theorem mo_collOk (d : Nat) {n hd tl u : Nat} (hn : w 1 = nI n) (hb : n ≤ 520) (hh : w 7 = nI hd) (hhb : hd ≤ 9800) (ht : w 6 = nI tl) (htl : tl < hd) (hu : F 16 (hd % 8) = nI u) (hub : u ≤ 16) (hcb : m_cn (m_lv F (nI tl)) n ≤ 100) (hf : ¬ 8 < hd - tl + 1 + m_hf (m_cn (m_lv F (nI tl)) n + 1) 0 u (m_cn (m_lv F (nI tl)) n)) (hM : vs_M z h x A w F) : ∃ h', am_R z (d + 1 + 1) 116 18 [some (.ref x), none, none, none, none, none, none] [] h (some (.int (nI (m_cn (m_lv F (nI tl)) n)))) h' ∧ vs_M z h' x A (va_up (va_up (va_up w 7 (nI (m_co (nI tl) n (m_cn (m_lv F (nI tl)) n + 1) (m_cn (m_lv F (nI tl)) n) F hd).2)) 8 0) 6 (nI (tl + 1))) (m_co (nI tl) n (m_cn (m_lv F (nI tl)) n + 1) (m_cn (m_lv F (nI tl)) n) F hd).1 ∧ h'.2 = h.2 := by
  have m0 := hM.ob
  have q1 := mo_liveIn d (s := w 6) hn hb hM
  rw [ht] at q1
  obtain ⟨h', i1, i2, i3⟩ := mo_collOut (cnt := nI (m_cn (m_lv F (nI tl)) n)) d (n := n) (tl := tl) hb hM.zx hM.za (m_cn (m_lv F (nI tl)) n + 1) (m_cn (m_lv F (nI tl)) n) hd F h w (nI (m_cn (m_lv F (nI tl)) n)) (by omega) (by omega) htl hn ht hh ⟨u, hub, hu⟩ (Nat.le_refl _) (fun q => by rw [q]; decide) (fun _ => rfl) hM
  refine ⟨h', ?_, i2, i3⟩
  have k1 := i1 none none none none
  rw [am_R_eq] at k1
  generalize hc : m_cn (m_lv F (nI tl)) n = c at *
  have q2 := mo_headsFor (d + 1) hh (by omega) hu hub hcb hM
  have hle := m_hf_le (c + 1) 0 u c
  have e1 : nI hd - nI tl + 1 + nI (m_hf (c + 1) 0 u c) = nI (hd - tl + 1 + m_hf (c + 1) 0 u c) := by rw [pk_sub (by omega), nI_1, nI_add]
  have e2 : nI (hd - tl + 1 + m_hf (c + 1) 0 u c) ≤ 8 := nI_le (b := 8) (by omega) (by omega)
  simp only [am_R_eq, cx_116, en_116, rt_116, rx_aload_n, rx_bipush, rx_dup_i, rx_dup_r, rx_getfield, ev_gf, rx_goto, rx_iadd, rx_iastore, ev_w1, ev_KW, rx_iconst, rx_icmp_ge, rx_icmp_le, rx_icmp_ne, rx_if_le, rx_iinc, ev_inc, rx_iload, rx_iload_n, rx_invv, ev_cv, rx_ireturn, rx_istore, rx_istore_n, rx_isub, rx_putfield, ev_pf, am_fok, am_ftv, kl_101, kl_112, kl_117, kl_119, kl_120, ev_K, ev_pI, ev_pR, ev_pVi, ev_pVr, ev_sI, ev_sR, ev_KC, ev_k, ev_ko, ev_pop0, ev_pops, am_ld, am_sv, am_at, am_st, am_g, List.length_cons, List.length_nil, Nat.reduceAdd, Nat.reduceLT, Nat.zero_add, if_true, if_false, and_self, true_or, or_true, true_and, and_true, not_true_eq_false, not_false_eq_true, reduceCtorEq, eq_self, Option.toList_some, Option.toList_none, List.cons_append, List.nil_append, Bool.false_eq_true, m0, ht]
  refine am_CL_of q1 ?_
  simp only [am_R_eq, cx_116, en_116, rt_116, rx_aload_n, rx_bipush, rx_dup_i, rx_dup_r, rx_getfield, ev_gf, rx_goto, rx_iadd, rx_iastore, ev_w1, ev_KW, rx_iconst, rx_icmp_ge, rx_icmp_le, rx_icmp_ne, rx_if_le, rx_iinc, ev_inc, rx_iload, rx_iload_n, rx_invv, ev_cv, rx_ireturn, rx_istore, rx_istore_n, rx_isub, rx_putfield, ev_pf, am_fok, am_ftv, kl_101, kl_112, kl_117, kl_119, kl_120, ev_K, ev_pI, ev_pR, ev_pVi, ev_pVr, ev_sI, ev_sR, ev_KC, ev_k, ev_ko, ev_pop0, ev_pops, am_ld, am_sv, am_at, am_st, am_g, List.length_cons, List.length_nil, Nat.reduceAdd, Nat.reduceLT, Nat.zero_add, if_true, if_false, and_self, true_or, or_true, true_and, and_true, not_true_eq_false, not_false_eq_true, reduceCtorEq, eq_self, Option.toList_some, Option.toList_none, List.cons_append, List.nil_append, Bool.false_eq_true, m0, hh, ht]
  refine am_CL_of q2 ?_
  simp only [am_R_eq, cx_116, en_116, rt_116, rx_aload_n, rx_bipush, rx_dup_i, rx_dup_r, rx_getfield, ev_gf, rx_goto, rx_iadd, rx_iastore, ev_w1, ev_KW, rx_iconst, rx_icmp_ge, rx_icmp_le, rx_icmp_ne, rx_if_le, rx_iinc, ev_inc, rx_iload, rx_iload_n, rx_invv, ev_cv, rx_ireturn, rx_istore, rx_istore_n, rx_isub, rx_putfield, ev_pf, am_fok, am_ftv, kl_101, kl_112, kl_117, kl_119, kl_120, ev_K, ev_pI, ev_pR, ev_pVi, ev_pVr, ev_sI, ev_sR, ev_KC, ev_k, ev_ko, ev_pop0, ev_pops, am_ld, am_sv, am_at, am_st, am_g, List.length_cons, List.length_nil, Nat.reduceAdd, Nat.reduceLT, Nat.zero_add, if_true, if_false, and_self, true_or, or_true, true_and, and_true, not_true_eq_false, not_false_eq_true, reduceCtorEq, eq_self, Option.toList_some, Option.toList_none, List.cons_append, List.nil_append, Bool.false_eq_true, e1, e2]
  exact k1
end ND
