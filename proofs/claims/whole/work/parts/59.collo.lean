section NC
variable {z : Nat} {h : am_H} {x : Nat} {A : Nat → Nat} {w : Nat → Int32} {F : Nat → Nat → Int32}
theorem vmo_86 (A : Nat → Nat) (w : Nat → Int32) (s t : Int32) : vm_o A (va_up (va_up w 8 s) 6 t) = .inr (7, [.int (w 0), .int (w 1), .ref (A 0), .ref (A 1), .ref (A 2), .ref (A 3), .ref (A 4), .ref (A 5), .ref (A 6), .ref (A 7), .ref (A 8), .ref (A 9), .ref (A 10), .int (w 2), .int (w 3), .int (w 4), .int (w 5), .ref (A 11), .ref (A 12), .ref (A 13), .ref (A 14), .ref (A 15), .int t, .int (w 7), .ref (A 16), .int s, .ref (A 17), .ref (A 18), .ref (A 19), .int (w 9)]) := rfl
theorem mo_collOut (d : Nat) {n tl : Nat} {cnt : Int32} (hb : n ≤ 520) (zx : z ≤ x) (zs : ∀ i, i < 20 → z ≤ A i) : ∀ q l hd (F2 : Nat → Nat → Int32) hh (w2 : Nat → Int32) y, l < q → hd + q ≤ 10000 → tl < hd → w2 1 = nI n → w2 6 = nI tl → w2 7 = nI hd → (∃ u, u ≤ 16 ∧ F2 16 (hd % 8) = nI u) → l ≤ m_cn (m_lv F2 (nI tl)) n → (l = 0 → y ≤ 0) → (0 < l → y = nI l) → vs_M z hh x A w2 F2 →
    ∃ h', (∀ v3 v4 v5 v6 : Option Value, am_R z (d + 1 + 1) 116 54 [some (.ref x), some (.int cnt), some (.int y), v3, v4, v5, v6] [] hh (some (.int cnt)) h') ∧ vs_M z h' x A (va_up (va_up (va_up w2 7 (nI (m_co (nI tl) n q l F2 hd).2)) 8 0) 6 (nI (tl + 1))) (m_co (nI tl) n q l F2 hd).1 ∧ h'.2 = hh.2 := by
  intro q
  induction q with
  | zero => intro l hd F2 hh w2 y hl; omega
  | succ q ih =>
    intro l hd F2 hh w2 y hlq hhq htl h1 h6 h7 hu hc hy0 hy1 hW
    have m0 := hW.ob
    by_cases hl0 : l = 0
    · have e1 : y ≤ 0 := hy0 hl0
      have e2 : m_co (nI tl) n (q + 1) l F2 hd = (F2, hd) := by rw [m_co, if_pos hl0]
      rw [e2]
      have ew : va_up w2 7 (nI hd) = w2 := by rw [← h7, va_up_id]
      dsimp only
      rw [ew]
      refine ⟨_, ?_, hW.fld (va_up (va_up w2 8 0) 6 (nI (tl + 1))), rfl⟩
      intro v3 v4 v5 v6
      rw [vmo_86]
      rw [am_R_eq, cxh_116_54]
      simp only [am_R_eq, cx_116, en_116, rt_116, rx_aload_n, rx_bipush, rx_dup_i, rx_dup_r, rx_getfield, ev_gf, rx_goto, rx_iadd, rx_iastore, ev_w1, ev_KW, rx_iconst, rx_icmp_ge, rx_icmp_le, rx_icmp_ne, rx_if_le, rx_iinc, ev_inc, rx_iload, rx_iload_n, rx_invv, ev_cv, rx_ireturn, rx_istore, rx_istore_n, rx_isub, rx_putfield, ev_pf, am_fok, am_ftv, kl_101, kl_112, kl_117, kl_119, kl_120, ev_K, ev_pI, ev_pR, ev_pVi, ev_pVr, ev_sI, ev_sR, ev_KC, ev_k, ev_ko, ev_pop0, ev_pops, am_ld, am_sv, am_at, am_st, am_g, List.length_cons, List.length_nil, Nat.reduceAdd, Nat.reduceLT, Nat.zero_add, if_true, if_false, and_self, true_or, or_true, true_and, and_true, not_true_eq_false, not_false_eq_true, reduceCtorEq, eq_self, Option.toList_some, Option.toList_none, List.cons_append, List.nil_append, Bool.false_eq_true, e1, m0, h6, zx, nI_ofs, am_ft7, am_up_at, am_up_up, Nat.reduceLeDiff, beq_self_eq_true]
    · have hy := hy1 (by omega)
      subst hy
      obtain ⟨u, hu1, hu2⟩ := hu
      have huz : m_uz F2 hd = u := by unfold m_uz; rw [hu2]; exact nI_clamp (by omega)
      have e1 : ¬ nI l ≤ 0 := nI_nle (by omega) (by
        have := m_cn_le (m_lv F2 (nI tl)) n
        omega)
      have hcle := m_cn_le (m_lv F2 (nI tl)) n
      have em : (if (6 : Int32) ≤ nI l then (6 : Int32) else nI l) = nI (min l 6) := by
        by_cases g : 6 ≤ l
        · rw [if_pos (show (6 : Int32) ≤ nI l from nI_le (a := 6) g (by omega)), Nat.min_eq_right (by omega)]; rfl
        · rw [if_neg (show ¬ (6 : Int32) ≤ nI l from nI_ge (b := 6) (by omega) (by omega)), Nat.min_eq_left (by omega)]
      obtain ⟨h3, a1, a2, a3⟩ := mo_record (w := w2) (F := F2) d (hd := hd) (u := u) (v := min l 6) h7 (by omega) hu2 (by omega) (by omega) hW
      have a2' : vs_M z h3 x A (va_up w2 7 (nI (m_hd hd u (min l 6)))) (m_r1 F2 hd (min l 6)) := by
        unfold m_r1; rw [huz]; exact a2
      have hhd : hd ≤ m_hd hd u (min l 6) ∧ m_hd hd u (min l 6) ≤ hd + 1 := by unfold m_hd; split <;> omega
      have hlv : m_cn (m_lv (m_r1 F2 hd (min l 6)) (nI tl)) n = m_cn (m_lv F2 (nI tl)) n := rfl
      have hne : va_up w2 7 (nI (m_hd hd u (min l 6))) 7 ≠ va_up w2 7 (nI (m_hd hd u (min l 6))) 6 := by
        rw [va_up_self, va_up_ne _ _ (by decide), h6]
        intro g
        have := (nI_eq (by omega) (by omega)).mp g
        omega
      obtain ⟨h4, b1, b2, b3, b4⟩ := mo_collIn (w := va_up w2 7 (nI (m_hd hd u (min l 6)))) (x := x) (A := A) d (n := n) (a0 := m_us u (min l 6) + 1) (mm := min l 6) (cnt := cnt) (y := nI l) h1 hb (by omega) hne (zs 7 (by omega)) (zs 8 (by omega)) (min l 6) 0 h3 (m_r1 F2 hd (min l 6)) (by omega) (by
        have g6 : va_up w2 7 (nI (m_hd hd u (min l 6))) 6 = nI tl := h6
        rw [g6, hlv]; omega) a2'
      have g6 : va_up w2 7 (nI (m_hd hd u (min l 6))) 6 = nI tl := h6
      have g7 : va_up w2 7 (nI (m_hd hd u (min l 6))) 7 = nI (m_hd hd u (min l 6)) := va_up_self _ _ _
      rw [g6, g7] at b1 b3
      rw [hlv] at b3
      have hu' : ∃ u2, u2 ≤ 16 ∧ m_mv (nI tl) (nI (m_hd hd u (min l 6))) n (m_us u (min l 6) + 1) (min l 6) 0 (m_r1 F2 hd (min l 6)) 16 (m_hd hd u (min l 6) % 8) = nI u2 := by
        refine ⟨m_us u (min l 6) + 1 + min l 6, ?_, ?_⟩
        · unfold m_us; split <;> omega
        · rw [m_mv_ne _ _ _ _ (by decide) (by decide)]
          unfold m_r1
          rw [va_up_self, huz]
          simp [upd]
      have hsub : (l - 6 = 0 → nI l - 6 ≤ 0) ∧ (0 < l - 6 → nI l - 6 = nI (l - 6)) := by
        have e : nI l - 6 = nI l - nI 6 := rfl
        constructor
        · intro g
          rw [e]
          have hh : (nI l - nI 6).toInt = (l : Int) - 6 := pk_sub_toInt (by omega) (by omega)
          rw [Int32.le_iff_toInt_le, hh]
          have : (0 : Int32).toInt = 0 := by decide
          omega
        · intro g
          rw [e, pk_sub (by omega)]
      have e2 : m_co (nI tl) n (q + 1) l F2 hd = m_co (nI tl) n q (l - 6) (m_mv (nI tl) (nI (m_hd hd u (min l 6))) n (m_us u (min l 6) + 1) (min l 6) 0 (m_r1 F2 hd (min l 6))) (m_hd hd u (min l 6)) := by rw [m_co, if_neg hl0, huz]
      rw [e2]
      have rest := ih (l - 6) (m_hd hd u (min l 6)) _ h4 (va_up w2 7 (nI (m_hd hd u (min l 6)))) (nI l - 6) (by omega) (by omega) (by omega) h1 h6 g7 hu' (by omega) hsub.1 hsub.2 b1
      obtain ⟨h5, i1, i2, i3⟩ := rest
      rw [bx_uu] at i2
      refine ⟨h5, ?_, i2, by rw [i3, b2, a3]⟩
      intro v3 v4 v5 v6
      have k1 := b4 _ _ (fun v5 v6 => i1 _ _ v5 v6) v6
      rw [am_R_eq] at k1
      have z0 : nI 0 = 0 := rfl
      rw [z0] at k1
      by_cases g : (6 : Int32) ≤ nI l
      · rw [if_pos g] at em
        rw [← em] at a1 k1
        rw [am_R_eq, cxh_116_54]
        simp only [am_R_eq, cx_116, en_116, rt_116, rx_aload_n, rx_bipush, rx_dup_i, rx_dup_r, rx_getfield, ev_gf, rx_goto, rx_iadd, rx_iastore, ev_w1, ev_KW, rx_iconst, rx_icmp_ge, rx_icmp_le, rx_icmp_ne, rx_if_le, rx_iinc, ev_inc, rx_iload, rx_iload_n, rx_invv, ev_cv, rx_ireturn, rx_istore, rx_istore_n, rx_isub, rx_putfield, ev_pf, am_fok, am_ftv, kl_101, kl_112, kl_117, kl_119, kl_120, ev_K, ev_pI, ev_pR, ev_pVi, ev_pVr, ev_sI, ev_sR, ev_KC, ev_k, ev_ko, ev_pop0, ev_pops, am_ld, am_sv, am_at, am_st, am_g, List.length_cons, List.length_nil, Nat.reduceAdd, Nat.reduceLT, Nat.zero_add, if_true, if_false, and_self, true_or, or_true, true_and, and_true, not_true_eq_false, not_false_eq_true, reduceCtorEq, eq_self, Option.toList_some, Option.toList_none, List.cons_append, List.nil_append, Bool.false_eq_true, e1, g, m0]
        refine am_CL_of a1 ?_
        simp only [am_R_eq, cx_116, en_116, rt_116, rx_aload_n, rx_bipush, rx_dup_i, rx_dup_r, rx_getfield, ev_gf, rx_goto, rx_iadd, rx_iastore, ev_w1, ev_KW, rx_iconst, rx_icmp_ge, rx_icmp_le, rx_icmp_ne, rx_if_le, rx_iinc, ev_inc, rx_iload, rx_iload_n, rx_invv, ev_cv, rx_ireturn, rx_istore, rx_istore_n, rx_isub, rx_putfield, ev_pf, am_fok, am_ftv, kl_101, kl_112, kl_117, kl_119, kl_120, ev_K, ev_pI, ev_pR, ev_pVi, ev_pVr, ev_sI, ev_sR, ev_KC, ev_k, ev_ko, ev_pop0, ev_pops, am_ld, am_sv, am_at, am_st, am_g, List.length_cons, List.length_nil, Nat.reduceAdd, Nat.reduceLT, Nat.zero_add, if_true, if_false, and_self, true_or, or_true, true_and, and_true, not_true_eq_false, not_false_eq_true, reduceCtorEq, eq_self, Option.toList_some, Option.toList_none, List.cons_append, List.nil_append, Bool.false_eq_true]
        exact k1
      · rw [if_neg g] at em
        rw [← em] at a1 k1
        rw [am_R_eq, cxh_116_54]
        simp only [am_R_eq, cx_116, en_116, rt_116, rx_aload_n, rx_bipush, rx_dup_i, rx_dup_r, rx_getfield, ev_gf, rx_goto, rx_iadd, rx_iastore, ev_w1, ev_KW, rx_iconst, rx_icmp_ge, rx_icmp_le, rx_icmp_ne, rx_if_le, rx_iinc, ev_inc, rx_iload, rx_iload_n, rx_invv, ev_cv, rx_ireturn, rx_istore, rx_istore_n, rx_isub, rx_putfield, ev_pf, am_fok, am_ftv, kl_101, kl_112, kl_117, kl_119, kl_120, ev_K, ev_pI, ev_pR, ev_pVi, ev_pVr, ev_sI, ev_sR, ev_KC, ev_k, ev_ko, ev_pop0, ev_pops, am_ld, am_sv, am_at, am_st, am_g, List.length_cons, List.length_nil, Nat.reduceAdd, Nat.reduceLT, Nat.zero_add, if_true, if_false, and_self, true_or, or_true, true_and, and_true, not_true_eq_false, not_false_eq_true, reduceCtorEq, eq_self, Option.toList_some, Option.toList_none, List.cons_append, List.nil_append, Bool.false_eq_true, e1, g, m0]
        refine am_CL_of a1 ?_
        simp only [am_R_eq, cx_116, en_116, rt_116, rx_aload_n, rx_bipush, rx_dup_i, rx_dup_r, rx_getfield, ev_gf, rx_goto, rx_iadd, rx_iastore, ev_w1, ev_KW, rx_iconst, rx_icmp_ge, rx_icmp_le, rx_icmp_ne, rx_if_le, rx_iinc, ev_inc, rx_iload, rx_iload_n, rx_invv, ev_cv, rx_ireturn, rx_istore, rx_istore_n, rx_isub, rx_putfield, ev_pf, am_fok, am_ftv, kl_101, kl_112, kl_117, kl_119, kl_120, ev_K, ev_pI, ev_pR, ev_pVi, ev_pVr, ev_sI, ev_sR, ev_KC, ev_k, ev_ko, ev_pop0, ev_pops, am_ld, am_sv, am_at, am_st, am_g, List.length_cons, List.length_nil, Nat.reduceAdd, Nat.reduceLT, Nat.zero_add, if_true, if_false, and_self, true_or, or_true, true_and, and_true, not_true_eq_false, not_false_eq_true, reduceCtorEq, eq_self, Option.toList_some, Option.toList_none, List.cons_append, List.nil_append, Bool.false_eq_true]
        exact k1
end NC
