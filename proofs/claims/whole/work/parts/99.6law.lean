section LWL
theorem am_run_sh {z : Nat} {C C' : am_T} {s : Nat × Nat} (hC : ∀ x av h v h1, C x av h v h1 → h1.2.1 = h.2.1 → C' x av (h.1, s) v (h1.1, s)) (hm : ∀ x av h v h1, C x av h v h1 → h.2.1 ≤ h1.2.1 ∧ h.2.2 ≤ h1.2.2) {j : Nat} : ∀ (n pc : Nat) (lo : am_L) (st : List Value) (h : am_H) (r : Option Value) (h' : am_H), am_run z C j n pc lo st h r h' → h'.2.1 = h.2.1 → am_run z C' j n pc lo st (h.1, s) r (h'.1, s) := by
  intro n
  induction n with
  | zero => intro pc lo st h r h' hn; exact hn.elim
  | succ n ih =>
    intro pc lo st h r h' hn heq
    unfold am_run at hn ⊢
    cases hcd : am_cd j pc with
    | none => rw [hcd] at hn; exact hn.elim
    | some q =>
      obtain ⟨i, l, x, y, c, ts⟩ := q
      rw [hcd] at hn
      dsimp only at hn ⊢
      cases hrt : am_rt (am_ret j) i st with
      | some v =>
        rw [hrt] at hn
        obtain ⟨h1, h2⟩ := hn
        exact ⟨h1, by rw [h2]⟩
      | none =>
        rw [hrt] at hn
        dsimp only at hn ⊢
        have eca : am_ca i x y st (h.1, s) = am_ca i x y st h := rfl
        rw [eca]
        cases hca : am_ca i x y st h with
        | some q =>
          obtain ⟨av, st'⟩ := q
          rw [hca] at hn
          obtain ⟨v, h1, a, b⟩ := hn
          have q1 := hm _ _ _ _ _ a
          have q2 := am_run_mono hm n _ _ _ _ _ _ b
          exact ⟨v, (h1.1, s), hC _ _ _ _ _ a (by omega), ih _ _ _ _ _ _ b (by omega)⟩
        | none =>
          rw [hca] at hn
          dsimp only at hn ⊢
          have ew : am_w z i x y st (h.1, s) = am_w z i x y st h := rfl
          rw [ew]
          cases hw : am_w z i x y st h with
          | some q =>
            obtain ⟨st', a, e⟩ := q
            rw [hw] at hn
            exact ih _ _ _ (am_up h a e) _ _ hn heq
          | none =>
            rw [hw] at hn
            dsimp only at hn ⊢
            cases hnw : am_n i x y st with
            | some q =>
              obtain ⟨st', e, k⟩ := q
              rw [hnw] at hn
              exfalso
              have q2 := am_run_mono hm n _ _ _ _ _ _ hn
              rw [am_nw_2] at q2
              dsimp only at q2
              omega
            | none =>
              rw [hnw] at hn
              dsimp only at hn ⊢
              have es : am_s i x y c ts (pc + l) lo st (h.1, s) = am_s i x y c ts (pc + l) lo st h := rfl
              rw [es]
              cases hs : am_s i x y c ts (pc + l) lo st h with
              | some q =>
                rw [hs] at hn
                exact ih _ _ _ _ _ _ hn heq
              | none =>
                rw [hs] at hn
                exact hn.elim
theorem am_M_sh {z : Nat} (s : Nat × Nat) : ∀ (d x : Nat) (av : List Value) (h : am_H) (v : Option Value) (h1 : am_H), am_M z d x av h v h1 → h1.2.1 = h.2.1 → am_M z d x av (h.1, s) v (h1.1, s) := by
  intro d
  induction d with
  | zero => intro x av h v h1 hm; exact hm.elim
  | succ d ih =>
    intro x av h v h1 hm heq
    obtain ⟨n, hn⟩ := hm
    exact ⟨n, am_run_sh (fun x av h v h1 a b => ih x av h v h1 a b) (am_M_mono d) n _ _ _ _ _ _ hn heq⟩
theorem lw_cm {hv hm : am_H} (h : ∀ a, hv.1 a ≠ none → hm.1 a = none) : am_jn hv hm.1 = am_jn (hm.1, hv.2) hv.1 := by
  refine Prod.ext ?_ rfl
  funext a
  cases hva : hv.1 a with
  | some e =>
    rw [am_jn_some hva]
    have h1 : hm.1 a = none := h a (by rw [hva]; exact fun q => by cases q)
    have h2 : ((hm.1, hv.2) : am_H).1 a = none := h1
    rw [am_jn_none h2, hva]
  | none =>
    rw [am_jn_none hva]
    cases hma : hm.1 a with
    | some e =>
      have h2 : ((hm.1, hv.2) : am_H).1 a = some e := hma
      rw [am_jn_some h2]
    | none =>
      have h2 : ((hm.1, hv.2) : am_H).1 a = none := hma
      rw [am_jn_none h2, hva]
def lw_I (z st xv xm b c0 s0 : Nat) (hv hm : am_H) : Prop := k_J z st xv xm hv hm ∧ hm.2 = hv.2 ∧ (∀ a, hv.1 a ≠ none → hm.1 a = none) ∧ hv.1 b = none ∧ hm.1 b = none ∧ b < hv.2.1 ∧ hv.2.1 ≤ c0 + st ∧ hv.2.2 ≤ s0 + 8 * st
theorem k_J_fr {z st xv xm : Nat} {hv hm : am_H} (h : k_J z st xv xm hv hm) : am_fr hv ∧ am_fr hm ∧ am_ko (hv.1 xv) = some 0 ∧ am_ko (hm.1 xm) = some 7 := by
  obtain ⟨ad, tt, rr, aa, R, C, fl, c, tk, cb, tb, sb, g, S, En, E, v, A, w, F, p, n, r, last, t, nw, M, T0, L1, L2, hx, hV, hM, hK⟩ := h
  subst hx
  refine ⟨hV.2.2.2.2.2.2.2.2, hM.fr, ?_, ?_⟩
  · rw [hV.1]; rfl
  · rw [hM.ob]; rfl
theorem k_J_hm {z st xv xm : Nat} {hv hm : am_H} (h : k_J z st xv xm hv hm) {s : Nat × Nat} (hs : hm.2.1 ≤ s.1) : k_J z st xv xm hv (hm.1, s) := by
  obtain ⟨ad, tt, rr, aa, R, C, fl, c, tk, cb, tb, sb, g, S, En, E, v, A, w, F, p, n, r, last, t, nw, M, T0, L1, L2, hx, hV, hM, hK⟩ := h
  exact ⟨ad, tt, rr, aa, R, C, fl, c, tk, cb, tb, sb, g, S, En, E, v, A, w, F, p, n, r, last, t, nw, M, T0, L1, L2, hx, hV, ⟨hM.1, hM.2.1, hM.2.2.1, hM.2.2.2.1, hM.2.2.2.2.1, fun a e he => Nat.lt_of_lt_of_le (hM.2.2.2.2.2 a e he) hs⟩, hK⟩
theorem k_J_st {z st xv xm : Nat} {hv hm : am_H} (h : k_J z st xv xm hv hm) (hs : st < 512) : k_J z (st + 1) xv xm hv hm := by
  obtain ⟨ad, tt, rr, aa, R, C, fl, c, tk, cb, tb, sb, g, S, En, E, v, A, w, F, p, n, r, last, t, nw, M, T0, L1, L2, hx, hV, hM, hP, hI, hD, hVV, hS, hG, hW, hN⟩ := h
  exact ⟨ad, tt, rr, aa, R, C, fl, c, tk, cb, tb, sb, g, S, En, E, v, A, w, F, p, n, r, last, t, nw, M, T0, L1, L2, hx, hV, hM, hP, hI, hD, hVV, hS, hG, hW, k_N_up hN hs⟩
theorem lw_step {z st xv xm b c0 s0 jv jm L : Nat} {xs : Nat → Int32} {hv hm : am_H} {av : List Value} (hI : lw_I z st xv xm b c0 s0 hv hm) (hO : k_O z st xv xm hv hm jv jm av) :
    ∃ r h1 hv' hm', am_Cx z 7 b L xs jv (.ref xv :: av) (am_jn (am_jn hv hm.1) (am_sc b L xs)) (some (.int r)) h1 ∧ am_Cx z 7 b L xs jm (.ref xm :: av) h1 (some (.int r)) (am_jn (am_jn hv' hm'.1) (am_sc b L xs)) ∧ lw_I z (st + 1) xv xm b c0 s0 hv' hm' ∧ am_ko (h1.1 xm) = some 7 ∧ h1.1 b = some (.inl (0, L, .inl xs)) := by
  obtain ⟨hJ, i1, i2, i3, i4, i5, i6, i7⟩ := hI
  obtain ⟨r, hv', hm', a1, b1, j1, x1, x2⟩ := hO
  obtain ⟨f1, f2, f3, f4⟩ := k_J_fr hJ
  obtain ⟨g1, g2, g3, g4⟩ := k_J_fr j1
  have d1 := am_M_dm 7 _ _ _ _ _ a1
  have d2 := am_M_dm 7 _ _ _ _ _ b1
  have hle : hv.2.1 ≤ hv'.2.1 := d1.1
  have hvb : hv'.1 b = none := d1.2 b i3 i5
  have hmb : hm'.1 b = none := d2.2 b i4 (by rw [i1]; exact i5)
  have dj1 : ∀ a, hv'.1 a ≠ none → hm.1 a = none := by
    intro a ha
    by_cases h1 : hv.1 a = none
    · by_cases h2 : a < hv.2.1
      · exact absurd (d1.2 a h1 h2) ha
      · cases h3 : hm.1 a with
        | none => rfl
        | some e => have := f2 a e h3; rw [i1] at this; omega
    · exact i2 a h1
  have dj2 : ∀ a, hv'.1 a ≠ none → hm'.1 a = none := by
    intro a ha
    have h1 := dj1 a ha
    have h2 : a < hv'.2.1 := by
      cases h3 : hv'.1 a with
      | none => exact absurd h3 ha
      | some e => exact g1 a e h3
    by_cases h4 : a < hm.2.1
    · exact d2.2 a h1 h4
    · cases h3 : hm'.1 a with
      | none => rfl
      | some e => have := g2 a e h3; rw [x2] at this; omega
  have q1 := am_M_jn (G := hm.1) 7 _ _ _ _ _ a1
  have q2 := am_M_sh hv'.2 7 _ _ _ _ _ b1 (by rw [x2])
  have q3 := am_M_jn (G := hv'.1) 7 _ _ _ _ _ q2
  rw [← lw_cm dj1] at q3
  have e2 : am_jn (hm'.1, hv'.2) hv'.1 = am_jn hv' hm'.1 := (lw_cm dj2).symm
  rw [e2] at q3
  have nb : ∀ (u w : am_H), u.1 b = none → w.1 b = none → (am_jn u w.1).1 b = none := fun u w h1 h2 => by rw [am_jn_none h1]; exact h2
  refine ⟨r, am_jn (am_jn hv' hm.1) (am_sc b L xs), hv', (hm'.1, hv'.2), am_Cx_of (nb hv hm i3 i4) (nb hv' hm hvb i4) q1, am_Cx_of (nb hv' hm hvb i4) (nb hv' hm' hvb hmb) q3, ⟨k_J_hm j1 (by rw [x2, i1]; exact hle), rfl, dj2, hvb, hmb, by omega, ?_, ?_⟩, ?_, am_sc_b (nb hv' hm hvb i4)⟩
  · rcases x1 with h | h
    · rw [h]; omega
    · rw [h]; show hv.2.1 + 1 ≤ _; omega
  · rcases x1 with h | h
    · rw [h]; omega
    · rw [h]; show hv.2.2 + 8 ≤ _; omega
  · cases h3 : hm.1 xm with
    | none => rw [h3] at f4; cases f4
    | some e =>
      have h5 : hv'.1 xm = none := by
        cases h6 : hv'.1 xm with
        | none => rfl
        | some e' => have := dj1 xm (by rw [h6]; exact fun q => by cases q); rw [h3] at this; cases this
      have h7 : (am_jn hv' hm.1).1 xm = some e := by rw [am_jn_none h5]; exact h3
      rw [am_jn_some h7, ← h3]
      exact f4
theorem lw_cmp {L k : Nat} (hL : L ≤ 2048) (hk : k ≤ 4096) : nI L - 4 < nI k ↔ L < k + 4 := by
  rw [Int32.lt_iff_toInt_lt, Int32.toInt_sub, nI_toInt (by omega), nI_toInt (by omega)]
  have e4 : (4 : Int32).toInt = 4 := by decide
  rw [e4, Int.bmod_def]
  omega
theorem lw_and (x : Int32) : ∃ k, k < 32 ∧ x &&& 31 = nI k := by
  refine ⟨(x &&& 31).toBitVec.toNat, ?_, ?_⟩
  · rw [Int32.toBitVec_and, BitVec.toNat_and]
    have : (31 : Int32).toBitVec.toNat = 31 := by decide
    rw [this]
    exact Nat.lt_of_le_of_lt Nat.and_le_right (by omega)
  · rw [← Int32.toBitVec_inj]
    show (x &&& 31).toBitVec = BitVec.ofNat 32 _
    rw [BitVec.ofNat_toNat, BitVec.setWidth_eq]
theorem lw_loop {z xv xm b c0 s0 L : Nat} {xs : Nat → Int32} (hL : L ≤ 2048) : ∀ m st hv hm, L ≤ 4 * (st + m) + 3 → 4 * st ≤ 2052 → lw_I z st xv xm b c0 s0 hv hm →
    ∃ h', bm_R (am_Cx z 7 b L xs) z 143 18 [some (.ref b), some (.ref xv), some (.ref xm), some (.int (nI (4 * st)))] [] (am_jn (am_jn hv hm.1) (am_sc b L xs)) (some (.int 1)) h' ∧ h'.2.1 ≤ c0 + 513 ∧ h'.2.2 ≤ s0 + 8 * 513 := by
  intro m
  induction m with
  | zero =>
    intro st hv hm hLm hst hI
    obtain ⟨hJ, i1, i2, i3, i4, i5, i6, i7⟩ := hI
    have hb : (am_jn (am_jn hv hm.1) (am_sc b L xs)).1 b = some (.inl (0, L, .inl xs)) := am_sc_b (by rw [am_jn_none i3]; exact i4)
    have e1 : nI L - 4 < nI (4 * st) := (lw_cmp hL (by omega)).mpr (by omega)
    refine ⟨am_jn (am_jn hv hm.1) (am_sc b L xs), ?_, by show hv.2.1 ≤ _; omega, by show hv.2.2 ≤ _; omega⟩
    rw [bm_R_eq, cxh_143_18]
    simp only [bm_R_eq, cx_143, en_143, rt_143, ry_aload_n, ry_arraylength, ev_ln, ev_pN, ry_astore_n, ry_bipush, ry_dup_i, ry_dup_r, ry_goto, ry_iadd, ry_iaload, ry_iand, ry_iconst, ry_icmp_eq, ry_icmp_gt, ry_iinc, ev_inc, ry_iload_n, ry_invi, ev_cs, ry_invv, ev_cv, ry_ireturn, ry_istore_n, ry_isub, ry_new, ry_tableswitch, kl_0, kl_9, kl_14, kl_15, kl_42, kl_43, kl_44, kl_46, kl_56, kl_58, kl_61, kl_62, kl_69, kl_80, kl_81, kl_82, kl_83, kl_86, kl_91, kl_93, kl_94, kl_97, kl_98, kl_113, kl_114, kl_115, kl_116, kl_121, kl_122, kl_123, kl_124, kl_125, kl_136, kl_137, kl_139, kl_140, kl_141, kl_142, ew_K, ev_pI, ev_pR, ev_pVi, ev_pVr, ev_sI, ev_sR, ew_KC, ev_k, ev_ko, ev_pop0, ev_pops, am_ld, am_sv, am_at, am_st, am_g, List.length_cons, List.length_nil, Nat.reduceAdd, Nat.reduceLT, Nat.zero_add, if_true, if_false, and_self, true_or, or_true, true_and, and_true, not_true_eq_false, not_false_eq_true, reduceCtorEq, eq_self, Option.toList_some, Option.toList_none, List.cons_append, List.nil_append, Bool.false_eq_true, hb, e1, b11]
  | succ m ih =>
    intro st hv hm hLm hst hI
    obtain ⟨hJ, i1, i2, i3, i4, i5, i6, i7⟩ := id hI
    have hb : (am_jn (am_jn hv hm.1) (am_sc b L xs)).1 b = some (.inl (0, L, .inl xs)) := am_sc_b (by rw [am_jn_none i3]; exact i4)
    by_cases hend : L < 4 * st + 4
    · have e1 : nI L - 4 < nI (4 * st) := (lw_cmp hL (by omega)).mpr hend
      refine ⟨am_jn (am_jn hv hm.1) (am_sc b L xs), ?_, by show hv.2.1 ≤ _; omega, by show hv.2.2 ≤ _; omega⟩
      rw [bm_R_eq, cxh_143_18]
      simp only [bm_R_eq, cx_143, en_143, rt_143, ry_aload_n, ry_arraylength, ev_ln, ev_pN, ry_astore_n, ry_bipush, ry_dup_i, ry_dup_r, ry_goto, ry_iadd, ry_iaload, ry_iand, ry_iconst, ry_icmp_eq, ry_icmp_gt, ry_iinc, ev_inc, ry_iload_n, ry_invi, ev_cs, ry_invv, ev_cv, ry_ireturn, ry_istore_n, ry_isub, ry_new, ry_tableswitch, kl_0, kl_9, kl_14, kl_15, kl_42, kl_43, kl_44, kl_46, kl_56, kl_58, kl_61, kl_62, kl_69, kl_80, kl_81, kl_82, kl_83, kl_86, kl_91, kl_93, kl_94, kl_97, kl_98, kl_113, kl_114, kl_115, kl_116, kl_121, kl_122, kl_123, kl_124, kl_125, kl_136, kl_137, kl_139, kl_140, kl_141, kl_142, ew_K, ev_pI, ev_pR, ev_pVi, ev_pVr, ev_sI, ev_sR, ew_KC, ev_k, ev_ko, ev_pop0, ev_pops, am_ld, am_sv, am_at, am_st, am_g, List.length_cons, List.length_nil, Nat.reduceAdd, Nat.reduceLT, Nat.zero_add, if_true, if_false, and_self, true_or, or_true, true_and, and_true, not_true_eq_false, not_false_eq_true, reduceCtorEq, eq_self, Option.toList_some, Option.toList_none, List.cons_append, List.nil_append, Bool.false_eq_true, hb, e1, b11]
    · have e1 : ¬ nI L - 4 < nI (4 * st) := fun q => hend ((lw_cmp hL (by omega)).mp q)
      have hs : st < 512 := by omega
      have ix0 := m_ri (n := L) (k := 4 * st) (by omega) (by omega)
      have ix1 := m_ri (n := L) (k := 4 * st + 1) (by omega) (by omega)
      have ix2 := m_ri (n := L) (k := 4 * st + 2) (by omega) (by omega)
      have ix3 := m_ri (n := L) (k := 4 * st + 3) (by omega) (by omega)
      have a1 : nI (4 * st) + 1 = nI (4 * st + 1) := nI_ofs _
      have a2 : nI (4 * st) + 2 = nI (4 * st + 2) := nI_add (4 * st) 2
      have a3 : nI (4 * st) + 3 = nI (4 * st + 3) := nI_add (4 * st) 3
      have a4 : nI (4 * st) + 4 = nI (4 * (st + 1)) := nI_add (4 * st) 4
      obtain ⟨f1, f2, f3, f4⟩ := k_J_fr hJ
      have hkv : am_ko ((am_jn (am_jn hv hm.1) (am_sc b L xs)).1 xv) = some 0 := am_ko_jn (am_ko_jn f3)
      obtain ⟨k, hk, hq⟩ := lw_and (xs (4 * st))
      by_cases hk18 : 18 ≤ k
      · obtain ⟨h', p1, p2, p3⟩ := ih (st + 1) hv hm (by omega) (by omega) ⟨k_J_st hJ hs, i1, i2, i3, i4, i5, by omega, by omega⟩
        refine ⟨h', ?_, p2, p3⟩
        have c1 := sw_n k (by omega)
        have c2 := sw_c k (by omega)
        rw [bm_R_eq] at p1
        rw [bm_R_eq, cxh_143_18]
        simp only [bm_R_eq, cx_143, en_143, rt_143, ry_aload_n, ry_arraylength, ev_ln, ev_pN, ry_astore_n, ry_bipush, ry_dup_i, ry_dup_r, ry_goto, ry_iadd, ry_iaload, ry_iand, ry_iconst, ry_icmp_eq, ry_icmp_gt, ry_iinc, ev_inc, ry_iload_n, ry_invi, ev_cs, ry_invv, ev_cv, ry_ireturn, ry_istore_n, ry_isub, ry_new, ry_tableswitch, kl_0, kl_9, kl_14, kl_15, kl_42, kl_43, kl_44, kl_46, kl_56, kl_58, kl_61, kl_62, kl_69, kl_80, kl_81, kl_82, kl_83, kl_86, kl_91, kl_93, kl_94, kl_97, kl_98, kl_113, kl_114, kl_115, kl_116, kl_121, kl_122, kl_123, kl_124, kl_125, kl_136, kl_137, kl_139, kl_140, kl_141, kl_142, ew_K, ev_pI, ev_pR, ev_pVi, ev_pVr, ev_sI, ev_sR, ew_KC, ev_k, ev_ko, ev_pop0, ev_pops, am_ld, am_sv, am_at, am_st, am_g, List.length_cons, List.length_nil, Nat.reduceAdd, Nat.reduceLT, Nat.zero_add, if_true, if_false, and_self, true_or, or_true, true_and, and_true, not_true_eq_false, not_false_eq_true, reduceCtorEq, eq_self, Option.toList_some, Option.toList_none, List.cons_append, List.nil_append, Bool.false_eq_true, hb, e1, ix0, hq, c1, c2, hk18, am_tn, a4]
        exact p1
      · have hc : k = 0 ∨ k = 1 ∨ k = 2 ∨ k = 3 ∨ k = 4 ∨ k = 5 ∨ k = 6 ∨ k = 7 ∨ k = 8 ∨ k = 9 ∨ k = 10 ∨ k = 11 ∨ k = 12 ∨ k = 13 ∨ k = 14 ∨ k = 15 ∨ k = 16 ∨ k = 17 := by omega
        rcases hc with h | h | h | h | h | h | h | h | h | h | h | h | h | h | h | h | h | h
        · subst h
          obtain ⟨r, h1, hv', hm', q1, q2, q3, q4, q5⟩ := lw_step (L := L) (xs := xs) hI (jo_put hJ hs (xs (4 * st + 1)) (xs (4 * st + 2)) (xs (4 * st + 3)))
          obtain ⟨h', p1, p2, p3⟩ := ih (st + 1) hv' hm' (by omega) (by omega) q3
          refine ⟨h', ?_, p2, p3⟩
          have c1 := sw_n 0 (by omega)
          have c2 := sw_c 0 (by omega)
          rw [bm_R_eq] at p1
          rw [bm_R_eq, cxh_143_18]
          simp only [bm_R_eq, cx_143, en_143, rt_143, ry_aload_n, ry_arraylength, ev_ln, ev_pN, ry_astore_n, ry_bipush, ry_dup_i, ry_dup_r, ry_goto, ry_iadd, ry_iaload, ry_iand, ry_iconst, ry_icmp_eq, ry_icmp_gt, ry_iinc, ev_inc, ry_iload_n, ry_invi, ev_cs, ry_invv, ev_cv, ry_ireturn, ry_istore_n, ry_isub, ry_new, ry_tableswitch, kl_0, kl_9, kl_14, kl_15, kl_42, kl_43, kl_44, kl_46, kl_56, kl_58, kl_61, kl_62, kl_69, kl_80, kl_81, kl_82, kl_83, kl_86, kl_91, kl_93, kl_94, kl_97, kl_98, kl_113, kl_114, kl_115, kl_116, kl_121, kl_122, kl_123, kl_124, kl_125, kl_136, kl_137, kl_139, kl_140, kl_141, kl_142, ew_K, ev_pI, ev_pR, ev_pVi, ev_pVr, ev_sI, ev_sR, ew_KC, ev_k, ev_ko, ev_pop0, ev_pops, am_ld, am_sv, am_at, am_st, am_g, List.length_cons, List.length_nil, Nat.reduceAdd, Nat.reduceLT, Nat.zero_add, if_true, if_false, and_self, true_or, or_true, true_and, and_true, not_true_eq_false, not_false_eq_true, reduceCtorEq, eq_self, Option.toList_some, Option.toList_none, List.cons_append, List.nil_append, Bool.false_eq_true, hb, e1, ix0, hq, c1, c2, am_tn, ix1, a1, ix2, a2, ix3, a3, hkv, Nat.reduceLeDiff, or_self]
          refine bm_CL_of q1 ?_
          simp only [bm_R_eq, cx_143, en_143, rt_143, ry_aload_n, ry_arraylength, ev_ln, ev_pN, ry_astore_n, ry_bipush, ry_dup_i, ry_dup_r, ry_goto, ry_iadd, ry_iaload, ry_iand, ry_iconst, ry_icmp_eq, ry_icmp_gt, ry_iinc, ev_inc, ry_iload_n, ry_invi, ev_cs, ry_invv, ev_cv, ry_ireturn, ry_istore_n, ry_isub, ry_new, ry_tableswitch, kl_0, kl_9, kl_14, kl_15, kl_42, kl_43, kl_44, kl_46, kl_56, kl_58, kl_61, kl_62, kl_69, kl_80, kl_81, kl_82, kl_83, kl_86, kl_91, kl_93, kl_94, kl_97, kl_98, kl_113, kl_114, kl_115, kl_116, kl_121, kl_122, kl_123, kl_124, kl_125, kl_136, kl_137, kl_139, kl_140, kl_141, kl_142, ew_K, ev_pI, ev_pR, ev_pVi, ev_pVr, ev_sI, ev_sR, ew_KC, ev_k, ev_ko, ev_pop0, ev_pops, am_ld, am_sv, am_at, am_st, am_g, List.length_cons, List.length_nil, Nat.reduceAdd, Nat.reduceLT, Nat.zero_add, if_true, if_false, and_self, true_or, or_true, true_and, and_true, not_true_eq_false, not_false_eq_true, reduceCtorEq, eq_self, Option.toList_some, Option.toList_none, List.cons_append, List.nil_append, Bool.false_eq_true, q4, q5, ix1, a1, ix2, a2, ix3, a3, Nat.reduceLeDiff]
          refine bm_CL_of q2 ?_
          simp only [bm_R_eq, cx_143, en_143, rt_143, ry_aload_n, ry_arraylength, ev_ln, ev_pN, ry_astore_n, ry_bipush, ry_dup_i, ry_dup_r, ry_goto, ry_iadd, ry_iaload, ry_iand, ry_iconst, ry_icmp_eq, ry_icmp_gt, ry_iinc, ev_inc, ry_iload_n, ry_invi, ev_cs, ry_invv, ev_cv, ry_ireturn, ry_istore_n, ry_isub, ry_new, ry_tableswitch, kl_0, kl_9, kl_14, kl_15, kl_42, kl_43, kl_44, kl_46, kl_56, kl_58, kl_61, kl_62, kl_69, kl_80, kl_81, kl_82, kl_83, kl_86, kl_91, kl_93, kl_94, kl_97, kl_98, kl_113, kl_114, kl_115, kl_116, kl_121, kl_122, kl_123, kl_124, kl_125, kl_136, kl_137, kl_139, kl_140, kl_141, kl_142, ew_K, ev_pI, ev_pR, ev_pVi, ev_pVr, ev_sI, ev_sR, ew_KC, ev_k, ev_ko, ev_pop0, ev_pops, am_ld, am_sv, am_at, am_st, am_g, List.length_cons, List.length_nil, Nat.reduceAdd, Nat.reduceLT, Nat.zero_add, if_true, if_false, and_self, true_or, or_true, true_and, and_true, not_true_eq_false, not_false_eq_true, reduceCtorEq, eq_self, Option.toList_some, Option.toList_none, List.cons_append, List.nil_append, Bool.false_eq_true, a4]
          exact p1
        · subst h
          obtain ⟨r, h1, hv', hm', q1, q2, q3, q4, q5⟩ := lw_step (L := L) (xs := xs) hI (jo_delete hJ hs (xs (4 * st + 1)))
          obtain ⟨h', p1, p2, p3⟩ := ih (st + 1) hv' hm' (by omega) (by omega) q3
          refine ⟨h', ?_, p2, p3⟩
          have c1 := sw_n 1 (by omega)
          have c2 := sw_c 1 (by omega)
          rw [bm_R_eq] at p1
          rw [bm_R_eq, cxh_143_18]
          simp only [bm_R_eq, cx_143, en_143, rt_143, ry_aload_n, ry_arraylength, ev_ln, ev_pN, ry_astore_n, ry_bipush, ry_dup_i, ry_dup_r, ry_goto, ry_iadd, ry_iaload, ry_iand, ry_iconst, ry_icmp_eq, ry_icmp_gt, ry_iinc, ev_inc, ry_iload_n, ry_invi, ev_cs, ry_invv, ev_cv, ry_ireturn, ry_istore_n, ry_isub, ry_new, ry_tableswitch, kl_0, kl_9, kl_14, kl_15, kl_42, kl_43, kl_44, kl_46, kl_56, kl_58, kl_61, kl_62, kl_69, kl_80, kl_81, kl_82, kl_83, kl_86, kl_91, kl_93, kl_94, kl_97, kl_98, kl_113, kl_114, kl_115, kl_116, kl_121, kl_122, kl_123, kl_124, kl_125, kl_136, kl_137, kl_139, kl_140, kl_141, kl_142, ew_K, ev_pI, ev_pR, ev_pVi, ev_pVr, ev_sI, ev_sR, ew_KC, ev_k, ev_ko, ev_pop0, ev_pops, am_ld, am_sv, am_at, am_st, am_g, List.length_cons, List.length_nil, Nat.reduceAdd, Nat.reduceLT, Nat.zero_add, if_true, if_false, and_self, true_or, or_true, true_and, and_true, not_true_eq_false, not_false_eq_true, reduceCtorEq, eq_self, Option.toList_some, Option.toList_none, List.cons_append, List.nil_append, Bool.false_eq_true, hb, e1, ix0, hq, c1, c2, am_tn, ix1, a1, hkv, Nat.reduceLeDiff, or_self]
          refine bm_CL_of q1 ?_
          simp only [bm_R_eq, cx_143, en_143, rt_143, ry_aload_n, ry_arraylength, ev_ln, ev_pN, ry_astore_n, ry_bipush, ry_dup_i, ry_dup_r, ry_goto, ry_iadd, ry_iaload, ry_iand, ry_iconst, ry_icmp_eq, ry_icmp_gt, ry_iinc, ev_inc, ry_iload_n, ry_invi, ev_cs, ry_invv, ev_cv, ry_ireturn, ry_istore_n, ry_isub, ry_new, ry_tableswitch, kl_0, kl_9, kl_14, kl_15, kl_42, kl_43, kl_44, kl_46, kl_56, kl_58, kl_61, kl_62, kl_69, kl_80, kl_81, kl_82, kl_83, kl_86, kl_91, kl_93, kl_94, kl_97, kl_98, kl_113, kl_114, kl_115, kl_116, kl_121, kl_122, kl_123, kl_124, kl_125, kl_136, kl_137, kl_139, kl_140, kl_141, kl_142, ew_K, ev_pI, ev_pR, ev_pVi, ev_pVr, ev_sI, ev_sR, ew_KC, ev_k, ev_ko, ev_pop0, ev_pops, am_ld, am_sv, am_at, am_st, am_g, List.length_cons, List.length_nil, Nat.reduceAdd, Nat.reduceLT, Nat.zero_add, if_true, if_false, and_self, true_or, or_true, true_and, and_true, not_true_eq_false, not_false_eq_true, reduceCtorEq, eq_self, Option.toList_some, Option.toList_none, List.cons_append, List.nil_append, Bool.false_eq_true, q4, q5, ix1, a1, Nat.reduceLeDiff]
          refine bm_CL_of q2 ?_
          simp only [bm_R_eq, cx_143, en_143, rt_143, ry_aload_n, ry_arraylength, ev_ln, ev_pN, ry_astore_n, ry_bipush, ry_dup_i, ry_dup_r, ry_goto, ry_iadd, ry_iaload, ry_iand, ry_iconst, ry_icmp_eq, ry_icmp_gt, ry_iinc, ev_inc, ry_iload_n, ry_invi, ev_cs, ry_invv, ev_cv, ry_ireturn, ry_istore_n, ry_isub, ry_new, ry_tableswitch, kl_0, kl_9, kl_14, kl_15, kl_42, kl_43, kl_44, kl_46, kl_56, kl_58, kl_61, kl_62, kl_69, kl_80, kl_81, kl_82, kl_83, kl_86, kl_91, kl_93, kl_94, kl_97, kl_98, kl_113, kl_114, kl_115, kl_116, kl_121, kl_122, kl_123, kl_124, kl_125, kl_136, kl_137, kl_139, kl_140, kl_141, kl_142, ew_K, ev_pI, ev_pR, ev_pVi, ev_pVr, ev_sI, ev_sR, ew_KC, ev_k, ev_ko, ev_pop0, ev_pops, am_ld, am_sv, am_at, am_st, am_g, List.length_cons, List.length_nil, Nat.reduceAdd, Nat.reduceLT, Nat.zero_add, if_true, if_false, and_self, true_or, or_true, true_and, and_true, not_true_eq_false, not_false_eq_true, reduceCtorEq, eq_self, Option.toList_some, Option.toList_none, List.cons_append, List.nil_append, Bool.false_eq_true, a4]
          exact p1
        · subst h
          obtain ⟨r, h1, hv', hm', q1, q2, q3, q4, q5⟩ := lw_step (L := L) (xs := xs) hI (jo_commit hJ hs )
          obtain ⟨h', p1, p2, p3⟩ := ih (st + 1) hv' hm' (by omega) (by omega) q3
          refine ⟨h', ?_, p2, p3⟩
          have c1 := sw_n 2 (by omega)
          have c2 := sw_c 2 (by omega)
          rw [bm_R_eq] at p1
          rw [bm_R_eq, cxh_143_18]
          simp only [bm_R_eq, cx_143, en_143, rt_143, ry_aload_n, ry_arraylength, ev_ln, ev_pN, ry_astore_n, ry_bipush, ry_dup_i, ry_dup_r, ry_goto, ry_iadd, ry_iaload, ry_iand, ry_iconst, ry_icmp_eq, ry_icmp_gt, ry_iinc, ev_inc, ry_iload_n, ry_invi, ev_cs, ry_invv, ev_cv, ry_ireturn, ry_istore_n, ry_isub, ry_new, ry_tableswitch, kl_0, kl_9, kl_14, kl_15, kl_42, kl_43, kl_44, kl_46, kl_56, kl_58, kl_61, kl_62, kl_69, kl_80, kl_81, kl_82, kl_83, kl_86, kl_91, kl_93, kl_94, kl_97, kl_98, kl_113, kl_114, kl_115, kl_116, kl_121, kl_122, kl_123, kl_124, kl_125, kl_136, kl_137, kl_139, kl_140, kl_141, kl_142, ew_K, ev_pI, ev_pR, ev_pVi, ev_pVr, ev_sI, ev_sR, ew_KC, ev_k, ev_ko, ev_pop0, ev_pops, am_ld, am_sv, am_at, am_st, am_g, List.length_cons, List.length_nil, Nat.reduceAdd, Nat.reduceLT, Nat.zero_add, if_true, if_false, and_self, true_or, or_true, true_and, and_true, not_true_eq_false, not_false_eq_true, reduceCtorEq, eq_self, Option.toList_some, Option.toList_none, List.cons_append, List.nil_append, Bool.false_eq_true, hb, e1, ix0, hq, c1, c2, am_tn, hkv, Nat.reduceLeDiff, or_self]
          refine bm_CL_of q1 ?_
          simp only [bm_R_eq, cx_143, en_143, rt_143, ry_aload_n, ry_arraylength, ev_ln, ev_pN, ry_astore_n, ry_bipush, ry_dup_i, ry_dup_r, ry_goto, ry_iadd, ry_iaload, ry_iand, ry_iconst, ry_icmp_eq, ry_icmp_gt, ry_iinc, ev_inc, ry_iload_n, ry_invi, ev_cs, ry_invv, ev_cv, ry_ireturn, ry_istore_n, ry_isub, ry_new, ry_tableswitch, kl_0, kl_9, kl_14, kl_15, kl_42, kl_43, kl_44, kl_46, kl_56, kl_58, kl_61, kl_62, kl_69, kl_80, kl_81, kl_82, kl_83, kl_86, kl_91, kl_93, kl_94, kl_97, kl_98, kl_113, kl_114, kl_115, kl_116, kl_121, kl_122, kl_123, kl_124, kl_125, kl_136, kl_137, kl_139, kl_140, kl_141, kl_142, ew_K, ev_pI, ev_pR, ev_pVi, ev_pVr, ev_sI, ev_sR, ew_KC, ev_k, ev_ko, ev_pop0, ev_pops, am_ld, am_sv, am_at, am_st, am_g, List.length_cons, List.length_nil, Nat.reduceAdd, Nat.reduceLT, Nat.zero_add, if_true, if_false, and_self, true_or, or_true, true_and, and_true, not_true_eq_false, not_false_eq_true, reduceCtorEq, eq_self, Option.toList_some, Option.toList_none, List.cons_append, List.nil_append, Bool.false_eq_true, q4, q5, Nat.reduceLeDiff]
          refine bm_CL_of q2 ?_
          simp only [bm_R_eq, cx_143, en_143, rt_143, ry_aload_n, ry_arraylength, ev_ln, ev_pN, ry_astore_n, ry_bipush, ry_dup_i, ry_dup_r, ry_goto, ry_iadd, ry_iaload, ry_iand, ry_iconst, ry_icmp_eq, ry_icmp_gt, ry_iinc, ev_inc, ry_iload_n, ry_invi, ev_cs, ry_invv, ev_cv, ry_ireturn, ry_istore_n, ry_isub, ry_new, ry_tableswitch, kl_0, kl_9, kl_14, kl_15, kl_42, kl_43, kl_44, kl_46, kl_56, kl_58, kl_61, kl_62, kl_69, kl_80, kl_81, kl_82, kl_83, kl_86, kl_91, kl_93, kl_94, kl_97, kl_98, kl_113, kl_114, kl_115, kl_116, kl_121, kl_122, kl_123, kl_124, kl_125, kl_136, kl_137, kl_139, kl_140, kl_141, kl_142, ew_K, ev_pI, ev_pR, ev_pVi, ev_pVr, ev_sI, ev_sR, ew_KC, ev_k, ev_ko, ev_pop0, ev_pops, am_ld, am_sv, am_at, am_st, am_g, List.length_cons, List.length_nil, Nat.reduceAdd, Nat.reduceLT, Nat.zero_add, if_true, if_false, and_self, true_or, or_true, true_and, and_true, not_true_eq_false, not_false_eq_true, reduceCtorEq, eq_self, Option.toList_some, Option.toList_none, List.cons_append, List.nil_append, Bool.false_eq_true, a4]
          exact p1
        · subst h
          obtain ⟨r, h1, hv', hm', q1, q2, q3, q4, q5⟩ := lw_step (L := L) (xs := xs) hI (jo_sync hJ hs )
          obtain ⟨h', p1, p2, p3⟩ := ih (st + 1) hv' hm' (by omega) (by omega) q3
          refine ⟨h', ?_, p2, p3⟩
          have c1 := sw_n 3 (by omega)
          have c2 := sw_c 3 (by omega)
          rw [bm_R_eq] at p1
          rw [bm_R_eq, cxh_143_18]
          simp only [bm_R_eq, cx_143, en_143, rt_143, ry_aload_n, ry_arraylength, ev_ln, ev_pN, ry_astore_n, ry_bipush, ry_dup_i, ry_dup_r, ry_goto, ry_iadd, ry_iaload, ry_iand, ry_iconst, ry_icmp_eq, ry_icmp_gt, ry_iinc, ev_inc, ry_iload_n, ry_invi, ev_cs, ry_invv, ev_cv, ry_ireturn, ry_istore_n, ry_isub, ry_new, ry_tableswitch, kl_0, kl_9, kl_14, kl_15, kl_42, kl_43, kl_44, kl_46, kl_56, kl_58, kl_61, kl_62, kl_69, kl_80, kl_81, kl_82, kl_83, kl_86, kl_91, kl_93, kl_94, kl_97, kl_98, kl_113, kl_114, kl_115, kl_116, kl_121, kl_122, kl_123, kl_124, kl_125, kl_136, kl_137, kl_139, kl_140, kl_141, kl_142, ew_K, ev_pI, ev_pR, ev_pVi, ev_pVr, ev_sI, ev_sR, ew_KC, ev_k, ev_ko, ev_pop0, ev_pops, am_ld, am_sv, am_at, am_st, am_g, List.length_cons, List.length_nil, Nat.reduceAdd, Nat.reduceLT, Nat.zero_add, if_true, if_false, and_self, true_or, or_true, true_and, and_true, not_true_eq_false, not_false_eq_true, reduceCtorEq, eq_self, Option.toList_some, Option.toList_none, List.cons_append, List.nil_append, Bool.false_eq_true, hb, e1, ix0, hq, c1, c2, am_tn, hkv, Nat.reduceLeDiff, or_self]
          refine bm_CL_of q1 ?_
          simp only [bm_R_eq, cx_143, en_143, rt_143, ry_aload_n, ry_arraylength, ev_ln, ev_pN, ry_astore_n, ry_bipush, ry_dup_i, ry_dup_r, ry_goto, ry_iadd, ry_iaload, ry_iand, ry_iconst, ry_icmp_eq, ry_icmp_gt, ry_iinc, ev_inc, ry_iload_n, ry_invi, ev_cs, ry_invv, ev_cv, ry_ireturn, ry_istore_n, ry_isub, ry_new, ry_tableswitch, kl_0, kl_9, kl_14, kl_15, kl_42, kl_43, kl_44, kl_46, kl_56, kl_58, kl_61, kl_62, kl_69, kl_80, kl_81, kl_82, kl_83, kl_86, kl_91, kl_93, kl_94, kl_97, kl_98, kl_113, kl_114, kl_115, kl_116, kl_121, kl_122, kl_123, kl_124, kl_125, kl_136, kl_137, kl_139, kl_140, kl_141, kl_142, ew_K, ev_pI, ev_pR, ev_pVi, ev_pVr, ev_sI, ev_sR, ew_KC, ev_k, ev_ko, ev_pop0, ev_pops, am_ld, am_sv, am_at, am_st, am_g, List.length_cons, List.length_nil, Nat.reduceAdd, Nat.reduceLT, Nat.zero_add, if_true, if_false, and_self, true_or, or_true, true_and, and_true, not_true_eq_false, not_false_eq_true, reduceCtorEq, eq_self, Option.toList_some, Option.toList_none, List.cons_append, List.nil_append, Bool.false_eq_true, q4, q5, Nat.reduceLeDiff]
          refine bm_CL_of q2 ?_
          simp only [bm_R_eq, cx_143, en_143, rt_143, ry_aload_n, ry_arraylength, ev_ln, ev_pN, ry_astore_n, ry_bipush, ry_dup_i, ry_dup_r, ry_goto, ry_iadd, ry_iaload, ry_iand, ry_iconst, ry_icmp_eq, ry_icmp_gt, ry_iinc, ev_inc, ry_iload_n, ry_invi, ev_cs, ry_invv, ev_cv, ry_ireturn, ry_istore_n, ry_isub, ry_new, ry_tableswitch, kl_0, kl_9, kl_14, kl_15, kl_42, kl_43, kl_44, kl_46, kl_56, kl_58, kl_61, kl_62, kl_69, kl_80, kl_81, kl_82, kl_83, kl_86, kl_91, kl_93, kl_94, kl_97, kl_98, kl_113, kl_114, kl_115, kl_116, kl_121, kl_122, kl_123, kl_124, kl_125, kl_136, kl_137, kl_139, kl_140, kl_141, kl_142, ew_K, ev_pI, ev_pR, ev_pVi, ev_pVr, ev_sI, ev_sR, ew_KC, ev_k, ev_ko, ev_pop0, ev_pops, am_ld, am_sv, am_at, am_st, am_g, List.length_cons, List.length_nil, Nat.reduceAdd, Nat.reduceLT, Nat.zero_add, if_true, if_false, and_self, true_or, or_true, true_and, and_true, not_true_eq_false, not_false_eq_true, reduceCtorEq, eq_self, Option.toList_some, Option.toList_none, List.cons_append, List.nil_append, Bool.false_eq_true, a4]
          exact p1
        · subst h
          obtain ⟨r, h1, hv', hm', q1, q2, q3, q4, q5⟩ := lw_step (L := L) (xs := xs) hI (jo_flush hJ hs )
          obtain ⟨h', p1, p2, p3⟩ := ih (st + 1) hv' hm' (by omega) (by omega) q3
          refine ⟨h', ?_, p2, p3⟩
          have c1 := sw_n 4 (by omega)
          have c2 := sw_c 4 (by omega)
          rw [bm_R_eq] at p1
          rw [bm_R_eq, cxh_143_18]
          simp only [bm_R_eq, cx_143, en_143, rt_143, ry_aload_n, ry_arraylength, ev_ln, ev_pN, ry_astore_n, ry_bipush, ry_dup_i, ry_dup_r, ry_goto, ry_iadd, ry_iaload, ry_iand, ry_iconst, ry_icmp_eq, ry_icmp_gt, ry_iinc, ev_inc, ry_iload_n, ry_invi, ev_cs, ry_invv, ev_cv, ry_ireturn, ry_istore_n, ry_isub, ry_new, ry_tableswitch, kl_0, kl_9, kl_14, kl_15, kl_42, kl_43, kl_44, kl_46, kl_56, kl_58, kl_61, kl_62, kl_69, kl_80, kl_81, kl_82, kl_83, kl_86, kl_91, kl_93, kl_94, kl_97, kl_98, kl_113, kl_114, kl_115, kl_116, kl_121, kl_122, kl_123, kl_124, kl_125, kl_136, kl_137, kl_139, kl_140, kl_141, kl_142, ew_K, ev_pI, ev_pR, ev_pVi, ev_pVr, ev_sI, ev_sR, ew_KC, ev_k, ev_ko, ev_pop0, ev_pops, am_ld, am_sv, am_at, am_st, am_g, List.length_cons, List.length_nil, Nat.reduceAdd, Nat.reduceLT, Nat.zero_add, if_true, if_false, and_self, true_or, or_true, true_and, and_true, not_true_eq_false, not_false_eq_true, reduceCtorEq, eq_self, Option.toList_some, Option.toList_none, List.cons_append, List.nil_append, Bool.false_eq_true, hb, e1, ix0, hq, c1, c2, am_tn, hkv, Nat.reduceLeDiff, or_self]
          refine bm_CL_of q1 ?_
          simp only [bm_R_eq, cx_143, en_143, rt_143, ry_aload_n, ry_arraylength, ev_ln, ev_pN, ry_astore_n, ry_bipush, ry_dup_i, ry_dup_r, ry_goto, ry_iadd, ry_iaload, ry_iand, ry_iconst, ry_icmp_eq, ry_icmp_gt, ry_iinc, ev_inc, ry_iload_n, ry_invi, ev_cs, ry_invv, ev_cv, ry_ireturn, ry_istore_n, ry_isub, ry_new, ry_tableswitch, kl_0, kl_9, kl_14, kl_15, kl_42, kl_43, kl_44, kl_46, kl_56, kl_58, kl_61, kl_62, kl_69, kl_80, kl_81, kl_82, kl_83, kl_86, kl_91, kl_93, kl_94, kl_97, kl_98, kl_113, kl_114, kl_115, kl_116, kl_121, kl_122, kl_123, kl_124, kl_125, kl_136, kl_137, kl_139, kl_140, kl_141, kl_142, ew_K, ev_pI, ev_pR, ev_pVi, ev_pVr, ev_sI, ev_sR, ew_KC, ev_k, ev_ko, ev_pop0, ev_pops, am_ld, am_sv, am_at, am_st, am_g, List.length_cons, List.length_nil, Nat.reduceAdd, Nat.reduceLT, Nat.zero_add, if_true, if_false, and_self, true_or, or_true, true_and, and_true, not_true_eq_false, not_false_eq_true, reduceCtorEq, eq_self, Option.toList_some, Option.toList_none, List.cons_append, List.nil_append, Bool.false_eq_true, q4, q5, Nat.reduceLeDiff]
          refine bm_CL_of q2 ?_
          simp only [bm_R_eq, cx_143, en_143, rt_143, ry_aload_n, ry_arraylength, ev_ln, ev_pN, ry_astore_n, ry_bipush, ry_dup_i, ry_dup_r, ry_goto, ry_iadd, ry_iaload, ry_iand, ry_iconst, ry_icmp_eq, ry_icmp_gt, ry_iinc, ev_inc, ry_iload_n, ry_invi, ev_cs, ry_invv, ev_cv, ry_ireturn, ry_istore_n, ry_isub, ry_new, ry_tableswitch, kl_0, kl_9, kl_14, kl_15, kl_42, kl_43, kl_44, kl_46, kl_56, kl_58, kl_61, kl_62, kl_69, kl_80, kl_81, kl_82, kl_83, kl_86, kl_91, kl_93, kl_94, kl_97, kl_98, kl_113, kl_114, kl_115, kl_116, kl_121, kl_122, kl_123, kl_124, kl_125, kl_136, kl_137, kl_139, kl_140, kl_141, kl_142, ew_K, ev_pI, ev_pR, ev_pVi, ev_pVr, ev_sI, ev_sR, ew_KC, ev_k, ev_ko, ev_pop0, ev_pops, am_ld, am_sv, am_at, am_st, am_g, List.length_cons, List.length_nil, Nat.reduceAdd, Nat.reduceLT, Nat.zero_add, if_true, if_false, and_self, true_or, or_true, true_and, and_true, not_true_eq_false, not_false_eq_true, reduceCtorEq, eq_self, Option.toList_some, Option.toList_none, List.cons_append, List.nil_append, Bool.false_eq_true, a4]
          exact p1
        · subst h
          obtain ⟨r, h1, hv', hm', q1, q2, q3, q4, q5⟩ := lw_step (L := L) (xs := xs) hI (jo_merge hJ hs (xs (4 * st + 1)))
          obtain ⟨h', p1, p2, p3⟩ := ih (st + 1) hv' hm' (by omega) (by omega) q3
          refine ⟨h', ?_, p2, p3⟩
          have c1 := sw_n 5 (by omega)
          have c2 := sw_c 5 (by omega)
          rw [bm_R_eq] at p1
          rw [bm_R_eq, cxh_143_18]
          simp only [bm_R_eq, cx_143, en_143, rt_143, ry_aload_n, ry_arraylength, ev_ln, ev_pN, ry_astore_n, ry_bipush, ry_dup_i, ry_dup_r, ry_goto, ry_iadd, ry_iaload, ry_iand, ry_iconst, ry_icmp_eq, ry_icmp_gt, ry_iinc, ev_inc, ry_iload_n, ry_invi, ev_cs, ry_invv, ev_cv, ry_ireturn, ry_istore_n, ry_isub, ry_new, ry_tableswitch, kl_0, kl_9, kl_14, kl_15, kl_42, kl_43, kl_44, kl_46, kl_56, kl_58, kl_61, kl_62, kl_69, kl_80, kl_81, kl_82, kl_83, kl_86, kl_91, kl_93, kl_94, kl_97, kl_98, kl_113, kl_114, kl_115, kl_116, kl_121, kl_122, kl_123, kl_124, kl_125, kl_136, kl_137, kl_139, kl_140, kl_141, kl_142, ew_K, ev_pI, ev_pR, ev_pVi, ev_pVr, ev_sI, ev_sR, ew_KC, ev_k, ev_ko, ev_pop0, ev_pops, am_ld, am_sv, am_at, am_st, am_g, List.length_cons, List.length_nil, Nat.reduceAdd, Nat.reduceLT, Nat.zero_add, if_true, if_false, and_self, true_or, or_true, true_and, and_true, not_true_eq_false, not_false_eq_true, reduceCtorEq, eq_self, Option.toList_some, Option.toList_none, List.cons_append, List.nil_append, Bool.false_eq_true, hb, e1, ix0, hq, c1, c2, am_tn, ix1, a1, hkv, Nat.reduceLeDiff, or_self]
          refine bm_CL_of q1 ?_
          simp only [bm_R_eq, cx_143, en_143, rt_143, ry_aload_n, ry_arraylength, ev_ln, ev_pN, ry_astore_n, ry_bipush, ry_dup_i, ry_dup_r, ry_goto, ry_iadd, ry_iaload, ry_iand, ry_iconst, ry_icmp_eq, ry_icmp_gt, ry_iinc, ev_inc, ry_iload_n, ry_invi, ev_cs, ry_invv, ev_cv, ry_ireturn, ry_istore_n, ry_isub, ry_new, ry_tableswitch, kl_0, kl_9, kl_14, kl_15, kl_42, kl_43, kl_44, kl_46, kl_56, kl_58, kl_61, kl_62, kl_69, kl_80, kl_81, kl_82, kl_83, kl_86, kl_91, kl_93, kl_94, kl_97, kl_98, kl_113, kl_114, kl_115, kl_116, kl_121, kl_122, kl_123, kl_124, kl_125, kl_136, kl_137, kl_139, kl_140, kl_141, kl_142, ew_K, ev_pI, ev_pR, ev_pVi, ev_pVr, ev_sI, ev_sR, ew_KC, ev_k, ev_ko, ev_pop0, ev_pops, am_ld, am_sv, am_at, am_st, am_g, List.length_cons, List.length_nil, Nat.reduceAdd, Nat.reduceLT, Nat.zero_add, if_true, if_false, and_self, true_or, or_true, true_and, and_true, not_true_eq_false, not_false_eq_true, reduceCtorEq, eq_self, Option.toList_some, Option.toList_none, List.cons_append, List.nil_append, Bool.false_eq_true, q4, q5, ix1, a1, Nat.reduceLeDiff]
          refine bm_CL_of q2 ?_
          simp only [bm_R_eq, cx_143, en_143, rt_143, ry_aload_n, ry_arraylength, ev_ln, ev_pN, ry_astore_n, ry_bipush, ry_dup_i, ry_dup_r, ry_goto, ry_iadd, ry_iaload, ry_iand, ry_iconst, ry_icmp_eq, ry_icmp_gt, ry_iinc, ev_inc, ry_iload_n, ry_invi, ev_cs, ry_invv, ev_cv, ry_ireturn, ry_istore_n, ry_isub, ry_new, ry_tableswitch, kl_0, kl_9, kl_14, kl_15, kl_42, kl_43, kl_44, kl_46, kl_56, kl_58, kl_61, kl_62, kl_69, kl_80, kl_81, kl_82, kl_83, kl_86, kl_91, kl_93, kl_94, kl_97, kl_98, kl_113, kl_114, kl_115, kl_116, kl_121, kl_122, kl_123, kl_124, kl_125, kl_136, kl_137, kl_139, kl_140, kl_141, kl_142, ew_K, ev_pI, ev_pR, ev_pVi, ev_pVr, ev_sI, ev_sR, ew_KC, ev_k, ev_ko, ev_pop0, ev_pops, am_ld, am_sv, am_at, am_st, am_g, List.length_cons, List.length_nil, Nat.reduceAdd, Nat.reduceLT, Nat.zero_add, if_true, if_false, and_self, true_or, or_true, true_and, and_true, not_true_eq_false, not_false_eq_true, reduceCtorEq, eq_self, Option.toList_some, Option.toList_none, List.cons_append, List.nil_append, Bool.false_eq_true, a4]
          exact p1
        · subst h
          obtain ⟨r, h1, hv', hm', q1, q2, q3, q4, q5⟩ := lw_step (L := L) (xs := xs) hI (jo_collect hJ hs )
          obtain ⟨h', p1, p2, p3⟩ := ih (st + 1) hv' hm' (by omega) (by omega) q3
          refine ⟨h', ?_, p2, p3⟩
          have c1 := sw_n 6 (by omega)
          have c2 := sw_c 6 (by omega)
          rw [bm_R_eq] at p1
          rw [bm_R_eq, cxh_143_18]
          simp only [bm_R_eq, cx_143, en_143, rt_143, ry_aload_n, ry_arraylength, ev_ln, ev_pN, ry_astore_n, ry_bipush, ry_dup_i, ry_dup_r, ry_goto, ry_iadd, ry_iaload, ry_iand, ry_iconst, ry_icmp_eq, ry_icmp_gt, ry_iinc, ev_inc, ry_iload_n, ry_invi, ev_cs, ry_invv, ev_cv, ry_ireturn, ry_istore_n, ry_isub, ry_new, ry_tableswitch, kl_0, kl_9, kl_14, kl_15, kl_42, kl_43, kl_44, kl_46, kl_56, kl_58, kl_61, kl_62, kl_69, kl_80, kl_81, kl_82, kl_83, kl_86, kl_91, kl_93, kl_94, kl_97, kl_98, kl_113, kl_114, kl_115, kl_116, kl_121, kl_122, kl_123, kl_124, kl_125, kl_136, kl_137, kl_139, kl_140, kl_141, kl_142, ew_K, ev_pI, ev_pR, ev_pVi, ev_pVr, ev_sI, ev_sR, ew_KC, ev_k, ev_ko, ev_pop0, ev_pops, am_ld, am_sv, am_at, am_st, am_g, List.length_cons, List.length_nil, Nat.reduceAdd, Nat.reduceLT, Nat.zero_add, if_true, if_false, and_self, true_or, or_true, true_and, and_true, not_true_eq_false, not_false_eq_true, reduceCtorEq, eq_self, Option.toList_some, Option.toList_none, List.cons_append, List.nil_append, Bool.false_eq_true, hb, e1, ix0, hq, c1, c2, am_tn, hkv, Nat.reduceLeDiff, or_self]
          refine bm_CL_of q1 ?_
          simp only [bm_R_eq, cx_143, en_143, rt_143, ry_aload_n, ry_arraylength, ev_ln, ev_pN, ry_astore_n, ry_bipush, ry_dup_i, ry_dup_r, ry_goto, ry_iadd, ry_iaload, ry_iand, ry_iconst, ry_icmp_eq, ry_icmp_gt, ry_iinc, ev_inc, ry_iload_n, ry_invi, ev_cs, ry_invv, ev_cv, ry_ireturn, ry_istore_n, ry_isub, ry_new, ry_tableswitch, kl_0, kl_9, kl_14, kl_15, kl_42, kl_43, kl_44, kl_46, kl_56, kl_58, kl_61, kl_62, kl_69, kl_80, kl_81, kl_82, kl_83, kl_86, kl_91, kl_93, kl_94, kl_97, kl_98, kl_113, kl_114, kl_115, kl_116, kl_121, kl_122, kl_123, kl_124, kl_125, kl_136, kl_137, kl_139, kl_140, kl_141, kl_142, ew_K, ev_pI, ev_pR, ev_pVi, ev_pVr, ev_sI, ev_sR, ew_KC, ev_k, ev_ko, ev_pop0, ev_pops, am_ld, am_sv, am_at, am_st, am_g, List.length_cons, List.length_nil, Nat.reduceAdd, Nat.reduceLT, Nat.zero_add, if_true, if_false, and_self, true_or, or_true, true_and, and_true, not_true_eq_false, not_false_eq_true, reduceCtorEq, eq_self, Option.toList_some, Option.toList_none, List.cons_append, List.nil_append, Bool.false_eq_true, q4, q5, Nat.reduceLeDiff]
          refine bm_CL_of q2 ?_
          simp only [bm_R_eq, cx_143, en_143, rt_143, ry_aload_n, ry_arraylength, ev_ln, ev_pN, ry_astore_n, ry_bipush, ry_dup_i, ry_dup_r, ry_goto, ry_iadd, ry_iaload, ry_iand, ry_iconst, ry_icmp_eq, ry_icmp_gt, ry_iinc, ev_inc, ry_iload_n, ry_invi, ev_cs, ry_invv, ev_cv, ry_ireturn, ry_istore_n, ry_isub, ry_new, ry_tableswitch, kl_0, kl_9, kl_14, kl_15, kl_42, kl_43, kl_44, kl_46, kl_56, kl_58, kl_61, kl_62, kl_69, kl_80, kl_81, kl_82, kl_83, kl_86, kl_91, kl_93, kl_94, kl_97, kl_98, kl_113, kl_114, kl_115, kl_116, kl_121, kl_122, kl_123, kl_124, kl_125, kl_136, kl_137, kl_139, kl_140, kl_141, kl_142, ew_K, ev_pI, ev_pR, ev_pVi, ev_pVr, ev_sI, ev_sR, ew_KC, ev_k, ev_ko, ev_pop0, ev_pops, am_ld, am_sv, am_at, am_st, am_g, List.length_cons, List.length_nil, Nat.reduceAdd, Nat.reduceLT, Nat.zero_add, if_true, if_false, and_self, true_or, or_true, true_and, and_true, not_true_eq_false, not_false_eq_true, reduceCtorEq, eq_self, Option.toList_some, Option.toList_none, List.cons_append, List.nil_append, Bool.false_eq_true, a4]
          exact p1
        · subst h
          obtain ⟨r, h1, hv', hm', q1, q2, q3, q4, q5⟩ := lw_step (L := L) (xs := xs) hI (jo_take hJ hs )
          obtain ⟨h', p1, p2, p3⟩ := ih (st + 1) hv' hm' (by omega) (by omega) q3
          refine ⟨h', ?_, p2, p3⟩
          have c1 := sw_n 7 (by omega)
          have c2 := sw_c 7 (by omega)
          rw [bm_R_eq] at p1
          rw [bm_R_eq, cxh_143_18]
          simp only [bm_R_eq, cx_143, en_143, rt_143, ry_aload_n, ry_arraylength, ev_ln, ev_pN, ry_astore_n, ry_bipush, ry_dup_i, ry_dup_r, ry_goto, ry_iadd, ry_iaload, ry_iand, ry_iconst, ry_icmp_eq, ry_icmp_gt, ry_iinc, ev_inc, ry_iload_n, ry_invi, ev_cs, ry_invv, ev_cv, ry_ireturn, ry_istore_n, ry_isub, ry_new, ry_tableswitch, kl_0, kl_9, kl_14, kl_15, kl_42, kl_43, kl_44, kl_46, kl_56, kl_58, kl_61, kl_62, kl_69, kl_80, kl_81, kl_82, kl_83, kl_86, kl_91, kl_93, kl_94, kl_97, kl_98, kl_113, kl_114, kl_115, kl_116, kl_121, kl_122, kl_123, kl_124, kl_125, kl_136, kl_137, kl_139, kl_140, kl_141, kl_142, ew_K, ev_pI, ev_pR, ev_pVi, ev_pVr, ev_sI, ev_sR, ew_KC, ev_k, ev_ko, ev_pop0, ev_pops, am_ld, am_sv, am_at, am_st, am_g, List.length_cons, List.length_nil, Nat.reduceAdd, Nat.reduceLT, Nat.zero_add, if_true, if_false, and_self, true_or, or_true, true_and, and_true, not_true_eq_false, not_false_eq_true, reduceCtorEq, eq_self, Option.toList_some, Option.toList_none, List.cons_append, List.nil_append, Bool.false_eq_true, hb, e1, ix0, hq, c1, c2, am_tn, hkv, Nat.reduceLeDiff, or_self]
          refine bm_CL_of q1 ?_
          simp only [bm_R_eq, cx_143, en_143, rt_143, ry_aload_n, ry_arraylength, ev_ln, ev_pN, ry_astore_n, ry_bipush, ry_dup_i, ry_dup_r, ry_goto, ry_iadd, ry_iaload, ry_iand, ry_iconst, ry_icmp_eq, ry_icmp_gt, ry_iinc, ev_inc, ry_iload_n, ry_invi, ev_cs, ry_invv, ev_cv, ry_ireturn, ry_istore_n, ry_isub, ry_new, ry_tableswitch, kl_0, kl_9, kl_14, kl_15, kl_42, kl_43, kl_44, kl_46, kl_56, kl_58, kl_61, kl_62, kl_69, kl_80, kl_81, kl_82, kl_83, kl_86, kl_91, kl_93, kl_94, kl_97, kl_98, kl_113, kl_114, kl_115, kl_116, kl_121, kl_122, kl_123, kl_124, kl_125, kl_136, kl_137, kl_139, kl_140, kl_141, kl_142, ew_K, ev_pI, ev_pR, ev_pVi, ev_pVr, ev_sI, ev_sR, ew_KC, ev_k, ev_ko, ev_pop0, ev_pops, am_ld, am_sv, am_at, am_st, am_g, List.length_cons, List.length_nil, Nat.reduceAdd, Nat.reduceLT, Nat.zero_add, if_true, if_false, and_self, true_or, or_true, true_and, and_true, not_true_eq_false, not_false_eq_true, reduceCtorEq, eq_self, Option.toList_some, Option.toList_none, List.cons_append, List.nil_append, Bool.false_eq_true, q4, q5, Nat.reduceLeDiff]
          refine bm_CL_of q2 ?_
          simp only [bm_R_eq, cx_143, en_143, rt_143, ry_aload_n, ry_arraylength, ev_ln, ev_pN, ry_astore_n, ry_bipush, ry_dup_i, ry_dup_r, ry_goto, ry_iadd, ry_iaload, ry_iand, ry_iconst, ry_icmp_eq, ry_icmp_gt, ry_iinc, ev_inc, ry_iload_n, ry_invi, ev_cs, ry_invv, ev_cv, ry_ireturn, ry_istore_n, ry_isub, ry_new, ry_tableswitch, kl_0, kl_9, kl_14, kl_15, kl_42, kl_43, kl_44, kl_46, kl_56, kl_58, kl_61, kl_62, kl_69, kl_80, kl_81, kl_82, kl_83, kl_86, kl_91, kl_93, kl_94, kl_97, kl_98, kl_113, kl_114, kl_115, kl_116, kl_121, kl_122, kl_123, kl_124, kl_125, kl_136, kl_137, kl_139, kl_140, kl_141, kl_142, ew_K, ev_pI, ev_pR, ev_pVi, ev_pVr, ev_sI, ev_sR, ew_KC, ev_k, ev_ko, ev_pop0, ev_pops, am_ld, am_sv, am_at, am_st, am_g, List.length_cons, List.length_nil, Nat.reduceAdd, Nat.reduceLT, Nat.zero_add, if_true, if_false, and_self, true_or, or_true, true_and, and_true, not_true_eq_false, not_false_eq_true, reduceCtorEq, eq_self, Option.toList_some, Option.toList_none, List.cons_append, List.nil_append, Bool.false_eq_true, a4]
          exact p1
        · subst h
          obtain ⟨r, h1, hv', hm', q1, q2, q3, q4, q5⟩ := lw_step (L := L) (xs := xs) hI (jo_release hJ hs (xs (4 * st + 1)))
          obtain ⟨h', p1, p2, p3⟩ := ih (st + 1) hv' hm' (by omega) (by omega) q3
          refine ⟨h', ?_, p2, p3⟩
          have c1 := sw_n 8 (by omega)
          have c2 := sw_c 8 (by omega)
          rw [bm_R_eq] at p1
          rw [bm_R_eq, cxh_143_18]
          simp only [bm_R_eq, cx_143, en_143, rt_143, ry_aload_n, ry_arraylength, ev_ln, ev_pN, ry_astore_n, ry_bipush, ry_dup_i, ry_dup_r, ry_goto, ry_iadd, ry_iaload, ry_iand, ry_iconst, ry_icmp_eq, ry_icmp_gt, ry_iinc, ev_inc, ry_iload_n, ry_invi, ev_cs, ry_invv, ev_cv, ry_ireturn, ry_istore_n, ry_isub, ry_new, ry_tableswitch, kl_0, kl_9, kl_14, kl_15, kl_42, kl_43, kl_44, kl_46, kl_56, kl_58, kl_61, kl_62, kl_69, kl_80, kl_81, kl_82, kl_83, kl_86, kl_91, kl_93, kl_94, kl_97, kl_98, kl_113, kl_114, kl_115, kl_116, kl_121, kl_122, kl_123, kl_124, kl_125, kl_136, kl_137, kl_139, kl_140, kl_141, kl_142, ew_K, ev_pI, ev_pR, ev_pVi, ev_pVr, ev_sI, ev_sR, ew_KC, ev_k, ev_ko, ev_pop0, ev_pops, am_ld, am_sv, am_at, am_st, am_g, List.length_cons, List.length_nil, Nat.reduceAdd, Nat.reduceLT, Nat.zero_add, if_true, if_false, and_self, true_or, or_true, true_and, and_true, not_true_eq_false, not_false_eq_true, reduceCtorEq, eq_self, Option.toList_some, Option.toList_none, List.cons_append, List.nil_append, Bool.false_eq_true, hb, e1, ix0, hq, c1, c2, am_tn, ix1, a1, hkv, Nat.reduceLeDiff, or_self]
          refine bm_CL_of q1 ?_
          simp only [bm_R_eq, cx_143, en_143, rt_143, ry_aload_n, ry_arraylength, ev_ln, ev_pN, ry_astore_n, ry_bipush, ry_dup_i, ry_dup_r, ry_goto, ry_iadd, ry_iaload, ry_iand, ry_iconst, ry_icmp_eq, ry_icmp_gt, ry_iinc, ev_inc, ry_iload_n, ry_invi, ev_cs, ry_invv, ev_cv, ry_ireturn, ry_istore_n, ry_isub, ry_new, ry_tableswitch, kl_0, kl_9, kl_14, kl_15, kl_42, kl_43, kl_44, kl_46, kl_56, kl_58, kl_61, kl_62, kl_69, kl_80, kl_81, kl_82, kl_83, kl_86, kl_91, kl_93, kl_94, kl_97, kl_98, kl_113, kl_114, kl_115, kl_116, kl_121, kl_122, kl_123, kl_124, kl_125, kl_136, kl_137, kl_139, kl_140, kl_141, kl_142, ew_K, ev_pI, ev_pR, ev_pVi, ev_pVr, ev_sI, ev_sR, ew_KC, ev_k, ev_ko, ev_pop0, ev_pops, am_ld, am_sv, am_at, am_st, am_g, List.length_cons, List.length_nil, Nat.reduceAdd, Nat.reduceLT, Nat.zero_add, if_true, if_false, and_self, true_or, or_true, true_and, and_true, not_true_eq_false, not_false_eq_true, reduceCtorEq, eq_self, Option.toList_some, Option.toList_none, List.cons_append, List.nil_append, Bool.false_eq_true, q4, q5, ix1, a1, Nat.reduceLeDiff]
          refine bm_CL_of q2 ?_
          simp only [bm_R_eq, cx_143, en_143, rt_143, ry_aload_n, ry_arraylength, ev_ln, ev_pN, ry_astore_n, ry_bipush, ry_dup_i, ry_dup_r, ry_goto, ry_iadd, ry_iaload, ry_iand, ry_iconst, ry_icmp_eq, ry_icmp_gt, ry_iinc, ev_inc, ry_iload_n, ry_invi, ev_cs, ry_invv, ev_cv, ry_ireturn, ry_istore_n, ry_isub, ry_new, ry_tableswitch, kl_0, kl_9, kl_14, kl_15, kl_42, kl_43, kl_44, kl_46, kl_56, kl_58, kl_61, kl_62, kl_69, kl_80, kl_81, kl_82, kl_83, kl_86, kl_91, kl_93, kl_94, kl_97, kl_98, kl_113, kl_114, kl_115, kl_116, kl_121, kl_122, kl_123, kl_124, kl_125, kl_136, kl_137, kl_139, kl_140, kl_141, kl_142, ew_K, ev_pI, ev_pR, ev_pVi, ev_pVr, ev_sI, ev_sR, ew_KC, ev_k, ev_ko, ev_pop0, ev_pops, am_ld, am_sv, am_at, am_st, am_g, List.length_cons, List.length_nil, Nat.reduceAdd, Nat.reduceLT, Nat.zero_add, if_true, if_false, and_self, true_or, or_true, true_and, and_true, not_true_eq_false, not_false_eq_true, reduceCtorEq, eq_self, Option.toList_some, Option.toList_none, List.cons_append, List.nil_append, Bool.false_eq_true, a4]
          exact p1
        · subst h
          obtain ⟨r, h1, hv', hm', q1, q2, q3, q4, q5⟩ := lw_step (L := L) (xs := xs) hI (jo_tick hJ hs (xs (4 * st + 1)))
          obtain ⟨h', p1, p2, p3⟩ := ih (st + 1) hv' hm' (by omega) (by omega) q3
          refine ⟨h', ?_, p2, p3⟩
          have c1 := sw_n 9 (by omega)
          have c2 := sw_c 9 (by omega)
          rw [bm_R_eq] at p1
          rw [bm_R_eq, cxh_143_18]
          simp only [bm_R_eq, cx_143, en_143, rt_143, ry_aload_n, ry_arraylength, ev_ln, ev_pN, ry_astore_n, ry_bipush, ry_dup_i, ry_dup_r, ry_goto, ry_iadd, ry_iaload, ry_iand, ry_iconst, ry_icmp_eq, ry_icmp_gt, ry_iinc, ev_inc, ry_iload_n, ry_invi, ev_cs, ry_invv, ev_cv, ry_ireturn, ry_istore_n, ry_isub, ry_new, ry_tableswitch, kl_0, kl_9, kl_14, kl_15, kl_42, kl_43, kl_44, kl_46, kl_56, kl_58, kl_61, kl_62, kl_69, kl_80, kl_81, kl_82, kl_83, kl_86, kl_91, kl_93, kl_94, kl_97, kl_98, kl_113, kl_114, kl_115, kl_116, kl_121, kl_122, kl_123, kl_124, kl_125, kl_136, kl_137, kl_139, kl_140, kl_141, kl_142, ew_K, ev_pI, ev_pR, ev_pVi, ev_pVr, ev_sI, ev_sR, ew_KC, ev_k, ev_ko, ev_pop0, ev_pops, am_ld, am_sv, am_at, am_st, am_g, List.length_cons, List.length_nil, Nat.reduceAdd, Nat.reduceLT, Nat.zero_add, if_true, if_false, and_self, true_or, or_true, true_and, and_true, not_true_eq_false, not_false_eq_true, reduceCtorEq, eq_self, Option.toList_some, Option.toList_none, List.cons_append, List.nil_append, Bool.false_eq_true, hb, e1, ix0, hq, c1, c2, am_tn, ix1, a1, hkv, Nat.reduceLeDiff, or_self]
          refine bm_CL_of q1 ?_
          simp only [bm_R_eq, cx_143, en_143, rt_143, ry_aload_n, ry_arraylength, ev_ln, ev_pN, ry_astore_n, ry_bipush, ry_dup_i, ry_dup_r, ry_goto, ry_iadd, ry_iaload, ry_iand, ry_iconst, ry_icmp_eq, ry_icmp_gt, ry_iinc, ev_inc, ry_iload_n, ry_invi, ev_cs, ry_invv, ev_cv, ry_ireturn, ry_istore_n, ry_isub, ry_new, ry_tableswitch, kl_0, kl_9, kl_14, kl_15, kl_42, kl_43, kl_44, kl_46, kl_56, kl_58, kl_61, kl_62, kl_69, kl_80, kl_81, kl_82, kl_83, kl_86, kl_91, kl_93, kl_94, kl_97, kl_98, kl_113, kl_114, kl_115, kl_116, kl_121, kl_122, kl_123, kl_124, kl_125, kl_136, kl_137, kl_139, kl_140, kl_141, kl_142, ew_K, ev_pI, ev_pR, ev_pVi, ev_pVr, ev_sI, ev_sR, ew_KC, ev_k, ev_ko, ev_pop0, ev_pops, am_ld, am_sv, am_at, am_st, am_g, List.length_cons, List.length_nil, Nat.reduceAdd, Nat.reduceLT, Nat.zero_add, if_true, if_false, and_self, true_or, or_true, true_and, and_true, not_true_eq_false, not_false_eq_true, reduceCtorEq, eq_self, Option.toList_some, Option.toList_none, List.cons_append, List.nil_append, Bool.false_eq_true, q4, q5, ix1, a1, Nat.reduceLeDiff]
          refine bm_CL_of q2 ?_
          simp only [bm_R_eq, cx_143, en_143, rt_143, ry_aload_n, ry_arraylength, ev_ln, ev_pN, ry_astore_n, ry_bipush, ry_dup_i, ry_dup_r, ry_goto, ry_iadd, ry_iaload, ry_iand, ry_iconst, ry_icmp_eq, ry_icmp_gt, ry_iinc, ev_inc, ry_iload_n, ry_invi, ev_cs, ry_invv, ev_cv, ry_ireturn, ry_istore_n, ry_isub, ry_new, ry_tableswitch, kl_0, kl_9, kl_14, kl_15, kl_42, kl_43, kl_44, kl_46, kl_56, kl_58, kl_61, kl_62, kl_69, kl_80, kl_81, kl_82, kl_83, kl_86, kl_91, kl_93, kl_94, kl_97, kl_98, kl_113, kl_114, kl_115, kl_116, kl_121, kl_122, kl_123, kl_124, kl_125, kl_136, kl_137, kl_139, kl_140, kl_141, kl_142, ew_K, ev_pI, ev_pR, ev_pVi, ev_pVr, ev_sI, ev_sR, ew_KC, ev_k, ev_ko, ev_pop0, ev_pops, am_ld, am_sv, am_at, am_st, am_g, List.length_cons, List.length_nil, Nat.reduceAdd, Nat.reduceLT, Nat.zero_add, if_true, if_false, and_self, true_or, or_true, true_and, and_true, not_true_eq_false, not_false_eq_true, reduceCtorEq, eq_self, Option.toList_some, Option.toList_none, List.cons_append, List.nil_append, Bool.false_eq_true, a4]
          exact p1
        · subst h
          obtain ⟨r, h1, hv', hm', q1, q2, q3, q4, q5⟩ := lw_step (L := L) (xs := xs) hI (jo_crash hJ hs (xs (4 * st + 1)))
          obtain ⟨h', p1, p2, p3⟩ := ih (st + 1) hv' hm' (by omega) (by omega) q3
          refine ⟨h', ?_, p2, p3⟩
          have c1 := sw_n 10 (by omega)
          have c2 := sw_c 10 (by omega)
          rw [bm_R_eq] at p1
          rw [bm_R_eq, cxh_143_18]
          simp only [bm_R_eq, cx_143, en_143, rt_143, ry_aload_n, ry_arraylength, ev_ln, ev_pN, ry_astore_n, ry_bipush, ry_dup_i, ry_dup_r, ry_goto, ry_iadd, ry_iaload, ry_iand, ry_iconst, ry_icmp_eq, ry_icmp_gt, ry_iinc, ev_inc, ry_iload_n, ry_invi, ev_cs, ry_invv, ev_cv, ry_ireturn, ry_istore_n, ry_isub, ry_new, ry_tableswitch, kl_0, kl_9, kl_14, kl_15, kl_42, kl_43, kl_44, kl_46, kl_56, kl_58, kl_61, kl_62, kl_69, kl_80, kl_81, kl_82, kl_83, kl_86, kl_91, kl_93, kl_94, kl_97, kl_98, kl_113, kl_114, kl_115, kl_116, kl_121, kl_122, kl_123, kl_124, kl_125, kl_136, kl_137, kl_139, kl_140, kl_141, kl_142, ew_K, ev_pI, ev_pR, ev_pVi, ev_pVr, ev_sI, ev_sR, ew_KC, ev_k, ev_ko, ev_pop0, ev_pops, am_ld, am_sv, am_at, am_st, am_g, List.length_cons, List.length_nil, Nat.reduceAdd, Nat.reduceLT, Nat.zero_add, if_true, if_false, and_self, true_or, or_true, true_and, and_true, not_true_eq_false, not_false_eq_true, reduceCtorEq, eq_self, Option.toList_some, Option.toList_none, List.cons_append, List.nil_append, Bool.false_eq_true, hb, e1, ix0, hq, c1, c2, am_tn, ix1, a1, hkv, Nat.reduceLeDiff, or_self]
          refine bm_CL_of q1 ?_
          simp only [bm_R_eq, cx_143, en_143, rt_143, ry_aload_n, ry_arraylength, ev_ln, ev_pN, ry_astore_n, ry_bipush, ry_dup_i, ry_dup_r, ry_goto, ry_iadd, ry_iaload, ry_iand, ry_iconst, ry_icmp_eq, ry_icmp_gt, ry_iinc, ev_inc, ry_iload_n, ry_invi, ev_cs, ry_invv, ev_cv, ry_ireturn, ry_istore_n, ry_isub, ry_new, ry_tableswitch, kl_0, kl_9, kl_14, kl_15, kl_42, kl_43, kl_44, kl_46, kl_56, kl_58, kl_61, kl_62, kl_69, kl_80, kl_81, kl_82, kl_83, kl_86, kl_91, kl_93, kl_94, kl_97, kl_98, kl_113, kl_114, kl_115, kl_116, kl_121, kl_122, kl_123, kl_124, kl_125, kl_136, kl_137, kl_139, kl_140, kl_141, kl_142, ew_K, ev_pI, ev_pR, ev_pVi, ev_pVr, ev_sI, ev_sR, ew_KC, ev_k, ev_ko, ev_pop0, ev_pops, am_ld, am_sv, am_at, am_st, am_g, List.length_cons, List.length_nil, Nat.reduceAdd, Nat.reduceLT, Nat.zero_add, if_true, if_false, and_self, true_or, or_true, true_and, and_true, not_true_eq_false, not_false_eq_true, reduceCtorEq, eq_self, Option.toList_some, Option.toList_none, List.cons_append, List.nil_append, Bool.false_eq_true, q4, q5, ix1, a1, Nat.reduceLeDiff]
          refine bm_CL_of q2 ?_
          simp only [bm_R_eq, cx_143, en_143, rt_143, ry_aload_n, ry_arraylength, ev_ln, ev_pN, ry_astore_n, ry_bipush, ry_dup_i, ry_dup_r, ry_goto, ry_iadd, ry_iaload, ry_iand, ry_iconst, ry_icmp_eq, ry_icmp_gt, ry_iinc, ev_inc, ry_iload_n, ry_invi, ev_cs, ry_invv, ev_cv, ry_ireturn, ry_istore_n, ry_isub, ry_new, ry_tableswitch, kl_0, kl_9, kl_14, kl_15, kl_42, kl_43, kl_44, kl_46, kl_56, kl_58, kl_61, kl_62, kl_69, kl_80, kl_81, kl_82, kl_83, kl_86, kl_91, kl_93, kl_94, kl_97, kl_98, kl_113, kl_114, kl_115, kl_116, kl_121, kl_122, kl_123, kl_124, kl_125, kl_136, kl_137, kl_139, kl_140, kl_141, kl_142, ew_K, ev_pI, ev_pR, ev_pVi, ev_pVr, ev_sI, ev_sR, ew_KC, ev_k, ev_ko, ev_pop0, ev_pops, am_ld, am_sv, am_at, am_st, am_g, List.length_cons, List.length_nil, Nat.reduceAdd, Nat.reduceLT, Nat.zero_add, if_true, if_false, and_self, true_or, or_true, true_and, and_true, not_true_eq_false, not_false_eq_true, reduceCtorEq, eq_self, Option.toList_some, Option.toList_none, List.cons_append, List.nil_append, Bool.false_eq_true, a4]
          exact p1
        · subst h
          obtain ⟨r, h1, hv', hm', q1, q2, q3, q4, q5⟩ := lw_step (L := L) (xs := xs) hI (jo_hasget hJ hs (xs (4 * st + 1)) (xs (4 * st + 2))).1
          obtain ⟨h', p1, p2, p3⟩ := ih (st + 1) hv' hm' (by omega) (by omega) q3
          refine ⟨h', ?_, p2, p3⟩
          have c1 := sw_n 11 (by omega)
          have c2 := sw_c 11 (by omega)
          rw [bm_R_eq] at p1
          rw [bm_R_eq, cxh_143_18]
          simp only [bm_R_eq, cx_143, en_143, rt_143, ry_aload_n, ry_arraylength, ev_ln, ev_pN, ry_astore_n, ry_bipush, ry_dup_i, ry_dup_r, ry_goto, ry_iadd, ry_iaload, ry_iand, ry_iconst, ry_icmp_eq, ry_icmp_gt, ry_iinc, ev_inc, ry_iload_n, ry_invi, ev_cs, ry_invv, ev_cv, ry_ireturn, ry_istore_n, ry_isub, ry_new, ry_tableswitch, kl_0, kl_9, kl_14, kl_15, kl_42, kl_43, kl_44, kl_46, kl_56, kl_58, kl_61, kl_62, kl_69, kl_80, kl_81, kl_82, kl_83, kl_86, kl_91, kl_93, kl_94, kl_97, kl_98, kl_113, kl_114, kl_115, kl_116, kl_121, kl_122, kl_123, kl_124, kl_125, kl_136, kl_137, kl_139, kl_140, kl_141, kl_142, ew_K, ev_pI, ev_pR, ev_pVi, ev_pVr, ev_sI, ev_sR, ew_KC, ev_k, ev_ko, ev_pop0, ev_pops, am_ld, am_sv, am_at, am_st, am_g, List.length_cons, List.length_nil, Nat.reduceAdd, Nat.reduceLT, Nat.zero_add, if_true, if_false, and_self, true_or, or_true, true_and, and_true, not_true_eq_false, not_false_eq_true, reduceCtorEq, eq_self, Option.toList_some, Option.toList_none, List.cons_append, List.nil_append, Bool.false_eq_true, hb, e1, ix0, hq, c1, c2, am_tn, ix1, a1, ix2, a2, hkv, Nat.reduceLeDiff, or_self]
          refine bm_CL_of q1 ?_
          simp only [bm_R_eq, cx_143, en_143, rt_143, ry_aload_n, ry_arraylength, ev_ln, ev_pN, ry_astore_n, ry_bipush, ry_dup_i, ry_dup_r, ry_goto, ry_iadd, ry_iaload, ry_iand, ry_iconst, ry_icmp_eq, ry_icmp_gt, ry_iinc, ev_inc, ry_iload_n, ry_invi, ev_cs, ry_invv, ev_cv, ry_ireturn, ry_istore_n, ry_isub, ry_new, ry_tableswitch, kl_0, kl_9, kl_14, kl_15, kl_42, kl_43, kl_44, kl_46, kl_56, kl_58, kl_61, kl_62, kl_69, kl_80, kl_81, kl_82, kl_83, kl_86, kl_91, kl_93, kl_94, kl_97, kl_98, kl_113, kl_114, kl_115, kl_116, kl_121, kl_122, kl_123, kl_124, kl_125, kl_136, kl_137, kl_139, kl_140, kl_141, kl_142, ew_K, ev_pI, ev_pR, ev_pVi, ev_pVr, ev_sI, ev_sR, ew_KC, ev_k, ev_ko, ev_pop0, ev_pops, am_ld, am_sv, am_at, am_st, am_g, List.length_cons, List.length_nil, Nat.reduceAdd, Nat.reduceLT, Nat.zero_add, if_true, if_false, and_self, true_or, or_true, true_and, and_true, not_true_eq_false, not_false_eq_true, reduceCtorEq, eq_self, Option.toList_some, Option.toList_none, List.cons_append, List.nil_append, Bool.false_eq_true, q4, q5, ix1, a1, ix2, a2, Nat.reduceLeDiff]
          refine bm_CL_of q2 ?_
          simp only [bm_R_eq, cx_143, en_143, rt_143, ry_aload_n, ry_arraylength, ev_ln, ev_pN, ry_astore_n, ry_bipush, ry_dup_i, ry_dup_r, ry_goto, ry_iadd, ry_iaload, ry_iand, ry_iconst, ry_icmp_eq, ry_icmp_gt, ry_iinc, ev_inc, ry_iload_n, ry_invi, ev_cs, ry_invv, ev_cv, ry_ireturn, ry_istore_n, ry_isub, ry_new, ry_tableswitch, kl_0, kl_9, kl_14, kl_15, kl_42, kl_43, kl_44, kl_46, kl_56, kl_58, kl_61, kl_62, kl_69, kl_80, kl_81, kl_82, kl_83, kl_86, kl_91, kl_93, kl_94, kl_97, kl_98, kl_113, kl_114, kl_115, kl_116, kl_121, kl_122, kl_123, kl_124, kl_125, kl_136, kl_137, kl_139, kl_140, kl_141, kl_142, ew_K, ev_pI, ev_pR, ev_pVi, ev_pVr, ev_sI, ev_sR, ew_KC, ev_k, ev_ko, ev_pop0, ev_pops, am_ld, am_sv, am_at, am_st, am_g, List.length_cons, List.length_nil, Nat.reduceAdd, Nat.reduceLT, Nat.zero_add, if_true, if_false, and_self, true_or, or_true, true_and, and_true, not_true_eq_false, not_false_eq_true, reduceCtorEq, eq_self, Option.toList_some, Option.toList_none, List.cons_append, List.nil_append, Bool.false_eq_true, a4]
          exact p1
        · subst h
          obtain ⟨r, h1, hv', hm', q1, q2, q3, q4, q5⟩ := lw_step (L := L) (xs := xs) hI (jo_hasget hJ hs (xs (4 * st + 1)) (xs (4 * st + 2))).2
          obtain ⟨h', p1, p2, p3⟩ := ih (st + 1) hv' hm' (by omega) (by omega) q3
          refine ⟨h', ?_, p2, p3⟩
          have c1 := sw_n 12 (by omega)
          have c2 := sw_c 12 (by omega)
          rw [bm_R_eq] at p1
          rw [bm_R_eq, cxh_143_18]
          simp only [bm_R_eq, cx_143, en_143, rt_143, ry_aload_n, ry_arraylength, ev_ln, ev_pN, ry_astore_n, ry_bipush, ry_dup_i, ry_dup_r, ry_goto, ry_iadd, ry_iaload, ry_iand, ry_iconst, ry_icmp_eq, ry_icmp_gt, ry_iinc, ev_inc, ry_iload_n, ry_invi, ev_cs, ry_invv, ev_cv, ry_ireturn, ry_istore_n, ry_isub, ry_new, ry_tableswitch, kl_0, kl_9, kl_14, kl_15, kl_42, kl_43, kl_44, kl_46, kl_56, kl_58, kl_61, kl_62, kl_69, kl_80, kl_81, kl_82, kl_83, kl_86, kl_91, kl_93, kl_94, kl_97, kl_98, kl_113, kl_114, kl_115, kl_116, kl_121, kl_122, kl_123, kl_124, kl_125, kl_136, kl_137, kl_139, kl_140, kl_141, kl_142, ew_K, ev_pI, ev_pR, ev_pVi, ev_pVr, ev_sI, ev_sR, ew_KC, ev_k, ev_ko, ev_pop0, ev_pops, am_ld, am_sv, am_at, am_st, am_g, List.length_cons, List.length_nil, Nat.reduceAdd, Nat.reduceLT, Nat.zero_add, if_true, if_false, and_self, true_or, or_true, true_and, and_true, not_true_eq_false, not_false_eq_true, reduceCtorEq, eq_self, Option.toList_some, Option.toList_none, List.cons_append, List.nil_append, Bool.false_eq_true, hb, e1, ix0, hq, c1, c2, am_tn, ix1, a1, ix2, a2, hkv, Nat.reduceLeDiff, or_self]
          refine bm_CL_of q1 ?_
          simp only [bm_R_eq, cx_143, en_143, rt_143, ry_aload_n, ry_arraylength, ev_ln, ev_pN, ry_astore_n, ry_bipush, ry_dup_i, ry_dup_r, ry_goto, ry_iadd, ry_iaload, ry_iand, ry_iconst, ry_icmp_eq, ry_icmp_gt, ry_iinc, ev_inc, ry_iload_n, ry_invi, ev_cs, ry_invv, ev_cv, ry_ireturn, ry_istore_n, ry_isub, ry_new, ry_tableswitch, kl_0, kl_9, kl_14, kl_15, kl_42, kl_43, kl_44, kl_46, kl_56, kl_58, kl_61, kl_62, kl_69, kl_80, kl_81, kl_82, kl_83, kl_86, kl_91, kl_93, kl_94, kl_97, kl_98, kl_113, kl_114, kl_115, kl_116, kl_121, kl_122, kl_123, kl_124, kl_125, kl_136, kl_137, kl_139, kl_140, kl_141, kl_142, ew_K, ev_pI, ev_pR, ev_pVi, ev_pVr, ev_sI, ev_sR, ew_KC, ev_k, ev_ko, ev_pop0, ev_pops, am_ld, am_sv, am_at, am_st, am_g, List.length_cons, List.length_nil, Nat.reduceAdd, Nat.reduceLT, Nat.zero_add, if_true, if_false, and_self, true_or, or_true, true_and, and_true, not_true_eq_false, not_false_eq_true, reduceCtorEq, eq_self, Option.toList_some, Option.toList_none, List.cons_append, List.nil_append, Bool.false_eq_true, q4, q5, ix1, a1, ix2, a2, Nat.reduceLeDiff]
          refine bm_CL_of q2 ?_
          simp only [bm_R_eq, cx_143, en_143, rt_143, ry_aload_n, ry_arraylength, ev_ln, ev_pN, ry_astore_n, ry_bipush, ry_dup_i, ry_dup_r, ry_goto, ry_iadd, ry_iaload, ry_iand, ry_iconst, ry_icmp_eq, ry_icmp_gt, ry_iinc, ev_inc, ry_iload_n, ry_invi, ev_cs, ry_invv, ev_cv, ry_ireturn, ry_istore_n, ry_isub, ry_new, ry_tableswitch, kl_0, kl_9, kl_14, kl_15, kl_42, kl_43, kl_44, kl_46, kl_56, kl_58, kl_61, kl_62, kl_69, kl_80, kl_81, kl_82, kl_83, kl_86, kl_91, kl_93, kl_94, kl_97, kl_98, kl_113, kl_114, kl_115, kl_116, kl_121, kl_122, kl_123, kl_124, kl_125, kl_136, kl_137, kl_139, kl_140, kl_141, kl_142, ew_K, ev_pI, ev_pR, ev_pVi, ev_pVr, ev_sI, ev_sR, ew_KC, ev_k, ev_ko, ev_pop0, ev_pops, am_ld, am_sv, am_at, am_st, am_g, List.length_cons, List.length_nil, Nat.reduceAdd, Nat.reduceLT, Nat.zero_add, if_true, if_false, and_self, true_or, or_true, true_and, and_true, not_true_eq_false, not_false_eq_true, reduceCtorEq, eq_self, Option.toList_some, Option.toList_none, List.cons_append, List.nil_append, Bool.false_eq_true, a4]
          exact p1
        · subst h
          obtain ⟨r, h1, hv', hm', q1, q2, q3, q4, q5⟩ := lw_step (L := L) (xs := xs) hI (jo_scan hJ hs (xs (4 * st + 1)) (xs (4 * st + 2)) (xs (4 * st + 3)))
          obtain ⟨h', p1, p2, p3⟩ := ih (st + 1) hv' hm' (by omega) (by omega) q3
          refine ⟨h', ?_, p2, p3⟩
          have c1 := sw_n 13 (by omega)
          have c2 := sw_c 13 (by omega)
          rw [bm_R_eq] at p1
          rw [bm_R_eq, cxh_143_18]
          simp only [bm_R_eq, cx_143, en_143, rt_143, ry_aload_n, ry_arraylength, ev_ln, ev_pN, ry_astore_n, ry_bipush, ry_dup_i, ry_dup_r, ry_goto, ry_iadd, ry_iaload, ry_iand, ry_iconst, ry_icmp_eq, ry_icmp_gt, ry_iinc, ev_inc, ry_iload_n, ry_invi, ev_cs, ry_invv, ev_cv, ry_ireturn, ry_istore_n, ry_isub, ry_new, ry_tableswitch, kl_0, kl_9, kl_14, kl_15, kl_42, kl_43, kl_44, kl_46, kl_56, kl_58, kl_61, kl_62, kl_69, kl_80, kl_81, kl_82, kl_83, kl_86, kl_91, kl_93, kl_94, kl_97, kl_98, kl_113, kl_114, kl_115, kl_116, kl_121, kl_122, kl_123, kl_124, kl_125, kl_136, kl_137, kl_139, kl_140, kl_141, kl_142, ew_K, ev_pI, ev_pR, ev_pVi, ev_pVr, ev_sI, ev_sR, ew_KC, ev_k, ev_ko, ev_pop0, ev_pops, am_ld, am_sv, am_at, am_st, am_g, List.length_cons, List.length_nil, Nat.reduceAdd, Nat.reduceLT, Nat.zero_add, if_true, if_false, and_self, true_or, or_true, true_and, and_true, not_true_eq_false, not_false_eq_true, reduceCtorEq, eq_self, Option.toList_some, Option.toList_none, List.cons_append, List.nil_append, Bool.false_eq_true, hb, e1, ix0, hq, c1, c2, am_tn, ix1, a1, ix2, a2, ix3, a3, hkv, Nat.reduceLeDiff, or_self]
          refine bm_CL_of q1 ?_
          simp only [bm_R_eq, cx_143, en_143, rt_143, ry_aload_n, ry_arraylength, ev_ln, ev_pN, ry_astore_n, ry_bipush, ry_dup_i, ry_dup_r, ry_goto, ry_iadd, ry_iaload, ry_iand, ry_iconst, ry_icmp_eq, ry_icmp_gt, ry_iinc, ev_inc, ry_iload_n, ry_invi, ev_cs, ry_invv, ev_cv, ry_ireturn, ry_istore_n, ry_isub, ry_new, ry_tableswitch, kl_0, kl_9, kl_14, kl_15, kl_42, kl_43, kl_44, kl_46, kl_56, kl_58, kl_61, kl_62, kl_69, kl_80, kl_81, kl_82, kl_83, kl_86, kl_91, kl_93, kl_94, kl_97, kl_98, kl_113, kl_114, kl_115, kl_116, kl_121, kl_122, kl_123, kl_124, kl_125, kl_136, kl_137, kl_139, kl_140, kl_141, kl_142, ew_K, ev_pI, ev_pR, ev_pVi, ev_pVr, ev_sI, ev_sR, ew_KC, ev_k, ev_ko, ev_pop0, ev_pops, am_ld, am_sv, am_at, am_st, am_g, List.length_cons, List.length_nil, Nat.reduceAdd, Nat.reduceLT, Nat.zero_add, if_true, if_false, and_self, true_or, or_true, true_and, and_true, not_true_eq_false, not_false_eq_true, reduceCtorEq, eq_self, Option.toList_some, Option.toList_none, List.cons_append, List.nil_append, Bool.false_eq_true, q4, q5, ix1, a1, ix2, a2, ix3, a3, Nat.reduceLeDiff]
          refine bm_CL_of q2 ?_
          simp only [bm_R_eq, cx_143, en_143, rt_143, ry_aload_n, ry_arraylength, ev_ln, ev_pN, ry_astore_n, ry_bipush, ry_dup_i, ry_dup_r, ry_goto, ry_iadd, ry_iaload, ry_iand, ry_iconst, ry_icmp_eq, ry_icmp_gt, ry_iinc, ev_inc, ry_iload_n, ry_invi, ev_cs, ry_invv, ev_cv, ry_ireturn, ry_istore_n, ry_isub, ry_new, ry_tableswitch, kl_0, kl_9, kl_14, kl_15, kl_42, kl_43, kl_44, kl_46, kl_56, kl_58, kl_61, kl_62, kl_69, kl_80, kl_81, kl_82, kl_83, kl_86, kl_91, kl_93, kl_94, kl_97, kl_98, kl_113, kl_114, kl_115, kl_116, kl_121, kl_122, kl_123, kl_124, kl_125, kl_136, kl_137, kl_139, kl_140, kl_141, kl_142, ew_K, ev_pI, ev_pR, ev_pVi, ev_pVr, ev_sI, ev_sR, ew_KC, ev_k, ev_ko, ev_pop0, ev_pops, am_ld, am_sv, am_at, am_st, am_g, List.length_cons, List.length_nil, Nat.reduceAdd, Nat.reduceLT, Nat.zero_add, if_true, if_false, and_self, true_or, or_true, true_and, and_true, not_true_eq_false, not_false_eq_true, reduceCtorEq, eq_self, Option.toList_some, Option.toList_none, List.cons_append, List.nil_append, Bool.false_eq_true, a4]
          exact p1
        · subst h
          obtain ⟨r, h1, hv', hm', q1, q2, q3, q4, q5⟩ := lw_step (L := L) (xs := xs) hI (jo_probes hJ hs )
          obtain ⟨h', p1, p2, p3⟩ := ih (st + 1) hv' hm' (by omega) (by omega) q3
          refine ⟨h', ?_, p2, p3⟩
          have c1 := sw_n 14 (by omega)
          have c2 := sw_c 14 (by omega)
          rw [bm_R_eq] at p1
          rw [bm_R_eq, cxh_143_18]
          simp only [bm_R_eq, cx_143, en_143, rt_143, ry_aload_n, ry_arraylength, ev_ln, ev_pN, ry_astore_n, ry_bipush, ry_dup_i, ry_dup_r, ry_goto, ry_iadd, ry_iaload, ry_iand, ry_iconst, ry_icmp_eq, ry_icmp_gt, ry_iinc, ev_inc, ry_iload_n, ry_invi, ev_cs, ry_invv, ev_cv, ry_ireturn, ry_istore_n, ry_isub, ry_new, ry_tableswitch, kl_0, kl_9, kl_14, kl_15, kl_42, kl_43, kl_44, kl_46, kl_56, kl_58, kl_61, kl_62, kl_69, kl_80, kl_81, kl_82, kl_83, kl_86, kl_91, kl_93, kl_94, kl_97, kl_98, kl_113, kl_114, kl_115, kl_116, kl_121, kl_122, kl_123, kl_124, kl_125, kl_136, kl_137, kl_139, kl_140, kl_141, kl_142, ew_K, ev_pI, ev_pR, ev_pVi, ev_pVr, ev_sI, ev_sR, ew_KC, ev_k, ev_ko, ev_pop0, ev_pops, am_ld, am_sv, am_at, am_st, am_g, List.length_cons, List.length_nil, Nat.reduceAdd, Nat.reduceLT, Nat.zero_add, if_true, if_false, and_self, true_or, or_true, true_and, and_true, not_true_eq_false, not_false_eq_true, reduceCtorEq, eq_self, Option.toList_some, Option.toList_none, List.cons_append, List.nil_append, Bool.false_eq_true, hb, e1, ix0, hq, c1, c2, am_tn, hkv, Nat.reduceLeDiff, or_self]
          refine bm_CL_of q1 ?_
          simp only [bm_R_eq, cx_143, en_143, rt_143, ry_aload_n, ry_arraylength, ev_ln, ev_pN, ry_astore_n, ry_bipush, ry_dup_i, ry_dup_r, ry_goto, ry_iadd, ry_iaload, ry_iand, ry_iconst, ry_icmp_eq, ry_icmp_gt, ry_iinc, ev_inc, ry_iload_n, ry_invi, ev_cs, ry_invv, ev_cv, ry_ireturn, ry_istore_n, ry_isub, ry_new, ry_tableswitch, kl_0, kl_9, kl_14, kl_15, kl_42, kl_43, kl_44, kl_46, kl_56, kl_58, kl_61, kl_62, kl_69, kl_80, kl_81, kl_82, kl_83, kl_86, kl_91, kl_93, kl_94, kl_97, kl_98, kl_113, kl_114, kl_115, kl_116, kl_121, kl_122, kl_123, kl_124, kl_125, kl_136, kl_137, kl_139, kl_140, kl_141, kl_142, ew_K, ev_pI, ev_pR, ev_pVi, ev_pVr, ev_sI, ev_sR, ew_KC, ev_k, ev_ko, ev_pop0, ev_pops, am_ld, am_sv, am_at, am_st, am_g, List.length_cons, List.length_nil, Nat.reduceAdd, Nat.reduceLT, Nat.zero_add, if_true, if_false, and_self, true_or, or_true, true_and, and_true, not_true_eq_false, not_false_eq_true, reduceCtorEq, eq_self, Option.toList_some, Option.toList_none, List.cons_append, List.nil_append, Bool.false_eq_true, q4, q5, Nat.reduceLeDiff]
          refine bm_CL_of q2 ?_
          simp only [bm_R_eq, cx_143, en_143, rt_143, ry_aload_n, ry_arraylength, ev_ln, ev_pN, ry_astore_n, ry_bipush, ry_dup_i, ry_dup_r, ry_goto, ry_iadd, ry_iaload, ry_iand, ry_iconst, ry_icmp_eq, ry_icmp_gt, ry_iinc, ev_inc, ry_iload_n, ry_invi, ev_cs, ry_invv, ev_cv, ry_ireturn, ry_istore_n, ry_isub, ry_new, ry_tableswitch, kl_0, kl_9, kl_14, kl_15, kl_42, kl_43, kl_44, kl_46, kl_56, kl_58, kl_61, kl_62, kl_69, kl_80, kl_81, kl_82, kl_83, kl_86, kl_91, kl_93, kl_94, kl_97, kl_98, kl_113, kl_114, kl_115, kl_116, kl_121, kl_122, kl_123, kl_124, kl_125, kl_136, kl_137, kl_139, kl_140, kl_141, kl_142, ew_K, ev_pI, ev_pR, ev_pVi, ev_pVr, ev_sI, ev_sR, ew_KC, ev_k, ev_ko, ev_pop0, ev_pops, am_ld, am_sv, am_at, am_st, am_g, List.length_cons, List.length_nil, Nat.reduceAdd, Nat.reduceLT, Nat.zero_add, if_true, if_false, and_self, true_or, or_true, true_and, and_true, not_true_eq_false, not_false_eq_true, reduceCtorEq, eq_self, Option.toList_some, Option.toList_none, List.cons_append, List.nil_append, Bool.false_eq_true, a4]
          exact p1
        · subst h
          obtain ⟨r, h1, hv', hm', q1, q2, q3, q4, q5⟩ := lw_step (L := L) (xs := xs) hI (jo_table hJ hs (xs (4 * st + 1)) (xs (4 * st + 2)) (xs (4 * st + 3)))
          obtain ⟨h', p1, p2, p3⟩ := ih (st + 1) hv' hm' (by omega) (by omega) q3
          refine ⟨h', ?_, p2, p3⟩
          have c1 := sw_n 15 (by omega)
          have c2 := sw_c 15 (by omega)
          rw [bm_R_eq] at p1
          rw [bm_R_eq, cxh_143_18]
          simp only [bm_R_eq, cx_143, en_143, rt_143, ry_aload_n, ry_arraylength, ev_ln, ev_pN, ry_astore_n, ry_bipush, ry_dup_i, ry_dup_r, ry_goto, ry_iadd, ry_iaload, ry_iand, ry_iconst, ry_icmp_eq, ry_icmp_gt, ry_iinc, ev_inc, ry_iload_n, ry_invi, ev_cs, ry_invv, ev_cv, ry_ireturn, ry_istore_n, ry_isub, ry_new, ry_tableswitch, kl_0, kl_9, kl_14, kl_15, kl_42, kl_43, kl_44, kl_46, kl_56, kl_58, kl_61, kl_62, kl_69, kl_80, kl_81, kl_82, kl_83, kl_86, kl_91, kl_93, kl_94, kl_97, kl_98, kl_113, kl_114, kl_115, kl_116, kl_121, kl_122, kl_123, kl_124, kl_125, kl_136, kl_137, kl_139, kl_140, kl_141, kl_142, ew_K, ev_pI, ev_pR, ev_pVi, ev_pVr, ev_sI, ev_sR, ew_KC, ev_k, ev_ko, ev_pop0, ev_pops, am_ld, am_sv, am_at, am_st, am_g, List.length_cons, List.length_nil, Nat.reduceAdd, Nat.reduceLT, Nat.zero_add, if_true, if_false, and_self, true_or, or_true, true_and, and_true, not_true_eq_false, not_false_eq_true, reduceCtorEq, eq_self, Option.toList_some, Option.toList_none, List.cons_append, List.nil_append, Bool.false_eq_true, hb, e1, ix0, hq, c1, c2, am_tn, ix1, a1, ix2, a2, ix3, a3, hkv, Nat.reduceLeDiff, or_self]
          refine bm_CL_of q1 ?_
          simp only [bm_R_eq, cx_143, en_143, rt_143, ry_aload_n, ry_arraylength, ev_ln, ev_pN, ry_astore_n, ry_bipush, ry_dup_i, ry_dup_r, ry_goto, ry_iadd, ry_iaload, ry_iand, ry_iconst, ry_icmp_eq, ry_icmp_gt, ry_iinc, ev_inc, ry_iload_n, ry_invi, ev_cs, ry_invv, ev_cv, ry_ireturn, ry_istore_n, ry_isub, ry_new, ry_tableswitch, kl_0, kl_9, kl_14, kl_15, kl_42, kl_43, kl_44, kl_46, kl_56, kl_58, kl_61, kl_62, kl_69, kl_80, kl_81, kl_82, kl_83, kl_86, kl_91, kl_93, kl_94, kl_97, kl_98, kl_113, kl_114, kl_115, kl_116, kl_121, kl_122, kl_123, kl_124, kl_125, kl_136, kl_137, kl_139, kl_140, kl_141, kl_142, ew_K, ev_pI, ev_pR, ev_pVi, ev_pVr, ev_sI, ev_sR, ew_KC, ev_k, ev_ko, ev_pop0, ev_pops, am_ld, am_sv, am_at, am_st, am_g, List.length_cons, List.length_nil, Nat.reduceAdd, Nat.reduceLT, Nat.zero_add, if_true, if_false, and_self, true_or, or_true, true_and, and_true, not_true_eq_false, not_false_eq_true, reduceCtorEq, eq_self, Option.toList_some, Option.toList_none, List.cons_append, List.nil_append, Bool.false_eq_true, q4, q5, ix1, a1, ix2, a2, ix3, a3, Nat.reduceLeDiff]
          refine bm_CL_of q2 ?_
          simp only [bm_R_eq, cx_143, en_143, rt_143, ry_aload_n, ry_arraylength, ev_ln, ev_pN, ry_astore_n, ry_bipush, ry_dup_i, ry_dup_r, ry_goto, ry_iadd, ry_iaload, ry_iand, ry_iconst, ry_icmp_eq, ry_icmp_gt, ry_iinc, ev_inc, ry_iload_n, ry_invi, ev_cs, ry_invv, ev_cv, ry_ireturn, ry_istore_n, ry_isub, ry_new, ry_tableswitch, kl_0, kl_9, kl_14, kl_15, kl_42, kl_43, kl_44, kl_46, kl_56, kl_58, kl_61, kl_62, kl_69, kl_80, kl_81, kl_82, kl_83, kl_86, kl_91, kl_93, kl_94, kl_97, kl_98, kl_113, kl_114, kl_115, kl_116, kl_121, kl_122, kl_123, kl_124, kl_125, kl_136, kl_137, kl_139, kl_140, kl_141, kl_142, ew_K, ev_pI, ev_pR, ev_pVi, ev_pVr, ev_sI, ev_sR, ew_KC, ev_k, ev_ko, ev_pop0, ev_pops, am_ld, am_sv, am_at, am_st, am_g, List.length_cons, List.length_nil, Nat.reduceAdd, Nat.reduceLT, Nat.zero_add, if_true, if_false, and_self, true_or, or_true, true_and, and_true, not_true_eq_false, not_false_eq_true, reduceCtorEq, eq_self, Option.toList_some, Option.toList_none, List.cons_append, List.nil_append, Bool.false_eq_true, a4]
          exact p1
        · subst h
          obtain ⟨r, h1, hv', hm', q1, q2, q3, q4, q5⟩ := lw_step (L := L) (xs := xs) hI (jo_segment hJ hs (xs (4 * st + 1)) (xs (4 * st + 2)))
          obtain ⟨h', p1, p2, p3⟩ := ih (st + 1) hv' hm' (by omega) (by omega) q3
          refine ⟨h', ?_, p2, p3⟩
          have c1 := sw_n 16 (by omega)
          have c2 := sw_c 16 (by omega)
          rw [bm_R_eq] at p1
          rw [bm_R_eq, cxh_143_18]
          simp only [bm_R_eq, cx_143, en_143, rt_143, ry_aload_n, ry_arraylength, ev_ln, ev_pN, ry_astore_n, ry_bipush, ry_dup_i, ry_dup_r, ry_goto, ry_iadd, ry_iaload, ry_iand, ry_iconst, ry_icmp_eq, ry_icmp_gt, ry_iinc, ev_inc, ry_iload_n, ry_invi, ev_cs, ry_invv, ev_cv, ry_ireturn, ry_istore_n, ry_isub, ry_new, ry_tableswitch, kl_0, kl_9, kl_14, kl_15, kl_42, kl_43, kl_44, kl_46, kl_56, kl_58, kl_61, kl_62, kl_69, kl_80, kl_81, kl_82, kl_83, kl_86, kl_91, kl_93, kl_94, kl_97, kl_98, kl_113, kl_114, kl_115, kl_116, kl_121, kl_122, kl_123, kl_124, kl_125, kl_136, kl_137, kl_139, kl_140, kl_141, kl_142, ew_K, ev_pI, ev_pR, ev_pVi, ev_pVr, ev_sI, ev_sR, ew_KC, ev_k, ev_ko, ev_pop0, ev_pops, am_ld, am_sv, am_at, am_st, am_g, List.length_cons, List.length_nil, Nat.reduceAdd, Nat.reduceLT, Nat.zero_add, if_true, if_false, and_self, true_or, or_true, true_and, and_true, not_true_eq_false, not_false_eq_true, reduceCtorEq, eq_self, Option.toList_some, Option.toList_none, List.cons_append, List.nil_append, Bool.false_eq_true, hb, e1, ix0, hq, c1, c2, am_tn, ix1, a1, ix2, a2, hkv, Nat.reduceLeDiff, or_self]
          refine bm_CL_of q1 ?_
          simp only [bm_R_eq, cx_143, en_143, rt_143, ry_aload_n, ry_arraylength, ev_ln, ev_pN, ry_astore_n, ry_bipush, ry_dup_i, ry_dup_r, ry_goto, ry_iadd, ry_iaload, ry_iand, ry_iconst, ry_icmp_eq, ry_icmp_gt, ry_iinc, ev_inc, ry_iload_n, ry_invi, ev_cs, ry_invv, ev_cv, ry_ireturn, ry_istore_n, ry_isub, ry_new, ry_tableswitch, kl_0, kl_9, kl_14, kl_15, kl_42, kl_43, kl_44, kl_46, kl_56, kl_58, kl_61, kl_62, kl_69, kl_80, kl_81, kl_82, kl_83, kl_86, kl_91, kl_93, kl_94, kl_97, kl_98, kl_113, kl_114, kl_115, kl_116, kl_121, kl_122, kl_123, kl_124, kl_125, kl_136, kl_137, kl_139, kl_140, kl_141, kl_142, ew_K, ev_pI, ev_pR, ev_pVi, ev_pVr, ev_sI, ev_sR, ew_KC, ev_k, ev_ko, ev_pop0, ev_pops, am_ld, am_sv, am_at, am_st, am_g, List.length_cons, List.length_nil, Nat.reduceAdd, Nat.reduceLT, Nat.zero_add, if_true, if_false, and_self, true_or, or_true, true_and, and_true, not_true_eq_false, not_false_eq_true, reduceCtorEq, eq_self, Option.toList_some, Option.toList_none, List.cons_append, List.nil_append, Bool.false_eq_true, q4, q5, ix1, a1, ix2, a2, Nat.reduceLeDiff]
          refine bm_CL_of q2 ?_
          simp only [bm_R_eq, cx_143, en_143, rt_143, ry_aload_n, ry_arraylength, ev_ln, ev_pN, ry_astore_n, ry_bipush, ry_dup_i, ry_dup_r, ry_goto, ry_iadd, ry_iaload, ry_iand, ry_iconst, ry_icmp_eq, ry_icmp_gt, ry_iinc, ev_inc, ry_iload_n, ry_invi, ev_cs, ry_invv, ev_cv, ry_ireturn, ry_istore_n, ry_isub, ry_new, ry_tableswitch, kl_0, kl_9, kl_14, kl_15, kl_42, kl_43, kl_44, kl_46, kl_56, kl_58, kl_61, kl_62, kl_69, kl_80, kl_81, kl_82, kl_83, kl_86, kl_91, kl_93, kl_94, kl_97, kl_98, kl_113, kl_114, kl_115, kl_116, kl_121, kl_122, kl_123, kl_124, kl_125, kl_136, kl_137, kl_139, kl_140, kl_141, kl_142, ew_K, ev_pI, ev_pR, ev_pVi, ev_pVr, ev_sI, ev_sR, ew_KC, ev_k, ev_ko, ev_pop0, ev_pops, am_ld, am_sv, am_at, am_st, am_g, List.length_cons, List.length_nil, Nat.reduceAdd, Nat.reduceLT, Nat.zero_add, if_true, if_false, and_self, true_or, or_true, true_and, and_true, not_true_eq_false, not_false_eq_true, reduceCtorEq, eq_self, Option.toList_some, Option.toList_none, List.cons_append, List.nil_append, Bool.false_eq_true, a4]
          exact p1
        · subst h
          obtain ⟨r, h1, hv', hm', q1, q2, q3, q4, q5⟩ := lw_step (L := L) (xs := xs) hI (jo_look hJ hs (xs (4 * st + 1)))
          obtain ⟨h', p1, p2, p3⟩ := ih (st + 1) hv' hm' (by omega) (by omega) q3
          refine ⟨h', ?_, p2, p3⟩
          have c1 := sw_n 17 (by omega)
          have c2 := sw_c 17 (by omega)
          rw [bm_R_eq] at p1
          rw [bm_R_eq, cxh_143_18]
          simp only [bm_R_eq, cx_143, en_143, rt_143, ry_aload_n, ry_arraylength, ev_ln, ev_pN, ry_astore_n, ry_bipush, ry_dup_i, ry_dup_r, ry_goto, ry_iadd, ry_iaload, ry_iand, ry_iconst, ry_icmp_eq, ry_icmp_gt, ry_iinc, ev_inc, ry_iload_n, ry_invi, ev_cs, ry_invv, ev_cv, ry_ireturn, ry_istore_n, ry_isub, ry_new, ry_tableswitch, kl_0, kl_9, kl_14, kl_15, kl_42, kl_43, kl_44, kl_46, kl_56, kl_58, kl_61, kl_62, kl_69, kl_80, kl_81, kl_82, kl_83, kl_86, kl_91, kl_93, kl_94, kl_97, kl_98, kl_113, kl_114, kl_115, kl_116, kl_121, kl_122, kl_123, kl_124, kl_125, kl_136, kl_137, kl_139, kl_140, kl_141, kl_142, ew_K, ev_pI, ev_pR, ev_pVi, ev_pVr, ev_sI, ev_sR, ew_KC, ev_k, ev_ko, ev_pop0, ev_pops, am_ld, am_sv, am_at, am_st, am_g, List.length_cons, List.length_nil, Nat.reduceAdd, Nat.reduceLT, Nat.zero_add, if_true, if_false, and_self, true_or, or_true, true_and, and_true, not_true_eq_false, not_false_eq_true, reduceCtorEq, eq_self, Option.toList_some, Option.toList_none, List.cons_append, List.nil_append, Bool.false_eq_true, hb, e1, ix0, hq, c1, c2, am_tn, ix1, a1, hkv, Nat.reduceLeDiff, or_self]
          refine bm_CL_of q1 ?_
          simp only [bm_R_eq, cx_143, en_143, rt_143, ry_aload_n, ry_arraylength, ev_ln, ev_pN, ry_astore_n, ry_bipush, ry_dup_i, ry_dup_r, ry_goto, ry_iadd, ry_iaload, ry_iand, ry_iconst, ry_icmp_eq, ry_icmp_gt, ry_iinc, ev_inc, ry_iload_n, ry_invi, ev_cs, ry_invv, ev_cv, ry_ireturn, ry_istore_n, ry_isub, ry_new, ry_tableswitch, kl_0, kl_9, kl_14, kl_15, kl_42, kl_43, kl_44, kl_46, kl_56, kl_58, kl_61, kl_62, kl_69, kl_80, kl_81, kl_82, kl_83, kl_86, kl_91, kl_93, kl_94, kl_97, kl_98, kl_113, kl_114, kl_115, kl_116, kl_121, kl_122, kl_123, kl_124, kl_125, kl_136, kl_137, kl_139, kl_140, kl_141, kl_142, ew_K, ev_pI, ev_pR, ev_pVi, ev_pVr, ev_sI, ev_sR, ew_KC, ev_k, ev_ko, ev_pop0, ev_pops, am_ld, am_sv, am_at, am_st, am_g, List.length_cons, List.length_nil, Nat.reduceAdd, Nat.reduceLT, Nat.zero_add, if_true, if_false, and_self, true_or, or_true, true_and, and_true, not_true_eq_false, not_false_eq_true, reduceCtorEq, eq_self, Option.toList_some, Option.toList_none, List.cons_append, List.nil_append, Bool.false_eq_true, q4, q5, ix1, a1, Nat.reduceLeDiff]
          refine bm_CL_of q2 ?_
          simp only [bm_R_eq, cx_143, en_143, rt_143, ry_aload_n, ry_arraylength, ev_ln, ev_pN, ry_astore_n, ry_bipush, ry_dup_i, ry_dup_r, ry_goto, ry_iadd, ry_iaload, ry_iand, ry_iconst, ry_icmp_eq, ry_icmp_gt, ry_iinc, ev_inc, ry_iload_n, ry_invi, ev_cs, ry_invv, ev_cv, ry_ireturn, ry_istore_n, ry_isub, ry_new, ry_tableswitch, kl_0, kl_9, kl_14, kl_15, kl_42, kl_43, kl_44, kl_46, kl_56, kl_58, kl_61, kl_62, kl_69, kl_80, kl_81, kl_82, kl_83, kl_86, kl_91, kl_93, kl_94, kl_97, kl_98, kl_113, kl_114, kl_115, kl_116, kl_121, kl_122, kl_123, kl_124, kl_125, kl_136, kl_137, kl_139, kl_140, kl_141, kl_142, ew_K, ev_pI, ev_pR, ev_pVi, ev_pVr, ev_sI, ev_sR, ew_KC, ev_k, ev_ko, ev_pop0, ev_pops, am_ld, am_sv, am_at, am_st, am_g, List.length_cons, List.length_nil, Nat.reduceAdd, Nat.reduceLT, Nat.zero_add, if_true, if_false, and_self, true_or, or_true, true_and, and_true, not_true_eq_false, not_false_eq_true, reduceCtorEq, eq_self, Option.toList_some, Option.toList_none, List.cons_append, List.nil_append, Bool.false_eq_true, a4]
          exact p1
end LWL
