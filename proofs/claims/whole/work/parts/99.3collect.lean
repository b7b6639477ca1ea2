section KCX
theorem k_collN {F : Nat → Nat → Int32} {tk tk' : Nat → Nat} {n tl cn : Nat} (hC : k_C F tk n tl cn) (hL : k_lgF F tk tl cn) (hlv : ∀ i, i < n → m_lv F (nI tl) i = false) (hcn : 2 ≤ cn) (htl : tl + 1 < 5000) (htk : ∀ i, i < cn - 1 → tk' i = tk (i + 1)) : k_C F tk' n (tl + 1) (cn - 1) ∧ k_lgF F tk' (tl + 1) (cn - 1) := by
  obtain ⟨c1, c2, c3, c4, c5, c6⟩ := hC
  refine ⟨⟨fun i hi h3 => ?_, c2, fun k hk => ?_, by omega, by omega, htl⟩, fun k hk => ?_⟩
  · obtain ⟨sg, ce, q1, q2, q3, q4, q5, q6⟩ := c1 i hi h3
    have hne : sg ≠ tl := by
      intro h
      have := hlv i hi.1
      rw [(m_lv_iff F (nI tl) i).mpr ⟨hi.2, h3, by rw [q1, h]⟩] at this
      cases this
    refine ⟨sg, ce, q1, q2, by omega, by omega, q5, ?_⟩
    rw [htk _ (by omega)]
    have : sg - (tl + 1) + 1 = sg - tl := by omega
    rw [this]; exact q6
  · rw [htk k hk]; exact c3 _ (by omega)
  · rw [htk k hk]
    have : tl + 1 + k = tl + (k + 1) := by omega
    rw [this]; exact hL (k + 1) (by omega)
variable {z : Nat} {hv hm : am_H}
theorem k_collect {st xm : Nat} {ad : Nat → Nat} {tt rr aa : Nat → Nat → Nat} {R : Nat → List Nat} {C : Nat → Nat → List Nat} {fl : Nat → Nat → Int32} {c : Nat → Nat} {tk cb tb sb g : Nat → Nat} {S : Nat → Int32} {En : Nat → Prop} {E : Nat → Nat → Int32} {v : Nat → Int32} {A : Nat → Nat} {w : Nat → Int32} {F : Nat → Nat → Int32} {p : Nat → Nat} {n r last t nw : Nat} {T0 : Nat → List Nat} {L1 L2 : List Nat}
    (hV : vs_V z hv ad tt rr aa R C fl c tk cb tb sb g S En E v) (hM : vs_M z hm xm A w F) (hP : k_P (ad 1) p En E n r) (hI : k_I p R C fl c E [] T0 L1 L2 n r) (hD : k_dc (k_ep E p) F n ∧ k_B (k_ep E p) F n r) (hVV : k_V (k_ep E p) F n last nw (c 0) [] T0 L1 L2) (hS : k_S S F last) (gC : k_C F tk n (g 0) (g 1)) (gL : k_lgF F tk (g 0) (g 1)) (g20 : g 2 = 0) (hW : k_W v w c g n r last t nw) (hg : 2 ≤ g 1)
    (n1 : n + r ≤ st) (n2 : r ≤ 6) (n3 : last ≤ n) (n4 : t ≤ 1000 * st) (n5 : nw ≤ st + 1) (n6 : g 0 + g 1 ≤ 8 * st + 1) (n7 : st < 512) :
    ∃ (q : Int32) (hv' hm' : am_H), am_R z 6 46 19 [some (.ref (ad 0))] [] hv (some (.int q)) hv' ∧ am_R z 5 116 18 [some (.ref xm), none, none, none, none, none, none] [] hm (some (.int q)) hm' ∧ k_J z (st + 1) (ad 0) xm hv' hm' ∧ hv'.2 = hv.2 ∧ hm'.2 = hm.2 := by
  obtain ⟨w1, w2, w3, w4, w5, w6, w7, w8, w9, w10⟩ := id hW
  obtain ⟨f0, f1, f2⟩ := k_I_fl hI
  have hg8 : g 1 ≤ 8 := gC.2.2.2.2.1
  obtain ⟨s1, s2, s3, s4⟩ := k_gl_spec (sg := g 0) hD.1 hVV gC
  have hcnt : m_cn (m_lv F (nI (g 0))) n = (e_gl (k_ep E p) (nI (g 0)) (e_fl T0 0 (c 0)) L1 L2).length := by
    refine m_cn_len ?_ s2
    refine List.Pairwise.imp ?_ s1
    intro a b hab e
    have hab : (F 8 a).toInt < (F 8 b).toInt := hab
    rw [e] at hab
    omega
  have hmap := e_gl_map (E := E) (s := nI (g 0)) p (e_fl T0 0 (c 0)) L1 L2
  obtain ⟨L, hL⟩ : ∃ L, e_gl (k_ep E p) (nI (g 0)) (e_fl T0 0 (c 0)) L1 L2 = L := ⟨_, rfl⟩
  rw [hL] at s1 s2 s3 s4 hcnt hmap
  have htk : tk (g 1 - 1) ≤ 16 := gC.2.2.1 _ (by omega)
  have hu2 : F 16 ((g 0 + (g 1 - 1)) % 8) = nI (tk (g 1 - 1)) := gL (g 1 - 1) (by omega)
  have hcn : g 0 + (g 1 - 1) - g 0 + 1 = g 1 := by omega
  have hlenM : (e_gl E (nI (g 0)) ((e_fl T0 0 (c 0)).map p) (L1.map p) (L2.map p)).length = L.length := by rw [hmap, List.length_map]
  have hroom : ((e_fl T0 0 (c 0)).map p).countP (e_live E (nI (g 0))) + (L1.map p).countP (e_live E (nI (g 0))) + (L2.map p).countP (e_live E (nI (g 0))) ≤ 16 := by
    rw [k_live_map, k_live_map, k_live_map, ← s3]; exact s4
  have hsw := k_sw_hf (L.length + 1) (g 1) (tk (g 1 - 1)) L.length htk
  have hle := m_hf_le (L.length + 1) 0 (tk (g 1 - 1)) L.length
  by_cases hful : 8 < e_sw (L.length + 1) (g 1) (16 - tk (g 1 - 1)) L.length
  · obtain ⟨hv', a1, a2, a3⟩ := vl_collectFull 1 f0 f1 f2 hV hroom htk (by rw [hlenM]; exact hful) (by rw [hlenM, hsw]; omega)
    have b1 := mo_collFull 3 w4 (by omega) w9 (by omega) w8 (by omega) hu2 htk (by rw [hcnt]; omega) (by rw [hcnt, hcn, ← hsw]; exact hful) hM
    refine ⟨_, hv', hm, a1, b1, ⟨ad, tt, rr, aa, _, C, fl, c, tk, cb, tb, sb, g, S, En, E, v, A, w, F, p, n, r, last, t, nw, [], T0, L1, L2, rfl, a2, hM, hP, ⟨hI.1, hI.2.1, hI.2.2⟩, hD, ⟨hVV, fun j x hx => by simp at hx, by simp⟩, hS, ⟨gC, gL, ?_⟩, hW, ⟨by omega, n2⟩, n3, by omega, n5, by omega, by omega⟩, a3, rfl⟩
    rw [g20]; exact k_U_0 _ _ _ _ _ _ _ _ _ _
  · have hDm : ∀ x ∈ L, k_D n r x := fun x hx => .inl (by have := ((s2 x).mp hx).1; omega)
    obtain ⟨hv', tk', a1, a2, a3, a4⟩ := vl_collectRest 1 f0 f1 f2 hV hroom htk (by rw [hlenM]; omega) hg (by omega) (by
      intro x hx h
      rw [hmap] at hx
      obtain ⟨y, hy, hxy⟩ := List.mem_map.mp hx
      have h1 := ((s2 y).mp hy).1
      have := hP.2.1 y 600 (hDm y hy) (.inr rfl) (by rw [hxy, h, hP.1])
      omega)
    obtain ⟨hm', b1, b2, b3⟩ := mo_collOk 3 w4 (by omega) w9 (by omega) w8 (by omega) hu2 htk (by rw [hcnt]; omega) (by rw [hcnt, hcn, ← hsw]; exact hful) hM
    rw [hcnt] at b1 b2
    rw [hmap] at a1 a2 a4
    rw [List.length_map] at a1
    obtain ⟨e1, e2⟩ := k_wm_map (g 0) hP.2.1 L 0 E (k_ep E p) tk (g 1) hDm (fun x _ => rfl)
    obtain ⟨i1, i2, i3, i4, i5, i6, i7⟩ := k_coll (n := n) (tl := g 0) (L.length + 1) L 0 (k_ep E p) F tk (g 1) (L.length + 1) (by omega) (by omega) (.inr rfl) hg hD.1 gC gL s1 s2 (by omega)
    rw [e1] at a2 a4
    rw [i1] at b2
    obtain ⟨W, hWm⟩ : ∃ W, e_wm (g 0) L 0 (k_ep E p) tk (g 1) = W := ⟨_, rfl⟩
    obtain ⟨Q, hQ⟩ : ∃ Q, (m_co (nI (g 0)) n (L.length + 1) L.length F (g 0 + (g 1 - 1))).1 = Q := ⟨_, rfl⟩
    have hkeep : ∀ x j, j ≠ 6 → j ≠ 7 → W.1 x j = k_ep E p x j := fun x j h6 h7 => by rw [← hWm]; exact k_wm_keep (g 0) L 0 _ _ _ x j h6 h7
    rw [hWm] at a2 a4 i2 i3 i4 i5 b2 e2
    rw [hQ] at i2 i3 i4 i6 i7 b2
    obtain ⟨d1, d2⟩ := k_collN i3 i4 i6 (by omega) (by omega) a4
    have h8 : W.2.2 ≤ 8 := i3.2.2.2.2.1
    have hGi : ∀ i, k_D n r i → k_ep (e_wm (g 0) (L.map p) 0 E tk (g 1)).1 p i = W.1 i := e2
    have hEb : ∀ j, j ≠ 6 → j ≠ 7 → (e_wm (g 0) (L.map p) 0 E tk (g 1)).1 (ad 1) j = E (ad 1) j := fun j h6 h7 => k_wm_keep (g 0) _ 0 _ _ _ _ j h6 h7
    obtain ⟨p1, p2, p3, p4, p5, p6⟩ := hP
    refine ⟨_, hv', hm', a1, b1, ⟨ad, tt, rr, aa, _, C, fl, c, tk', cb, tb, sb, _, S, En, _, v, A, _, Q, p, n, r, last, t, nw, [], T0, L1, L2, rfl, a2, b2, ⟨p1, p2, p3, by rw [hEb 0 (by omega) (by omega)]; exact p4, by rw [hEb 3 (by omega) (by omega)]; exact p5, by rw [hEb 4 (by omega) (by omega)]; exact p6⟩, k_I_cg hI hVV (fun i _ => rfl) (fun i hi => k_wm_keep (g 0) _ 0 _ _ _ _ 0 (by omega) (by omega)) hI.1 rfl, ⟨k_dc_G i2 (fun i hi => hGi i (.inl (by omega))), fun j hj => ?_⟩, ⟨k_V_cg (k_V_G hVV (fun i hi => ?_)) (i7 0 (by omega) (by omega) (by omega)) (i7 1 (by omega) (by omega) (by omega)) (i7 5 (by omega) (by omega) (by omega)) (i7 6 (by omega) (by omega) (by omega)), fun j x hx => by simp at hx, by simp⟩, k_S_cg hS (i7 14 (by omega) (by omega) (by omega)) (i7 15 (by omega) (by omega) (by omega)), ⟨d1, d2, k_U_0 _ _ _ _ _ _ _ _ _ _⟩, ⟨w1, w2, w3, w4, w5, w6, w7, rfl, ?_, rfl⟩, ⟨by omega, n2⟩, n3, by omega, n5, ?_, by omega⟩, a3, b3⟩
    · rw [hGi (n + j) (.inl (by omega)), hkeep _ 0 (by omega) (by omega), hkeep _ 1 (by omega) (by omega), hkeep _ 2 (by omega) (by omega), hkeep _ 3 (by omega) (by omega), i7 11 (by omega) (by omega) (by omega), i7 12 (by omega) (by omega) (by omega), i7 13 (by omega) (by omega) (by omega)]
      exact hD.2 j hj
    · rw [hGi i (.inl (by omega)), hkeep _ 0 (by omega) (by omega), hkeep _ 4 (by omega) (by omega)]
      exact ⟨rfl, rfl⟩
    · show nI (g 0 + (W.2.2 - 1)) = nI (g 0 + 1 + (W.2.2 - 1 - 1))
      congr 1
      omega
    · show g 0 + 1 + (W.2.2 - 1) ≤ _
      omega
theorem jo_collect {st xv xm : Nat} (hJ : k_J z st xv xm hv hm) (hs : st < 512) : k_O z st xv xm hv hm 46 116 [] := by
  obtain ⟨ad, tt, rr, aa, R, C, fl, c, tk, cb, tb, sb, g, S, En, E, v, A, w, F, p, n, r, last, t, nw, M, T0, L1, L2, hx, hV, hM, hP, hI, hD, hVV, hS, hG, hW, hN⟩ := hJ
  subst hx
  have hJ' : k_J z (st + 1) (ad 0) xm hv hm := ⟨ad, tt, rr, aa, R, C, fl, c, tk, cb, tb, sb, g, S, En, E, v, A, w, F, p, n, r, last, t, nw, M, T0, L1, L2, rfl, hV, hM, hP, hI, hD, hVV, hS, hG, hW, k_N_up hN hs⟩
  obtain ⟨w1, w2, w3, w4, w5, w6, w7, w8, w9, w10⟩ := id hW
  obtain ⟨⟨n1, n2⟩, n3, n4, n5, n6, n7⟩ := id hN
  obtain ⟨gC, gL, gU⟩ := id hG
  have hg1 : 1 ≤ g 1 := gC.2.2.2.1
  have hg8 : g 1 ≤ 8 := gC.2.2.2.2.1
  have hsz := k_size hVV.1
  by_cases hg : 2 ≤ g 1
  · have hw67 : ¬ w 6 = w 7 := by
      rw [w8, w9, nI_eq (by omega) (by omega)]; omega
    by_cases hMe : M = []
    · subst hMe
      have hun := k_U_le gU
      have g20 : g 2 = 0 := Nat.le_zero.mp hun
      obtain ⟨q, hv', hm', a1, b1, j1, x1, x2⟩ := k_collect (st := st) hV hM hP hI hD hVV.1 hS gC gL g20 hW hg n1 n2 n3 n4 (by omega) n6 hs
      have a2 := vl_collectGo 5 hV hg (am_M_up (by omega) (vl_empty0 0 hV (by rw [hI.2.1]; rfl))) a1
      have b2 := mo_collGo 4 hw67 hM (am_M_up (by omega) (mo_flush0 0 w4 (by omega) hM (by rw [hsz]; rfl))) b1
      exact ⟨_, hv', hm', am_M_up (by omega) a2, am_M_up (by omega) b2, j1, .inl x1, x2⟩
    · obtain ⟨f0, f1, f2⟩ := k_I_fl hI
      have hR1 : R 1 ≠ [] := by rw [hI.2.1]; exact fun h => hMe (List.map_eq_nil_iff.mp h)
      obtain ⟨r1, r2, r3⟩ := k_rooms (now := v 0) hP.1 hP.2.2.2.1 hD.1 hVV.1 hS (by omega)
      obtain ⟨hv1, C1, fl1, c1, a1, a2, a3, a4⟩ := vl_empty 0 f0 f1 f2 hV hR1 (fun _ => r1) (fun _ => r2) (fun _ => r3)
      obtain ⟨⟨T', L1', L2', k1, k2⟩, k3, k4, k5, k6⟩ := k_flush (R' := va_up (va_up R 1 []) 2 (e_du E (e_ta S E) (ad 1) ((R 1).foldl (e_ik E) []))) hP.1 hP.2.2.2.1 hI hD.1 hVV.1 hS (by omega) (by omega) hMe hVV.2.2 a4 rfl rfl
      obtain ⟨hm1, b1, b2, b3⟩ := k_mflush hM w4 (by omega) w2.2 (by omega) w5 w6 hVV.1.2.1.1.1 (w1.2.trans w1.1.symm) (by rw [hsz]; exact List.length_pos_iff.mpr hMe)
      rw [← k5] at b2
      have hD1 : k_dc (k_ep E p) (m_fl (k_F1 F (v 0) n last (c 0)) (v 0) (nI nw) n last) n ∧ k_B (k_ep E p) (m_fl (k_F1 F (v 0) n last (c 0)) (v 0) (nI nw) n last) n r := ⟨k_dc_cg hD.1 (k3 0 (by omega) (by omega) (by omega) (by omega)) (k3 1 (by omega) (by omega) (by omega) (by omega)) (k3 2 (by omega) (by omega) (by omega) (by omega)) (k3 3 (by omega) (by omega) (by omega) (by omega)) (k3 4 (by omega) (by omega) (by omega) (by omega)) (k3 7 (by omega) (by omega) (by omega) (by omega)) (k3 8 (by omega) (by omega) (by omega) (by omega)), k_B_cg hD.2 (k3 11 (by omega) (by omega) (by omega) (by omega)) (k3 12 (by omega) (by omega) (by omega) (by omega)) (k3 13 (by omega) (by omega) (by omega) (by omega))⟩
      obtain ⟨q, hv', hm', c1', d1, j1, x1, x2⟩ := k_collect (st := st) (g := va_up g 2 0) a2 b2 hP k2 hD1 k1 (k_S_cg hS (k3 14 (by omega) (by omega) (by omega) (by omega)) (k3 15 (by omega) (by omega) (by omega) (by omega))) (k_C_cg gC k4 (k3 3 (by omega) (by omega) (by omega) (by omega)) (k3 7 (by omega) (by omega) (by omega) (by omega)) (k3 8 (by omega) (by omega) (by omega) (by omega))) (fun k hk => by rw [k3 16 (by omega) (by omega) (by omega) (by omega)]; exact gL k hk) rfl ⟨w1, w2, w3, w4, rfl, rfl, w7, w8, w9, rfl⟩ hg n1 n2 n3 n4 (by omega) n6 hs
      have a5 := vl_collectGo 5 hV hg a1 c1'
      have b5 := mo_collGo 4 hw67 hM b1 d1
      exact ⟨_, hv', hm', am_M_up (by omega) a5, am_M_up (by omega) b5, j1, .inl (x1.trans a3), x2.trans b3⟩
  · have h1 : g 1 = 1 := by omega
    have b1 := mo_collNone 0 (by rw [w8, w9, h1]; rfl) hM
    exact ⟨_, hv, hm, am_M_up (by omega) (vl_collectNone 0 hV (by omega)), am_M_up (by omega) b1, hJ', .inl rfl, rfl⟩
end KCX
