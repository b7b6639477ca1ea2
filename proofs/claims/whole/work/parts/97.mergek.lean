section KME
variable {G F : Nat → Nat → Int32} {S : Nat → Int32} {n r last nw c0 : Nat} {M L1 L2 : List Nat} {T0 : Nat → List Nat}
theorem m_mg_9 (F : Nat → Nat → Int32) (t : Int32) (n last : Nat) {a b : Int32} (l : Int32) (ha : ¬ a = 9) (hb : ¬ b = 9) {i : Nat} (hi : i < n) (h9 : F 5 i = 9) : m_mg F t n last a b l 5 i = 9 := by
  have h0 : m_ch F n a b 9 i = 0 := by
    show (if i < n then m_chV F a b i else F 9 i) = 0
    rw [if_pos hi]
    unfold m_chV
    rw [h9, if_neg]
    rintro (h | h)
    · exact ha h.symm
    · exact hb h.symm
  show (if i < n then m_l3 (m_ch F n a b) (m_fa (m_ch F n a b) t n last l) l i else F 5 i) = 9
  rw [if_pos hi]
  unfold m_l3
  rw [if_pos h0]
  exact h9
theorem k_al_mg {t a b l : Int32} (ha : ¬ a = 9) (hb : ¬ b = 9) {i : Nat} (h : k_al (m_mg F t n last a b l) n i) : k_al F n i := ⟨h.1, fun h9 => h.2 (m_mg_9 F t n last l ha hb h.1 h9)⟩
theorem k_al_ag {i : Nat} (h : k_al (m_ag F n) n i) : k_al F n i := h
theorem k_al_o0 {t : Int32} {i : Nat} (h : k_al (m_o0 F t n last) n i) : k_al F n i := by
  unfold m_o0 at h
  by_cases hc : 12 < m_cn (fun e => decide (m_mg F t n last 0 1 1 5 e = 1)) n
  · rw [if_pos hc] at h
    exact k_al_mg (by decide) (by decide) (k_al_mg (by decide) (by decide) (k_al_ag h))
  · rw [if_neg hc] at h
    exact k_al_mg (by decide) (by decide) (k_al_ag h)
theorem k_al_fl {t nwI : Int32} {i : Nat} (h : k_al (m_fl F t nwI n last) n i) : k_al F n i := k_al_mg (a := -1) (b := -1) (l := 0) (t := t) (last := last) (by decide) (by decide) h
theorem k_cut_I {p : Nat → Nat} {E : Nat → Nat → Int32} {C : Nat → List Nat} {fl : Nat → Int32} {L : List Nat} (h : vs_cut E C fl (L.map p)) : ∀ k, k < (L.length + 5) / 6 → C k = (e_ck L k).map p ∧ fl k = (C k).foldl (e_ff E) 0 := by
  intro k hk
  obtain ⟨h1, h2⟩ := h k (by rw [List.length_map]; exact hk)
  refine ⟨by rw [h1, e_ck_map], by rw [h2, h1]⟩
theorem k_mt {b : Nat} {p : Nat → Nat} {R : Nat → List Nat} {C C' : Nat → Nat → List Nat} {fl fl' : Nat → Nat → Int32} {c c' : Nat → Nat} {E : Nat → Nat → Int32} {now : Int32} {q : Nat} (hI : k_I p R C fl c E M T0 L1 L2 n r) (hb : p 600 = b) (hmt : vs_mt E S now b ((e_fl T0 0 (c 0)).map p) (L1.map p) (L2.map p) C C' fl fl' c c' q) :
    c' 0 = 0 ∧ (if (e_rs (k_ep E p) S now 600 1 (e_fl T0 0 (c 0)) L1).length ≤ 12 then k_I p R C' fl' c' E M T0 (e_rs (k_ep E p) S now 600 1 (e_fl T0 0 (c 0)) L1) L2 n r ∧ q = (e_fl T0 0 (c 0)).length + L1.length - (e_rs (k_ep E p) S now 600 1 (e_fl T0 0 (c 0)) L1).length
    else k_I p R C' fl' c' E M T0 [] (e_rs (k_ep E p) S now 600 2 (e_rs (k_ep E p) S now 600 1 (e_fl T0 0 (c 0)) L1) L2) n r ∧ q = (e_fl T0 0 (c 0)).length + L1.length - (e_rs (k_ep E p) S now 600 1 (e_fl T0 0 (c 0)) L1).length + ((e_rs (k_ep E p) S now 600 1 (e_fl T0 0 (c 0)) L1).length + L2.length - (e_rs (k_ep E p) S now 600 2 (e_rs (k_ep E p) S now 600 1 (e_fl T0 0 (c 0)) L1) L2).length)) := by
  obtain ⟨i0, i1, i2, i3⟩ := hI
  unfold vs_mt at hmt
  rw [← hb, e_rs_map, e_rs_map] at hmt
  simp only [List.length_map] at hmt
  obtain ⟨h0, hmt⟩ := hmt
  refine ⟨h0, ?_⟩
  by_cases hc : (e_rs (k_ep E p) S now 600 1 (e_fl T0 0 (c 0)) L1).length ≤ 12
  · rw [if_pos hc] at hmt ⊢
    obtain ⟨m1, m2, m3, m4, m5, m6⟩ := hmt
    refine ⟨⟨i0, i1, fun l hl => ?_, fun l k hl hk => ?_⟩, m6⟩
    · have : l = 0 ∨ l = 1 ∨ l = 2 := by omega
      rcases this with h | h | h <;> subst h
      · rfl
      · exact m1
      · rw [m2]; exact i2 2 hl
    · have : l = 0 ∨ l = 1 ∨ l = 2 := by omega
      rcases this with h | h | h <;> subst h
      · omega
      · exact k_cut_I m3 k (by omega)
      · rw [m4, m5]; exact i3 2 k hl (by omega)
  · rw [if_neg hc] at hmt ⊢
    obtain ⟨m1, m2, m3, m6⟩ := hmt
    refine ⟨⟨i0, i1, fun l hl => ?_, fun l k hl hk => ?_⟩, m6⟩
    · have : l = 0 ∨ l = 1 ∨ l = 2 := by omega
      rcases this with h | h | h <;> subst h
      · rfl
      · exact m1
      · exact m2
    · have : l = 0 ∨ l = 1 ∨ l = 2 := by omega
      rcases this with h | h | h <;> subst h
      · omega
      · omega
      · exact k_cut_I m3 k (by omega)
theorem k_I_R {p : Nat → Nat} {R R' : Nat → List Nat} {C : Nat → Nat → List Nat} {fl : Nat → Nat → Int32} {c : Nat → Nat} {E : Nat → Nat → Int32} (hI : k_I p R C fl c E M T0 L1 L2 n r) (h0 : R' 0 = R 0) (h1 : R' 1 = R 1) : k_I p R' C fl c E M T0 L1 L2 n r := ⟨by rw [h0]; exact hI.1, by rw [h1]; exact hI.2.1, hI.2.2⟩
theorem k_size_l {b : Int32} {L : List Nat} (hn : L.Nodup) (h : k_at F n b L) : m_cn (fun e => decide (F 5 e = b)) n = L.length := m_cn_len hn (fun i => by rw [h i, decide_eq_true_eq])
theorem k_fl_0 (hZ : k_Z G F n nw c0 T0) : (e_fl T0 0 c0).length = 0 ↔ c0 = 0 := by
  constructor
  · intro h
    by_cases hc : c0 = 0
    · exact hc
    · exfalso
      have h1 := (hZ.2.1 0 (by omega)).2.1
      obtain ⟨x, t, hx⟩ := List.exists_cons_of_ne_nil h1
      have : x ∈ e_fl T0 0 c0 := (k_fl_mem T0 x c0 0).mpr ⟨0, by omega, by omega, by rw [hx]; simp⟩
      rw [List.length_eq_zero_iff.mp h] at this
      cases this
  · intro h; subst h; rfl
end KME
section KMF
variable {z st xv xm : Nat} {hv hm : am_H}
theorem jo_merge (hJ : k_J z st xv xm hv hm) (hs : st < 512) (k : Int32) : k_O z st xv xm hv hm 44 115 [.int k] := by
  obtain ⟨ad, tt, rr, aa, R, C, fl, c, tk, cb, tb, sb, g, S, En, E, v, A, w, F, p, n, r, last, t, nw, M, T0, L1, L2, hx, hV, hM, hP, hI, hD, hVV, hS, hG, hW, hN⟩ := hJ
  subst hx
  have hJ' : k_J z (st + 1) (ad 0) xm hv hm := ⟨ad, tt, rr, aa, R, C, fl, c, tk, cb, tb, sb, g, S, En, E, v, A, w, F, p, n, r, last, t, nw, M, T0, L1, L2, rfl, hV, hM, hP, hI, hD, hVV, hS, hG, hW, k_N_up hN hs⟩
  obtain ⟨w1, w2, w3, w4, w5, w6, w7, w8, w9, w10⟩ := id hW
  obtain ⟨⟨n1, n2⟩, n3, n4, n5, n6, n7⟩ := id hN
  obtain ⟨f0, f1, f2⟩ := k_I_fl hI
  have hb : k_ep E p 600 0 = -1 := by show E (p 600) 0 = -1; rw [hP.1]; exact hP.2.2.2.1
  have hZ := hVV.1.2.1
  obtain ⟨u1, u2, u3⟩ := k_Z_fl hZ
  have et : w 0 = v 0 := by rw [w1.1, w1.2]
  by_cases h0 : k = 0
  · subst h0
    by_cases hc : c 0 = 0
    · have a1 := vl_mergeNone 0 (u := 0) (by omega) hc hV
      have b1 := mo_mergeNone 0 (k := 0) (by decide) (by decide) w4 (by omega) hM (by rw [k_size_l u1 u2]; exact (k_fl_0 hZ).mpr hc)
      exact ⟨_, hv, hm, am_M_up (by omega) a1, am_M_up (by omega) b1, hJ', .inl rfl, rfl⟩
    · obtain ⟨m1, m2, m3, m4, m5⟩ := k_V_m0 (t := v 0) (q := 600) hD.1 hVV.1 hS (by omega) hb
      have hrm : ∀ w U L, e_rs E S (v 0) (ad 1) w (U.map p) (L.map p) = (e_rs (k_ep E p) S (v 0) 600 w U L).map p := fun w U L => by rw [← hP.1, e_rs_map]
      obtain ⟨hv', R2, C', fl', c', q, a1, a2, a3, a4⟩ := vl_merge0 0 f0 f1 f2 hV (by omega) (by rw [List.length_map, List.length_map]; exact m3) (by rw [List.length_map]; exact m4) (by
        rw [hrm, hrm, List.length_map, List.length_map]
        exact m5)
      obtain ⟨hm', b1, b2, b3⟩ := mo_mergeOf0 0 w4 (by omega) w2.2 (by omega) hM
      have b4 := mo_merge 3 (k := 0) (by decide) (by decide) w4 (by omega) hM (by rw [k_size_l u1 u2]; exact Nat.pos_of_ne_zero (fun h => hc ((k_fl_0 hZ).mp h))) b1
      rw [et] at b2 b4
      obtain ⟨q0, q1⟩ := k_mt hI hP.1 a4
      have hne := m2
      have hGG : k_G (m_o0 F (v 0) n last) tk cb tb sb g n last M := ⟨k_C_cg hG.1 (fun i hi => k_al_o0 hi) (hne 3 (by omega) (by omega) (by omega) (by omega)) (hne 7 (by omega) (by omega) (by omega) (by omega)) (hne 8 (by omega) (by omega) (by omega) (by omega)), fun k hk => by rw [hne 16 (by omega) (by omega) (by omega) (by omega)]; exact hG.2.1 k hk, k_U_cg hG.2.2 (fun i hi => k_al_o0 hi) (hne 1 (by omega) (by omega) (by omega) (by omega)) (hne 3 (by omega) (by omega) (by omega) (by omega)) (hne 7 (by omega) (by omega) (by omega) (by omega)) (hne 8 (by omega) (by omega) (by omega) (by omega)) (hne 17 (by omega) (by omega) (by omega) (by omega)) (hne 18 (by omega) (by omega) (by omega) (by omega)) (hne 19 (by omega) (by omega) (by omega) (by omega))⟩
      have hDD : k_dc (k_ep E p) (m_o0 F (v 0) n last) n ∧ k_B (k_ep E p) (m_o0 F (v 0) n last) n r := ⟨k_dc_cg hD.1 (hne 0 (by omega) (by omega) (by omega) (by omega)) (hne 1 (by omega) (by omega) (by omega) (by omega)) (hne 2 (by omega) (by omega) (by omega) (by omega)) (hne 3 (by omega) (by omega) (by omega) (by omega)) (hne 4 (by omega) (by omega) (by omega) (by omega)) (hne 7 (by omega) (by omega) (by omega) (by omega)) (hne 8 (by omega) (by omega) (by omega) (by omega)), k_B_cg hD.2 (hne 11 (by omega) (by omega) (by omega) (by omega)) (hne 12 (by omega) (by omega) (by omega) (by omega)) (hne 13 (by omega) (by omega) (by omega) (by omega))⟩
      have hSS : k_S S (m_o0 F (v 0) n last) last := k_S_cg hS (hne 14 (by omega) (by omega) (by omega) (by omega)) (hne 15 (by omega) (by omega) (by omega) (by omega))
      have hMM : k_Mc (m_o0 F (v 0) n last) M last := k_Mc_cg hVV.2.1 (hne 1 (by omega) (by omega) (by omega) (by omega))
      have hWW : k_W v (va_up w 3 0) c' g n r last t nw := ⟨w1, w2, w3, w4, w5, by rw [q0]; rfl, w7, w8, w9, w10⟩
      by_cases hcc : (e_rs (k_ep E p) S (v 0) 600 1 (e_fl T0 0 (c 0)) L1).length ≤ 12
      · rw [if_pos hcc] at m1 q1
        rw [m1.2, ← q1.2] at b4
        exact ⟨_, hv', hm', am_M_up (by omega) a1, am_M_up (by omega) b4, ⟨ad, tt, rr, aa, _, C', fl', c', tk, cb, tb, sb, g, S, En, E, v, A, _, _, p, n, r, last, t, nw, M, T0, _, L2, rfl, a2, b2, hP, k_I_R q1.1 rfl rfl, hDD, ⟨by rw [q0]; exact m1.1, hMM, hVV.2.2⟩, hSS, hGG, hWW, k_N_up hN hs⟩, .inl a3, b3⟩
      · rw [if_neg hcc] at m1 q1
        rw [m1.2, ← q1.2] at b4
        exact ⟨_, hv', hm', am_M_up (by omega) a1, am_M_up (by omega) b4, ⟨ad, tt, rr, aa, _, C', fl', c', tk, cb, tb, sb, g, S, En, E, v, A, _, _, p, n, r, last, t, nw, M, T0, _, _, rfl, a2, b2, hP, k_I_R q1.1 rfl rfl, hDD, ⟨by rw [q0]; exact m1.1, hMM, hVV.2.2⟩, hSS, hGG, hWW, k_N_up hN hs⟩, .inl a3, b3⟩
  · by_cases h1 : k = 1
    · subst h1
      have hc1 : c 1 = (L1.length + 5) / 6 := hI.2.2.1 1 (by omega)
      have hL1 := hVV.1.2.2.1
      by_cases hc : c 1 = 0
      · have a1 := vl_mergeNone 0 (u := 1) (by omega) hc hV
        have b1 := mo_mergeNone 0 (k := 1) (by decide) (by decide) w4 (by omega) hM (by rw [k_size_l hL1.1.nd hL1.2]; omega)
        exact ⟨_, hv, hm, am_M_up (by omega) a1, am_M_up (by omega) b1, hJ', .inl rfl, rfl⟩
      · obtain ⟨m1, m2⟩ := k_V_m1 (t := v 0) (q := 600) hD.1 hVV.1 hS (by omega) hb
        have hl1 := hVV.1.2.2.2.2.1
        have hl2 := hVV.1.2.2.2.2.2.1
        have hrm : e_rs E S (v 0) (ad 1) 2 (L1.map p) (L2.map p) = (e_rs (k_ep E p) S (v 0) 600 2 L1 L2).map p := by rw [← hP.1, e_rs_map]
        obtain ⟨hv', C2, fl2, a1, a2, a3, a4⟩ := vl_merge1 0 f1 f2 hV (by omega) (by rw [List.length_map, List.length_map]; omega) (by
          rw [hrm, List.length_map]
          have := m1.2.2.2.2.2.1
          omega)
        rw [hrm] at a1 a2 a4
        simp only [List.length_map] at a1 a2
        obtain ⟨hm', b1, b2, b3⟩ := mo_mergeOf1 0 w4 (by omega) w2.2 (by omega) hM
        have b4 := mo_merge 2 (k := 1) (by decide) (by decide) w4 (by omega) hM (by rw [k_size_l hL1.1.nd hL1.2]; omega) b1
        rw [et, m2] at b4
        rw [et] at b2
        have hne : ∀ j, j ≠ 5 → j ≠ 6 → j ≠ 9 → j ≠ 10 → m_ag (m_mg F (v 0) n last 1 2 2) n j = F j := fun j h5 h6 h9 h10 => by rw [m_ag_ne _ _ h6, m_mg_ne _ _ _ _ _ _ _ h5 h9 h10]
        have hal : ∀ i, k_al (m_ag (m_mg F (v 0) n last 1 2 2) n) n i → k_al F n i := fun i hi => k_al_mg (a := 1) (b := 2) (by decide) (by decide) (k_al_ag hi)
        have hGG : k_G (m_ag (m_mg F (v 0) n last 1 2 2) n) tk cb tb sb g n last M := ⟨k_C_cg hG.1 hal (hne 3 (by omega) (by omega) (by omega) (by omega)) (hne 7 (by omega) (by omega) (by omega) (by omega)) (hne 8 (by omega) (by omega) (by omega) (by omega)), fun k hk => by rw [hne 16 (by omega) (by omega) (by omega) (by omega)]; exact hG.2.1 k hk, k_U_cg hG.2.2 hal (hne 1 (by omega) (by omega) (by omega) (by omega)) (hne 3 (by omega) (by omega) (by omega) (by omega)) (hne 7 (by omega) (by omega) (by omega) (by omega)) (hne 8 (by omega) (by omega) (by omega) (by omega)) (hne 17 (by omega) (by omega) (by omega) (by omega)) (hne 18 (by omega) (by omega) (by omega) (by omega)) (hne 19 (by omega) (by omega) (by omega) (by omega))⟩
        have hDD : k_dc (k_ep E p) (m_ag (m_mg F (v 0) n last 1 2 2) n) n ∧ k_B (k_ep E p) (m_ag (m_mg F (v 0) n last 1 2 2) n) n r := ⟨k_dc_cg hD.1 (hne 0 (by omega) (by omega) (by omega) (by omega)) (hne 1 (by omega) (by omega) (by omega) (by omega)) (hne 2 (by omega) (by omega) (by omega) (by omega)) (hne 3 (by omega) (by omega) (by omega) (by omega)) (hne 4 (by omega) (by omega) (by omega) (by omega)) (hne 7 (by omega) (by omega) (by omega) (by omega)) (hne 8 (by omega) (by omega) (by omega) (by omega)), k_B_cg hD.2 (hne 11 (by omega) (by omega) (by omega) (by omega)) (hne 12 (by omega) (by omega) (by omega) (by omega)) (hne 13 (by omega) (by omega) (by omega) (by omega))⟩
        refine ⟨_, hv', hm', am_M_up (by omega) a1, am_M_up (by omega) b4, ⟨ad, tt, rr, aa, _, _, _, _, tk, cb, tb, sb, g, S, En, E, v, A, _, _, p, n, r, last, t, nw, M, T0, [], e_rs (k_ep E p) S (v 0) 600 2 L1 L2, rfl, a2, b2, hP, ⟨hI.1, hI.2.1, fun l hl => ?_, fun l k hl hk => ?_⟩, hDD, ⟨m1, k_Mc_cg hVV.2.1 (hne 1 (by omega) (by omega) (by omega) (by omega)), hVV.2.2⟩, k_S_cg hS (hne 14 (by omega) (by omega) (by omega) (by omega)) (hne 15 (by omega) (by omega) (by omega) (by omega)), hGG, hW, k_N_up hN hs⟩, .inl a3, b3⟩
        · have : l = 0 ∨ l = 1 ∨ l = 2 := by omega
          rcases this with h | h | h <;> subst h <;> rfl
        · have : l = 0 ∨ l = 1 ∨ l = 2 := by omega
          rcases this with h | h | h <;> subst h
          · exact hI.2.2.2 0 k hl hk
          · exact absurd hk (Nat.not_lt_zero k)
          · exact k_cut_I a4 k hk
    · refine ⟨_, hv, hm, am_M_up (by omega) (vl_mergeBad 0 h0 h1), am_M_up (by omega) (mo_mergeBad 0 ?_), hJ', .inl rfl, rfl⟩
      rw [Int32.lt_iff_toInt_lt, Int32.le_iff_toInt_le]
      rw [← Int32.toInt_inj] at h0 h1
      have e0 : (0 : Int32).toInt = 0 := by decide
      have e1 : (1 : Int32).toInt = 1 := by decide
      omega
end KMF
