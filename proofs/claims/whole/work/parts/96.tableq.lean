section KTQ
variable {z st xv xm : Nat} {hv hm : am_H}
theorem k_int3 {l : Int32} (h1 : ¬ l < 0) (h2 : l < 3) : ∃ j, j < 3 ∧ l = nI j := by
  obtain ⟨j, j1, j2⟩ := nI_of h1
  refine ⟨j, ?_, j2⟩
  rw [Int32.lt_iff_toInt_lt, j2, nI_toInt j1] at h2
  have e3 : (3 : Int32).toInt = 3 := by decide
  omega
theorem k_tl (F : Nat → Nat → Int32) (nw : Int32) (n : Nat) (l k : Int32) : m_tl F nw n l k (nI 0) = nI (m_cn (m_li F nw l k) n) ∧ m_tl F nw n l k (nI 1) = m_fi (m_li F nw l k) F n ∧ m_tl F nw n l k (nI 2) = m_bd (m_li F nw l k) F 0 n ∧ m_tl F nw n l k (nI 3) = m_bd (m_li F nw l k) F 1 n ∧ m_tl F nw n l k (nI 4) = m_gr (m_li F nw l k) F n := by
  unfold m_tl
  refine ⟨?_, ?_, ?_, ?_, ?_⟩
  · rw [if_pos (by decide)]
  · rw [if_neg (by decide), if_pos (by decide)]
  · rw [if_neg (by decide), if_neg (by decide), if_pos (by decide)]
  · rw [if_neg (by decide), if_neg (by decide), if_neg (by decide), if_pos (by decide)]
  · rw [if_neg (by decide), if_neg (by decide), if_neg (by decide), if_neg (by decide), if_pos (by decide)]
theorem k_tlNo (F : Nat → Nat → Int32) (nw : Int32) (n : Nat) (l k : Int32) {t : Int32} (ht : t < 0 ∨ 5 ≤ t.toNatClampNeg) : m_tl F nw n l k t = -2 := by
  have hne : ∀ j, j < 5 → ¬ t = nI j := by
    intro j hj h
    rw [h, nI_clamp (by omega)] at ht
    rcases ht with ht | ht
    · exact nI_pos (by omega) ht
    · omega
  have h0 : ¬ t = 0 := hne 0 (by omega)
  have h1 : ¬ t = 1 := hne 1 (by omega)
  have h2 : ¬ t = 2 := hne 2 (by omega)
  have h3 : ¬ t = 3 := hne 3 (by omega)
  have h4 : ¬ t = 4 := hne 4 (by omega)
  unfold m_tl
  rw [if_neg h0, if_neg h1, if_neg h2, if_neg h3, if_neg h4]
theorem jo_table (hJ : k_J z st xv xm hv hm) (hs : st < 512) (l k t : Int32) : k_O z st xv xm hv hm 83 140 [.int l, .int k, .int t] := by
  obtain ⟨ad, tt, rr, aa, R, C, fl, c, tk, cb, tb, sb, g, S, En, E, v, A, w, F, p, n, r, last, ti, nw, M, T0, L1, L2, hx, hV, hM, hP, hI, hD, hVV, hS, hG, hW, hN⟩ := hJ
  subst hx
  have hJ' : k_J z (st + 1) (ad 0) xm hv hm := ⟨ad, tt, rr, aa, R, C, fl, c, tk, cb, tb, sb, g, S, En, E, v, A, w, F, p, n, r, last, ti, nw, M, T0, L1, L2, rfl, hV, hM, hP, hI, hD, hVV, hS, hG, hW, k_N_up hN hs⟩
  obtain ⟨w1, w2, w3, w4, w5, w6, w7, w8, w9, w10⟩ := id hW
  obtain ⟨⟨n1, n2⟩, n3, n4, n5, n6, n7⟩ := id hN
  by_cases hl0 : l < 0
  · exact ⟨_, hv, hm, am_M_up (by omega) (vl_tableNo 0 (.inl hl0)), am_M_up (by omega) (mo_tableNo 0 (.inl hl0)), hJ', .inl rfl, rfl⟩
  · by_cases hl3 : l < 3
    · obtain ⟨j, hj, rfl⟩ := k_int3 hl0 hl3
      have hct := k_tn hVV.1 hj
      have hcj := hI.2.2.1 j hj
      have hc4 := hVV.1.2.1.1.1
      have hcb : c j ≤ 100 := by
        rw [hcj]
        obtain ⟨hA, hZ, a, b, c1, c2, _⟩ := hVV.1
        have : j = 0 ∨ j = 1 ∨ j = 2 := by omega
        rcases this with h | h | h <;> subst h
        · show c 0 ≤ 100; omega
        · show (L1.length + 5) / 6 ≤ 100; omega
        · show (L2.length + 5) / 6 ≤ 100; omega
      by_cases hk1 : k = -1
      · subst hk1
        have a1 := vl_tableCount 0 (w := t) hj hV
        have b1 := mo_tableCount 0 (t := t) w4 (by omega) w6 hj hM
        rw [hct, ← hcj] at b1
        exact ⟨_, hv, hm, am_M_up (by omega) a1, am_M_up (by omega) b1, hJ', .inl rfl, rfl⟩
      · by_cases hk : k < 0 ∨ ¬ k < nI (c j)
        · have a1 := vl_tableOut 0 (w := t) hj hk1 hk hV
          have b1 := mo_tableOut 0 (t := t) w4 (by omega) w6 hj hk1 (by rw [hct, ← hcj]; exact hk) hM
          exact ⟨_, hv, hm, am_M_up (by omega) a1, am_M_up (by omega) b1, hJ', .inl rfl, rfl⟩
        · rw [not_or, Classical.not_not] at hk
          obtain ⟨i, i1, i2⟩ := nI_of hk.1
          subst i2
          have hi : i < c j := by
            have := hk.2
            rw [nI_ltI i1 (by omega)] at this
            exact this
          have hi' : i < k_ct (c 0) L1 L2 j := by rw [← hcj]; exact hi
          have b1 := mo_table 0 (t := t) w4 (by omega) w6 (by omega) hj (by rw [hct, ← hcj]; exact hi) hM
          rw [w5] at b1
          obtain ⟨t1, t2, t3, t4⟩ := k_li hVV.1 hj hi'
          obtain ⟨j1, j2⟩ := hI.2.2.2 j i hj hi
          obtain ⟨lv1, lv2⟩ := hV.2.2.2.2.1 j hj
          have hm' : i < vm j := by have := lv1.2.1; omega
          have ht := lv1.2.2.2.2.1 i hm'
          have hr := lv1.2.2.2.2.2.1 i hm'
          have hel : ∀ x ∈ C j i, hv.1 x = some (vs_e E x) := fun x hx => (hV.2.1 x (lv2 i hm' x hx)).1
          obtain ⟨q0, q1, q2, q3, q4⟩ := k_tl F (nI nw) n (nI j) (nI i)
          have hkG : ∀ x ∈ k_tb T0 L1 L2 j i, 0 ≤ (k_ep E p x 0).toInt := by
            intro x hx
            have hxn := ((t1 x).mp hx).1
            rw [(hD.1 x hxn).1]
            exact (hVV.1.1.1 x ⟨hxn, by rw [t4 x hx]; exact k_l9 hj⟩).1.1
          have hGF : ∀ x, x < n → k_ep E p x 0 = F 0 x := fun x hx => (hD.1 x hx).1
          have hlen : 0 < (k_tb T0 L1 L2 j i).length := List.length_pos_iff.mpr t3
          by_cases htw : t < 0 ∨ 5 ≤ t.toNatClampNeg
          · rw [k_tlNo _ _ _ _ _ htw] at b1
            exact ⟨_, hv, hm, am_M_up (by omega) (vl_table 0 hj hi hV (ta_tellNo z 0 htw)), am_M_up (by omega) b1, hJ', .inl rfl, rfl⟩
          · rw [not_or] at htw
            obtain ⟨u, u1, u2⟩ := nI_of htw.1
            subst u2
            have hu : u < 5 := by
              have := htw.2
              rw [nI_clamp u1] at this
              omega
            have hc : u = 0 ∨ u = 1 ∨ u = 2 ∨ u = 3 ∨ u = 4 := by omega
            rcases hc with h | h | h | h | h <;> subst h
            · rw [q0, m_cn_len t2.nd t1] at b1
              have a1 := vl_table 1 hj hi hV (ta_tell0 z 0 ht hr)
              rw [j1, List.length_map] at a1
              exact ⟨_, hv, hm, am_M_up (by omega) a1, am_M_up (by omega) b1, hJ', .inl rfl, rfl⟩
            · rw [q1, ← k_fi_eq hGF t1] at b1
              have a1 := vl_table 0 hj hi hV (ta_tell1 z 0 ht)
              rw [j2, j1, k_ff_map] at a1
              exact ⟨_, hv, hm, am_M_up (by omega) a1, am_M_up (by omega) b1, hJ', .inl rfl, rfl⟩
            · rw [q2, k_bd0_eq hGF t2 t3 t1 hkG] at b1
              have hg0 : (C j i)[0]? = some (p ((k_tb T0 L1 L2 j i).getD 0 0)) := by
                rw [j1, List.getElem?_map, List.getD_eq_getElem?_getD, List.getElem?_eq_getElem hlen]
                rfl
              have a1 := vl_table 2 hj hi hV (ta_tell2 z 0 ht hr hg0 (hel _ (List.mem_of_getElem? hg0)))
              exact ⟨_, hv, hm, am_M_up (by omega) a1, am_M_up (by omega) b1, hJ', .inl rfl, rfl⟩
            · rw [q3, k_bd1_eq hGF t2 t3 t1 hkG] at b1
              have hg0 : (C j i)[(C j i).length - 1]? = some (p ((k_tb T0 L1 L2 j i).getD ((k_tb T0 L1 L2 j i).length - 1) 0)) := by
                rw [j1, List.length_map, List.getElem?_map, List.getD_eq_getElem?_getD, List.getElem?_eq_getElem (by omega)]
                rfl
              have a1 := vl_table 2 hj hi hV (ta_tell3 z 0 ht hr hg0 (hel _ (List.mem_of_getElem? hg0)))
              exact ⟨_, hv, hm, am_M_up (by omega) a1, am_M_up (by omega) b1, hJ', .inl rfl, rfl⟩
            · rw [q4, ← k_gr_eq (fun x hx => (hD.1 x hx).2.2.2.1) t1] at b1
              have a1 := vl_table 2 hj hi hV (ta_tell4 z 0 ht hr hel)
              rw [j1, k_gs_map] at a1
              exact ⟨_, hv, hm, am_M_up (by omega) a1, am_M_up (by omega) b1, hJ', .inl rfl, rfl⟩
    · refine ⟨_, hv, hm, am_M_up (by omega) (vl_tableNo 0 (.inr hl3)), am_M_up (by omega) (mo_tableNo 0 (.inr ?_)), hJ', .inl rfl, rfl⟩
      rw [Int32.lt_iff_toInt_lt] at hl3
      rw [Int32.le_iff_toInt_le]
      have e2 : (2 : Int32).toInt = 2 := by decide
      have e3 : (3 : Int32).toInt = 3 := by decide
      omega
theorem k_livecount {G F : Nat → Nat → Int32} {n last nw c0 : Nat} {M L1 L2 : List Nat} {T0 : Nat → List Nat} (hd : k_dc G F n) (hV : k_V G F n last nw c0 M T0 L1 L2) (s : Int32) : M.countP (e_live G s) + (e_fl T0 0 c0).countP (e_live G s) + L1.countP (e_live G s) + L2.countP (e_live G s) = m_cn (m_lv F s) n := by
  obtain ⟨hA, hZ, ⟨a1, a2⟩, ⟨b1, b2⟩, c1, c2, d1, d2, f1, f2⟩ := hV
  obtain ⟨u1, u2, u3⟩ := k_Z_fl hZ
  have hdis : ∀ (x y : Int32) (U L : List Nat), x ≠ y → k_at F n x U → k_at F n y L → ∀ a ∈ U, ∀ b ∈ L, a ≠ b := by
    intro x y U L hxy hU hL a ha b hb e
    rw [e] at ha
    exact hxy (((hU b).mp ha).2.symm.trans ((hL b).mp hb).2)
  have hnd : (M ++ (e_fl T0 0 c0 ++ (L1 ++ L2))).Nodup := by
    unfold List.Nodup
    rw [List.pairwise_append, List.pairwise_append, List.pairwise_append]
    refine ⟨f1, ⟨u1, ⟨a1.nd, b1.nd, hdis 1 2 L1 L2 (by decide) a2 b2⟩, ?_⟩, ?_⟩
    · intro a ha b hb
      rcases List.mem_append.mp hb with h | h
      · exact hdis 0 1 _ L1 (by decide) u2 a2 a ha b h
      · exact hdis 0 2 _ L2 (by decide) u2 b2 a ha b h
    · intro a ha b hb
      rcases List.mem_append.mp hb with h | h
      · exact hdis (-1) 0 M _ (by decide) f2 u2 a ha b h
      · rcases List.mem_append.mp h with h | h
        · exact hdis (-1) 1 M L1 (by decide) f2 a2 a ha b h
        · exact hdis (-1) 2 M L2 (by decide) f2 b2 a ha b h
  have hmem : ∀ i, i ∈ M ++ (e_fl T0 0 c0 ++ (L1 ++ L2)) ↔ k_al F n i := by
    intro i
    rw [List.mem_append, List.mem_append, List.mem_append, f2 i, u2 i, a2 i, b2 i]
    constructor
    · rintro (⟨h, h'⟩ | ⟨h, h'⟩ | ⟨h, h'⟩ | ⟨h, h'⟩) <;> exact ⟨h, by rw [h']; decide⟩
    · rintro ⟨h, h9⟩
      rcases hA.2.2.2 i h with k | k | k | k | k
      · exact .inl ⟨h, k⟩
      · exact .inr (.inl ⟨h, k⟩)
      · exact .inr (.inr (.inl ⟨h, k⟩))
      · exact .inr (.inr (.inr ⟨h, k⟩))
      · exact absurd k h9
  rw [m_cn_len (P := m_lv F s) (T := (M ++ (e_fl T0 0 c0 ++ (L1 ++ L2))).filter (e_live G s)) (List.Pairwise.filter _ hnd) (by
    intro i
    rw [List.mem_filter, hmem, m_lv_iff]
    unfold e_live
    rw [Bool.and_eq_true, decide_eq_true_eq, decide_eq_true_eq]
    constructor
    · rintro ⟨⟨h1, h9⟩, h2, h3⟩
      rw [(hd i h1).2.2.1] at h2
      rw [(hd i h1).2.2.2.2.2.2.1] at h3
      exact ⟨h1, h9, h2, h3⟩
    · rintro ⟨h1, h9, h2, h3⟩
      rw [(hd i h1).2.2.1, (hd i h1).2.2.2.2.2.2.1]
      exact ⟨⟨h1, h9⟩, h2, h3⟩)]
  rw [← List.countP_eq_length_filter, List.countP_append, List.countP_append, List.countP_append]
  omega
theorem k_I_fl {p : Nat → Nat} {R : Nat → List Nat} {C : Nat → Nat → List Nat} {fl : Nat → Nat → Int32} {c : Nat → Nat} {E : Nat → Nat → Int32} {M : List Nat} {T0 : Nat → List Nat} {L1 L2 : List Nat} {n r : Nat} (hI : k_I p R C fl c E M T0 L1 L2 n r) : e_fl (C 0) 0 (c 0) = (e_fl T0 0 (c 0)).map p ∧ e_fl (C 1) 0 (c 1) = L1.map p ∧ e_fl (C 2) 0 (c 2) = L2.map p := by
  obtain ⟨i0, i1, i2, i3⟩ := hI
  refine ⟨e_fl_map p (c 0) 0 (fun j _ hj => (i3 0 j (by omega) (by omega)).1), ?_, ?_⟩
  · rw [e_fl_map p (D := e_ck L1) (c 1) 0 (fun j _ hj => (i3 1 j (by omega) (by omega)).1), i2 1 (by omega)]
    show (e_fl (e_ck L1) 0 ((L1.length + 5) / 6)).map p = _
    rw [e_fl_cut]
  · rw [e_fl_map p (D := e_ck L2) (c 2) 0 (fun j _ hj => (i3 2 j (by omega) (by omega)).1), i2 2 (by omega)]
    show (e_fl (e_ck L2) 0 ((L2.length + 5) / 6)).map p = _
    rw [e_fl_cut]
theorem jo_segment (hJ : k_J z st xv xm hv hm) (hs : st < 512) (k t : Int32) : k_O z st xv xm hv hm 86 141 [.int k, .int t] := by
  obtain ⟨ad, tt, rr, aa, R, C, fl, c, tk, cb, tb, sb, g, S, En, E, v, A, w, F, p, n, r, last, ti, nw, M, T0, L1, L2, hx, hV, hM, hP, hI, hD, hVV, hS, hG, hW, hN⟩ := hJ
  subst hx
  have hJ' : k_J z (st + 1) (ad 0) xm hv hm := ⟨ad, tt, rr, aa, R, C, fl, c, tk, cb, tb, sb, g, S, En, E, v, A, w, F, p, n, r, last, ti, nw, M, T0, L1, L2, rfl, hV, hM, hP, hI, hD, hVV, hS, hG, hW, k_N_up hN hs⟩
  obtain ⟨w1, w2, w3, w4, w5, w6, w7, w8, w9, w10⟩ := id hW
  obtain ⟨⟨n1, n2⟩, n3, n4, n5, n6, n7⟩ := id hN
  obtain ⟨c1, c2, c3, c4, c5, c6⟩ := hG.1
  have hcn : g 0 + (g 1 - 1) - g 0 + 1 = g 1 := by omega
  by_cases hk1 : k = -1
  · subst hk1
    have b1 := mo_segCount 0 (t := t) w9 w8 (by omega) hM
    rw [hcn] at b1
    exact ⟨_, hv, hm, am_M_up (by omega) (vl_segCount 0 hV), am_M_up (by omega) b1, hJ', .inl rfl, rfl⟩
  · by_cases hk : k < 0 ∨ ¬ k < nI (g 1)
    · exact ⟨_, hv, hm, am_M_up (by omega) (vl_segOut 0 hk1 hk hV), am_M_up (by omega) (mo_segOut 0 w9 w8 (by omega) hk1 (by rw [hcn]; exact hk) hM), hJ', .inl rfl, rfl⟩
    · rw [not_or, Classical.not_not] at hk
      obtain ⟨i, i1, i2⟩ := nI_of hk.1
      subst i2
      have hi : i < g 1 := by
        have := hk.2
        rw [nI_ltI i1 (by omega)] at this
        exact this
      obtain ⟨a0, a1, a2, a3⟩ := vl_seg 0 hi hV
      obtain ⟨b0, b1, b2, b3⟩ := mo_seg 0 w4 (by omega) w9 (by omega) w8 (by omega) (by rw [hcn]; exact hi) hM
      by_cases htw : t < 0 ∨ 3 ≤ t.toNatClampNeg
      · exact ⟨_, hv, hm, am_M_up (by omega) (a3 t htw), am_M_up (by omega) (b3 t htw), hJ', .inl rfl, rfl⟩
      · rw [not_or] at htw
        obtain ⟨u, u1, u2⟩ := nI_of htw.1
        subst u2
        have hu : u < 3 := by
          have := htw.2
          rw [nI_clamp u1] at this
          omega
        have hc : u = 0 ∨ u = 1 ∨ u = 2 := by omega
        rcases hc with h | h | h <;> subst h
        · exact ⟨_, hv, hm, am_M_up (by omega) a0, am_M_up (by omega) b0, hJ', .inl rfl, rfl⟩
        · rw [hG.2.1 i hi] at b1
          exact ⟨_, hv, hm, am_M_up (by omega) a1, am_M_up (by omega) b1, hJ', .inl rfl, rfl⟩
        · obtain ⟨f0, f1, f2⟩ := k_I_fl hI
          rw [f0, f1, f2, hI.2.1, k_live_map, k_live_map, k_live_map, k_live_map, k_livecount hD.1 hVV.1] at a2
          exact ⟨_, hv, hm, am_M_up (by omega) a2, am_M_up (by omega) b2, hJ', .inl rfl, rfl⟩
end KTQ
