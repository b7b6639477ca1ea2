section KXA
variable {z st xv xm : Nat} {hv hm : am_H}
theorem jo_crash (hJ : k_J z st xv xm hv hm) (hs : st < 512) (keep : Int32) : k_O z st xv xm hv hm 62 124 [.int keep] := by
  obtain ⟨ad, tt, rr, aa, R, C, fl, c, tk, cb, tb, sb, g, S, En, E, v, A, w, F, p, n, r, last, t, nw, M, T0, L1, L2, hx, hV, hM, hP, hI, hD, hVV, hS, hG, hW, hN⟩ := hJ
  subst hx
  obtain ⟨w1, w2, w3, w4, w5, w6, w7, w8, w9, w10⟩ := id hW
  obtain ⟨⟨n1, n2⟩, n3, n4, n5, n6, n7⟩ := id hN
  obtain ⟨gC, gL, gU⟩ := id hG
  have hg1 : 1 ≤ g 1 := gC.2.2.2.1
  have hg8 : g 1 ≤ 8 := gC.2.2.2.2.1
  have hun := k_U_le gU
  have hM8 := hVV.2.2
  obtain ⟨kp, hkp⟩ : ∃ kp, e_kp (g 2) keep = kp := ⟨_, rfl⟩
  have hkle : kp ≤ g 2 := by
    rw [← hkp]
    unfold e_kp
    by_cases h : keep < 0
    · rw [if_pos h]; omega
    · rw [if_neg h]; omega
  have hcxle : ∀ j, j ≤ g 2 → 1 ≤ k_cx cb (g 2) (g 1) j ∧ k_cx cb (g 2) (g 1) j ≤ g 1 := by
    intro j hj
    unfold k_cx
    by_cases h : j < g 2
    · rw [if_pos h]
      have := (gU.1 j h).2.1
      omega
    · rw [if_neg h]; omega
  have hlast : (if kp < g 2 then F 17 kp - 1 else w 4) = nI (k_cx sb (g 2) last kp) := by
    unfold k_cx
    by_cases h : kp < g 2
    · rw [if_pos h, if_pos h, (gU.1 kp h).1.1, nI_pred]
    · rw [if_neg h, if_neg h]; exact w2.2
  obtain ⟨hm', b1, b2, b3⟩ := mo_crash 0 (hds := k_hds cb (g 2) (g 1) (g 0)) (keep := keep) w4 (by omega) w10 (by omega) hkp (by
    rw [w9]
    unfold k_hds k_cx
    rw [if_neg (by omega)]) (by
    intro j hj
    unfold k_hds
    have := hcxle j hj
    omega) (by
    intro j hj
    obtain ⟨_, u2, u3⟩ := gU.1 j hj
    have e1 : k_cx cb (g 2) (g 1) j = cb j := by unfold k_cx; rw [if_pos hj]
    unfold k_hds
    rw [e1]
    rcases u3 with ⟨h1, h2, h3⟩ | ⟨h1, h2, h3⟩
    · rw [if_pos h1, h3]
    · rw [if_neg h1, h2]; omega) hM
  rw [hlast] at b2
  obtain ⟨k1, k2, k3, k4, k5, k6, k7⟩ := k_crash (st := kp) hD.1 hVV.1 hVV.2.1 gC gL gU (by omega) hkle
  have hSS : k_S (fun i => if i < 3 then -1 else S i) (m_cF F (k_hds cb (g 2) (g 1) (g 0)) (g 2) kp (nI (k_cx sb (g 2) last kp)) n) (k_cx sb (g 2) last kp) := by
    intro s hs'
    have e14 : m_cF F (k_hds cb (g 2) (g 1) (g 0)) (g 2) kp (nI (k_cx sb (g 2) last kp)) n 14 s = 0 := by
      show (if s < 3 then (0 : Int32) else F 14 s) = 0
      rw [if_pos hs']
    rw [e14, if_pos rfl]
    refine ⟨?_, .inl rfl, fun h => absurd rfl h⟩
    show (if s < 3 then (-1 : Int32) else S s) = -1
    rw [if_pos hs']
  have hPP : k_P (ad 1) p En E n 0 := by
    obtain ⟨p1, p2, p3, p4⟩ := hP
    have hd : ∀ x, k_D n 0 x → k_D n r x := fun x hx => by
      rcases hx with h | h
      · exact .inl (by omega)
      · exact .inr h
    exact ⟨p1, fun x y hx hy => p2 x y (hd x hx) (hd y hy), fun x hx => p3 x (hd x hx), p4⟩
  have hgx := hcxle kp hkle
  by_cases hk : kp = g 2
  · obtain ⟨hv', a1, a2, a3⟩ := vl_crashAll 0 (keep := keep) (by rw [hkp]; exact hk) hV
    have e1 : k_cx sb (g 2) last kp = last := by unfold k_cx; rw [if_neg (by omega)]
    have e2 : k_cx cb (g 2) (g 1) kp = g 1 := by unfold k_cx; rw [if_neg (by omega)]
    have e3 : k_cx tb (g 2) (tk (g 1 - 1)) kp = tk (g 1 - 1) := by unfold k_cx; rw [if_neg (by omega)]
    have e4 : k_hds cb (g 2) (g 1) (g 0) kp = g 0 + (g 1 - 1) := by unfold k_hds; rw [e2]
    rw [e1] at b2 k1 k2 k3 k4 k5 hSS
    rw [e2, e3, va_up_id] at k4 k5
    rw [e4] at b2
    have e5 : M.length - (last - last) = M.length := by omega
    rw [e5, List.take_length] at k2 k3
    have e6 : g 2 - kp = 0 := by omega
    rw [e6] at b1
    exact ⟨_, hv', hm', am_M_up (by omega) a1, am_M_up (by omega) b1, ⟨ad, tt, rr, aa, _, C, fl, c, tk, cb, tb, sb, _, _, En, E, v, A, _, _, p, n, 0, last, t, nw, M, T0, L1, L2, rfl, a2, b2, hPP, ⟨rfl, hI.2.1, hI.2.2⟩, ⟨k1, fun j hj => absurd hj (Nat.not_lt_zero j)⟩, ⟨k2, k3, hM8⟩, hSS, ⟨k4, k5, k_U_0 _ _ _ _ _ _ _ _ _ _⟩, ⟨w1, ⟨w2.1, rfl⟩, w3, w4, w5, w6, rfl, w8, rfl, rfl⟩, ⟨by omega, by omega⟩, n3, by omega, by omega, by show g 0 + g 1 ≤ _; omega, by omega⟩, .inl a3, b3⟩
  · have hlt : kp < g 2 := by omega
    obtain ⟨⟨u1, u2, u3⟩, ⟨u4, u5, u6⟩, _⟩ := gU.1 kp hlt
    have hlen1 : (R 1).length = M.length := by rw [hI.2.1, List.length_map]
    obtain ⟨hv', a1, a2, a3⟩ := vl_crash 0 (last := last) hkp hlt (by omega) w2.1 (by omega) (by omega) ⟨u4, by omega⟩ (by omega) hV
    have e1 : k_cx sb (g 2) last kp = sb kp := by unfold k_cx; rw [if_pos hlt]
    have e2 : k_cx cb (g 2) (g 1) kp = cb kp := by unfold k_cx; rw [if_pos hlt]
    have e3 : k_cx tb (g 2) (tk (g 1 - 1)) kp = tb kp := by unfold k_cx; rw [if_pos hlt]
    have e4 : k_hds cb (g 2) (g 1) (g 0) kp = g 0 + (cb kp - 1) := by unfold k_hds; rw [e2]
    rw [e1] at b2 k1 k2 k3 k4 k5 hSS
    rw [e2, e3] at k4 k5
    rw [e4] at b2
    rw [hlen1] at a2
    have hMt : (R 1).take (M.length - (last - sb kp)) = (M.take (M.length - (last - sb kp))).map p := by rw [hI.2.1, List.map_take]
    rw [hMt] at a2
    exact ⟨_, hv', hm', am_M_up (by omega) a1, am_M_up (by omega) b1, ⟨ad, tt, rr, aa, _, C, fl, c, _, cb, tb, sb, _, _, En, E, _, A, _, _, p, n, 0, sb kp, t, nw, _, T0, L1, L2, rfl, a2, b2, hPP, ⟨rfl, rfl, hI.2.2⟩, ⟨k1, fun j hj => absurd hj (Nat.not_lt_zero j)⟩, ⟨k2, k3, by rw [List.length_take]; omega⟩, hSS, ⟨k4, k5, k_U_0 _ _ _ _ _ _ _ _ _ _⟩, ⟨w1, ⟨rfl, rfl⟩, w3, w4, w5, w6, rfl, w8, rfl, rfl⟩, ⟨by omega, by omega⟩, by omega, by omega, by omega, by show g 0 + cb kp ≤ _; omega, by omega⟩, .inl a3, b3⟩
end KXA
