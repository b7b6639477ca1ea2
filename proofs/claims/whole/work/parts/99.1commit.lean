section KWR
variable {F : Nat → Nat → Int32} {S : Nat → Int32} {n r last nw : Nat} {M L1 L2 : List Nat} {T0 : Nat → List Nat}
theorem k_hd_eq (tk : Nat → Nat) {tl cn r : Nat} (hcn : 1 ≤ cn) : m_hd (tl + (cn - 1)) (tk (cn - 1)) r = tl + (e_bc tk cn r - 1) := by
  rw [e_bc_1 tk hcn]
  unfold m_hd
  by_cases h : 16 < tk (cn - 1) + 1 + r
  · rw [if_pos h, if_pos h]; omega
  · rw [if_neg h, if_neg h]
theorem k_write {b : Nat} {p : Nat → Nat} {R R' : Nat → List Nat} {C : Nat → Nat → List Nat} {fl : Nat → Nat → Int32} {c : Nat → Nat} {tk cb tb sb g : Nat → Nat} {En : Nat → Prop} {E : Nat → Nat → Int32} {t : Nat} (hP : k_P b p En E n r) (hI : k_I p R C fl c E M T0 L1 L2 n r) (hD : k_dc (k_ep E p) F n ∧ k_B (k_ep E p) F n r) (hV : k_V (k_ep E p) F n last nw (c 0) M T0 L1 L2) (hMc : k_Mc F M last) (hS : k_S S F last) (hG : k_G F tk cb tb sb g n last M) (ht : t ≤ 1000000) (hlb : last + r < 2 ^ 30) (hr0 : 0 < r) (hr6 : r ≤ 6) (h8 : e_bc tk (g 1) r ≤ 8) (hn : n + r < 600) (h0 : R' 0 = []) (h1 : R' 1 = R 1 ++ R 0) :
    k_P b p En (e_wrs (nI t) (R 0) E last (g 0 + (e_bc tk (g 1) r - 1)) (e_bt tk (g 1) r (e_bc tk (g 1) r - 1))) (n + r) 0 ∧
    k_I p R' C fl c (e_wrs (nI t) (R 0) E last (g 0 + (e_bc tk (g 1) r - 1)) (e_bt tk (g 1) r (e_bc tk (g 1) r - 1))) (M ++ List.range' n r) T0 L1 L2 (n + r) 0 ∧
    (k_dc (k_ep (e_wrs (nI t) (R 0) E last (g 0 + (e_bc tk (g 1) r - 1)) (e_bt tk (g 1) r (e_bc tk (g 1) r - 1))) p) (m_k3 F (nI t) (g 2) (tk (g 1 - 1)) r last (g 0 + (g 1 - 1)) n) (n + r) ∧ k_B (k_ep (e_wrs (nI t) (R 0) E last (g 0 + (e_bc tk (g 1) r - 1)) (e_bt tk (g 1) r (e_bc tk (g 1) r - 1))) p) (m_k3 F (nI t) (g 2) (tk (g 1 - 1)) r last (g 0 + (g 1 - 1)) n) (n + r) 0) ∧
    (k_V (k_ep (e_wrs (nI t) (R 0) E last (g 0 + (e_bc tk (g 1) r - 1)) (e_bt tk (g 1) r (e_bc tk (g 1) r - 1))) p) (m_k3 F (nI t) (g 2) (tk (g 1 - 1)) r last (g 0 + (g 1 - 1)) n) (n + r) (last + r) nw (c 0) (M ++ List.range' n r) T0 L1 L2 ∧ k_Mc (m_k3 F (nI t) (g 2) (tk (g 1 - 1)) r last (g 0 + (g 1 - 1)) n) (M ++ List.range' n r) (last + r)) ∧
    k_S S (m_k3 F (nI t) (g 2) (tk (g 1 - 1)) r last (g 0 + (g 1 - 1)) n) (last + r) ∧
    k_G (m_k3 F (nI t) (g 2) (tk (g 1 - 1)) r last (g 0 + (g 1 - 1)) n) (va_up (e_bt tk (g 1) r) (e_bc tk (g 1) r - 1) (e_bt tk (g 1) r (e_bc tk (g 1) r - 1) + r)) (va_up cb (g 2) (g 1)) (va_up tb (g 2) (tk (g 1 - 1))) (va_up sb (g 2) last) (e_lg (g 0) (e_bc tk (g 1) r) (g 2 + 1)) (n + r) (last + r) (M ++ List.range' n r) := by
  obtain ⟨p1, p2, p3, p4, p5, p6⟩ := hP
  obtain ⟨gC, gL, gU⟩ := hG
  have hg1 : 1 ≤ g 1 := gC.2.2.2.1
  have hbt := e_bt_1 (m := r) tk hg1
  have hhd := k_hd_eq tk (tl := g 0) (r := r) hg1
  have hR0 := hI.1
  have hD0 : ∀ j, j < r → k_D n r (n + j) := fun j hj => .inl (by omega)
  have hnd : (R 0).Nodup := by
    rw [hR0]
    unfold List.Nodup
    rw [List.pairwise_map]
    refine List.Pairwise.imp_of_mem ?_ (List.nodup_range' (s := n) (n := r) (step := 1))
    intro a b' ha hb' hab h
    rw [List.mem_range'] at ha hb'
    obtain ⟨i, i1, i2⟩ := ha
    obtain ⟨j, j1, j2⟩ := hb'
    exact hab (p2 a b' (.inl (by omega)) (.inl (by omega)) h)
  have hget : ∀ q, q < r → (R 0)[q]? = some (p (n + q)) := by
    intro q hq
    rw [hR0, List.getElem?_map, List.getElem?_eq_getElem (by rw [List.length_range']; exact hq), List.getElem_range', Nat.one_mul]
    rfl
  have hnot : ∀ x, k_D n r x → (x < n ∨ x = 600) → p x ∉ R 0 := by
    intro x hx hlt hm
    rw [hR0] at hm
    obtain ⟨y, hy, hxy⟩ := List.mem_map.mp hm
    rw [List.mem_range'] at hy
    obtain ⟨j, j1, j2⟩ := hy
    have := p2 y x (.inl (by omega)) hx hxy
    omega
  have hEo : ∀ x, k_D n r x → (x < n ∨ x = 600) → e_wrs (nI t) (R 0) E last (g 0 + (e_bc tk (g 1) r - 1)) (e_bt tk (g 1) r (e_bc tk (g 1) r - 1)) (p x) = E (p x) := fun x hx hlt => e_wrs_out _ _ _ _ _ _ _ (hnot x hx hlt)
  have hcG : k_cG (k_ep (e_wrs (nI t) (R 0) E last (g 0 + (e_bc tk (g 1) r - 1)) (e_bt tk (g 1) r (e_bc tk (g 1) r - 1))) p) (k_ep E p) n r last t (m_hd (g 0 + (g 1 - 1)) (tk (g 1 - 1)) r) (m_us (tk (g 1 - 1)) r + 1) := by
    refine ⟨fun i hi => hEo i (.inl (by omega)) (.inl hi), fun q hq j => ?_⟩
    rw [← hbt, hhd]
    exact e_wrs_in (nI t) (R 0) E last (g 0 + (e_bc tk (g 1) r - 1)) (e_bt tk (g 1) r (e_bc tk (g 1) r - 1)) q (p (n + q)) hnd (hget q hq) j
  have hF2 : ∀ j, j < 16 → m_k2 F (g 2) (tk (g 1 - 1)) r last (g 0 + (g 1 - 1)) j = F j := by
    intro j hj
    unfold m_k2 m_k1
    rw [va_up_ne _ _ (by omega), va_up_ne _ _ (by omega), va_up_ne _ _ (by omega), va_up_ne _ _ (by omega)]
  have hd2 : k_dc (k_ep E p) (m_k2 F (g 2) (tk (g 1 - 1)) r last (g 0 + (g 1 - 1))) n := k_dc_cg hD.1 (hF2 0 (by omega)) (hF2 1 (by omega)) (hF2 2 (by omega)) (hF2 3 (by omega)) (hF2 4 (by omega)) (hF2 7 (by omega)) (hF2 8 (by omega))
  have hB2 : k_B (k_ep E p) (m_k2 F (g 2) (tk (g 1 - 1)) r last (g 0 + (g 1 - 1))) n r := k_B_cg hD.2 (hF2 11 (by omega)) (hF2 12 (by omega)) (hF2 13 (by omega))
  have hV2 : k_V (k_ep E p) (m_k2 F (g 2) (tk (g 1 - 1)) r last (g 0 + (g 1 - 1))) n last nw (c 0) M T0 L1 L2 := k_V_cg hV (hF2 0 (by omega)) (hF2 1 (by omega)) (hF2 5 (by omega)) (hF2 6 (by omega))
  have hM2 : k_Mc (m_k2 F (g 2) (tk (g 1 - 1)) r last (g 0 + (g 1 - 1))) M last := k_Mc_cg hMc (hF2 1 (by omega))
  have hC2 : k_C (m_k2 F (g 2) (tk (g 1 - 1)) r last (g 0 + (g 1 - 1))) tk n (g 0) (g 1) := k_C_cg gC (fun i hi => (k_al_cg (hF2 5 (by omega))).mp hi) (hF2 3 (by omega)) (hF2 7 (by omega)) (hF2 8 (by omega))
  have hj : ∀ j, 9 ≤ j → m_k3 F (nI t) (g 2) (tk (g 1 - 1)) r last (g 0 + (g 1 - 1)) n j = m_k2 F (g 2) (tk (g 1 - 1)) r last (g 0 + (g 1 - 1)) j := fun j hj => m_cw_j _ _ _ _ _ _ (.inr hj) r
  obtain ⟨v1, v2⟩ := k_V_cm (t := nI t) (hdn := m_hd (g 0 + (g 1 - 1)) (tk (g 1 - 1)) r) (a0 := m_us (tk (g 1 - 1)) r + 1) hV2 hM2 hB2 hlb hcG.1
  have hlen : (M ++ List.range' n r).length = M.length + r := by rw [List.length_append, List.length_range']
  refine ⟨⟨p1, fun x y hx hy => p2 x y ?_ ?_, fun x hx => p3 x ?_, ?_, ?_, ?_⟩, ?_, ⟨k_dc_cm hd2 hB2 ht hcG, fun j hj => absurd hj (Nat.not_lt_zero j)⟩, ⟨v1, v2⟩, ?_, ⟨?_, ?_, ?_⟩⟩
  · rcases hx with h | h
    · exact .inl (by omega)
    · exact .inr h
  · rcases hy with h | h
    · exact .inl (by omega)
    · exact .inr h
  · rcases hx with h | h
    · exact .inl (by omega)
    · exact .inr h
  · rw [← p1, hEo 600 (.inr rfl) (.inr rfl), p1]; exact p4
  · rw [← p1, hEo 600 (.inr rfl) (.inr rfl), p1]; exact p5
  · rw [← p1, hEo 600 (.inr rfl) (.inr rfl), p1]; exact p6
  · obtain ⟨i0, i1, i2, i3⟩ := hI
    refine ⟨by rw [h0]; rfl, by rw [h1, i1, i0, List.map_append], i2, fun l k hl hk => ?_⟩
    obtain ⟨j1, j2⟩ := i3 l k hl hk
    refine ⟨j1, ?_⟩
    rw [j2]
    refine (k_ff_cg _ 0 (fun x hx => ?_)).symm
    rw [j1] at hx
    obtain ⟨i, hi, rfl⟩ := List.mem_map.mp hx
    have hin := k_V_T hV hl (by rw [← i2 l hl]; exact hk) hi
    rw [hEo i (.inl (by omega)) (.inl hin)]
  · intro s hs
    rw [hj 14 (by omega), hj 15 (by omega), hF2 14 (by omega), hF2 15 (by omega)]
    obtain ⟨s1, s2, s3⟩ := hS s hs
    exact ⟨s1, s2, fun h => by have := s3 h; omega⟩
  · show k_C _ _ (n + r) (g 0) (e_bc tk (g 1) r)
    have := k_C_cm (t := nI t) (last := last) hC2 hr6 h8
    rw [← hhd] at this
    rw [hbt]
    exact this
  · show k_lgF _ _ (g 0) (e_bc tk (g 1) r)
    rw [hbt]
    refine k_lg_cm gC gL h8 ?_
    rw [hj 16 (by omega)]
    rfl
  · show k_U _ _ _ _ _ (g 2 + 1) (e_bc tk (g 1) r) (g 0) (last + r) (n + r) (M ++ List.range' n r).length
    rw [hbt, hlen]
    refine k_U_cm hV.1 gC gU hr0 hr6 hlb h8 (by rw [hj 17 (by omega)]; rfl) (by rw [hj 18 (by omega)]; rfl) (by rw [hj 19 (by omega)]; rfl) (fun j i hi hj9 => ?_) (fun q hq => ?_)
    · have e1 : m_k3 F (nI t) (g 2) (tk (g 1 - 1)) r last (g 0 + (g 1 - 1)) n j i = m_k2 F (g 2) (tk (g 1 - 1)) r last (g 0 + (g 1 - 1)) j i := m_cw_out _ _ _ _ _ _ j i r (.inl hi)
      rw [e1, hF2 j (by omega)]
    · have e1 : m_k3 F (nI t) (g 2) (tk (g 1 - 1)) r last (g 0 + (g 1 - 1)) n 1 (n + q) = nI (last + q + 1) := (m_cw_at _ _ _ _ _ _ q r hq).2.1
      rw [e1, nI_toInt (by omega)]; omega
end KWR
section KCT
variable {z st xv xm : Nat} {hv hm : am_H}
theorem jo_commit (hJ : k_J z st xv xm hv hm) (hs : st < 512) : k_O z st xv xm hv hm 15 98 [] := by
  obtain ⟨ad, tt, rr, aa, R, C, fl, c, tk, cb, tb, sb, g, S, En, E, v, A, w, F, p, n, r, last, t, nw, M, T0, L1, L2, hx, hV, hM, hP, hI, hD, hVV, hS, hG, hW, hN⟩ := hJ
  subst hx
  have hJ' : k_J z (st + 1) (ad 0) xm hv hm := ⟨ad, tt, rr, aa, R, C, fl, c, tk, cb, tb, sb, g, S, En, E, v, A, w, F, p, n, r, last, t, nw, M, T0, L1, L2, rfl, hV, hM, hP, hI, hD, hVV, hS, hG, hW, k_N_up hN hs⟩
  obtain ⟨w1, w2, w3, w4, w5, w6, w7, w8, w9, w10⟩ := id hW
  obtain ⟨⟨n1, n2⟩, n3, n4, n5, n6, n7⟩ := id hN
  obtain ⟨gC, gL, gU⟩ := id hG
  have hg1 : 1 ≤ g 1 := gC.2.2.2.1
  have hg8 : g 1 ≤ 8 := gC.2.2.2.2.1
  have hlen : (R 0).length = r := by rw [hI.1, List.length_map, List.length_range']
  have hlen1 : (R 1).length = M.length := by rw [hI.2.1, List.length_map]
  have hsz := k_size hVV.1
  have htk : tk (g 1 - 1) ≤ 16 := gC.2.2.1 _ (by omega)
  have hu2 : F 16 ((g 0 + (g 1 - 1)) % 8) = nI (tk (g 1 - 1)) := gL (g 1 - 1) (by omega)
  have hcn : g 0 + (g 1 - 1) - g 0 + 1 = g 1 := by omega
  by_cases hr0 : r = 0
  · have hR0 : R 0 = [] := List.length_eq_zero_iff.mp (by rw [hlen]; exact hr0)
    have b1 := mo_commitNone 0 (by rw [w7, hr0]) hM
    exact ⟨_, hv, hm, am_M_up (by omega) (vl_commitNone 0 hR0 hV), am_M_up (by omega) b1, hJ', .inl rfl, rfl⟩
  · have hR0 : R 0 ≠ [] := fun h => hr0 (by rw [← hlen, h]; rfl)
    by_cases hf : 16 < tk (g 1 - 1) + 1 + r ∧ 8 ≤ g 1
    · have a1 := vl_commitFull 0 hR0 (by rw [hlen]; exact hf) hV
      have b1 := mo_commitFull 0 w7 (by omega) n2 w9 (by omega) w8 hu2 (by omega) (by omega) (by rw [hcn]; exact hf) hM
      exact ⟨_, hv, hm, am_M_up (by omega) a1, am_M_up (by omega) b1, hJ', .inl rfl, rfl⟩
    · have h8 : e_bc tk (g 1) r ≤ 8 := by
        unfold e_bc
        by_cases h : 16 < tk (g 1 - 1) + 1 + r
        · rw [if_pos h]; omega
        · rw [if_neg h]; exact hg8
      have hcc : e_bc tk (g 1) r ≤ g 1 + 1 := by
        unfold e_bc
        by_cases h : 16 < tk (g 1 - 1) + 1 + r
        · rw [if_pos h]; exact Nat.le_refl _
        · rw [if_neg h]; omega
      have hb : ∀ x ∈ R 0, x ≠ ad 1 := by
        intro x hx h
        rw [hI.1] at hx
        obtain ⟨y, hy, hxy⟩ := List.mem_map.mp hx
        rw [List.mem_range'] at hy
        obtain ⟨j, j1, j2⟩ := hy
        have := hP.2.1 y 600 (.inl (by omega)) (.inr rfl) (by rw [hxy, h, hP.1])
        omega
      have hbe := hP.2.2.2.1
      have hv0 : v 0 = nI t := w1.1
      have hw0 : w 0 = nI t := w1.2
      have hhd := k_hd_eq tk (tl := g 0) (r := r) hg1
      by_cases hM8 : M.length + r ≤ 8
      · have hun := k_U_le gU
        obtain ⟨hv', a1, a2, a3⟩ := vl_commitA 0 hR0 (last := last) (by omega) w2.1 (by omega) (by omega) (by rw [hlen]; exact hf) htk hb hV
        rw [hlen] at a1 a2
        obtain ⟨hm', b1, b2, b3⟩ := mo_commitRest 0 w4 (by omega) w7 n2 w2.2 (by omega) w10 (by omega) w9 (by omega) hu2 (by omega) hM
        have b4 := mo_commit1 1 w4 (by omega) w7 (by omega) n2 w9 (by omega) w8 hu2 (by omega) (by omega) (by rw [hcn]; exact hf) hM (by rw [hsz]; exact hM8) b1
        rw [hv0] at a2
        rw [hw0] at b2
        obtain ⟨q1, q2, q3, q4, q5, q6⟩ := k_write (R' := va_up (va_up R 1 (R 1 ++ R 0)) 0 []) hP hI hD hVV.1 hVV.2.1 hS hG (t := t) (by omega) (by omega) (by omega) n2 h8 (by omega) rfl rfl
        refine ⟨_, hv', hm', am_M_up (by omega) a1, am_M_up (by omega) b4, ⟨ad, tt, rr, aa, _, C, fl, c, _, _, _, _, _, S, En, _, _, A, _, _, p, n + r, 0, last + r, t, nw, _, T0, L1, L2, rfl, a2, b2, q1, q2, q3, ⟨q4.1, q4.2, by rw [List.length_append, List.length_range']; exact hM8⟩, q5, q6, ⟨⟨hv0, hw0⟩, ⟨rfl, rfl⟩, w3, rfl, w5, w6, rfl, w8, by show nI _ = nI _; rw [hhd]; rfl, rfl⟩, ⟨by omega, by omega⟩, by omega, by omega, by omega, by show g 0 + e_bc tk (g 1) r ≤ _; omega, by omega⟩, .inl a3, b3⟩
      · have hMe : M ≠ [] := fun h => hM8 (by rw [h]; simp; omega)
        obtain ⟨f0, f1, f2⟩ := k_I_fl hI
        obtain ⟨r1, r2, r3⟩ := k_rooms (now := v 0) hP.1 hbe hD.1 hVV.1 hS (by omega)
        obtain ⟨hv', h1, tt', rr', aa', R2, C1, fl1, c1, a1, a2, a3, a4, a5, a6, a7⟩ := vl_commitB 0 f0 f1 f2 hV (fun _ => r1) (fun _ => r2) (fun _ => r3) hR0 (last := last) (by omega) w2.1 (by omega) (by rw [hlen]; exact hf) htk hb
        obtain ⟨⟨T', L1', L2', k1, k2⟩, k3, k4, k5, k6⟩ := k_flush (R' := va_up (va_up R 1 []) 2 R2) hP.1 hbe hI hD.1 hVV.1 hS (by omega) (by omega) hMe hVV.2.2 a7 rfl rfl
        obtain ⟨hm1, b1, b2, b3⟩ := k_mflush hM w4 (by omega) w2.2 (by omega) w5 w6 hVV.1.2.1.1.1 (w1.2.trans w1.1.symm) (by rw [hsz]; exact List.length_pos_iff.mpr hMe)
        rw [← k5] at b2
        have hD1 : k_dc (k_ep E p) (m_fl (k_F1 F (v 0) n last (c 0)) (v 0) (nI nw) n last) n ∧ k_B (k_ep E p) (m_fl (k_F1 F (v 0) n last (c 0)) (v 0) (nI nw) n last) n r := ⟨k_dc_cg hD.1 (k3 0 (by omega) (by omega) (by omega) (by omega)) (k3 1 (by omega) (by omega) (by omega) (by omega)) (k3 2 (by omega) (by omega) (by omega) (by omega)) (k3 3 (by omega) (by omega) (by omega) (by omega)) (k3 4 (by omega) (by omega) (by omega) (by omega)) (k3 7 (by omega) (by omega) (by omega) (by omega)) (k3 8 (by omega) (by omega) (by omega) (by omega)), k_B_cg hD.2 (k3 11 (by omega) (by omega) (by omega) (by omega)) (k3 12 (by omega) (by omega) (by omega) (by omega)) (k3 13 (by omega) (by omega) (by omega) (by omega))⟩
        have hS1 : k_S S (m_fl (k_F1 F (v 0) n last (c 0)) (v 0) (nI nw) n last) last := k_S_cg hS (k3 14 (by omega) (by omega) (by omega) (by omega)) (k3 15 (by omega) (by omega) (by omega) (by omega))
        have hG1 : k_G (m_fl (k_F1 F (v 0) n last (c 0)) (v 0) (nI nw) n last) tk cb tb sb (va_up g 2 0) n last [] := ⟨k_C_cg hG.1 k4 (k3 3 (by omega) (by omega) (by omega) (by omega)) (k3 7 (by omega) (by omega) (by omega) (by omega)) (k3 8 (by omega) (by omega) (by omega) (by omega)), fun k hk => by rw [k3 16 (by omega) (by omega) (by omega) (by omega)]; exact hG.2.1 k hk, k_U_0 _ _ _ _ _ _ _ _ _ _⟩
        have hMc1 : k_Mc (m_fl (k_F1 F (v 0) n last (c 0)) (v 0) (nI nw) n last) [] last := fun j x hx => by simp at hx
        have hu3 : m_fl (k_F1 F (v 0) n last (c 0)) (v 0) (nI nw) n last 16 ((g 0 + (g 1 - 1)) % 8) = nI (tk (g 1 - 1)) := by rw [k3 16 (by omega) (by omega) (by omega) (by omega)]; exact hu2
        obtain ⟨hm', b4, b5, b6⟩ := mo_commitRest 3 (un := 0) (w := va_up (va_up (va_up w 2 (nI (nw + 1))) 3 (nI (c1 0 + 1))) 8 0) w4 (by omega) w7 n2 w2.2 (by omega) rfl (by omega) w9 (by omega) hu3 (by omega) b2
        have b7 := mo_commit2 4 w4 (by omega) w7 (by omega) n2 w9 (by omega) w8 hu2 (by omega) (by omega) (by rw [hcn]; exact hf) hM (by rw [hsz]; omega) b1 b4
        rw [hlen] at a1 a4
        obtain ⟨q1, q2, q3, q4, q5, q6⟩ := k_write (R' := va_up (va_up (va_up (va_up R 1 []) 2 R2) 1 (R 0)) 0 []) (c := va_up c1 0 (c1 0 + 1)) (g := va_up g 2 0) hP k2 hD1 k1 hMc1 hS1 hG1 (t := t) (by omega) (by omega) (by omega) n2 h8 (by omega) rfl rfl
        have b5' : vs_M z hm' xm A _ (m_k3 (m_fl (k_F1 F (v 0) n last (c 0)) (v 0) (nI nw) n last) (w 0) 0 (tk (g 1 - 1)) r last (g 0 + (g 1 - 1)) n) := b5
        rw [hw0] at b5'
        have a4' := a4
        rw [show (e_wrs (v 0) (R 0) E last) = e_wrs (nI t) (R 0) E last by rw [hv0]] at a4'
        refine ⟨_, hv', hm', am_M_up (by omega) a1, am_M_up (by omega) b7, ⟨ad, tt', rr', aa', _, _, _, _, _, _, _, _, _, S, En, _, _, A, _, _, p, n + r, 0, last + r, t, nw + 1, _, T', L1', L2', rfl, a4', b5', q1, q2, q3, ⟨q4.1, q4.2, by rw [List.length_append, List.length_range']; simp; omega⟩, q5, q6, ⟨⟨hv0, hw0⟩, ⟨rfl, rfl⟩, w3, rfl, rfl, rfl, rfl, w8, by show nI _ = nI _; rw [hhd]; rfl, rfl⟩, ⟨by omega, by omega⟩, by omega, by omega, by omega, by show g 0 + e_bc tk (g 1) r ≤ _; omega, by omega⟩, .inl a6, b6.trans b3⟩
end KCT
