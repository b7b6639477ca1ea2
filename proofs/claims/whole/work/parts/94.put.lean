section KPU
variable {G G' F : Nat → Nat → Int32} {n r last nw c0 : Nat} {M L1 L2 : List Nat} {T0 : Nat → List Nat}
theorem k_dc_G (h : k_dc G F n) (hG : ∀ i, i < n → G' i = G i) : k_dc G' F n := fun i hi => by rw [hG i hi]; exact h i hi
theorem k_V_G (h : k_V G F n last nw c0 M T0 L1 L2) (hG : ∀ i, i < n → G' i 0 = G i 0 ∧ G' i 4 = G i 4) : k_V G' F n last nw c0 M T0 L1 L2 := by
  obtain ⟨hA, ⟨z0, z4, z5⟩, ⟨a1, a2⟩, ⟨b1, b2⟩, rest⟩ := h
  exact ⟨hA, ⟨z0, fun k hk => ⟨k_srt_cg (z4 k hk).1 (fun x hx => hG x (((z4 k hk).2.2.2 x).mp hx).1), (z4 k hk).2⟩, z5⟩, ⟨k_srt_cg a1 (fun x hx => hG x ((a2 x).mp hx).1), a2⟩, ⟨k_srt_cg b1 (fun x hx => hG x ((b2 x).mp hx).1), b2⟩, rest⟩
theorem k_V_M (h : k_V G F n last nw c0 M T0 L1 L2) {x : Nat} (hx : x ∈ M) : x < n := ((h.2.2.2.2.2.2.2.2.2 x).mp hx).1
theorem k_V_T (h : k_V G F n last nw c0 M T0 L1 L2) {l k x : Nat} (hl : l < 3) (hk : k < k_ct c0 L1 L2 l) (hx : x ∈ k_tb T0 L1 L2 l k) : x < n := (((k_li h hl hk).1 x).mp hx).1
theorem k_I_cg {p p' : Nat → Nat} {R R' : Nat → List Nat} {C : Nat → Nat → List Nat} {fl : Nat → Nat → Int32} {c : Nat → Nat} {E E' : Nat → Nat → Int32} {r' : Nat} (hI : k_I p R C fl c E M T0 L1 L2 n r) (hV : k_V (k_ep E p) F n last nw (c 0) M T0 L1 L2) (hp : ∀ i, i < n → p' i = p i) (hE : ∀ i, i < n → E' (p i) 0 = E (p i) 0) (h0 : R' 0 = (List.range' n r').map p') (h1 : R' 1 = R 1) : k_I p' R' C fl c E' M T0 L1 L2 n r' := by
  obtain ⟨i0, i1, i2, i3⟩ := hI
  refine ⟨h0, ?_, i2, fun l k hl hk => ?_⟩
  · rw [h1, i1]
    exact List.map_congr_left (fun x hx => (hp x (k_V_M hV hx)).symm)
  · obtain ⟨j1, j2⟩ := i3 l k hl hk
    have hk' : k < k_ct (c 0) L1 L2 l := by rw [← i2 l hl]; exact hk
    have hm : ∀ x ∈ k_tb T0 L1 L2 l k, x < n := fun x hx => k_V_T hV hl hk' hx
    refine ⟨?_, ?_⟩
    · rw [j1]
      exact List.map_congr_left (fun x hx => (hp x (hm x hx)).symm)
    · rw [j2, j1]
      refine (k_ff_cg _ 0 (fun x hx => ?_)).symm
      obtain ⟨i, hi, rfl⟩ := List.mem_map.mp hx
      exact hE i (hm i hi)
theorem k_put {b : Nat} {p : Nat → Nat} {R : Nat → List Nat} {C : Nat → Nat → List Nat} {fl : Nat → Nat → Int32} {c : Nat → Nat} {tk cb tb sb g : Nat → Nat} {S : Nat → Int32} {En : Nat → Prop} {E : Nat → Nat → Int32} {v w : Nat → Int32} {t st a : Nat} {k vl l dl l2 : Int32}
    (hK : k_K b p R C fl c tk cb tb sb g S En E v w F n r last t nw st M T0 L1 L2) (hs : st < 512) (hr : r < 6) (ha : ∀ e, En e → e < a) (hk : ¬ (k < 0 ∨ 32 ≤ k)) (hl : (l2 = -1 ∧ l = 0 ∧ dl = 1) ∨ (0 ≤ l2.toInt ∧ l2.toInt ≤ 1000 ∧ l = l2 ∧ dl = 0)) (hEb : En b) :
    k_K b (va_up p (n + r) a) (va_up R 0 (R 0 ++ [a])) C fl c tk cb tb sb g S (fun q => En q ∨ q = a) (e_nw E a k vl l dl) v (va_up w 5 (nI (r + 1))) (m_add F r k vl l2) n (r + 1) last t nw (st + 1) M T0 L1 L2 := by
  obtain ⟨hP, hI, hD, hVV, hS, hG, hW, hN⟩ := hK
  obtain ⟨p1, p2, p3, p4, p5, p6⟩ := hP
  obtain ⟨⟨n1, n2⟩, n3⟩ := id hN
  have hst : st ≤ 512 := n3.2.2.2.2
  have hD' : ∀ x, k_D n (r + 1) x → x ≠ n + r → k_D n r x := by
    intro x hx hne
    rcases hx with h | h
    · left; omega
    · exact .inr h
  have hpa : ∀ x, k_D n r x → p x ≠ a := fun x hx h => by have := ha _ (p3 x hx); omega
  have hpn : ∀ x, x ≠ n + r → va_up p (n + r) a x = p x := fun x hx => va_up_ne _ _ hx
  have hEn : ∀ y, y ≠ a → e_nw E a k vl l dl y = E y := fun y hy => by funext j; unfold e_nw; rw [if_neg hy]
  have hGi : ∀ i, k_D n r i → i ≠ n + r → k_ep (e_nw E a k vl l dl) (va_up p (n + r) a) i = k_ep E p i := by
    intro i hi hne
    show e_nw E a k vl l dl (va_up p (n + r) a i) = E (p i)
    rw [hpn i hne, hEn _ (hpa i hi)]
  have hGn : ∀ i, i < n → k_ep (e_nw E a k vl l dl) (va_up p (n + r) a) i = k_ep E p i := fun i hi => hGi i (.inl (by omega)) (by omega)
  have hba : b ≠ a := fun h => by have := ha b hEb; omega
  have hF : ∀ j, j ≠ 11 → j ≠ 12 → j ≠ 13 → m_add F r k vl l2 j = F j := fun j h1 h2 h3 => by
    unfold m_add
    rw [va_up_ne _ _ h3, va_up_ne _ _ h2, va_up_ne _ _ h1]
  have f11 : m_add F r k vl l2 11 = upd (F 11) r k := rfl
  have f12 : m_add F r k vl l2 12 = upd (F 12) r vl := rfl
  have f13 : m_add F r k vl l2 13 = upd (F 13) r l2 := rfl
  have e600 : va_up p (n + r) a 600 = p 600 := hpn 600 (by omega)
  have hR0 : (va_up R 0 (R 0 ++ [a])) 0 = (List.range' n (r + 1)).map (va_up p (n + r) a) := by
    rw [va_up_self, hI.1, List.range'_1_concat, List.map_append]
    congr 1
    · refine List.map_congr_left (fun x hx => ?_)
      rw [List.mem_range'] at hx
      obtain ⟨q, q1, q2⟩ := hx
      exact (hpn x (by omega)).symm
    · simp [va_up_self]
  refine ⟨⟨by rw [e600]; exact p1, fun x y hx hy h => ?_, fun x hx => ?_, by rw [hEn b hba]; exact p4, by rw [hEn b hba]; exact p5, by rw [hEn b hba]; exact p6⟩, k_I_cg hI hVV.1 (fun i hi => hpn i (by omega)) (fun i hi => by rw [hEn _ (hpa i (.inl (by omega)))]) hR0 rfl, ⟨k_dc_cg (k_dc_G hD.1 hGn) (hF 0 (by omega) (by omega) (by omega)) (hF 1 (by omega) (by omega) (by omega)) (hF 2 (by omega) (by omega) (by omega)) (hF 3 (by omega) (by omega) (by omega)) (hF 4 (by omega) (by omega) (by omega)) (hF 7 (by omega) (by omega) (by omega)) (hF 8 (by omega) (by omega) (by omega)), fun j hj => ?_⟩, ⟨k_V_cg (k_V_G hVV.1 (fun i hi => by rw [hGn i hi]; exact ⟨rfl, rfl⟩)) (hF 0 (by omega) (by omega) (by omega)) (hF 1 (by omega) (by omega) (by omega)) (hF 5 (by omega) (by omega) (by omega)) (hF 6 (by omega) (by omega) (by omega)), k_Mc_cg hVV.2.1 (hF 1 (by omega) (by omega) (by omega)), hVV.2.2⟩, k_S_cg hS (hF 14 (by omega) (by omega) (by omega)) (hF 15 (by omega) (by omega) (by omega)), k_G_cg hG (hF 1 (by omega) (by omega) (by omega)) (hF 3 (by omega) (by omega) (by omega)) (hF 5 (by omega) (by omega) (by omega)) (hF 7 (by omega) (by omega) (by omega)) (hF 8 (by omega) (by omega) (by omega)) (hF 16 (by omega) (by omega) (by omega)) (hF 17 (by omega) (by omega) (by omega)) (hF 18 (by omega) (by omega) (by omega)) (hF 19 (by omega) (by omega) (by omega)), ?_, ⟨by omega, by omega⟩, by omega, by omega, by omega, by omega, by omega⟩
  · by_cases hxn : x = n + r
    · by_cases hyn : y = n + r
      · rw [hxn, hyn]
      · rw [hxn, va_up_self, hpn y hyn] at h
        exact absurd h.symm (hpa y (hD' y hy hyn))
    · by_cases hyn : y = n + r
      · rw [hyn, va_up_self, hpn x hxn] at h
        exact absurd h (hpa x (hD' x hx hxn))
      · rw [hpn x hxn, hpn y hyn] at h
        exact p2 x y (hD' x hx hxn) (hD' y hy hyn) h
  · by_cases hxn : x = n + r
    · right; rw [hxn, va_up_self]
    · left; rw [hpn x hxn]; exact p3 x (hD' x hx hxn)
  · rw [f11, f12, f13]
    unfold upd
    by_cases hjr : j = r
    · subst hjr
      have g : ∀ q, k_ep (e_nw E a k vl l dl) (va_up p (n + j) a) (n + j) q = e_nw E a k vl l dl a q := by
        intro q
        show e_nw E a k vl l dl (va_up p (n + j) a (n + j)) q = _
        rw [va_up_self]
      have q0 : e_nw E a k vl l dl a 0 = k := by unfold e_nw; simp only [if_true]
      have q1 : e_nw E a k vl l dl a 1 = vl := by unfold e_nw; simp only [if_true]
      have q2 : e_nw E a k vl l dl a 2 = l := by unfold e_nw; simp only [if_true]
      have q3 : e_nw E a k vl l dl a 3 = dl := by unfold e_nw; simp only [if_true]
      rw [g 0, g 1, g 2, g 3, q0, q1, q2, q3, if_pos rfl, if_pos rfl, if_pos rfl]
      refine ⟨rfl, rfl, ?_, ?_⟩
      · rcases hl with ⟨h1, h2, h3⟩ | ⟨h1, h2, h3, h4⟩
        · exact .inl ⟨h1, h2, h3⟩
        · exact .inr ⟨h1, h2, h3, h4⟩
      · rw [Int32.lt_iff_toInt_lt, Int32.le_iff_toInt_le] at hk
        have e0 : (0 : Int32).toInt = 0 := by decide
        have e32 : (32 : Int32).toInt = 32 := by decide
        omega
    · rw [if_neg hjr, if_neg hjr, if_neg hjr, hGi (n + j) (.inl (by omega)) (by omega)]
      exact hD.2 j (by omega)
  · obtain ⟨w1, w2, w3, w4, w5, w6, w7, w8, w9, w10⟩ := hW
    exact ⟨w1, w2, w3, w4, w5, w6, rfl, w8, w9, w10⟩
end KPU
section KPV
variable {z st xv xm : Nat} {hv hm : am_H}
theorem jo_put (hJ : k_J z st xv xm hv hm) (hs : st < 512) (k vl l : Int32) : k_O z st xv xm hv hm 9 94 [.int k, .int vl, .int l] := by
  obtain ⟨ad, tt, rr, aa, R, C, fl, c, tk, cb, tb, sb, g, S, En, E, v, A, w, F, p, n, r, last, t, nw, M, T0, L1, L2, hx, hV, hM, hK⟩ := hJ
  subst hx
  obtain ⟨hP, hI, hD, hVV, hS, hG, hW, hN⟩ := id hK
  have hJ' : k_J z (st + 1) (ad 0) xm hv hm := ⟨ad, tt, rr, aa, R, C, fl, c, tk, cb, tb, sb, g, S, En, E, v, A, w, F, p, n, r, last, t, nw, M, T0, L1, L2, rfl, hV, hM, hP, hI, hD, hVV, hS, hG, hW, k_N_up hN hs⟩
  by_cases hk : k < 0 ∨ 32 ≤ k
  · exact ⟨_, hv, hm, am_M_up (by omega) (vl_putBad 0 (.inl hk)), am_M_up (by omega) (mo_putBad 0 (.inl hk)), hJ', .inl rfl, rfl⟩
  · by_cases h1 : l < 0
    · exact ⟨_, hv, hm, am_M_up (by omega) (vl_putBad 0 (.inr (.inl h1))), am_M_up (by omega) (mo_putBad 0 (.inr (.inl h1))), hJ', .inl rfl, rfl⟩
    · by_cases h2 : l ≤ 1000
      · have hlen : (R 0).length = r := by rw [hI.1, List.length_map, List.length_range']
        have hw5 := hW.2.2.2.2.2.2.1
        by_cases hr : r < 6
        · obtain ⟨hv', a1, a2, a3⟩ := vl_put 0 (w := vl) hk h1 h2 (by rw [hlen]; exact hr) hV
          obtain ⟨hm', b1, b2, b3⟩ := mo_add 0 (k := k) (v := vl) (l := l) hw5 hr hM
          have b4 := mo_put 0 hk h1 h2 hM b1
          rw [hlen] at a1
          refine ⟨_, hv', hm', am_M_up (by omega) a1, am_M_up (by omega) b4, ⟨ad, tt, rr, aa, _, C, fl, c, tk, cb, tb, sb, g, S, _, _, v, A, _, _, _, n, r + 1, last, t, nw, M, T0, L1, L2, rfl, a2, b2, k_put (l2 := l) hK hs hr (fun e he => hV.2.2.2.2.2.2.2.2 e _ (hV.2.1 e he).1) hk (.inr ⟨?_, ?_, rfl, rfl⟩) hV.2.2.1⟩, .inr a3, b3⟩
          · rw [Int32.lt_iff_toInt_lt] at h1
            have e0 : (0 : Int32).toInt = 0 := by decide
            omega
          · rw [Int32.le_iff_toInt_le] at h2
            have e0 : (1000 : Int32).toInt = 1000 := by decide
            omega
        · have hr6 : r = 6 := by have := hN.1.2; omega
          rw [hr6] at hw5
          exact ⟨_, hv, hm, am_M_up (by omega) (vl_putFull 0 hk h1 h2 (by omega) hV), am_M_up (by omega) (mo_put 0 hk h1 h2 hM (mo_addFull 0 hw5 hM)), hJ', .inl rfl, rfl⟩
      · exact ⟨_, hv, hm, am_M_up (by omega) (vl_putBad 0 (.inr (.inr h2))), am_M_up (by omega) (mo_putBad 0 (.inr (.inr h2))), hJ', .inl rfl, rfl⟩
theorem jo_delete (hJ : k_J z st xv xm hv hm) (hs : st < 512) (k : Int32) : k_O z st xv xm hv hm 14 97 [.int k] := by
  obtain ⟨ad, tt, rr, aa, R, C, fl, c, tk, cb, tb, sb, g, S, En, E, v, A, w, F, p, n, r, last, t, nw, M, T0, L1, L2, hx, hV, hM, hK⟩ := hJ
  subst hx
  obtain ⟨hP, hI, hD, hVV, hS, hG, hW, hN⟩ := id hK
  have hJ' : k_J z (st + 1) (ad 0) xm hv hm := ⟨ad, tt, rr, aa, R, C, fl, c, tk, cb, tb, sb, g, S, En, E, v, A, w, F, p, n, r, last, t, nw, M, T0, L1, L2, rfl, hV, hM, hP, hI, hD, hVV, hS, hG, hW, k_N_up hN hs⟩
  by_cases hk : k < 0 ∨ 32 ≤ k
  · exact ⟨_, hv, hm, am_M_up (by omega) (vl_deleteBad 0 hk), am_M_up (by omega) (mo_deleteBad 0 hk), hJ', .inl rfl, rfl⟩
  · have hlen : (R 0).length = r := by rw [hI.1, List.length_map, List.length_range']
    have hw5 := hW.2.2.2.2.2.2.1
    by_cases hr : r < 6
    · obtain ⟨hv', a1, a2, a3⟩ := vl_delete 0 hk (by rw [hlen]; exact hr) hV
      obtain ⟨hm', b1, b2, b3⟩ := mo_add 0 (k := k) (v := 0) (l := -1) hw5 hr hM
      have b4 := mo_delete 0 hk hM b1
      rw [hlen] at a1
      exact ⟨_, hv', hm', am_M_up (by omega) a1, am_M_up (by omega) b4, ⟨ad, tt, rr, aa, _, C, fl, c, tk, cb, tb, sb, g, S, _, _, v, A, _, _, _, n, r + 1, last, t, nw, M, T0, L1, L2, rfl, a2, b2, k_put (l2 := -1) hK hs hr (fun e he => hV.2.2.2.2.2.2.2.2 e _ (hV.2.1 e he).1) hk (.inl ⟨rfl, rfl, rfl⟩) hV.2.2.1⟩, .inr a3, b3⟩
    · have hr6 : r = 6 := by have := hN.1.2; omega
      rw [hr6] at hw5
      exact ⟨_, hv, hm, am_M_up (by omega) (vl_deleteFull 0 hk (by omega) hV), am_M_up (by omega) (mo_delete 0 hk hM (mo_addFull 0 hw5 hM)), hJ', .inl rfl, rfl⟩
end KPV
