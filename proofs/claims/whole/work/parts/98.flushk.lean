section KFL
variable {G F : Nat → Nat → Int32} {S : Nat → Int32} {n r last nw : Nat} {M L1 L2 : List Nat} {T0 : Nat → List Nat}
def k_F1 (F : Nat → Nat → Int32) (t : Int32) (n last c0 : Nat) : Nat → Nat → Int32 := if c0 = 4 then m_o0 F t n last else F
theorem k_flush {b : Nat} {p : Nat → Nat} {R R' : Nat → List Nat} {C C1 : Nat → Nat → List Nat} {fl fl1 : Nat → Nat → Int32} {c c1 : Nat → Nat} {E : Nat → Nat → Int32} {now : Int32} (hb : p 600 = b) (hE : E b 0 = -1) (hI : k_I p R C fl c E M T0 L1 L2 n r) (hd : k_dc (k_ep E p) F n) (hV : k_V (k_ep E p) F n last nw (c 0) M T0 L1 L2) (hS : k_S S F last) (hlb : last < 2 ^ 30) (hnw : nw + 1 < 2 ^ 30) (hM : M ≠ []) (hM8 : M.length ≤ 8)
    (hem : vs_em E S now b ((e_fl T0 0 (c 0)).map p) (L1.map p) (L2.map p) C C1 fl fl1 c c1) (h0 : R' 0 = R 0) (h1 : R' 1 = []) :
    (∃ T' L1' L2', k_V (k_ep E p) (m_fl (k_F1 F now n last (c 0)) now (nI nw) n last) n last (nw + 1) (c1 0 + 1) [] T' L1' L2' ∧ k_I p R' (va_up C1 0 (va_up (e_rot (c1 0) (C1 0)) 0 (e_du E (e_ta S E) b ((R 1).foldl (e_ik E) [])))) (va_up fl1 0 (va_up (e_rot (c1 0) (fl1 0)) 0 ((e_du E (e_ta S E) b ((R 1).foldl (e_ik E) [])).foldl (e_ff E) 0))) (va_up c1 0 (c1 0 + 1)) E [] T' L1' L2' n r) ∧
    (∀ j, j ≠ 5 → j ≠ 6 → j ≠ 9 → j ≠ 10 → m_fl (k_F1 F now n last (c 0)) now (nI nw) n last j = F j) ∧ (∀ i, k_al (m_fl (k_F1 F now n last (c 0)) now (nI nw) n last) n i → k_al F n i) ∧ c1 0 = (if c 0 = 4 then 0 else c 0) ∧ c1 0 < 4 := by
  have hbG : k_ep E p 600 0 = -1 := by show E (p 600) 0 = -1; rw [hb]; exact hE
  have hc4 := hV.2.1.1.1
  obtain ⟨m1, m2, m3, m4, m5⟩ := k_V_m0 (t := now) (q := 600) hd hV hS hlb hbG
  have step1 : c1 0 = (if c 0 = 4 then 0 else c 0) ∧ ∃ L1' L2', k_V (k_ep E p) (k_F1 F now n last (c 0)) n last nw (c1 0) M T0 L1' L2' ∧ k_I p R C1 fl1 c1 E M T0 L1' L2' n r := by
    unfold k_F1
    unfold vs_em at hem
    by_cases hc : c 0 = 4
    · rw [if_pos hc] at hem
      rw [if_pos hc, if_pos hc]
      obtain ⟨q, hmt⟩ := hem
      obtain ⟨q0, q1⟩ := k_mt hI hb hmt
      refine ⟨q0, ?_⟩
      rw [q0]
      by_cases hcc : (e_rs (k_ep E p) S now 600 1 (e_fl T0 0 (c 0)) L1).length ≤ 12
      · rw [if_pos hcc] at m1 q1
        exact ⟨_, _, m1.1, q1.1⟩
      · rw [if_neg hcc] at m1 q1
        exact ⟨_, _, m1.1, q1.1⟩
    · rw [if_neg hc] at hem
      rw [if_neg hc, if_neg hc]
      obtain ⟨e1, e2, e3⟩ := hem
      rw [e1, e2, e3]
      exact ⟨rfl, L1, L2, hV, hI⟩
  obtain ⟨s1, L1', L2', s2, s3⟩ := step1
  have hc1 : c1 0 < 4 := by
    rw [s1]
    by_cases hc : c 0 = 4
    · rw [if_pos hc]; omega
    · rw [if_neg hc]; omega
  have hne1 : ∀ j, j ≠ 5 → j ≠ 6 → j ≠ 9 → j ≠ 10 → k_F1 F now n last (c 0) j = F j := by
    intro j h5 h6 h9 h10
    unfold k_F1
    by_cases hc : c 0 = 4
    · rw [if_pos hc]; exact m2 j h5 h6 h9 h10
    · rw [if_neg hc]
  have hd1 : k_dc (k_ep E p) (k_F1 F now n last (c 0)) n := k_dc_cg hd (hne1 0 (by omega) (by omega) (by omega) (by omega)) (hne1 1 (by omega) (by omega) (by omega) (by omega)) (hne1 2 (by omega) (by omega) (by omega) (by omega)) (hne1 3 (by omega) (by omega) (by omega) (by omega)) (hne1 4 (by omega) (by omega) (by omega) (by omega)) (hne1 7 (by omega) (by omega) (by omega) (by omega)) (hne1 8 (by omega) (by omega) (by omega) (by omega))
  have hS1 : k_S S (k_F1 F now n last (c 0)) last := k_S_cg hS (hne1 14 (by omega) (by omega) (by omega) (by omega)) (hne1 15 (by omega) (by omega) (by omega) (by omega))
  have hDm : e_du E (e_ta S E) b ((R 1).foldl (e_ik E) []) = (e_du (k_ep E p) (e_ta S (k_ep E p)) 600 (M.foldl (e_ik (k_ep E p)) [])).map p := by
    have h := e_ikf_map (E := E) p M []
    rw [List.map_nil] at h
    rw [hI.2.1, h, ← hb, e_du_map]
    rfl
  refine ⟨⟨va_up (e_rot (c1 0) T0) 0 (e_du (k_ep E p) (e_ta S (k_ep E p)) 600 (M.foldl (e_ik (k_ep E p)) [])), L1', L2', ?_, ?_⟩, ?_, ?_, s1, hc1⟩
  · refine k_V_fl hd1 s2 hS1 hlb hbG hM hM8 hc1 hnw (va_up_self _ _ _) (fun k hk => ?_)
    rw [va_up_ne _ _ (by omega)]
    unfold e_rot
    rw [if_neg (by omega), if_pos (by omega)]
    rfl
  · obtain ⟨i0, i1, i2, i3⟩ := s3
    refine ⟨by rw [h0]; exact i0, h1, fun l hl => ?_, fun l k hl hk => ?_⟩
    · have : l = 0 ∨ l = 1 ∨ l = 2 := by omega
      rcases this with h | h | h <;> subst h
      · rfl
      · exact i2 1 hl
      · exact i2 2 hl
    · have : l = 0 ∨ l = 1 ∨ l = 2 := by omega
      rcases this with h | h | h <;> subst h
      · have hk : k < c1 0 + 1 := hk
        rw [va_up_self, va_up_self]
        show va_up (e_rot (c1 0) (C1 0)) 0 _ k = ((va_up (e_rot (c1 0) T0) 0 _) k).map p ∧ _
        by_cases hk0 : k = 0
        · subst hk0
          rw [va_up_self, va_up_self, va_up_self]
          exact ⟨hDm, rfl⟩
        · rw [va_up_ne _ _ hk0, va_up_ne _ _ hk0, va_up_ne _ _ hk0]
          unfold e_rot
          rw [if_neg hk0, if_pos (by omega), if_neg hk0, if_pos (by omega), if_neg hk0, if_pos (by omega)]
          exact i3 0 (k - 1) hl (by omega)
      · exact i3 1 k hl hk
      · exact i3 2 k hl hk
  · intro j h5 h6 h9 h10
    rw [m_fl_ne _ _ _ _ _ h5 h6 h9 h10, hne1 j h5 h6 h9 h10]
  · intro i hi
    have h2 := k_al_fl hi
    unfold k_F1 at h2
    by_cases hc : c 0 = 4
    · rw [if_pos hc] at h2; exact k_al_o0 h2
    · rw [if_neg hc] at h2; exact h2
theorem k_mflush {z xm : Nat} {hm : am_H} {A : Nat → Nat} {w : Nat → Int32} {c0 : Nat} {t : Int32} (hM : vs_M z hm xm A w F) (hn : w 1 = nI n) (hnb : n ≤ 520) (hl : w 4 = nI last) (hlb : last ≤ 5000) (h2 : w 2 = nI nw) (h3 : w 3 = nI c0) (hc0 : c0 ≤ 4) (ht : w 0 = t) (hs : 0 < m_cn (fun e => decide (F 5 e = -1)) n) :
    ∃ hm', am_M z 5 101 [.ref xm] hm none hm' ∧ vs_M z hm' xm A (va_up (va_up (va_up w 2 (nI (nw + 1))) 3 (nI ((if c0 = 4 then 0 else c0) + 1))) 8 0) (m_fl (k_F1 F t n last c0) t (nI nw) n last) ∧ hm'.2 = hm.2 := by
  unfold k_F1
  by_cases hc : c0 = 4
  · rw [if_pos hc, if_pos hc]
    obtain ⟨hm', b1, b2, b3⟩ := mo_flushB 0 hn hnb hl hlb hM hs (by rw [h3, hc]; rfl)
    rw [h2, ht, nI_1] at b2
    exact ⟨hm', b1, b2, b3⟩
  · rw [if_neg hc, if_neg hc]
    obtain ⟨hm', b1, b2, b3⟩ := mo_flushA 0 hn hnb hl hlb hM hs (by
      rw [h3]
      have e4 : (4 : Int32) = nI 4 := by decide
      rw [e4, nI_eq (by omega) (by omega)]
      exact hc)
    rw [h2, h3, ht, nI_1, nI_1] at b2
    exact ⟨hm', am_M_up (by omega) b1, b2, b3⟩
end KFL
section KFM
variable {z st xv xm : Nat} {hv hm : am_H}
theorem k_rooms {F : Nat → Nat → Int32} {S : Nat → Int32} {n last nw b : Nat} {c : Nat → Nat} {M L1 L2 : List Nat} {T0 : Nat → List Nat} {p : Nat → Nat} {E : Nat → Nat → Int32} {now : Int32} (hb : p 600 = b) (hE : E b 0 = -1) (hd : k_dc (k_ep E p) F n) (hV : k_V (k_ep E p) F n last nw (c 0) M T0 L1 L2) (hS : k_S S F last) (hlb : last < 2 ^ 30) :
    ((e_fl T0 0 (c 0)).map p).length + (L1.map p).length ≤ 44 ∧ (L2.map p).length ≤ 128 ∧ (12 < (e_rs E S now b 1 ((e_fl T0 0 (c 0)).map p) (L1.map p)).length → (e_rs E S now b 2 (e_rs E S now b 1 ((e_fl T0 0 (c 0)).map p) (L1.map p)) (L2.map p)).length ≤ 132) := by
  have hbG : k_ep E p 600 0 = -1 := by show E (p 600) 0 = -1; rw [hb]; exact hE
  obtain ⟨m1, m2, m3, m4, m5⟩ := k_V_m0 (t := now) (q := 600) hd hV hS hlb hbG
  have hrm : ∀ w U L, e_rs E S now b w (U.map p) (L.map p) = (e_rs (k_ep E p) S now 600 w U L).map p := fun w U L => by rw [← hb, e_rs_map]
  rw [hrm, hrm]
  simp only [List.length_map]
  exact ⟨m3, m4, m5⟩
theorem jo_flush (hJ : k_J z st xv xm hv hm) (hs : st < 512) : k_O z st xv xm hv hm 43 114 [] := by
  obtain ⟨ad, tt, rr, aa, R, C, fl, c, tk, cb, tb, sb, g, S, En, E, v, A, w, F, p, n, r, last, t, nw, M, T0, L1, L2, hx, hV, hM, hP, hI, hD, hVV, hS, hG, hW, hN⟩ := hJ
  subst hx
  have hJ' : k_J z (st + 1) (ad 0) xm hv hm := ⟨ad, tt, rr, aa, R, C, fl, c, tk, cb, tb, sb, g, S, En, E, v, A, w, F, p, n, r, last, t, nw, M, T0, L1, L2, rfl, hV, hM, hP, hI, hD, hVV, hS, hG, hW, k_N_up hN hs⟩
  obtain ⟨w1, w2, w3, w4, w5, w6, w7, w8, w9, w10⟩ := id hW
  obtain ⟨⟨n1, n2⟩, n3, n4, n5, n6, n7⟩ := id hN
  have hsz := k_size hVV.1
  by_cases hMe : M = []
  · have hR1 : R 1 = [] := by rw [hI.2.1, hMe]; rfl
    have b1 := mo_flush 1 w4 (by omega) hM (mo_flush0 0 w4 (by omega) hM (by rw [hsz, hMe]; rfl))
    rw [hsz, hMe] at b1
    exact ⟨_, hv, hm, am_M_up (by omega) (vl_flush0 0 hV hR1), am_M_up (by omega) b1, hJ', .inl rfl, rfl⟩
  · obtain ⟨f0, f1, f2⟩ := k_I_fl hI
    have hR1 : R 1 ≠ [] := by rw [hI.2.1]; exact fun h => hMe (List.map_eq_nil_iff.mp h)
    obtain ⟨r1, r2, r3⟩ := k_rooms (now := v 0) hP.1 hP.2.2.2.1 hD.1 hVV.1 hS (by omega)
    obtain ⟨hv', C1, fl1, c1, a1, a2, a3, a4⟩ := vl_flush 0 f0 f1 f2 hV hR1 (fun _ => r1) (fun _ => r2) (fun _ => r3)
    obtain ⟨⟨T', L1', L2', k1, k2⟩, k3, k4, k5, k6⟩ := k_flush (R' := va_up (va_up R 1 []) 2 (e_du E (e_ta S E) (ad 1) ((R 1).foldl (e_ik E) []))) hP.1 hP.2.2.2.1 hI hD.1 hVV.1 hS (by omega) (by omega) hMe hVV.2.2 a4 rfl rfl
    obtain ⟨hm', b1, b2, b3⟩ := k_mflush hM w4 (by omega) w2.2 (by omega) w5 w6 hVV.1.2.1.1.1 (w1.2.trans w1.1.symm) (by rw [hsz]; exact List.length_pos_iff.mpr hMe)
    have b4 := mo_flush 4 w4 (by omega) hM b1
    rw [hsz] at b4
    rw [hI.2.1, List.length_map] at a1
    rw [← k5] at b2
    refine ⟨_, hv', hm', am_M_up (by omega) a1, am_M_up (by omega) b4, ⟨ad, _, _, _, _, _, _, _, tk, cb, tb, sb, _, S, En, E, v, A, _, _, p, n, r, last, t, nw + 1, [], T', L1', L2', rfl, a2, b2, hP, k2, ⟨k_dc_cg hD.1 (k3 0 (by omega) (by omega) (by omega) (by omega)) (k3 1 (by omega) (by omega) (by omega) (by omega)) (k3 2 (by omega) (by omega) (by omega) (by omega)) (k3 3 (by omega) (by omega) (by omega) (by omega)) (k3 4 (by omega) (by omega) (by omega) (by omega)) (k3 7 (by omega) (by omega) (by omega) (by omega)) (k3 8 (by omega) (by omega) (by omega) (by omega)), k_B_cg hD.2 (k3 11 (by omega) (by omega) (by omega) (by omega)) (k3 12 (by omega) (by omega) (by omega) (by omega)) (k3 13 (by omega) (by omega) (by omega) (by omega))⟩, ⟨k1, fun j x hx => by simp at hx, by simp⟩, k_S_cg hS (k3 14 (by omega) (by omega) (by omega) (by omega)) (k3 15 (by omega) (by omega) (by omega) (by omega)), ⟨k_C_cg hG.1 k4 (k3 3 (by omega) (by omega) (by omega) (by omega)) (k3 7 (by omega) (by omega) (by omega) (by omega)) (k3 8 (by omega) (by omega) (by omega) (by omega)), fun k hk => by rw [k3 16 (by omega) (by omega) (by omega) (by omega)]; exact hG.2.1 k hk, k_U_0 _ _ _ _ _ _ _ _ _ _⟩, ⟨w1, w2, w3, w4, rfl, rfl, w7, w8, w9, rfl⟩, ⟨by omega, n2⟩, n3, by omega, by omega, by show g 0 + g 1 ≤ _; omega, by omega⟩, .inl a3, b3⟩
end KFM
