section KP
variable {G F F' : Nat → Nat → Int32} {S : Nat → Int32} {n last nw c0 : Nat} {M L1 L2 : List Nat} {T0 : Nat → List Nat}
theorem k_dc_cg (hd : k_dc G F n) (h0 : F' 0 = F 0) (h1 : F' 1 = F 1) (h2 : F' 2 = F 2) (h3 : F' 3 = F 3) (h4 : F' 4 = F 4) (h7 : F' 7 = F 7) (h8 : F' 8 = F 8) : k_dc G F' n := by
  intro i hi
  rw [h0, h1, h2, h3, h4, h7, h8]
  exact hd i hi
theorem k_S_cg (hS : k_S S F last) (h14 : F' 14 = F 14) (h15 : F' 15 = F 15) : k_S S F' last := by
  intro s hs
  rw [h14, h15]
  exact hS s hs
theorem k_m5 (hd : k_dc G F n) (hA : k_A F n last) (hS : k_S S F last) (hlb : last < 2 ^ 30) {t a : Int32} {q w : Nat} (hw : w < 3) (haw : a.toInt + 1 = w) (hq : G q 0 = -1) {U L : List Nat} (hU : U.Nodup) (hUm : k_at F n a U) (hL : k_srt G L) (hLm : k_at F n (nI w) L) :
    k_A (m_mg F t n last a (nI w) (nI w)) n last ∧ k_srt G (e_rs G S t q w U L) ∧ k_at (m_mg F t n last a (nI w) (nI w)) n (nI w) (e_rs G S t q w U L) ∧ k_at (m_mg F t n last a (nI w) (nI w)) n a [] ∧
    (∀ b : Int32, b ≠ a → b ≠ nI w → b ≠ 9 → ∀ i, i < n → (m_mg F t n last a (nI w) (nI w) 5 i = b ↔ F 5 i = b)) ∧
    m_mc F t n last a (nI w) (nI w) = U.length + L.length - (e_rs G S t q w U L).length ∧ (e_rs G S t q w U L).length ≤ 128 ∧ (e_rs G S t q w U L).length ≤ U.length + L.length := by
  have e9 : (9 : Int32).toInt = 9 := by decide
  have ew : (nI w).toInt = w := nI_toInt (by omega)
  have ha9 : ¬ a = 9 := fun h => by rw [h] at haw; omega
  have hw9 : ¬ nI w = 9 := fun h => by rw [h] at ew; omega
  have haw' : ¬ a = nI w := fun h => by rw [h, ew] at haw; omega
  obtain ⟨t1, t2, t3⟩ := k_mm hd hA ha9 hw9 haw' hU hUm hL hLm
  obtain ⟨m1, m2, m3, m4, m5, m6⟩ := k_merge (t := t) hd hA hS hlb t1 t2 ha9 hw9 hw hq
  rw [t3] at m2 m6
  have hrs : e_m3 G t q w (e_du G (e_ta S G) q (e_mm G U L)) = e_rs G S t q w U L := rfl
  rw [hrs] at m1 m2 m3 m4 m5 m6
  have hat : k_at (m_mg F t n last a (nI w) (nI w)) n (nI w) (e_rs G S t q w U L) := by
    intro i
    constructor
    · intro hi
      obtain ⟨h1, h2⟩ := m4 i hi
      refine ⟨h1, ?_⟩
      rw [m1 i h1, if_pos h2, if_pos hi]
    · rintro ⟨h1, h2⟩
      rw [m1 i h1] at h2
      by_cases hc : F 5 i = a ∨ F 5 i = nI w
      · rw [if_pos hc] at h2
        by_cases hr : i ∈ e_rs G S t q w U L
        · exact hr
        · rw [if_neg hr] at h2; exact absurd h2.symm hw9
      · rw [if_neg hc] at h2; exact absurd (.inr h2) hc
  refine ⟨?_, m3, hat, ?_, ?_, m2, m5, m6⟩
  · refine k_A_mg (x := a.toInt) hA (fun i _ => by rw [m_mg_ne _ _ _ _ _ _ _ (by omega) (by omega) (by omega)]) (fun i _ => by rw [m_mg_ne _ _ _ _ _ _ _ (by omega) (by omega) (by omega)]) (by omega) (fun i hi => ?_)
    rw [m1 i hi]
    by_cases hc : F 5 i = a ∨ F 5 i = nI w
    · rw [if_pos hc]
      by_cases hr : i ∈ e_rs G S t q w U L
      · rw [if_pos hr]
        right; right
        refine ⟨by omega, ?_⟩
        rcases hc with h | h
        · exact .inl (by rw [h])
        · exact .inr (by rw [h]; omega)
      · rw [if_neg hr]; exact .inl rfl
    · rw [if_neg hc]
      right; left
      exact ⟨rfl, fun h => hc (.inl (Int32.toInt_inj.mp h))⟩
  · intro i
    refine ⟨fun h => (by cases h), ?_⟩
    rintro ⟨h1, h2⟩
    exfalso
    rw [m1 i h1] at h2
    by_cases hc : F 5 i = a ∨ F 5 i = nI w
    · rw [if_pos hc] at h2
      by_cases hr : i ∈ e_rs G S t q w U L
      · rw [if_pos hr] at h2; exact haw' h2.symm
      · rw [if_neg hr] at h2; exact ha9 h2.symm
    · rw [if_neg hc] at h2; exact hc (.inl h2)
  · intro b b1 b2 b3 i hi
    rw [m1 i hi]
    by_cases hc : F 5 i = a ∨ F 5 i = nI w
    · rw [if_pos hc]
      constructor
      · intro h
        exfalso
        by_cases hr : i ∈ e_rs G S t q w U L
        · rw [if_pos hr] at h; exact b2 h.symm
        · rw [if_neg hr] at h; exact b3 h.symm
      · intro h
        exfalso
        rcases hc with h' | h'
        · exact b1 (h.symm.trans h')
        · exact b2 (h.symm.trans h')
    · rw [if_neg hc]
def k_V (G F : Nat → Nat → Int32) (n last nw c0 : Nat) (M : List Nat) (T0 : Nat → List Nat) (L1 L2 : List Nat) : Prop :=
  k_A F n last ∧ k_Z G F n nw c0 T0 ∧ (k_srt G L1 ∧ k_at F n 1 L1) ∧ (k_srt G L2 ∧ k_at F n 2 L2) ∧ L1.length ≤ 12 ∧ L2.length ≤ 128 ∧ k_R F L1 ∧ k_R F L2 ∧ M.Nodup ∧ k_at F n (-1) M
theorem k_at_cg {b : Int32} {L : List Nat} (h : k_at F n b L) (h5 : ∀ i, i < n → (F' 5 i = b ↔ F 5 i = b)) : k_at F' n b L := by
  intro i
  rw [h i]
  exact ⟨fun ⟨a, b⟩ => ⟨a, (h5 i a).mpr b⟩, fun ⟨a, b⟩ => ⟨a, (h5 i a).mp b⟩⟩
theorem k_at_ag {b : Int32} {L : List Nat} (h : k_at F n b L) : k_at (m_ag F n) n b L := k_at_cg h (fun i _ => by rw [m_ag_ne _ _ (by omega)])
theorem k_A_ag (h : k_A F n last) : k_A (m_ag F n) n last := h
theorem k_R_nil (F : Nat → Nat → Int32) : k_R F [] := fun r x h => by simp at h
theorem m_ag_6 (F : Nat → Nat → Int32) (n : Nat) {i : Nat} (h : F 5 i = 0) : m_ag F n 6 i = F 6 i := by
  show (if i < n then m_arV F n i else F 6 i) = _
  by_cases hi : i < n
  · rw [if_pos hi]
    unfold m_arV
    rw [h, if_neg (by decide)]
  · rw [if_neg hi]
theorem k_V_m1 (hd : k_dc G F n) (hV : k_V G F n last nw c0 M T0 L1 L2) (hS : k_S S F last) (hlb : last < 2 ^ 30) {t : Int32} {q : Nat} (hq : G q 0 = -1) :
    k_V G (m_ag (m_mg F t n last 1 2 2) n) n last nw c0 M T0 [] (e_rs G S t q 2 L1 L2) ∧ m_mc F t n last 1 2 2 = L1.length + L2.length - (e_rs G S t q 2 L1 L2).length := by
  obtain ⟨hA, hZ, ⟨a1, a2⟩, ⟨b1, b2⟩, c1, c2, d1, d2, f1, f2⟩ := hV
  have e2 : (2 : Int32) = nI 2 := by decide
  have e1 : (1 : Int32) = nI 1 := by decide
  obtain ⟨m1, m2, m3, m4, m5, m6, m7, m8⟩ := k_m5 (t := t) (q := q) (a := 1) (w := 2) hd hA hS hlb (by omega) (by decide) hq a1.nd a2 b1 (by rw [← e2]; exact b2)
  rw [← e2] at m1 m3 m4 m5 m6
  have hne : ∀ j, j ≠ 5 → j ≠ 9 → j ≠ 10 → m_mg F t n last 1 2 2 j = F j := fun j h5 h9 h10 => m_mg_ne _ _ _ _ _ _ _ h5 h9 h10
  have hd1 : k_dc G (m_mg F t n last 1 2 2) n := k_dc_cg hd (hne 0 (by omega) (by omega) (by omega)) (hne 1 (by omega) (by omega) (by omega)) (hne 2 (by omega) (by omega) (by omega)) (hne 3 (by omega) (by omega) (by omega)) (hne 4 (by omega) (by omega) (by omega)) (hne 7 (by omega) (by omega) (by omega)) (hne 8 (by omega) (by omega) (by omega))
  refine ⟨⟨k_A_ag m1, ?_, ⟨List.Pairwise.nil, k_at_ag m4⟩, ⟨m2, k_at_ag m3⟩, by simp, m7, k_R_nil _, k_ag_R hd1 (.inr rfl) m2 (by rw [← e2]; exact m3), f1, k_at_ag (k_at_cg f2 (m5 (-1) (by decide) (by decide) (by decide)))⟩, m6⟩
  refine k_Z_cg hZ (fun i hi => ?_) (fun i hi h0 => ?_) (fun i hi => ?_)
  · rw [m_ag_ne _ _ (by omega)]
    exact m5 0 (by decide) (by decide) (by decide) i hi
  · rw [m_ag_6 _ _ ((m5 0 (by decide) (by decide) (by decide) i hi).mpr h0), hne 6 (by omega) (by omega) (by omega)]
  · rw [m_ag_ne _ _ (by omega), hne 1 (by omega) (by omega) (by omega)]
theorem k_Z_0 {nw : Nat} (hn : nw < 2 ^ 30) (T : Nat → List Nat) (h : ∀ i, i < n → ¬ F 5 i = 0) : k_Z G F n nw 0 T :=
  ⟨⟨by omega, by omega, hn⟩, fun k hk => absurd hk (Nat.not_lt_zero k), fun i hi h0 => absurd h0 (h i hi), fun i j hi _ hi0 => absurd hi0 (h i hi)⟩
theorem k_V_m0 (hd : k_dc G F n) (hV : k_V G F n last nw c0 M T0 L1 L2) (hS : k_S S F last) (hlb : last < 2 ^ 30) {t : Int32} {q : Nat} (hq : G q 0 = -1) :
    (if (e_rs G S t q 1 (e_fl T0 0 c0) L1).length ≤ 12 then k_V G (m_o0 F t n last) n last nw 0 M T0 (e_rs G S t q 1 (e_fl T0 0 c0) L1) L2 ∧ m_o0c F t n last = (e_fl T0 0 c0).length + L1.length - (e_rs G S t q 1 (e_fl T0 0 c0) L1).length
    else k_V G (m_o0 F t n last) n last nw 0 M T0 [] (e_rs G S t q 2 (e_rs G S t q 1 (e_fl T0 0 c0) L1) L2) ∧ m_o0c F t n last = (e_fl T0 0 c0).length + L1.length - (e_rs G S t q 1 (e_fl T0 0 c0) L1).length + ((e_rs G S t q 1 (e_fl T0 0 c0) L1).length + L2.length - (e_rs G S t q 2 (e_rs G S t q 1 (e_fl T0 0 c0) L1) L2).length)) ∧
    (∀ j, j ≠ 5 → j ≠ 6 → j ≠ 9 → j ≠ 10 → m_o0 F t n last j = F j) ∧ (e_fl T0 0 c0).length + L1.length ≤ 44 ∧ L2.length ≤ 128 ∧ (12 < (e_rs G S t q 1 (e_fl T0 0 c0) L1).length → (e_rs G S t q 2 (e_rs G S t q 1 (e_fl T0 0 c0) L1) L2).length ≤ 132) := by
  obtain ⟨hA, hZ, ⟨a1, a2⟩, ⟨b1, b2⟩, c1, c2, d1, d2, f1, f2⟩ := hV
  obtain ⟨u1, u2, u3⟩ := k_Z_fl hZ
  have hc0 := hZ.1.1
  have e2 : (2 : Int32) = nI 2 := by decide
  have e1 : (1 : Int32) = nI 1 := by decide
  have hne : ∀ (F : Nat → Nat → Int32) (a b l : Int32) j, j ≠ 5 → j ≠ 9 → j ≠ 10 → m_mg F t n last a b l j = F j := fun F a b l j h5 h9 h10 => m_mg_ne _ _ _ _ _ _ _ h5 h9 h10
  have hdm : ∀ (F : Nat → Nat → Int32) (a b l : Int32), k_dc G F n → k_dc G (m_mg F t n last a b l) n := fun F a b l hd => k_dc_cg hd (hne F a b l 0 (by omega) (by omega) (by omega)) (hne F a b l 1 (by omega) (by omega) (by omega)) (hne F a b l 2 (by omega) (by omega) (by omega)) (hne F a b l 3 (by omega) (by omega) (by omega)) (hne F a b l 4 (by omega) (by omega) (by omega)) (hne F a b l 7 (by omega) (by omega) (by omega)) (hne F a b l 8 (by omega) (by omega) (by omega))
  obtain ⟨m1, m2, m3, m4, m5, m6, m7, m8⟩ := k_m5 (t := t) (q := q) (a := 0) (w := 1) hd hA hS hlb (by omega) (by decide) hq u1 u2 a1 (by rw [← e1]; exact a2)
  rw [← e1] at m1 m3 m4 m5 m6
  have hd1 := hdm F 0 1 1 hd
  have hS1 : k_S S (m_mg F t n last 0 1 1) last := k_S_cg hS (hne F 0 1 1 14 (by omega) (by omega) (by omega)) (hne F 0 1 1 15 (by omega) (by omega) (by omega))
  have h2at : k_at (m_mg F t n last 0 1 1) n 2 L2 := k_at_cg b2 (m5 2 (by decide) (by decide) (by decide))
  have hMat : k_at (m_mg F t n last 0 1 1) n (-1) M := k_at_cg f2 (m5 (-1) (by decide) (by decide) (by decide))
  have hcn : m_cn (fun e => decide (m_mg F t n last 0 1 1 5 e = 1)) n = (e_rs G S t q 1 (e_fl T0 0 c0) L1).length := m_cn_len m2.nd (fun i => by rw [m3 i, decide_eq_true_eq])
  obtain ⟨o1, o2, o3, o4, o5, o6, o7, o8⟩ := k_m5 (t := t) (q := q) (a := 1) (w := 2) hd1 m1 hS1 hlb (by omega) (by decide) hq m2.nd m3 b1 (by rw [← e2]; exact h2at)
  rw [← e2] at o1 o3 o4 o5 o6
  refine ⟨?_, ?_, by omega, c2, fun _ => by omega⟩
  · unfold m_o0 m_o0c
    rw [hcn]
    by_cases hc : (e_rs G S t q 1 (e_fl T0 0 c0) L1).length ≤ 12
    · rw [if_pos hc, if_neg (by omega), if_neg (by omega)]
      refine ⟨⟨k_A_ag m1, ?_, ⟨m2, k_at_ag m3⟩, ⟨b1, k_at_ag h2at⟩, hc, c2, k_ag_R hd1 (.inl rfl) m2 (by rw [← e1]; exact m3), k_ag_R hd1 (.inr rfl) b1 (by rw [← e2]; exact h2at), f1, k_at_ag hMat⟩, m6⟩
      refine k_Z_0 hZ.1.2.2 _ (fun i hi h => ?_)
      rw [m_ag_ne _ _ (by omega)] at h
      have := (m4 i).mpr ⟨hi, h⟩
      cases this
    · rw [if_neg hc, if_pos (by omega), if_pos (by omega)]
      refine ⟨⟨k_A_ag o1, ?_, ⟨List.Pairwise.nil, k_at_ag o4⟩, ⟨o2, k_at_ag o3⟩, by simp, o7, k_R_nil _, k_ag_R (hdm _ 1 2 2 hd1) (.inr rfl) o2 (by rw [← e2]; exact o3), f1, k_at_ag (k_at_cg hMat (o5 (-1) (by decide) (by decide) (by decide)))⟩, by rw [m6, o6]⟩
      refine k_Z_0 hZ.1.2.2 _ (fun i hi h => ?_)
      rw [m_ag_ne _ _ (by omega)] at h
      rw [o5 0 (by decide) (by decide) (by decide) i hi] at h
      have := (m4 i).mpr ⟨hi, h⟩
      cases this
  · intro j h5 h6 h9 h10
    unfold m_o0
    by_cases hc : 12 < m_cn (fun e => decide (m_mg F t n last 0 1 1 5 e = 1)) n
    · rw [if_pos hc, m_ag_ne _ _ h6, hne _ _ _ _ j h5 h9 h10, hne _ _ _ _ j h5 h9 h10]
    · rw [if_neg hc, m_ag_ne _ _ h6, hne _ _ _ _ j h5 h9 h10]
end KP
