section KQ
variable {G F F' : Nat → Nat → Int32} {S : Nat → Int32} {n last nw c0 : Nat} {M L1 L2 : List Nat} {T0 T' : Nat → List Nat}
theorem m_fl_ne (F : Nat → Nat → Int32) (t nw : Int32) (n last : Nat) {j : Nat} (h5 : j ≠ 5) (h6 : j ≠ 6) (h9 : j ≠ 9) (h10 : j ≠ 10) : m_fl F t nw n last j = F j := by
  unfold m_fl m_st
  rw [va_up_ne _ _ h6, m_mg_ne _ _ _ _ _ _ _ h5 h9 h10]
theorem e_du_ne (ta : Nat → Nat → Bool) {T : List Nat} {q : Nat} (hq : G q 0 = -1) (hk : ∀ x ∈ T, 0 ≤ (G x 0).toInt) (hT : T ≠ []) : e_du G ta q T ≠ [] := by
  cases T with
  | nil => exact absurd rfl hT
  | cons e t =>
    have h1 := hk e (by simp)
    have e1 : (-1 : Int32).toInt = -1 := by decide
    unfold e_du
    rw [if_pos]
    · simp
    · left
      intro h
      rw [h, hq] at h1
      omega
theorem k_V_fl (hd : k_dc G F n) (hV : k_V G F n last nw c0 M T0 L1 L2) (hS : k_S S F last) (hlb : last < 2 ^ 30) {t : Int32} {q : Nat} (hq : G q 0 = -1) (hM : M ≠ []) (hM8 : M.length ≤ 8) (hc : c0 < 4) (hnw : nw + 1 < 2 ^ 30) (hT0 : T' 0 = e_du G (e_ta S G) q (M.foldl (e_ik G) [])) (hTs : ∀ k, k < c0 → T' (k + 1) = T0 k) :
    k_V G (m_fl F t (nI nw) n last) n last (nw + 1) (c0 + 1) [] T' L1 L2 := by
  obtain ⟨hA, hZ, ⟨a1, a2⟩, ⟨b1, b2⟩, c1, c2, d1, d2, f1, f2⟩ := hV
  have e9 : (9 : Int32).toInt = 9 := by decide
  have em : (-1 : Int32).toInt = -1 := by decide
  have e0 : nI 0 = (0 : Int32) := by decide
  have hau : ∀ x ∈ M, k_al F n x := fun x hx => ⟨((f2 x).mp hx).1, by rw [((f2 x).mp hx).2]; decide⟩
  obtain ⟨t1, t2⟩ := k_srt_fold M [] List.Pairwise.nil (k_cp_nd hd hA f1 hau) (fun _ _ _ h => by cases h)
  have tm : ∀ i, i ∈ M.foldl (e_ik G) [] ↔ i < n ∧ (F 5 i = -1 ∨ F 5 i = -1) := fun i => by rw [t2 i, f2 i]; simp
  have tlen : (M.foldl (e_ik G) []).length = M.length := List.Perm.length_eq ((List.perm_ext_iff_of_nodup (k_srt.nd t1) f1).mpr (fun i => by rw [t2 i]; simp))
  obtain ⟨m1, m2, m3, m4, m5, m6⟩ := k_merge (t := t) (q := q) (w := 0) hd hA hS hlb t1 tm (by decide) (by decide) (by omega) hq
  have hm3 : e_m3 G t q 0 (e_du G (e_ta S G) q (M.foldl (e_ik G) [])) = T' 0 := by rw [hT0]; rfl
  rw [hm3] at m1 m2 m3 m4 m5 m6
  rw [e0] at m1 m2
  have hDne : T' 0 ≠ [] := by
    rw [hT0]
    refine e_du_ne _ hq (fun x hx => ?_) (fun h => hM ?_)
    · obtain ⟨h1, h2⟩ := (tm x).mp hx
      rw [(hd x h1).1]
      exact (hA.1 x ⟨h1, by rcases h2 with h | h <;> rw [h] <;> decide⟩).1.1
    · rw [← List.length_eq_zero_iff, ← tlen, h]; rfl
  have h5 : ∀ i, i < n → m_fl F t (nI nw) n last 5 i = if F 5 i = -1 then (if i ∈ T' 0 then 0 else 9) else F 5 i := by
    intro i hi
    have := m1 i hi
    simp only [or_self] at this
    exact this
  have hD : ∀ i, i ∈ T' 0 → i < n ∧ F 5 i = -1 := fun i hi => by have := m4 i hi; simp only [or_self] at this; exact this
  have h6 : ∀ i, i < n → m_fl F t (nI nw) n last 6 i = if i ∈ T' 0 then nI (nw + 1) else F 6 i := by
    intro i hi
    have q1 : m_fl F t (nI nw) n last 6 i = if ¬ (if i < n then m_chV F (-1) (-1) i else F 9 i) = 0 ∧ m_fl F t (nI nw) n last 5 i = 0 then nI nw + 1 else F 6 i := by
      show (if i < n then m_stV (m_mg F t n last (-1) (-1) 0) (nI nw + 1) i else m_mg F t n last (-1) (-1) 0 6 i) = _
      rw [if_pos hi]
      rfl
    rw [q1, if_pos hi, h5 i hi]
    unfold m_chV
    simp only [or_self]
    by_cases hi1 : F 5 i = -1
    · rw [if_pos hi1, if_pos hi1]
      by_cases hm : i ∈ T' 0
      · rw [if_pos hm, if_pos hm, if_pos ⟨by decide, rfl⟩, nI_1]
      · rw [if_neg hm, if_neg hm, if_neg]
        rintro ⟨_, h⟩
        exact absurd h (by decide)
    · rw [if_neg hi1, if_neg (fun h => h.1 rfl), if_neg (fun h => hi1 (hD i h).2)]
  have h5c : ∀ b : Int32, b ≠ -1 → b ≠ 0 → b ≠ 9 → ∀ i, i < n → (m_fl F t (nI nw) n last 5 i = b ↔ F 5 i = b) := by
    intro b b1 b2 b3 i hi
    rw [h5 i hi]
    by_cases hi1 : F 5 i = -1
    · rw [if_pos hi1, hi1]
      constructor
      · intro h
        exfalso
        by_cases hm : i ∈ T' 0
        · rw [if_pos hm] at h; exact b2 h.symm
        · rw [if_neg hm] at h; exact b3 h.symm
      · exact fun h => absurd h.symm b1
    · rw [if_neg hi1]
  have h50 : ∀ i, i < n → (m_fl F t (nI nw) n last 5 i = 0 ↔ F 5 i = 0 ∨ i ∈ T' 0) := by
    intro i hi
    rw [h5 i hi]
    by_cases hi1 : F 5 i = -1
    · rw [if_pos hi1, hi1]
      by_cases hm : i ∈ T' 0
      · rw [if_pos hm]; exact ⟨fun _ => .inr hm, fun _ => rfl⟩
      · rw [if_neg hm]
        constructor
        · exact fun h => absurd h (by decide)
        · rintro (h | h)
          · exact absurd h (by decide)
          · exact absurd h hm
    · rw [if_neg hi1]
      constructor
      · exact .inl
      · rintro (h | h)
        · exact h
        · exact absurd (hD i h).2 hi1
  have hRc : ∀ (b : Int32) (L : List Nat), b ≠ -1 → k_at F n b L → k_R F L → k_R (m_fl F t (nI nw) n last) L := by
    intro b L hb hL hR r x hx
    have hxL := (hL x).mp (List.mem_of_getElem? hx)
    rw [h6 x hxL.1, if_neg (fun h => hb (hxL.2.symm.trans (hD x h).2))]
    exact hR r x hx
  obtain ⟨⟨z1, z2, z3⟩, z4, z5, z6⟩ := hZ
  refine ⟨?_, ?_, ⟨a1, k_at_cg a2 (h5c 1 (by decide) (by decide) (by decide))⟩, ⟨b1, k_at_cg b2 (h5c 2 (by decide) (by decide) (by decide))⟩, c1, c2, hRc 1 L1 (by decide) a2 d1, hRc 2 L2 (by decide) b2 d2, List.Pairwise.nil, ?_⟩
  · refine k_A_mg (x := -1) hA (fun i _ => by rw [m_fl_ne _ _ _ _ _ (by omega) (by omega) (by omega) (by omega)]) (fun i _ => by rw [m_fl_ne _ _ _ _ _ (by omega) (by omega) (by omega) (by omega)]) (by omega) (fun i hi => ?_)
    rw [h5 i hi]
    by_cases hi1 : F 5 i = -1
    · rw [if_pos hi1]
      by_cases hm : i ∈ T' 0
      · rw [if_pos hm]
        right; right
        exact ⟨by decide, .inl (by rw [hi1]; decide)⟩
      · rw [if_neg hm]; exact .inl rfl
    · rw [if_neg hi1]
      right; left
      exact ⟨rfl, fun h => hi1 (Int32.toInt_inj.mp (by rw [h]; decide))⟩
  · refine ⟨⟨by omega, by omega, hnw⟩, ?_, ?_, ?_⟩
    · intro k hk
      cases k with
      | zero =>
        refine ⟨m3, hDne, by omega, fun i => ?_⟩
        rw [Nat.sub_zero]
        constructor
        · intro hi
          have h1 := (hD i hi).1
          exact ⟨h1, (h50 i h1).mpr (.inr hi), by rw [h6 i h1, if_pos hi]⟩
        · rintro ⟨h1, h2, h3⟩
          rw [h6 i h1] at h3
          by_cases hm : i ∈ T' 0
          · exact hm
          · exfalso
            rw [if_neg hm] at h3
            rcases (h50 i h1).mp h2 with h | h
            · obtain ⟨k, k1, k2⟩ := z5 i h1 h
              rw [k2, nI_eq (by omega) (by omega)] at h3
              omega
            · exact hm h
      | succ k =>
        rw [hTs k (by omega)]
        obtain ⟨y1, y2, y3, y4⟩ := z4 k (by omega)
        refine ⟨y1, y2, y3, fun i => ?_⟩
        rw [y4 i]
        have hk' : nw + 1 - (k + 1) = nw - k := by omega
        rw [hk']
        constructor
        · rintro ⟨h1, h2, h3⟩
          refine ⟨h1, (h50 i h1).mpr (.inl h2), ?_⟩
          rw [h6 i h1, if_neg]
          · exact h3
          · intro h
            have := (hD i h).2
            rw [h2] at this
            exact absurd this (by decide)
        · rintro ⟨h1, h2, h3⟩
          rw [h6 i h1] at h3
          by_cases hm : i ∈ T' 0
          · rw [if_pos hm, nI_eq (by omega) (by omega)] at h3
            omega
          · rw [if_neg hm] at h3
            rcases (h50 i h1).mp h2 with h | h
            · exact ⟨h1, h, h3⟩
            · exact absurd h hm
    · intro i hi h0
      rw [h6 i hi]
      by_cases hm : i ∈ T' 0
      · rw [if_pos hm]; exact ⟨0, by omega, rfl⟩
      · rw [if_neg hm]
        rcases (h50 i hi).mp h0 with h | h
        · obtain ⟨k, k1, k2⟩ := z5 i hi h
          exact ⟨k + 1, by omega, by rw [k2]; congr 1; omega⟩
        · exact absurd h hm
    · intro i j hi hj hi0 hj0 h
      rw [m_fl_ne _ _ _ _ _ (by omega) (by omega) (by omega) (by omega)]
      rw [h6 i hi, h6 j hj] at h
      rw [h50 i hi] at hi0
      rw [h50 j hj] at hj0
      by_cases hmi : i ∈ T' 0
      · rw [if_pos hmi] at h
        by_cases hmj : j ∈ T' 0
        · rw [if_pos hmj] at h; omega
        · have hj0 := hj0.resolve_right hmj
          have hi1 := (hD i hmi).2
          refine hA.2.2.1 i j ⟨hi, by rw [hi1]; decide⟩ ⟨hj, by rw [hj0]; decide⟩ ?_
          rw [hi1, hj0]; decide
      · rw [if_neg hmi] at h
        have hi0 := hi0.resolve_right hmi
        by_cases hmj : j ∈ T' 0
        · rw [if_pos hmj] at h
          obtain ⟨k, k1, k2⟩ := z5 i hi hi0
          rw [k2, nI_toInt (by omega), nI_toInt (by omega)] at h
          omega
        · rw [if_neg hmj] at h
          exact z6 i j hi hj hi0 (hj0.resolve_right hmj) h
  · intro i
    refine ⟨fun h => (by cases h), ?_⟩
    rintro ⟨h1, h2⟩
    exfalso
    rw [h5 i h1] at h2
    by_cases hi1 : F 5 i = -1
    · rw [if_pos hi1] at h2
      by_cases hm : i ∈ T' 0
      · rw [if_pos hm] at h2; exact absurd h2 (by decide)
      · rw [if_neg hm] at h2; exact absurd h2 (by decide)
    · rw [if_neg hi1] at h2; exact hi1 h2
end KQ
