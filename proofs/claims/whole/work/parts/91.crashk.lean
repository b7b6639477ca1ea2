section KCR
variable {G F : Nat → Nat → Int32} {n last nw c0 : Nat} {M L1 L2 : List Nat} {T0 : Nat → List Nat} {tk cb tb sb : Nat → Nat} {tl cn un : Nat}
theorem nI_sub' (a b : Nat) : nI (a + b) - nI b = nI a := by
  rw [← nI_add, Int32.add_sub_cancel]
def k_hds (cb : Nat → Nat) (un cn tl j : Nat) : Nat := tl + (k_cx cb un cn j - 1)
theorem k_cu_spec (hC : k_C F tk n tl cn) (hlg : k_lgF F tk tl cn) {ml : Nat} (hU : k_U F cb tb sb tk un cn tl last n ml) : ∀ m, m ≤ un → (∀ k, k < k_cx cb un cn (un - m) - 1 → m_cu F (k_hds cb un cn tl) un m ((tl + k) % 8) = nI (tk k)) ∧ m_cu F (k_hds cb un cn tl) un m (k_hds cb un cn tl (un - m) % 8) = nI (k_cx tb un (tk (cn - 1)) (un - m)) ∧ 1 ≤ k_cx cb un cn (un - m) ∧ k_cx cb un cn (un - m) ≤ cn
  | 0, _ => by
    obtain ⟨c1, c2, c3, c4, c5, c6⟩ := hC
    rw [Nat.sub_zero]
    have e1 : k_cx cb un cn un = cn := by unfold k_cx; rw [if_neg (by omega)]
    have e2 : k_cx tb un (tk (cn - 1)) un = tk (cn - 1) := by unfold k_cx; rw [if_neg (by omega)]
    unfold k_hds
    rw [e1, e2]
    exact ⟨fun k hk => hlg k (by omega), hlg (cn - 1) (by omega), c4, Nat.le_refl _⟩
  | m + 1, hm => by
    obtain ⟨i1, i2, i3, i4⟩ := k_cu_spec hC hlg hU m (by omega)
    obtain ⟨c1, c2, c3, c4, c5, c6⟩ := hC
    obtain ⟨j, hj⟩ : ∃ j, un - (m + 1) = j := ⟨_, rfl⟩
    have hj1 : un - m = j + 1 := by omega
    have hj2 : un - 1 - m = j := by omega
    have hju : j < un := by omega
    obtain ⟨_, ⟨u4, u5, u6⟩, u7⟩ := hU.1 j hju
    have e1 : k_cx cb un cn j = cb j := by unfold k_cx; rw [if_pos hju]
    have e2 : k_cx tb un (tk (cn - 1)) j = tb j := by unfold k_cx; rw [if_pos hju]
    have e3 : k_hds cb un cn tl j = tl + (cb j - 1) := by unfold k_hds; rw [e1]
    rw [hj, m_cu, hj2, hj1]
    rw [hj1] at i1 i2 i3 i4
    rw [e1, e2, e3]
    rcases u7 with ⟨v1, ⟨mm, v2, v3, v4⟩, v5⟩ | ⟨v1, v2, v3⟩
    · rw [if_pos v1]
      have e4 : k_hds cb un cn tl (j + 1) = tl + (cb j - 1) := by unfold k_hds; rw [v5]
      rw [e4] at i2 ⊢
      rw [v5] at i1
      refine ⟨fun k hk => ?_, ?_, u4, u5⟩
      · unfold upd
        rw [if_neg (by omega)]
        exact i1 k hk
      · unfold upd
        rw [if_pos rfl, i2, v3, v4, nI_sub']
    · rw [if_neg v1]
      rw [v2] at i1
      refine ⟨fun k hk => i1 k (by omega), ?_, u4, u5⟩
      rw [i1 (cb j - 1) (by omega), v3]
theorem k_crash (hd : k_dc G F n) (hV : k_V G F n last nw c0 M T0 L1 L2) (hMc : k_Mc F M last) (hC : k_C F tk n tl cn) (hlg : k_lgF F tk tl cn) (hU : k_U F cb tb sb tk un cn tl last n M.length) (hlb : last < 2 ^ 30) {st : Nat} (hst : st ≤ un) :
    k_dc G (m_cF F (k_hds cb un cn tl) un st (nI (k_cx sb un last st)) n) n ∧ k_V G (m_cF F (k_hds cb un cn tl) un st (nI (k_cx sb un last st)) n) n (k_cx sb un last st) nw c0 (M.take (M.length - (last - k_cx sb un last st))) T0 L1 L2 ∧ k_Mc (m_cF F (k_hds cb un cn tl) un st (nI (k_cx sb un last st)) n) (M.take (M.length - (last - k_cx sb un last st))) (k_cx sb un last st) ∧
    k_C (m_cF F (k_hds cb un cn tl) un st (nI (k_cx sb un last st)) n) (va_up tk (k_cx cb un cn st - 1) (k_cx tb un (tk (cn - 1)) st)) n tl (k_cx cb un cn st) ∧ k_lgF (m_cF F (k_hds cb un cn tl) un st (nI (k_cx sb un last st)) n) (va_up tk (k_cx cb un cn st - 1) (k_cx tb un (tk (cn - 1)) st)) tl (k_cx cb un cn st) ∧ last - k_cx sb un last st ≤ M.length ∧ k_cx sb un last st ≤ last := by
  have hcu := k_cu_spec hC hlg hU (un - st) (by omega)
  have hus : un - (un - st) = st := by omega
  rw [hus] at hcu
  obtain ⟨u1, u2, u3, u4⟩ := hcu
  obtain ⟨hA, hZ, ⟨a1, a2⟩, ⟨b1, b2⟩, cc1, cc2, d1, d2, f1, f2⟩ := hV
  obtain ⟨c1, c2, c3, c4, c5, c6⟩ := hC
  have hsb : k_cx sb un last st ≤ last ∧ last ≤ k_cx sb un last st + M.length := by
    unfold k_cx
    by_cases h : st < un
    · rw [if_pos h]
      have := (hU.1 st h).1
      omega
    · rw [if_neg h]; omega
  have htb : k_cx tb un (tk (cn - 1)) st ≤ 16 := by
    unfold k_cx
    by_cases h : st < un
    · rw [if_pos h]; exact (hU.1 st h).2.1.2.2
    · rw [if_neg h]; exact c3 _ (by omega)
  obtain ⟨la, hla⟩ : ∃ la, k_cx sb un last st = la := ⟨_, rfl⟩
  obtain ⟨cx, hcx⟩ : ∃ x, k_cx cb un cn st = x := ⟨_, rfl⟩
  obtain ⟨tx, htx⟩ : ∃ x, k_cx tb un (tk (cn - 1)) st = x := ⟨_, rfl⟩
  have hpos : ∀ i, k_al F n i → F 3 i = 0 → (F 1 i).toInt ≤ la → (F 7 i).toInt < ((tl + (cx - 1) : Nat) : Int) ∨ ((F 7 i).toInt = ((tl + (cx - 1) : Nat) : Int) ∧ (F 8 i).toInt < (tx : Int)) := by
    intro i hi h3 hs
    by_cases h : st < un
    · have e1 : k_cx cb un cn st = cb st := by unfold k_cx; rw [if_pos h]
      have e2 : k_cx tb un (tk (cn - 1)) st = tb st := by unfold k_cx; rw [if_pos h]
      have e3 : k_cx sb un last st = sb st := by unfold k_cx; rw [if_pos h]
      rw [← hcx, ← htx, e1, e2]
      rw [← hla, e3] at hs
      exact hU.2 st h i hi h3 hs
    · have e1 : k_cx cb un cn st = cn := by unfold k_cx; rw [if_neg h]
      have e2 : k_cx tb un (tk (cn - 1)) st = tk (cn - 1) := by unfold k_cx; rw [if_neg h]
      rw [← hcx, ← htx, e1, e2]
      obtain ⟨sg, ce, q1, q2, q3, q4, q5, q6⟩ := c1 i hi h3
      have hck := c3 (sg - tl) (by omega)
      rw [q1, q2, nI_toInt (by omega), nI_toInt (by omega)]
      by_cases hsg : sg < tl + (cn - 1)
      · left; omega
      · right
        have : sg - tl = cn - 1 := by omega
        rw [this] at q6
        exact ⟨by omega, by omega⟩
  have h16 : ∀ j, m_cF F (k_hds cb un cn tl) un st (nI (k_cx sb un last st)) n 16 j = m_cu F (k_hds cb un cn tl) un (un - st) j := fun j => rfl
  have hne : ∀ j, j ≠ 5 → j ≠ 14 → j ≠ 16 → m_cF F (k_hds cb un cn tl) un st (nI (k_cx sb un last st)) n j = F j := by
    intro j h5 h14 h16
    unfold m_cF
    rw [va_up_ne _ _ h14, va_up_ne _ _ h5, va_up_ne _ _ h16]
  have h5 : ∀ i, i < n → m_cF F (k_hds cb un cn tl) un st (nI (k_cx sb un last st)) n 5 i = if F 5 i = -1 ∧ (la : Int) < (F 1 i).toInt then 9 else F 5 i := by
    intro i hi
    show (if i < n then (if F 5 i = -1 ∧ nI (k_cx sb un last st) < F 1 i then 9 else F 5 i) else F 5 i) = _
    rw [if_pos hi, hla]
    have : nI la < F 1 i ↔ (la : Int) < (F 1 i).toInt := by rw [Int32.lt_iff_toInt_lt, nI_toInt (by omega)]
    simp only [this]
  rw [hla] at hsb h16 hne h5
  rw [hcx] at u1 u3 u4
  rw [htx] at u2 htb
  rw [hla, hcx, htx]
  generalize hF' : m_cF F (k_hds cb un cn tl) un st (nI la) n = F' at *
  have g1 := hne 1 (by omega) (by omega) (by omega)
  have halF : ∀ i, k_al F' n i → k_al F n i := by
    rintro i ⟨i1, i2⟩
    refine ⟨i1, fun h => i2 ?_⟩
    rw [h5 i i1, h, if_neg (fun q => absurd q.1 (by decide))]
  have hsm : ∀ i, k_al F' n i → (F 1 i).toInt ≤ la := by
    intro i hi
    have hi' := halF i hi
    by_cases hm : F 5 i = -1
    · have h := hi.2
      rw [h5 i hi.1] at h
      by_cases hl : (la : Int) < (F 1 i).toInt
      · rw [if_pos ⟨hm, hl⟩] at h; exact absurd rfl h
      · omega
    · by_cases hM : M = []
      · have := (hA.1 i hi').2.2
        rw [hM, List.length_nil] at hsb
        omega
      · obtain ⟨x, t, hx⟩ := List.exists_cons_of_ne_nil hM
        have hx0 : M[0]? = some x := by rw [hx]; rfl
        have h1 := hMc 0 x hx0
        have h2 := (f2 x).mp (List.mem_of_getElem? hx0)
        have em : (-1 : Int32).toInt = -1 := by decide
        have e0 : (0 : Int32).toInt = 0 := by decide
        have e1 : (1 : Int32).toInt = 1 := by decide
        have e2 : (2 : Int32).toInt = 2 := by decide
        have h3 := hA.2.2.1 x i ⟨h2.1, by rw [h2.2]; decide⟩ hi' (by
          rw [h2.2]
          rcases hA.2.2.2 i hi.1 with k | k | k | k | k
          · exact absurd k hm
          · rw [k]; omega
          · rw [k]; omega
          · rw [k]; omega
          · exact absurd k hi'.2)
        omega
  have h5c : ∀ b : Int32, b ≠ -1 → b ≠ 9 → ∀ i, i < n → (F' 5 i = b ↔ F 5 i = b) := by
    intro b hb1 hb9 i hi
    rw [h5 i hi]
    by_cases hc : F 5 i = -1 ∧ (la : Int) < (F 1 i).toInt
    · rw [if_pos hc, hc.1]
      exact ⟨fun h => absurd h.symm hb9, fun h => absurd h.symm hb1⟩
    · rw [if_neg hc]
  have g6 := hne 6 (by omega) (by omega) (by omega)
  have hMt : ∀ (j x : Nat), M[j]? = some x → ((F 1 x).toInt ≤ la ↔ j < M.length - (last - la)) := by
    intro j x hx
    have h1 := hMc j x hx
    have h2 := (List.getElem?_eq_some_iff.mp hx).1
    rw [h1]
    omega
  refine ⟨k_dc_cg hd (hne 0 (by omega) (by omega) (by omega)) g1 (hne 2 (by omega) (by omega) (by omega)) (hne 3 (by omega) (by omega) (by omega)) (hne 4 (by omega) (by omega) (by omega)) (hne 7 (by omega) (by omega) (by omega)) (hne 8 (by omega) (by omega) (by omega)), ⟨⟨fun i hi => ?_, fun i j hi hj h => ?_, fun i j hi hj h => ?_, fun i hi => ?_⟩, k_Z_cg hZ (h5c 0 (by decide) (by decide)) (fun i hi h => by rw [g6]) (fun i hi => by rw [g1]), ⟨a1, k_at_cg a2 (h5c 1 (by decide) (by decide))⟩, ⟨b1, k_at_cg b2 (h5c 2 (by decide) (by decide))⟩, cc1, cc2, fun r x hx => by rw [g6]; exact d1 r x hx, fun r x hx => by rw [g6]; exact d2 r x hx, List.Pairwise.sublist (List.take_sublist _ _) f1, fun i => ?_⟩, fun j x hx => ?_, ?_, fun k hk => ?_, by omega, by omega⟩
  · rw [hne 0 (by omega) (by omega) (by omega), g1]
    have h1 := hA.1 i (halF i hi)
    exact ⟨h1.1, h1.2.1, hsm i hi⟩
  · rw [g1] at h; exact hA.2.1 i j (halF i hi) (halF j hj) h
  · rw [g1]
    refine hA.2.2.1 i j (halF i hi) (halF j hj) ?_
    have e1 : ∀ i, k_al F' n i → F' 5 i = F 5 i := by
      intro i hi
      have h := hi.2
      rw [h5 i hi.1] at h ⊢
      by_cases hc : F 5 i = -1 ∧ (la : Int) < (F 1 i).toInt
      · rw [if_pos hc] at h; exact absurd rfl h
      · rw [if_neg hc]
    rw [e1 i hi, e1 j hj] at h
    exact h
  · rw [h5 i hi]
    by_cases hc : F 5 i = -1 ∧ (la : Int) < (F 1 i).toInt
    · rw [if_pos hc]; exact .inr (.inr (.inr (.inr rfl)))
    · rw [if_neg hc]; exact hA.2.2.2 i hi
  · rw [List.mem_take_iff_getElem]
    constructor
    · rintro ⟨j, hj, hx⟩
      have hx' : M[j]? = some i := by rw [List.getElem?_eq_getElem (by omega), hx]
      have h1 := (f2 i).mp (List.mem_of_getElem? hx')
      have h2 := (hMt j i hx').mpr (by omega)
      refine ⟨h1.1, ?_⟩
      rw [h5 i h1.1, if_neg (fun q => by have := q.2; omega)]
      exact h1.2
    · rintro ⟨h1, h2⟩
      rw [h5 i h1] at h2
      by_cases hc : F 5 i = -1 ∧ (la : Int) < (F 1 i).toInt
      · rw [if_pos hc] at h2; exact absurd h2 (by decide)
      · rw [if_neg hc] at h2
        obtain ⟨j, hj⟩ := List.getElem?_of_mem ((f2 i).mpr ⟨h1, h2⟩)
        have h3 : (F 1 i).toInt ≤ la := by
          by_cases h : (la : Int) < (F 1 i).toInt
          · exact absurd ⟨h2, h⟩ hc
          · omega
        have h4 := (hMt j i hj).mp h3
        obtain ⟨h6, h7⟩ := List.getElem?_eq_some_iff.mp hj
        exact ⟨j, by omega, h7⟩
  · rw [List.getElem?_take] at hx
    by_cases hj : j < M.length - (last - la)
    · rw [if_pos hj] at hx
      rw [g1, hMc j x hx, List.length_take]
      omega
    · rw [if_neg hj] at hx; cases hx
  · refine ⟨fun i hi h3 => ?_, fun i j hi hj hi3 hj3 h7 h8 => ?_, fun k hk => ?_, u3, by omega, c6⟩
    · rw [hne 3 (by omega) (by omega) (by omega)] at h3
      rw [hne 7 (by omega) (by omega) (by omega), hne 8 (by omega) (by omega) (by omega)]
      have hi' := halF i hi
      obtain ⟨sg, ce, q1, q2, q3, q4, q5, q6⟩ := c1 i hi' h3
      have hck := c3 (sg - tl) (by omega)
      have p3 := hpos i hi' h3 (hsm i hi)
      rw [q1, q2, nI_toInt (by omega), nI_toInt (by omega)] at p3
      refine ⟨sg, ce, q1, q2, q3, by omega, q5, ?_⟩
      by_cases hsx : sg - tl = cx - 1
      · rw [hsx, va_up_self]; omega
      · rw [va_up_ne _ _ hsx]; exact q6
    · rw [hne 3 (by omega) (by omega) (by omega)] at hi3 hj3
      rw [hne 7 (by omega) (by omega) (by omega)] at h7
      rw [hne 8 (by omega) (by omega) (by omega)] at h8
      exact c2 i j (halF i hi) (halF j hj) hi3 hj3 h7 h8
    · by_cases hkx : k = cx - 1
      · rw [hkx, va_up_self]; exact htb
      · rw [va_up_ne _ _ hkx]; exact c3 k (by omega)
  · rw [h16]
    by_cases hkx : k = cx - 1
    · rw [hkx, va_up_self]
      have e3 : k_hds cb un cn tl st = tl + (cx - 1) := by unfold k_hds; rw [hcx]
      rw [e3] at u2
      exact u2
    · rw [va_up_ne _ _ hkx]; exact u1 k (by omega)
end KCR
