section KUN
variable {F F' : Nat → Nat → Int32} {n last nw c0 : Nat} {tk cb tb sb : Nat → Nat} {tl cn un ml : Nat}
def k_cx (cb : Nat → Nat) (un cn j : Nat) : Nat := if j < un then cb j else cn
def k_U (F : Nat → Nat → Int32) (cb tb sb tk : Nat → Nat) (un cn tl last n ml : Nat) : Prop :=
  (∀ j, j < un → (F 17 j = nI (sb j + 1) ∧ sb j + (un - j) ≤ last ∧ last ≤ sb j + ml) ∧ (1 ≤ cb j ∧ cb j ≤ cn ∧ tb j ≤ 16) ∧
    ((F 19 j = 0 ∧ (∃ m, m ≤ 16 ∧ F 18 j = nI m ∧ k_cx tb un (tk (cn - 1)) (j + 1) = tb j + m) ∧ k_cx cb un cn (j + 1) = cb j) ∨ (¬ F 19 j = 0 ∧ k_cx cb un cn (j + 1) = cb j + 1 ∧ tk (cb j - 1) = tb j))) ∧
  (∀ j, j < un → ∀ i, k_al F n i → F 3 i = 0 → (F 1 i).toInt ≤ sb j → (F 7 i).toInt < ((tl + (cb j - 1) : Nat) : Int) ∨ ((F 7 i).toInt = ((tl + (cb j - 1) : Nat) : Int) ∧ (F 8 i).toInt < (tb j : Int)))
theorem k_U_0 (F : Nat → Nat → Int32) (cb tb sb tk : Nat → Nat) (cn tl last n ml : Nat) : k_U F cb tb sb tk 0 cn tl last n ml := ⟨fun j hj => absurd hj (Nat.not_lt_zero j), fun j hj => absurd hj (Nat.not_lt_zero j)⟩
theorem k_U_le (h : k_U F cb tb sb tk un cn tl last n ml) : un ≤ ml := by
  by_cases hu : un = 0
  · omega
  · have := (h.1 0 (by omega)).1
    omega
theorem k_U_cg (h : k_U F cb tb sb tk un cn tl last n ml) (hal : ∀ i, k_al F' n i → k_al F n i) (h1 : F' 1 = F 1) (h3 : F' 3 = F 3) (h7 : F' 7 = F 7) (h8 : F' 8 = F 8) (h17 : F' 17 = F 17) (h18 : F' 18 = F 18) (h19 : F' 19 = F 19) : k_U F' cb tb sb tk un cn tl last n ml := by
  refine ⟨fun j hj => ?_, fun j hj i hi => ?_⟩
  · rw [h17, h18, h19]; exact h.1 j hj
  · rw [h1, h3, h7, h8]; exact h.2 j hj i (hal i hi)
theorem k_C_cg (h : k_C F tk n tl cn) (hal : ∀ i, k_al F' n i → k_al F n i) (h3 : F' 3 = F 3) (h7 : F' 7 = F 7) (h8 : F' 8 = F 8) : k_C F' tk n tl cn := by
  obtain ⟨c1, c2, c3⟩ := h
  refine ⟨fun i hi => ?_, fun i j hi hj => ?_, c3⟩
  · rw [h3, h7, h8]; exact c1 i (hal i hi)
  · rw [h3, h7, h8]; exact c2 i j (hal i hi) (hal j hj)
theorem k_C_cm (hC : k_C F tk n tl cn) {r : Nat} (hr : r ≤ 6) (h8 : e_bc tk cn r ≤ 8) {t : Int32} : k_C (m_cw F t (tl + (e_bc tk cn r - 1)) (m_us (tk (cn - 1)) r + 1) n last r) (va_up (e_bt tk cn r) (e_bc tk cn r - 1) (m_us (tk (cn - 1)) r + 1 + r)) (n + r) tl (e_bc tk cn r) := by
  have hCb := k_C_bt hC hr h8
  obtain ⟨_, _, _, c4, _, c6⟩ := hC
  have hbt1 := e_bt_1 (m := r) tk c4
  obtain ⟨d1, d2, d3, d4, d5, d6⟩ := hCb
  have hF : ∀ j i, i < n → m_cw F t (tl + (e_bc tk cn r - 1)) (m_us (tk (cn - 1)) r + 1) n last r j i = F j i := fun j i hi => m_cw_out F _ _ _ _ _ j i r (.inl hi)
  have hN : ∀ i, i < n + r → ¬ i < n → ∃ q, q < r ∧ i = n + q := fun i h1 h2 => ⟨i - n, by omega, by omega⟩
  have hal : ∀ i, k_al (m_cw F t (tl + (e_bc tk cn r - 1)) (m_us (tk (cn - 1)) r + 1) n last r) (n + r) i → i < n → k_al F n i := fun i hi hin => ⟨hin, by rw [← hF 5 i hin]; exact hi.2⟩
  have hle : m_us (tk (cn - 1)) r + 1 ≤ 16 := by rw [← hbt1]; exact d3 _ (by omega)
  have hus : m_us (tk (cn - 1)) r + 1 + r ≤ 16 := by
    unfold m_us
    by_cases h : 16 < tk (cn - 1) + 1 + r
    · rw [if_pos h]; omega
    · rw [if_neg h]; omega
  have hcl : ∀ i, k_al F n i → F 3 i = 0 → ∀ q, q < r → F 7 i = nI (tl + (e_bc tk cn r - 1)) → F 8 i = nI (m_us (tk (cn - 1)) r + 1 + q) → False := by
    intro i hi h3 q hq h7 h8
    obtain ⟨sg, ce, q1, q2, q3, q4, q5, q6⟩ := d1 i hi h3
    rw [q1, nI_eq (by omega) (by omega)] at h7
    have h9 : sg - tl = e_bc tk cn r - 1 := by omega
    rw [h9, hbt1] at q6
    rw [q2, nI_eq (by omega) (by omega)] at h8
    omega
  refine ⟨fun i hi h3 => ?_, fun i j hi hj hi3 hj3 h7 h8 => ?_, fun k hk => ?_, d4, d5, d6⟩
  · by_cases hin : i < n
    · rw [hF 3 i hin] at h3
      rw [hF 7 i hin, hF 8 i hin]
      obtain ⟨sg, ce, q1, q2, q3, q4, q5, q6⟩ := d1 i (hal i hi hin) h3
      refine ⟨sg, ce, q1, q2, q3, q4, q5, ?_⟩
      by_cases hs : sg - tl = e_bc tk cn r - 1
      · rw [hs, hbt1] at q6
        rw [hs, va_up_self]; omega
      · rw [va_up_ne _ _ hs]; exact q6
    · obtain ⟨q, q1, rfl⟩ := hN i hi.1 hin
      obtain ⟨m0, m1, m3, m2, m4, m5, m7, m8⟩ := m_cw_at F t (tl + (e_bc tk cn r - 1)) (m_us (tk (cn - 1)) r + 1) n last q r q1
      refine ⟨_, _, m7, m8, by omega, by omega, by omega, ?_⟩
      have : tl + (e_bc tk cn r - 1) - tl = e_bc tk cn r - 1 := by omega
      rw [this, va_up_self]; omega
  · by_cases hin : i < n
    · by_cases hjn : j < n
      · rw [hF 3 i hin] at hi3
        rw [hF 3 j hjn] at hj3
        rw [hF 7 i hin, hF 7 j hjn] at h7
        rw [hF 8 i hin, hF 8 j hjn] at h8
        exact d2 i j (hal i hi hin) (hal j hj hjn) hi3 hj3 h7 h8
      · obtain ⟨q, q1, rfl⟩ := hN j hj.1 hjn
        obtain ⟨m0, m1, m3, m2, m4, m5, m7, m8⟩ := m_cw_at F t (tl + (e_bc tk cn r - 1)) (m_us (tk (cn - 1)) r + 1) n last q r q1
        rw [hF 3 i hin] at hi3
        rw [hF 7 i hin, m7] at h7
        rw [hF 8 i hin, m8] at h8
        exact (hcl i (hal i hi hin) hi3 q q1 h7 h8).elim
    · obtain ⟨q, q1, rfl⟩ := hN i hi.1 hin
      obtain ⟨m0, m1, m3, m2, m4, m5, m7, m8⟩ := m_cw_at F t (tl + (e_bc tk cn r - 1)) (m_us (tk (cn - 1)) r + 1) n last q r q1
      by_cases hjn : j < n
      · rw [hF 3 j hjn] at hj3
        rw [hF 7 j hjn, m7] at h7
        rw [hF 8 j hjn, m8] at h8
        exact (hcl j (hal j hj hjn) hj3 q q1 h7.symm h8.symm).elim
      · obtain ⟨q', q1', rfl⟩ := hN j hj.1 hjn
        obtain ⟨m0', m1', m3', m2', m4', m5', m7', m8'⟩ := m_cw_at F t (tl + (e_bc tk cn r - 1)) (m_us (tk (cn - 1)) r + 1) n last q' r q1'
        rw [m8, m8', nI_eq (by omega) (by omega)] at h8
        omega
  · by_cases hk1 : k = e_bc tk cn r - 1
    · rw [hk1, va_up_self]; exact hus
    · rw [va_up_ne _ _ hk1]; exact d3 k hk
theorem k_lg_cm (hC : k_C F tk n tl cn) (hlg : k_lgF F tk tl cn) {r : Nat} (h8 : e_bc tk cn r ≤ 8) (hF : F' 16 = upd (F 16) (m_hd (tl + (cn - 1)) (tk (cn - 1)) r % 8) (nI (m_us (tk (cn - 1)) r + 1 + r))) : k_lgF F' (va_up (e_bt tk cn r) (e_bc tk cn r - 1) (m_us (tk (cn - 1)) r + 1 + r)) tl (e_bc tk cn r) := by
  obtain ⟨_, _, _, c4, _, c6⟩ := hC
  have hhd : m_hd (tl + (cn - 1)) (tk (cn - 1)) r = tl + (e_bc tk cn r - 1) := by
    rw [e_bc_1 tk c4]
    unfold m_hd
    by_cases h : 16 < tk (cn - 1) + 1 + r
    · rw [if_pos h, if_pos h]; omega
    · rw [if_neg h, if_neg h]
  intro k hk
  rw [hF, hhd]
  unfold upd
  by_cases hk1 : k = e_bc tk cn r - 1
  · rw [hk1, if_pos rfl, va_up_self]
  · rw [if_neg (by omega), va_up_ne _ _ hk1]
    obtain ⟨q1, q2⟩ := e_bt_lo (m := r) tk c4 (k := k) (by omega)
    rw [q1]
    exact hlg k q2
theorem k_U_cm (hA : k_A F n last) (hC : k_C F tk n tl cn) (hU : k_U F cb tb sb tk un cn tl last n ml) {r : Nat} (hr0 : 0 < r) (hr : r ≤ 6) (hlb : last + r < 2 ^ 30) (h8 : e_bc tk cn r ≤ 8)
    (h17 : F' 17 = upd (F 17) un (nI (last + 1))) (h18 : F' 18 = upd (F 18) un (nI (1 + r))) (h19 : F' 19 = upd (F 19) un (if 16 < tk (cn - 1) + 1 + r then 1 else 0))
    (hlo : ∀ j i, i < n → j < 9 → F' j i = F j i) (hs1 : ∀ q, q < r → (F' 1 (n + q)).toInt = last + q + 1) :
    k_U F' (va_up cb un cn) (va_up tb un (tk (cn - 1))) (va_up sb un last) (va_up (e_bt tk cn r) (e_bc tk cn r - 1) (m_us (tk (cn - 1)) r + 1 + r)) (un + 1) (e_bc tk cn r) tl (last + r) (n + r) (ml + r) := by
  obtain ⟨c1, c2, c3, c4, c5, c6⟩ := hC
  have hcle : cn ≤ e_bc tk cn r := by unfold e_bc; by_cases h : 16 < tk (cn - 1) + 1 + r <;> simp [h]
  have hup : ∀ (f : Nat → Int32) x j, j ≠ un → upd f un x j = f j := fun f x j h => by unfold upd; rw [if_neg h]
  have hua : ∀ (f : Nat → Int32) x, upd f un x un = x := fun f x => by unfold upd; rw [if_pos rfl]
  have htk' : ∀ k, k < cn - 1 → va_up (e_bt tk cn r) (e_bc tk cn r - 1) (m_us (tk (cn - 1)) r + 1 + r) k = tk k := by
    intro k hk
    rw [va_up_ne _ _ (by omega)]
    exact (e_bt_lo (m := r) tk c4 (k := k) (by omega)).1
  have hnx : ∀ (f : Nat → Nat) (x y : Nat) j, j < un → k_cx (va_up f un x) (un + 1) y (j + 1) = k_cx f un x (j + 1) := by
    intro f x y j hj
    unfold k_cx
    rw [if_pos (by omega)]
    by_cases h : j + 1 < un
    · rw [if_pos h, va_up_ne _ _ (by omega)]
    · rw [if_neg h]
      have : j + 1 = un := by omega
      rw [this, va_up_self]
  have hal : ∀ i, k_al F' (n + r) i → (F' 1 i).toInt ≤ last → k_al F n i := by
    intro i hi hs
    by_cases hin : i < n
    · exact ⟨hin, by rw [← hlo 5 i hin (by omega)]; exact hi.2⟩
    · have := hs1 (i - n) (by have := hi.1; omega)
      have e : n + (i - n) = i := by omega
      rw [e] at this
      omega
  refine ⟨fun j hj => ?_, fun j hj i hi h3 hs => ?_⟩
  · by_cases hju : j = un
    · subst hju
      rw [h17, h18, h19, hua, hua, hua, va_up_self, va_up_self, va_up_self]
      refine ⟨⟨rfl, by omega, by omega⟩, ⟨c4, hcle, c3 _ (by omega)⟩, ?_⟩
      have hx : ∀ (f : Nat → Nat) (y : Nat), k_cx f (j + 1) y (j + 1) = y := fun f y => by unfold k_cx; rw [if_neg (by omega)]
      rw [hx, hx, va_up_self]
      by_cases h : 16 < tk (cn - 1) + 1 + r
      · right
        rw [if_pos h]
        refine ⟨by decide, by unfold e_bc; rw [if_pos h], ?_⟩
        rw [va_up_ne _ _ (by rw [e_bc_1 tk c4, if_pos h]; omega)]
        unfold e_bt
        rw [if_pos h, va_up_ne _ _ (by omega)]
      · left
        rw [if_neg h]
        refine ⟨rfl, ⟨1 + r, by omega, rfl, ?_⟩, by unfold e_bc; rw [if_neg h]⟩
        unfold m_us
        rw [if_neg h]; omega
    · have hj' : j < un := by omega
      obtain ⟨⟨u1, u2, u3⟩, ⟨u4, u5, u6⟩, u7⟩ := hU.1 j hj'
      rw [h17, h18, h19, hup _ _ j hju, hup _ _ j hju, hup _ _ j hju, va_up_ne _ _ hju, va_up_ne _ _ hju, va_up_ne _ _ hju, hnx _ _ _ j hj', hnx _ _ _ j hj']
      refine ⟨⟨u1, by omega, by omega⟩, ⟨u4, by omega, u6⟩, ?_⟩
      rcases u7 with u7 | ⟨v1, v2, v3⟩
      · exact .inl u7
      · refine .inr ⟨v1, v2, ?_⟩
        have hb : cb j + 1 ≤ cn := by
          rw [← v2]
          unfold k_cx
          by_cases h : j + 1 < un
          · rw [if_pos h]; exact (hU.1 (j + 1) h).2.1.2.1
          · rw [if_neg h]; exact Nat.le_refl _
        rw [htk' _ (by omega)]
        exact v3
  · by_cases hju : j = un
    · subst hju
      rw [va_up_self] at hs
      have ha := hal i hi hs
      rw [hlo 3 i ha.1 (by omega)] at h3
      rw [hlo 7 i ha.1 (by omega), hlo 8 i ha.1 (by omega), va_up_self, va_up_self]
      obtain ⟨sg, ce, q1, q2, q3, q4, q5, q6⟩ := c1 i ha h3
      have hck := c3 (sg - tl) (by omega)
      rw [q1, q2, nI_toInt (by omega), nI_toInt (by omega)]
      by_cases hsg : sg < tl + (cn - 1)
      · left; omega
      · right
        have : sg - tl = cn - 1 := by omega
        rw [this] at q6
        exact ⟨by omega, by omega⟩
    · have hj' : j < un := by omega
      rw [va_up_ne _ _ hju] at hs
      have hle := (hU.1 j hj').1.2.1
      have ha := hal i hi (by omega)
      rw [hlo 3 i ha.1 (by omega)] at h3
      rw [hlo 1 i ha.1 (by omega)] at hs
      rw [hlo 7 i ha.1 (by omega), hlo 8 i ha.1 (by omega), va_up_ne _ _ hju, va_up_ne _ _ hju]
      exact hU.2 j hj' i ha h3 hs
end KUN
