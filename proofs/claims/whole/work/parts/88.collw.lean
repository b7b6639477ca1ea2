section KCW
variable {n : Nat} {tl : Nat}
def k_lgF (F : Nat → Nat → Int32) (tk : Nat → Nat) (tl cn : Nat) : Prop := ∀ k, k < cn → F 16 ((tl + k) % 8) = nI (tk k)
theorem k_coll : ∀ (q : Nat) (L : List Nat) (i : Nat) (G F : Nat → Nat → Int32) (tk : Nat → Nat) (cn q' : Nat), L.length < q → L.length < q' → (L = [] ∨ i % 6 = 0) → 2 ≤ cn → k_dc G F n → k_C F tk n tl cn → k_lgF F tk tl cn → k_vs (fun x => (F 8 x).toInt) L → (∀ i, i ∈ L ↔ i < n ∧ m_lv F (nI tl) i = true) → e_sw q' cn (16 - tk (cn - 1)) L.length ≤ 8 →
    (m_co (nI tl) n q L.length F (tl + (cn - 1))).2 = tl + ((e_wm tl L i G tk cn).2.2 - 1) ∧ k_dc (e_wm tl L i G tk cn).1 (m_co (nI tl) n q L.length F (tl + (cn - 1))).1 n ∧ k_C (m_co (nI tl) n q L.length F (tl + (cn - 1))).1 (e_wm tl L i G tk cn).2.1 n tl (e_wm tl L i G tk cn).2.2 ∧ k_lgF (m_co (nI tl) n q L.length F (tl + (cn - 1))).1 (e_wm tl L i G tk cn).2.1 tl (e_wm tl L i G tk cn).2.2 ∧ cn ≤ (e_wm tl L i G tk cn).2.2 ∧ (∀ i, i < n → m_lv (m_co (nI tl) n q L.length F (tl + (cn - 1))).1 (nI tl) i = false) ∧ (∀ j, j ≠ 7 → j ≠ 8 → j ≠ 16 → (m_co (nI tl) n q L.length F (tl + (cn - 1))).1 j = F j)
  | 0, L, i, G, F, tk, cn, q', hq, _, _, _, _, _, _, _, _, _ => absurd hq (Nat.not_lt_zero _)
  | q + 1, L, i, G, F, tk, cn, q', hq, hq', hi, hcn, hd, hC, hlg, hvs, hm, hsw => by
    by_cases hL : L = []
    · subst hL
      have e1 : m_co (nI tl) n (q + 1) ([] : List Nat).length F (tl + (cn - 1)) = (F, tl + (cn - 1)) := by
        rw [m_co, List.length_nil, if_pos rfl]
      have e2 : e_wm tl [] i G tk cn = (G, tk, cn) := rfl
      rw [e1, e2]
      refine ⟨rfl, hd, hC, hlg, Nat.le_refl _, fun x hx => ?_, fun j _ _ _ => rfl⟩
      by_cases h : m_lv F (nI tl) x = true
      · have := (hm x).mpr ⟨hx, h⟩; cases this
      · exact Bool.not_eq_true _ ▸ h
    · have hi : i % 6 = 0 := hi.resolve_left hL
      have hl0 : ¬ L.length = 0 := fun h => hL (List.length_eq_zero_iff.mp h)
      obtain ⟨c1, c2, c3, c4, c5, c6⟩ := id hC
      have htk := c3 (cn - 1) (by omega)
      have hu : m_uz F (tl + (cn - 1)) = tk (cn - 1) := by
        unfold m_uz
        rw [hlg (cn - 1) (by omega), nI_clamp (by omega)]
      have hAB : L = L.take 6 ++ L.drop 6 := (List.take_append_drop 6 L).symm
      have hAl : (L.take 6).length = min L.length 6 := by rw [List.length_take]; omega
      have hBl : (L.drop 6).length = L.length - 6 := List.length_drop
      have hA0 : L.take 6 ≠ [] := fun h => by
        have : (L.take 6).length = 0 := by rw [h]; rfl
        omega
      have hco : m_co (nI tl) n (q + 1) L.length F (tl + (cn - 1)) = m_co (nI tl) n q (L.length - 6) (m_mv (nI tl) (nI (m_hd (tl + (cn - 1)) (tk (cn - 1)) (min L.length 6))) n (m_us (tk (cn - 1)) (min L.length 6) + 1) (min L.length 6) 0 (m_r1 F (tl + (cn - 1)) (min L.length 6))) (m_hd (tl + (cn - 1)) (tk (cn - 1)) (min L.length 6)) := by
        rw [m_co, if_neg hl0, hu]
      have hwm := k_wm2 tl (L.take 6) (L.drop 6) i G tk cn hi hA0 (by rw [← hAB, hAl]; omega)
      rw [← hAB, hAl] at hwm
      have hhd : m_hd (tl + (cn - 1)) (tk (cn - 1)) (min L.length 6) = tl + (e_bc tk cn (min L.length 6) - 1) := by
        rw [e_bc_1 tk c4]
        unfold m_hd
        by_cases h : 16 < tk (cn - 1) + 1 + min L.length 6
        · rw [if_pos h, if_pos h]; omega
        · rw [if_neg h, if_neg h]
      have hswn : ∃ q2, L.length - 6 < q2 ∧ e_sw q2 (e_bc tk cn (min L.length 6)) (16 - (m_us (tk (cn - 1)) (min L.length 6) + 1 + min L.length 6)) (L.length - 6) ≤ 8 := by
        cases q' with
        | zero => omega
        | succ q2 =>
          refine ⟨q2, by omega, ?_⟩
          rw [e_sw, if_neg hl0] at hsw
          unfold e_bc m_us
          by_cases h : 16 < tk (cn - 1) + 1 + min L.length 6
          · rw [if_pos (by omega)] at hsw
            rw [if_pos h, if_pos h]
            have : 16 - (0 + 1 + min L.length 6) = 16 - (1 + min L.length 6) := by omega
            rw [this]; exact hsw
          · rw [if_neg (by omega)] at hsw
            rw [if_neg h, if_neg h]
            have : 16 - (tk (cn - 1) + 1 + min L.length 6) = 16 - tk (cn - 1) - (1 + min L.length 6) := by omega
            rw [this]; exact hsw
      obtain ⟨q2, hq2, hsw2⟩ := hswn
      have hc8 : e_bc tk cn (min L.length 6) ≤ 8 := Nat.le_trans (e_sw_ge _ _ _ _) hsw2
      have hcle : cn ≤ e_bc tk cn (min L.length 6) := by unfold e_bc; by_cases h : 16 < tk (cn - 1) + 1 + min L.length 6 <;> simp [h]
      have hus : m_us (tk (cn - 1)) (min L.length 6) + 1 + min L.length 6 ≤ 16 := by
        unfold m_us
        by_cases h : 16 < tk (cn - 1) + 1 + min L.length 6
        · rw [if_pos h]; omega
        · rw [if_neg h]; omega
      have hF1 : ∀ j, j ≠ 16 → m_r1 F (tl + (cn - 1)) (min L.length 6) j = F j := fun j hj => va_up_ne _ _ hj
      have hdne : nI (tl + (e_bc tk cn (min L.length 6) - 1)) ≠ nI tl := by
        intro h
        rw [nI_eq (by omega) (by omega)] at h
        omega
      have hF1lv : ∀ x, m_lv (m_r1 F (tl + (cn - 1)) (min L.length 6)) (nI tl) x = m_lv F (nI tl) x := fun x => rfl
      obtain ⟨v1, v2, v3⟩ := k_mv_eq (n := n) hdne (m_us (tk (cn - 1)) (min L.length 6) + 1) (L.take 6) (L.drop 6) (m_r1 F (tl + (cn - 1)) (min L.length 6)) 0 (by rw [← hAB]; exact hvs) (by rw [← hAB]; exact hm)
      rw [hAl, Nat.add_zero] at v1
      rw [Nat.add_zero] at v2 v3
      rw [hco, hhd, v1, hwm]
      have hbt1 := e_bt_1 (m := min L.length 6) tk c4
      rw [hbt1]
      have hCb := k_C_bt (m := min L.length 6) hC (by omega) hc8
      have hC1 : k_C (m_r1 F (tl + (cn - 1)) (min L.length 6)) (e_bt tk cn (min L.length 6)) n tl (e_bc tk cn (min L.length 6)) := hCb
      have halA : ∀ e ∈ L.take 6, k_al (m_r1 F (tl + (cn - 1)) (min L.length 6)) n e := by
        intro e he
        have := (hm e).mp (List.mem_of_mem_take he)
        rw [m_lv_iff] at this
        exact ⟨this.1, this.2.1⟩
      have hCp := k_C_pm (L.take 6) _ _ hC1 halA (by rw [hbt1]; omega) (by rw [hbt1, hAl]; exact hus)
      rw [hbt1, hAl] at hCp
      have hdp := k_dc_pm (nI (tl + (e_bc tk cn (min L.length 6) - 1))) (L.take 6) G (m_r1 F (tl + (cn - 1)) (min L.length 6)) (m_us (tk (cn - 1)) (min L.length 6) + 1) hd
      have hlgp : k_lgF (k_pm (nI (tl + (e_bc tk cn (min L.length 6) - 1))) (L.take 6) (m_r1 F (tl + (cn - 1)) (min L.length 6)) (m_us (tk (cn - 1)) (min L.length 6) + 1)) (va_up (e_bt tk cn (min L.length 6)) (e_bc tk cn (min L.length 6) - 1) (m_us (tk (cn - 1)) (min L.length 6) + 1 + min L.length 6)) tl (e_bc tk cn (min L.length 6)) := by
        intro k hk
        rw [k_pm_ne _ (by omega) (by omega)]
        unfold m_r1
        rw [va_up_self, hu, hhd]
        unfold upd
        by_cases hk1 : k = e_bc tk cn (min L.length 6) - 1
        · rw [hk1, if_pos rfl, va_up_self]
        · rw [if_neg (by omega), va_up_ne _ _ hk1]
          obtain ⟨q1, q2⟩ := e_bt_lo (m := min L.length 6) tk c4 (k := k) (by omega)
          rw [q1]
          exact hlg k q2
      have ih := k_coll q (L.drop 6) (i + min L.length 6) _ _ _ _ q2 (by omega) (by omega) (by
        by_cases hb : L.length ≤ 6
        · left; exact List.length_eq_zero_iff.mp (by omega)
        · right; omega) (by omega) hdp hCp hlgp v2 v3 (by rw [va_up_self, hBl]; exact hsw2)
      rw [hBl] at ih
      obtain ⟨i1, i2, i3, i4, i5, i6, i7⟩ := ih
      refine ⟨i1, i2, i3, i4, Nat.le_trans hcle i5, i6, fun j h7 h8 h16 => ?_⟩
      rw [i7 j h7 h8 h16, k_pm_ne _ h7 h8, hF1 j h16]
theorem k_wm_keep (tl : Nat) : ∀ (L : List Nat) (i : Nat) (E : Nat → Nat → Int32) (tk : Nat → Nat) (cn x j : Nat), j ≠ 6 → j ≠ 7 → (e_wm tl L i E tk cn).1 x j = E x j
  | [], _, _, _, _, _, _, _, _ => rfl
  | e :: t, i, E, tk, cn, x, j, h6, h7 => by
    rw [e_wm, k_wm_keep tl t _ _ _ _ x j h6 h7]
    show (if x = e ∧ j = 7 then _ else if x = e ∧ j = 6 then _ else E x j) = _
    rw [if_neg (fun h => h7 h.2), if_neg (fun h => h6 h.2)]
theorem k_wm_map (tl : Nat) {p : Nat → Nat} {Dm : Nat → Prop} (hp : ∀ x y, Dm x → Dm y → p x = p y → x = y) : ∀ (L : List Nat) (i : Nat) (E G : Nat → Nat → Int32) (tk : Nat → Nat) (cn : Nat), (∀ x ∈ L, Dm x) → (∀ x, Dm x → E (p x) = G x) →
    (e_wm tl (L.map p) i E tk cn).2 = (e_wm tl L i G tk cn).2 ∧ ∀ x, Dm x → (e_wm tl (L.map p) i E tk cn).1 (p x) = (e_wm tl L i G tk cn).1 x
  | [], i, E, G, tk, cn, _, h => ⟨rfl, h⟩
  | e :: t, i, E, G, tk, cn, hL, h => by
    rw [List.map_cons, e_wm, e_wm, List.length_map]
    refine k_wm_map tl hp t _ _ _ _ _ (fun x hx => hL x (List.mem_cons_of_mem _ hx)) (fun x hx => ?_)
    funext j
    have he := hL e (by simp)
    have hpe : p x = p e ↔ x = e := ⟨fun q => hp x e hx he q, fun q => by rw [q]⟩
    show (if p x = p e ∧ j = 7 then _ else if p x = p e ∧ j = 6 then _ else E (p x) j) = (if x = e ∧ j = 7 then _ else if x = e ∧ j = 6 then _ else G x j)
    rw [h x hx]
    simp only [hpe]
theorem k_sw_hf : ∀ (q c f l : Nat), f ≤ 16 → e_sw q c (16 - f) l = c + m_hf q 0 f l
  | 0, c, f, l, _ => rfl
  | q + 1, c, f, l, hf => by
    have hshift : ∀ q s f l, m_hf q s f l = s + m_hf q 0 f l := by
      intro q
      induction q with
      | zero => intro s f l; rfl
      | succ q ih =>
        intro s f l
        rw [m_hf, m_hf]
        by_cases hl : l = 0
        · rw [if_pos hl, if_pos hl]; rfl
        · rw [if_neg hl, if_neg hl]
          by_cases h : 16 < f + (1 + min l 6)
          · rw [if_pos h, if_pos h, ih (s + 1), ih (0 + 1)]; omega
          · rw [if_neg h, if_neg h, ih s]
    rw [e_sw, m_hf]
    by_cases hl : l = 0
    · rw [if_pos hl, if_pos hl]; rfl
    · rw [if_neg hl, if_neg hl]
      by_cases h : 16 < f + (1 + min l 6)
      · rw [if_pos (by omega), if_pos h, k_sw_hf q (c + 1) (1 + min l 6) (l - 6) (by omega), hshift q (0 + 1)]; omega
      · rw [if_neg (by omega), if_neg h]
        have : 16 - f - (1 + min l 6) = 16 - (f + (1 + min l 6)) := by omega
        rw [this, k_sw_hf q c (f + (1 + min l 6)) (l - 6) (by omega)]
end KCW
