section KCO
variable {G F : Nat → Nat → Int32} {n : Nat} {tk : Nat → Nat} {tl cn : Nat}
def k_pg (sg : Int32) : List Nat → (Nat → Nat → Int32) → Nat → Nat → Nat → Int32
  | [], G, _ => G
  | e :: t, G, c => k_pg sg t (e_plc G e sg (nI c)) (c + 1)
def k_pm (hdv : Int32) : List Nat → (Nat → Nat → Int32) → Nat → Nat → Nat → Int32
  | [], F, _ => F
  | e :: t, F, c => k_pm hdv t (m_m1 F e hdv c) (c + 1)
theorem va_up_uu {α : Type} (f : Nat → α) (k : Nat) (x y : α) : va_up (va_up f k x) k y = va_up f k y := by
  funext j
  unfold va_up
  by_cases h : j = k
  · rw [if_pos h, if_pos h]
  · rw [if_neg h, if_neg h, if_neg h]
theorem k_wm1 (tl : Nat) : ∀ (A B : List Nat) (i : Nat) (E : Nat → Nat → Int32) (tk : Nat → Nat) (cn : Nat), (A = [] ∨ i % 6 ≠ 0) → i % 6 + A.length ≤ 6 → e_wm tl (A ++ B) i E tk cn = e_wm tl B (i + A.length) (k_pg (nI (tl + (cn - 1))) A E (tk (cn - 1))) (va_up tk (cn - 1) (tk (cn - 1) + A.length)) cn
  | [], B, i, E, tk, cn, _, _ => by
    rw [List.nil_append, List.length_nil, Nat.add_zero, Nat.add_zero, va_up_id]
    rfl
  | e :: t, B, i, E, tk, cn, h1, h2 => by
    have hi : ¬ i % 6 = 0 := by
      rcases h1 with h | h
      · cases h
      · exact h
    rw [List.length_cons] at h2
    have ih := k_wm1 tl t B (i + 1) (e_plc E e (nI (tl + (cn - 1))) (nI (tk (cn - 1)))) (va_up tk (cn - 1) (tk (cn - 1) + 1)) cn (by
      cases t with
      | nil => exact .inl rfl
      | cons a t => rw [List.length_cons] at h2; right; omega) (by omega)
    rw [List.cons_append, e_wm]
    have e1 : ∀ m, e_t1 i tk cn m = tk := fun m => by unfold e_t1; rw [if_neg hi]
    have e2 : ∀ m, e_c1 i tk cn m = cn := fun m => by unfold e_c1; rw [if_neg hi]
    rw [e1, e2, ih, va_up_self, va_up_uu, List.length_cons]
    have e3 : i + 1 + t.length = i + (t.length + 1) := by omega
    have e4 : tk (cn - 1) + 1 + t.length = tk (cn - 1) + (t.length + 1) := by omega
    rw [e3, e4]
    rfl
theorem k_wm2 (tl : Nat) (A B : List Nat) (i : Nat) (E : Nat → Nat → Int32) (tk : Nat → Nat) (cn : Nat) (hi : i % 6 = 0) (h0 : A ≠ []) (hA : A.length = min 6 (A ++ B).length) : e_wm tl (A ++ B) i E tk cn = e_wm tl B (i + A.length) (k_pg (nI (tl + (e_bc tk cn A.length - 1))) A E (e_bt tk cn A.length (e_bc tk cn A.length - 1))) (va_up (e_bt tk cn A.length) (e_bc tk cn A.length - 1) (e_bt tk cn A.length (e_bc tk cn A.length - 1) + A.length)) (e_bc tk cn A.length) := by
  cases A with
  | nil => exact absurd rfl h0
  | cons e t =>
    rw [List.cons_append, e_wm]
    have hm : min 6 ((t ++ B).length + 1) = (e :: t).length := by rw [hA]; rfl
    have e1 : e_t1 i tk cn ((t ++ B).length + 1) = e_bt tk cn (e :: t).length := by unfold e_t1; rw [if_pos hi, hm]
    have e2 : e_c1 i tk cn ((t ++ B).length + 1) = e_bc tk cn (e :: t).length := by unfold e_c1; rw [if_pos hi, hm]
    rw [e1, e2]
    have hl : (e :: t).length ≤ 6 := by rw [hA]; omega
    rw [List.length_cons] at hl
    rw [k_wm1 tl t B (i + 1) _ _ _ (by right; omega) (by omega), va_up_self, va_up_uu, List.length_cons]
    have e3 : i + 1 + t.length = i + (t.length + 1) := by omega
    have e4 : e_bt tk cn (t.length + 1) (e_bc tk cn (t.length + 1) - 1) + 1 + t.length = e_bt tk cn (t.length + 1) (e_bc tk cn (t.length + 1) - 1) + (t.length + 1) := by omega
    rw [e3, e4]
    rfl
theorem m_lv_iff (F : Nat → Nat → Int32) (s : Int32) (i : Nat) : m_lv F s i = true ↔ ¬ F 5 i = 9 ∧ F 3 i = 0 ∧ F 7 i = s := by
  unfold m_lv
  simp only [Bool.and_eq_true, Bool.not_eq_true', decide_eq_false_iff_not, decide_eq_true_eq]
theorem m_m1_7 (F : Nat → Nat → Int32) (e : Nat) (v : Int32) (c i : Nat) : m_m1 F e v c 7 i = if i = e then v else F 7 i := rfl
theorem m_m1_8 (F : Nat → Nat → Int32) (e : Nat) (v : Int32) (c i : Nat) : m_m1 F e v c 8 i = if i = e then nI c else F 8 i := rfl
theorem m_m1_ne (F : Nat → Nat → Int32) (e : Nat) (v : Int32) (c : Nat) {j : Nat} (h7 : j ≠ 7) (h8 : j ≠ 8) : m_m1 F e v c j = F j := by
  unfold m_m1
  rw [va_up_ne _ _ h8, va_up_ne _ _ h7]
theorem k_pm_ne (v : Int32) {j : Nat} (h7 : j ≠ 7) (h8 : j ≠ 8) : ∀ (A : List Nat) (F : Nat → Nat → Int32) (c : Nat), k_pm v A F c j = F j
  | [], _, _ => rfl
  | e :: t, F, c => by rw [k_pm, k_pm_ne v h7 h8 t, m_m1_ne _ _ _ _ h7 h8]
theorem k_mv_eq {s hdv : Int32} (hne : hdv ≠ s) (a0 : Nat) : ∀ (A B : List Nat) (F : Nat → Nat → Int32) (k : Nat), k_vs (fun x => (F 8 x).toInt) (A ++ B) → (∀ i, i ∈ A ++ B ↔ i < n ∧ m_lv F s i = true) →
    m_mv s hdv n a0 A.length k F = k_pm hdv A F (a0 + k) ∧ k_vs (fun x => (k_pm hdv A F (a0 + k) 8 x).toInt) B ∧ (∀ i, i ∈ B ↔ i < n ∧ m_lv (k_pm hdv A F (a0 + k)) s i = true)
  | [], B, F, k, h1, h2 => ⟨rfl, h1, h2⟩
  | e :: t, B, F, k, h1, h2 => by
    rw [List.cons_append] at h1 h2
    have h1' := h1
    unfold k_vs at h1'
    rw [List.pairwise_cons] at h1'
    obtain ⟨p1, p2⟩ := h1'
    have he := (h2 e).mp (by simp)
    have hnot : ∀ i ∈ t ++ B, i ≠ e := by
      intro i hi h
      have := p1 i hi
      rw [h] at this
      omega
    have harg : m_arg (m_lv F s) (m_lc F) n = some e := by
      refine m_arg_eq (k_lc_iff F) he.1 he.2 (fun i hi hp hie => ?_)
      have hm := (h2 i).mpr ⟨hi, hp⟩
      rcases List.mem_cons.mp hm with h | h
      · exact absurd h hie
      · exact p1 i h
    have ih := k_mv_eq hne a0 t B (m_m1 F e hdv (a0 + k)) (k + 1) (by
      refine List.Pairwise.imp_of_mem ?_ p2
      intro a b ha hb hab
      show (m_m1 F e hdv (a0 + k) 8 a).toInt < (m_m1 F e hdv (a0 + k) 8 b).toInt
      rw [m_m1_8, m_m1_8, if_neg (hnot a ha), if_neg (hnot b hb)]
      exact hab) (by
      intro i
      rw [m_lv_iff, m_m1_ne _ _ _ _ (by omega) (by omega), m_m1_ne _ _ _ _ (by omega) (by omega), m_m1_7]
      constructor
      · intro hi
        have := (h2 i).mp (List.mem_cons_of_mem _ hi)
        rw [m_lv_iff] at this
        rw [if_neg (hnot i hi)]
        exact this
      · rintro ⟨i1, i2, i3, i4⟩
        by_cases hie : i = e
        · rw [if_pos hie] at i4; exact absurd i4 hne
        · rw [if_neg hie] at i4
          have := (h2 i).mpr ⟨i1, (m_lv_iff F s i).mpr ⟨i2, i3, i4⟩⟩
          rcases List.mem_cons.mp this with h | h
          · exact absurd h hie
          · exact h)
    rw [List.length_cons, m_mv, harg]
    have e1 : a0 + k + 1 = a0 + (k + 1) := by omega
    rw [k_pm, e1]
    exact ih
theorem k_dc_pl (hd : k_dc G F n) (e : Nat) (sg : Int32) (c : Nat) : k_dc (e_plc G e sg (nI c)) (m_m1 F e sg c) n := by
  intro i hi
  obtain ⟨h0, h1, h2, h3, h4, h5, h6, h7⟩ := hd i hi
  have hE : ∀ j, j ≠ 6 → j ≠ 7 → e_plc G e sg (nI c) i j = G i j := by
    intro j j6 j7
    show (if i = e ∧ j = 7 then nI c else if i = e ∧ j = 6 then sg else G i j) = _
    rw [if_neg (fun h => j7 h.2), if_neg (fun h => j6 h.2)]
  refine ⟨?_, ?_, ?_, ?_, ?_, ?_, ?_, ?_⟩
  · rw [hE 0 (by omega) (by omega)]; exact h0
  · rw [hE 1 (by omega) (by omega)]; exact h1
  · rw [hE 3 (by omega) (by omega)]; exact h2
  · rw [hE 4 (by omega) (by omega)]; exact h3
  · rw [hE 2 (by omega) (by omega), hE 5 (by omega) (by omega)]; exact h4
  · rw [hE 2 (by omega) (by omega), hE 5 (by omega) (by omega)]; exact h5
  · rw [m_m1_7]
    show (if i = e ∧ 6 = 7 then nI c else if i = e ∧ 6 = 6 then sg else G i 6) = _
    by_cases h : i = e
    · rw [if_neg (fun q => absurd q.2 (by omega)), if_pos ⟨h, rfl⟩, if_pos h]
    · rw [if_neg (fun q => h q.1), if_neg (fun q => h q.1), if_neg h]; exact h6
  · rw [m_m1_8]
    show (if i = e ∧ 7 = 7 then nI c else if i = e ∧ 7 = 6 then sg else G i 7) = _
    by_cases h : i = e
    · rw [if_pos ⟨h, rfl⟩, if_pos h]
    · rw [if_neg (fun q => h q.1), if_neg (fun q => h q.1), if_neg h]; exact h7
theorem k_dc_pm (sg : Int32) : ∀ (A : List Nat) (G F : Nat → Nat → Int32) (c : Nat), k_dc G F n → k_dc (k_pg sg A G c) (k_pm sg A F c) n
  | [], _, _, _, h => h
  | e :: t, G, F, c, h => k_dc_pm sg t _ _ _ (k_dc_pl h e sg c)
theorem k_C_pl (hC : k_C F tk n tl cn) {e : Nat} (he : k_al F n e) (h1 : 1 ≤ tk (cn - 1)) (h2 : tk (cn - 1) + 1 ≤ 16) : k_C (m_m1 F e (nI (tl + (cn - 1))) (tk (cn - 1))) (va_up tk (cn - 1) (tk (cn - 1) + 1)) n tl cn := by
  obtain ⟨c1, c2, c3, c4, c5, c6⟩ := hC
  have n3 : m_m1 F e (nI (tl + (cn - 1))) (tk (cn - 1)) 3 = F 3 := m_m1_ne _ _ _ _ (by omega) (by omega)
  have n5 : m_m1 F e (nI (tl + (cn - 1))) (tk (cn - 1)) 5 = F 5 := m_m1_ne _ _ _ _ (by omega) (by omega)
  have hal : ∀ i, k_al (m_m1 F e (nI (tl + (cn - 1))) (tk (cn - 1))) n i ↔ k_al F n i := fun i => by unfold k_al; rw [n5]
  have key : ∀ j, k_al F n j → F 3 j = 0 → F 7 j = nI (tl + (cn - 1)) → F 8 j = nI (tk (cn - 1)) → False := by
    intro j hj h3 h7 h8
    obtain ⟨sg, ce, q1, q2, q3, q4, q5, q6⟩ := c1 j hj h3
    rw [q1, nI_eq (by omega) (by omega)] at h7
    have h6 := c3 (sg - tl) (by omega)
    rw [q2, nI_eq (by omega) (by omega)] at h8
    have h9 : sg - tl = cn - 1 := by omega
    rw [h9] at q6
    omega
  refine ⟨fun i hi h3 => ?_, fun i j hi hj hi3 hj3 h7 h8 => ?_, fun k hk => ?_, c4, c5, c6⟩
  · rw [hal] at hi
    rw [n3] at h3
    rw [m_m1_7, m_m1_8]
    by_cases hie : i = e
    · rw [if_pos hie, if_pos hie]
      refine ⟨tl + (cn - 1), tk (cn - 1), rfl, rfl, by omega, by omega, h1, ?_⟩
      have : tl + (cn - 1) - tl = cn - 1 := by omega
      rw [this, va_up_self]; omega
    · rw [if_neg hie, if_neg hie]
      obtain ⟨sg, ce, q1, q2, q3, q4, q5, q6⟩ := c1 i hi h3
      refine ⟨sg, ce, q1, q2, q3, q4, q5, ?_⟩
      by_cases hs : sg - tl = cn - 1
      · rw [hs] at q6 ⊢; rw [va_up_self]; omega
      · rw [va_up_ne _ _ hs]; exact q6
  · rw [hal] at hi hj
    rw [n3] at hi3 hj3
    rw [m_m1_7, m_m1_7] at h7
    rw [m_m1_8, m_m1_8] at h8
    by_cases hie : i = e
    · by_cases hje : j = e
      · rw [hie, hje]
      · rw [if_pos hie, if_neg hje] at h7 h8
        exact (key j hj hj3 h7.symm h8.symm).elim
    · by_cases hje : j = e
      · rw [if_neg hie, if_pos hje] at h7 h8
        exact (key i hi hi3 h7 h8).elim
      · rw [if_neg hie, if_neg hje] at h7 h8
        exact c2 i j hi hj hi3 hj3 h7 h8
  · by_cases hs : k = cn - 1
    · rw [hs, va_up_self]; exact h2
    · rw [va_up_ne _ _ hs]; exact c3 k hk
theorem k_C_pm : ∀ (A : List Nat) (F : Nat → Nat → Int32) (tk : Nat → Nat), k_C F tk n tl cn → (∀ e ∈ A, k_al F n e) → 1 ≤ tk (cn - 1) → tk (cn - 1) + A.length ≤ 16 → k_C (k_pm (nI (tl + (cn - 1))) A F (tk (cn - 1))) (va_up tk (cn - 1) (tk (cn - 1) + A.length)) n tl cn
  | [], F, tk, h, _, _, _ => by rw [List.length_nil, Nat.add_zero, va_up_id]; exact h
  | e :: t, F, tk, h, hA, h1, h2 => by
    rw [List.length_cons] at h2
    have hs := k_C_pl h (hA e (by simp)) h1 (by omega)
    have ih := k_C_pm t _ _ hs (fun x hx => hA x (List.mem_cons_of_mem _ hx)) (by rw [va_up_self]; omega) (by rw [va_up_self]; omega)
    rw [va_up_self, va_up_uu] at ih
    have e4 : tk (cn - 1) + 1 + t.length = tk (cn - 1) + (e :: t).length := by rw [List.length_cons]; omega
    rw [e4] at ih
    exact ih
theorem e_bc_1 (tk : Nat → Nat) {cn m : Nat} (hcn : 1 ≤ cn) : e_bc tk cn m - 1 = (if 16 < tk (cn - 1) + 1 + m then cn else cn - 1) := by
  unfold e_bc
  by_cases h : 16 < tk (cn - 1) + 1 + m
  · rw [if_pos h, if_pos h]; omega
  · rw [if_neg h, if_neg h]
theorem e_bt_1 (tk : Nat → Nat) {cn m : Nat} (hcn : 1 ≤ cn) : e_bt tk cn m (e_bc tk cn m - 1) = m_us (tk (cn - 1)) m + 1 := by
  rw [e_bc_1 tk hcn]
  unfold e_bt m_us
  by_cases h : 16 < tk (cn - 1) + 1 + m
  · rw [if_pos h, if_pos h, if_pos h, va_up_self]
  · rw [if_neg h, if_neg h, if_neg h, va_up_self]
theorem e_bt_lo (tk : Nat → Nat) {cn m k : Nat} (hcn : 1 ≤ cn) (hk : k < e_bc tk cn m - 1) : e_bt tk cn m k = tk k ∧ k < cn := by
  rw [e_bc_1 tk hcn] at hk
  unfold e_bt
  by_cases h : 16 < tk (cn - 1) + 1 + m
  · rw [if_pos h] at hk ⊢; exact ⟨va_up_ne _ _ (by omega), hk⟩
  · rw [if_neg h] at hk ⊢; exact ⟨va_up_ne _ _ (by omega), by omega⟩
theorem k_C_bt (hC : k_C F tk n tl cn) {m : Nat} (hm : m ≤ 6) (h8 : e_bc tk cn m ≤ 8) : k_C F (e_bt tk cn m) n tl (e_bc tk cn m) := by
  obtain ⟨c1, c2, c3, c4, c5, c6⟩ := hC
  have hle : cn ≤ e_bc tk cn m := by unfold e_bc; by_cases h : 16 < tk (cn - 1) + 1 + m <;> simp [h]
  have hmono : ∀ k, k < cn → tk k ≤ e_bt tk cn m k := by
    intro k hk
    unfold e_bt
    by_cases h : 16 < tk (cn - 1) + 1 + m
    · rw [if_pos h, va_up_ne _ _ (by omega)]; exact Nat.le_refl _
    · rw [if_neg h]
      by_cases hk1 : k = cn - 1
      · rw [hk1, va_up_self]; omega
      · rw [va_up_ne _ _ hk1]; exact Nat.le_refl _
  refine ⟨fun i hi h3 => ?_, c2, fun k hk => ?_, by omega, h8, c6⟩
  · obtain ⟨sg, ce, q1, q2, q3, q4, q5, q6⟩ := c1 i hi h3
    exact ⟨sg, ce, q1, q2, q3, by omega, q5, Nat.lt_of_lt_of_le q6 (hmono _ (by omega))⟩
  · by_cases hk1 : k = e_bc tk cn m - 1
    · rw [hk1, e_bt_1 tk c4]
      unfold m_us
      by_cases h : 16 < tk (cn - 1) + 1 + m
      · rw [if_pos h]; omega
      · rw [if_neg h]; omega
    · obtain ⟨q1, q2⟩ := e_bt_lo (m := m) tk c4 (k := k) (by omega)
      rw [q1]; exact c3 k q2
end KCO
