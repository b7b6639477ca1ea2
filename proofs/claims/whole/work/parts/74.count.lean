section KC
theorem m_cn_eq (P : Nat → Bool) : ∀ n, m_cn P n = ((List.range n).filter P).length
  | 0 => rfl
  | n + 1 => by
    rw [m_cn, m_cn_eq P n, List.range_succ, List.filter_append, List.length_append]
    by_cases h : P n = true
    · rw [if_pos h]; simp [h]
    · rw [if_neg h]; simp [h]
theorem m_cn_len {P : Nat → Bool} {n : Nat} {T : List Nat} (hn : T.Nodup) (hm : ∀ i, i ∈ T ↔ i < n ∧ P i = true) : m_cn P n = T.length := by
  rw [m_cn_eq]
  refine List.Perm.length_eq ((List.perm_ext_iff_of_nodup ?_ hn).mpr ?_)
  · exact List.Pairwise.filter _ List.nodup_range
  · intro a
    rw [List.mem_filter, List.mem_range, hm]
theorem m_cn_cg {P Q : Nat → Bool} : ∀ n, (∀ i, i < n → P i = Q i) → m_cn P n = m_cn Q n
  | 0, _ => rfl
  | n + 1, h => by rw [m_cn, m_cn, m_cn_cg n (fun i hi => h i (by omega)), h n (by omega)]
theorem k_cn_le (P : Nat → Bool) : ∀ n, m_cn P n ≤ n
  | 0 => Nat.le_refl _
  | n + 1 => by
    rw [m_cn]
    have := k_cn_le P n
    by_cases h : P n = true
    · rw [if_pos h]; omega
    · rw [if_neg h]; omega
theorem m_cn_0 {P : Nat → Bool} : ∀ n, (∀ i, i < n → P i = false) → m_cn P n = 0
  | 0, _ => rfl
  | n + 1, h => by rw [m_cn, m_cn_0 n (fun i hi => h i (by omega)), h n (by omega)]; rfl
theorem m_arg_spec {P : Nat → Bool} {bt : Nat → Nat → Bool} {val : Nat → Int} (hb : ∀ i b, bt i b = true ↔ val i < val b) : ∀ n, match m_arg P bt n with
    | none => ∀ i, i < n → P i = false
    | some b => b < n ∧ P b = true ∧ ∀ i, i < n → P i = true → val b ≤ val i
  | 0 => fun i hi => absurd hi (Nat.not_lt_zero i)
  | n + 1 => by
    have ih := m_arg_spec (P := P) hb n
    unfold m_arg
    by_cases hP : P n = true
    · rw [if_pos hP]
      revert ih
      cases m_arg P bt n with
      | none =>
        intro ih
        refine ⟨by omega, hP, fun i hi hPi => ?_⟩
        by_cases hin : i = n
        · rw [hin]; exact Int.le_refl _
        · rw [ih i (by omega)] at hPi; cases hPi
      | some b =>
        intro ih
        obtain ⟨h1, h2, h3⟩ := ih
        by_cases hbt : bt n b = true
        · simp only [hbt, if_true]
          have := (hb n b).mp hbt
          refine ⟨by omega, hP, fun i hi hPi => ?_⟩
          by_cases hin : i = n
          · rw [hin]; exact Int.le_refl _
          · have := h3 i (by omega) hPi; omega
        · simp only [hbt, if_false, Bool.false_eq_true]
          have hnb : ¬ val n < val b := fun q => hbt ((hb n b).mpr q)
          refine ⟨by omega, h2, fun i hi hPi => ?_⟩
          by_cases hin : i = n
          · rw [hin]; omega
          · exact h3 i (by omega) hPi
    · rw [if_neg hP]
      revert ih
      cases m_arg P bt n with
      | none =>
        intro ih i hi
        by_cases hin : i = n
        · rw [hin]; exact Bool.not_eq_true _ ▸ hP
        · exact ih i (by omega)
      | some b =>
        intro ih
        obtain ⟨h1, h2, h3⟩ := ih
        refine ⟨by omega, h2, fun i hi hPi => ?_⟩
        by_cases hin : i = n
        · rw [hin] at hPi; exact absurd hPi hP
        · exact h3 i (by omega) hPi
theorem m_arg_none {P : Nat → Bool} {bt : Nat → Nat → Bool} {n : Nat} : m_arg P bt n = none ↔ ∀ i, i < n → P i = false := by
  induction n with
  | zero => exact ⟨fun _ i hi => absurd hi (Nat.not_lt_zero i), fun _ => rfl⟩
  | succ n ih =>
    unfold m_arg
    by_cases hP : P n = true
    · rw [if_pos hP]
      constructor
      · intro h
        exfalso
        revert h
        cases m_arg P bt n with
        | none => intro h; cases h
        | some b =>
          by_cases hbt : bt n b = true
          · simp [hbt]
          · simp [hbt]
      · intro h
        rw [h n (by omega)] at hP; cases hP
    · rw [if_neg hP, ih]
      constructor
      · intro h i hi
        by_cases hin : i = n
        · rw [hin]; exact Bool.not_eq_true _ ▸ hP
        · exact h i (by omega)
      · exact fun h i hi => h i (by omega)
theorem m_arg_eq {P : Nat → Bool} {bt : Nat → Nat → Bool} {val : Nat → Int} {n b : Nat} (hb : ∀ i b, bt i b = true ↔ val i < val b) (h1 : b < n) (h2 : P b = true) (h3 : ∀ i, i < n → P i = true → i ≠ b → val b < val i) : m_arg P bt n = some b := by
  have h := m_arg_spec (P := P) hb n
  revert h
  cases hm : m_arg P bt n with
  | none => intro h; rw [h b h1] at h2; cases h2
  | some a =>
    intro h
    obtain ⟨q1, q2, q3⟩ := h
    by_cases hab : a = b
    · rw [hab]
    · have := h3 a q1 q2 hab
      have := q3 b h1 h2
      omega
theorem m_arg_cg {P Q : Nat → Bool} {bt ct : Nat → Nat → Bool} : ∀ n, (∀ i, i < n → P i = Q i) → (∀ i j, i < n → j < n → bt i j = ct i j) → m_arg P bt n = m_arg Q ct n ∧ ∀ b, m_arg Q ct n = some b → b < n
  | 0, _, _ => ⟨rfl, fun b h => by cases h⟩
  | n + 1, h1, h2 => by
    obtain ⟨i1, i2⟩ := m_arg_cg n (fun i hi => h1 i (by omega)) (fun i j hi hj => h2 i j (by omega) (by omega))
    unfold m_arg
    rw [i1, h1 n (by omega)]
    cases hm : m_arg Q ct n with
    | none =>
      refine ⟨rfl, fun b hb => ?_⟩
      by_cases hq : Q n = true
      · simp [hq] at hb; omega
      · simp [hq] at hb
    | some a =>
      have ha := i2 a hm
      refine ⟨by simp only [h2 n a (by omega) (by omega)], fun b hb => ?_⟩
      by_cases hq : Q n = true
      · by_cases hc : ct n a = true
        · simp [hq, hc] at hb; omega
        · simp [hq, hc] at hb; omega
      · simp [hq] at hb; omega
theorem k_lo_iff (F : Nat → Nat → Int32) (i b : Nat) : m_lo F i b = true ↔ (F 1 i).toInt < (F 1 b).toInt := by
  unfold m_lo
  simp only [Bool.not_eq_true', decide_eq_false_iff_not, Int32.le_iff_toInt_le, Int.not_le]
theorem k_hi_iff (F : Nat → Nat → Int32) (i b : Nat) : m_hi F i b = true ↔ - (F 1 i).toInt < - (F 1 b).toInt := by
  unfold m_hi
  simp only [Bool.not_eq_true', decide_eq_false_iff_not, Int32.le_iff_toInt_le]
  omega
theorem k_lc_iff (F : Nat → Nat → Int32) (i b : Nat) : m_lc F i b = true ↔ (F 8 i).toInt < (F 8 b).toInt := by
  unfold m_lc
  simp only [Bool.not_eq_true', decide_eq_false_iff_not, Int32.le_iff_toInt_le, Int.not_le]
theorem m_lw_iff (F : Nat → Nat → Int32) (e : Nat) : ∀ n, m_lw F e n = true ↔ ∀ f, f < n → m_lwP F e f = false
  | 0 => ⟨fun _ f hf => absurd hf (Nat.not_lt_zero f), fun _ => rfl⟩
  | n + 1 => by
    rw [m_lw, Bool.and_eq_true, m_lw_iff F e n, Bool.not_eq_true']
    constructor
    · rintro ⟨h1, h2⟩ f hf
      by_cases h : f = n
      · rw [h]; exact h2
      · exact h1 f (by omega)
    · exact fun h => ⟨fun f hf => h f (by omega), h n (by omega)⟩
end KC
