section KF
variable {G F : Nat → Nat → Int32} {n : Nat}
theorem k_sh (s : Nat) (hs : s < 32) : ((nI s).toBitVec.smod 32).toNat = s := by
  have : ∀ s : Fin 32, ((nI s.val).toBitVec.smod 32).toNat = s.val := by decide +kernel
  exact this ⟨s, hs⟩
theorem k_bit (x : Int32) {s : Nat} (hs : s < 32) : x >>> nI s &&& 1 = 1 ↔ x.toBitVec.getLsbD s = true := by
  rw [← Int32.toBitVec_inj, Int32.toBitVec_and, Int32.toBitVec_shiftRight]
  have e1 : (1 : Int32).toBitVec = 1#32 := rfl
  rw [e1]
  have hb : ∀ i, (x.toBitVec.sshiftRight' ((nI s).toBitVec.smod 32)).getLsbD i = (!decide (32 ≤ i) && if s + i < 32 then x.toBitVec.getLsbD (s + i) else x.toBitVec.msb) := by
    intro i
    have : x.toBitVec.sshiftRight' ((nI s).toBitVec.smod 32) = x.toBitVec.sshiftRight s := by
      unfold BitVec.sshiftRight'
      rw [k_sh s hs]
    rw [this, BitVec.getLsbD_sshiftRight]
  constructor
  · intro h
    have h0 := congrArg (fun b => BitVec.getLsbD b 0) h
    simp only [BitVec.getLsbD_and, hb, BitVec.getLsbD_one] at h0
    simpa [hs] using h0
  · intro h
    refine BitVec.eq_of_getLsbD_eq (fun i hi => ?_)
    rw [BitVec.getLsbD_and, hb, BitVec.getLsbD_one]
    by_cases h0 : i = 0
    · subst h0
      simp [hs, h]
    · simp [h0]
theorem k_one {s i : Nat} (hs : s < 32) (hi : i < 32) : (1 <<< nI s : Int32).toBitVec.getLsbD i = decide (i = s) := by
  have : ∀ s i : Fin 32, (1 <<< nI s.val : Int32).toBitVec.getLsbD i.val = decide (i.val = s.val) := by decide +kernel
  exact this ⟨s, hs⟩ ⟨i, hi⟩
theorem k_am1 {q : Nat} (hq : q < 32) : ((5 * nI q + 1 - (5 * nI q + 1) / 32 * 32) &&& 31) = nI ((5 * q + 1) % 32) := by
  have : ∀ q : Fin 32, ((5 * nI q.val + 1 - (5 * nI q.val + 1) / 32 * 32) &&& 31) = nI ((5 * q.val + 1) % 32) := by decide +kernel
  exact this ⟨q, hq⟩
theorem k_am2 {q : Nat} (hq : q < 32) : ((11 * nI q + 7 - (11 * nI q + 7) / 32 * 32) &&& 31) = nI ((11 * q + 7) % 32) := by
  have : ∀ q : Fin 32, ((11 * nI q.val + 7 - (11 * nI q.val + 7) / 32 * 32) &&& 31) = nI ((11 * q.val + 7) % 32) := by decide +kernel
  exact this ⟨q, hq⟩
theorem k_bits (x : Int32) {q : Nat} (hq : q < 32) : x &&& e_bits (nI q) = e_bits (nI q) ↔ m_b1 x (nI q) = 1 ∧ m_b2 x (nI q) = 1 := by
  unfold e_bits m_b1 m_b2
  rw [k_am1 hq, k_am2 hq]
  have h1 : (5 * q + 1) % 32 < 32 := Nat.mod_lt _ (by omega)
  have h2 : (11 * q + 7) % 32 < 32 := Nat.mod_lt _ (by omega)
  rw [k_bit x h1, k_bit x h2]
  rw [← Int32.toBitVec_inj, Int32.toBitVec_and, Int32.toBitVec_or]
  constructor
  · intro h
    constructor
    · have h0 := congrArg (fun b => BitVec.getLsbD b ((5 * q + 1) % 32)) h
      simp only [BitVec.getLsbD_and, BitVec.getLsbD_or, k_one h1 h1, decide_true, Bool.true_or, Bool.and_true] at h0
      exact h0
    · have h0 := congrArg (fun b => BitVec.getLsbD b ((11 * q + 7) % 32)) h
      simp only [BitVec.getLsbD_and, BitVec.getLsbD_or, k_one h2 h2, decide_true, Bool.or_true, Bool.and_true] at h0
      exact h0
  · rintro ⟨a1, a2⟩
    refine BitVec.eq_of_getLsbD_eq (fun i hi => ?_)
    rw [BitVec.getLsbD_and, BitVec.getLsbD_or, k_one h1 hi, k_one h2 hi]
    by_cases b1 : i = (5 * q + 1) % 32
    · rw [← b1] at a1; simp [a1]
    · by_cases b2 : i = (11 * q + 7) % 32
      · rw [← b2] at a2; simp [a2]
      · simp [b1, b2]
def k_sb (a b : Int32) : Prop := a ||| b = b
theorem k_sb_as {a b : Int32} (h1 : k_sb a b) (h2 : k_sb b a) : a = b := by
  unfold k_sb at *
  rw [← h1, Int32.or_comm]
  exact h2.symm
theorem k_sb_or {a b c : Int32} : k_sb (a ||| b) c ↔ k_sb a c ∧ k_sb b c := by
  unfold k_sb
  constructor
  · intro h
    constructor
    · rw [← h, ← Int32.or_assoc, ← Int32.or_assoc, Int32.or_self]
    · rw [← h, Int32.or_comm a b, ← Int32.or_assoc, ← Int32.or_assoc, Int32.or_self]
  · rintro ⟨h1, h2⟩
    rw [Int32.or_assoc, h2, h1]
theorem k_sb_0 (c : Int32) : k_sb 0 c := by
  unfold k_sb
  rw [Int32.or_comm]; exact Int32.or_zero
theorem k_sb_rf (c : Int32) : k_sb c c := Int32.or_self
theorem k_ff_sb (c : Int32) : ∀ (L : List Nat) (a : Int32), k_sb (L.foldl (e_ff G) a) c ↔ k_sb a c ∧ ∀ x ∈ L, k_sb (e_bits (G x 0)) c
  | [], a => by simp
  | e :: t, a => by
    rw [List.foldl_cons, k_ff_sb c t]
    unfold e_ff
    rw [k_sb_or]
    constructor
    · rintro ⟨⟨h1, h2⟩, h3⟩
      refine ⟨h1, fun x hx => ?_⟩
      rcases List.mem_cons.mp hx with h | h
      · rw [h]; exact h2
      · exact h3 x h
    · rintro ⟨h1, h2⟩
      exact ⟨⟨h1, h2 e (by simp)⟩, fun x hx => h2 x (List.mem_cons_of_mem _ hx)⟩
theorem k_fi_sb (P : Nat → Bool) (F : Nat → Nat → Int32) (c : Int32) : ∀ n, k_sb (m_fi P F n) c ↔ ∀ i, i < n → P i = true → k_sb (e_bits (F 0 i)) c
  | 0 => ⟨fun _ i hi => absurd hi (Nat.not_lt_zero i), fun _ => k_sb_0 c⟩
  | n + 1 => by
    rw [m_fi]
    have ih := k_fi_sb P F c n
    by_cases hP : P n = true
    · rw [if_pos hP, Int32.or_assoc]
      have : m_h1 (F 0 n) ||| m_h2 (F 0 n) = e_bits (F 0 n) := rfl
      rw [this, k_sb_or, ih]
      constructor
      · rintro ⟨h1, h2⟩ i hi hp
        by_cases h : i = n
        · rw [h]; exact h2
        · exact h1 i (by omega) hp
      · exact fun h => ⟨fun i hi hp => h i (by omega) hp, h n (by omega) hP⟩
    · rw [if_neg hP, ih]
      constructor
      · intro h i hi hp
        by_cases hin : i = n
        · rw [hin] at hp; exact absurd hp hP
        · exact h i (by omega) hp
      · exact fun h i hi hp => h i (by omega) hp
theorem k_fi_eq {P : Nat → Bool} {L : List Nat} (hG : ∀ i, i < n → G i 0 = F 0 i) (hm : ∀ i, i ∈ L ↔ i < n ∧ P i = true) : L.foldl (e_ff G) 0 = m_fi P F n := by
  refine k_sb_as ?_ ?_
  · rw [k_ff_sb]
    refine ⟨k_sb_0 _, fun x hx => ?_⟩
    obtain ⟨h1, h2⟩ := (hm x).mp hx
    rw [hG x h1]
    exact (k_fi_sb P F _ n).mp (k_sb_rf _) x h1 h2
  · rw [k_fi_sb]
    intro i hi hp
    have h1 := ((k_ff_sb _ L 0).mp (k_sb_rf (L.foldl (e_ff G) 0))).2 i ((hm i).mpr ⟨hi, hp⟩)
    rw [hG i hi] at h1
    exact h1
theorem k_bd0 {P : Nat → Bool} : ∀ n, (∀ i, i < n → P i = true → 0 ≤ (F 0 i).toInt) → ((∀ i, i < n → P i = false) ∧ m_bd P F 0 n = -1) ∨ (∃ i, i < n ∧ P i = true ∧ m_bd P F 0 n = F 0 i) ∧ ∀ i, i < n → P i = true → (m_bd P F 0 n).toInt ≤ (F 0 i).toInt
  | 0, _ => .inl ⟨fun i hi => absurd hi (Nat.not_lt_zero i), rfl⟩
  | n + 1, h => by
    have ih := k_bd0 (P := P) n (fun i hi => h i (by omega))
    have e1 : (-1 : Int32).toInt = -1 := by decide
    rw [m_bd]
    by_cases hP : P n = true
    · right
      rw [if_pos hP]
      have hn := h n (by omega) hP
      rcases ih with ⟨h1, h2⟩ | ⟨⟨j, j1, j2, j3⟩, h2⟩
      · have hb : m_bt 0 (F 0 n) (m_bd P F 0 n) = true := by rw [h2]; rfl
        rw [if_pos hb]
        refine ⟨⟨n, by omega, hP, rfl⟩, fun i hi hp => ?_⟩
        by_cases hin : i = n
        · rw [hin]; exact Int.le_refl _
        · rw [h1 i (by omega)] at hp; cases hp
      · have hj := h j (by omega) j2
        have hb : m_bt 0 (F 0 n) (m_bd P F 0 n) = true ↔ (F 0 n).toInt < (m_bd P F 0 n).toInt := by
          unfold m_bt
          rw [if_pos rfl]
          simp only [Bool.or_eq_true, Bool.not_eq_true', decide_eq_true_eq, decide_eq_false_iff_not, Int32.lt_iff_toInt_lt, Int32.le_iff_toInt_le, Int.not_le]
          rw [j3]
          have e0 : (0 : Int32).toInt = 0 := by decide
          omega
        by_cases hbt : m_bt 0 (F 0 n) (m_bd P F 0 n) = true
        · rw [if_pos hbt]
          have hlt := hb.mp hbt
          refine ⟨⟨n, by omega, hP, rfl⟩, fun i hi hp => ?_⟩
          by_cases hin : i = n
          · rw [hin]; exact Int.le_refl _
          · have := h2 i (by omega) hp; omega
        · rw [if_neg hbt]
          have hlt : ¬ (F 0 n).toInt < (m_bd P F 0 n).toInt := fun q => hbt (hb.mpr q)
          refine ⟨⟨j, by omega, j2, j3⟩, fun i hi hp => ?_⟩
          by_cases hin : i = n
          · rw [hin]; omega
          · exact h2 i (by omega) hp
    · rw [if_neg hP]
      have hPf : P n = false := Bool.not_eq_true _ ▸ hP
      rcases ih with ⟨h1, h2⟩ | ⟨⟨j, j1, j2, j3⟩, h2⟩
      · left
        refine ⟨fun i hi => ?_, h2⟩
        by_cases hin : i = n
        · rw [hin]; exact hPf
        · exact h1 i (by omega)
      · right
        refine ⟨⟨j, by omega, j2, j3⟩, fun i hi hp => ?_⟩
        by_cases hin : i = n
        · rw [hin] at hp; exact absurd hp hP
        · exact h2 i (by omega) hp
theorem k_bd1 {P : Nat → Bool} : ∀ n, (∀ i, i < n → P i = true → 0 ≤ (F 0 i).toInt) → ((∀ i, i < n → P i = false) ∧ m_bd P F 1 n = -1) ∨ (∃ i, i < n ∧ P i = true ∧ m_bd P F 1 n = F 0 i) ∧ ∀ i, i < n → P i = true → (F 0 i).toInt ≤ (m_bd P F 1 n).toInt
  | 0, _ => .inl ⟨fun i hi => absurd hi (Nat.not_lt_zero i), rfl⟩
  | n + 1, h => by
    have ih := k_bd1 (P := P) n (fun i hi => h i (by omega))
    have e1 : (-1 : Int32).toInt = -1 := by decide
    rw [m_bd]
    by_cases hP : P n = true
    · right
      rw [if_pos hP]
      have hn := h n (by omega) hP
      rcases ih with ⟨h1, h2⟩ | ⟨⟨j, j1, j2, j3⟩, h2⟩
      · have hb : m_bt 1 (F 0 n) (m_bd P F 1 n) = true := by rw [h2]; rfl
        rw [if_pos hb]
        refine ⟨⟨n, by omega, hP, rfl⟩, fun i hi hp => ?_⟩
        by_cases hin : i = n
        · rw [hin]; exact Int.le_refl _
        · rw [h1 i (by omega)] at hp; cases hp
      · have hj := h j (by omega) j2
        have hb : m_bt 1 (F 0 n) (m_bd P F 1 n) = true ↔ (m_bd P F 1 n).toInt < (F 0 n).toInt := by
          unfold m_bt
          rw [if_neg (by decide)]
          simp only [Bool.or_eq_true, Bool.not_eq_true', decide_eq_true_eq, decide_eq_false_iff_not, Int32.lt_iff_toInt_lt, Int32.le_iff_toInt_le, Int.not_le]
          rw [j3]
          have e0 : (0 : Int32).toInt = 0 := by decide
          omega
        by_cases hbt : m_bt 1 (F 0 n) (m_bd P F 1 n) = true
        · rw [if_pos hbt]
          have hlt := hb.mp hbt
          refine ⟨⟨n, by omega, hP, rfl⟩, fun i hi hp => ?_⟩
          by_cases hin : i = n
          · rw [hin]; exact Int.le_refl _
          · have := h2 i (by omega) hp; omega
        · rw [if_neg hbt]
          have hlt : ¬ (m_bd P F 1 n).toInt < (F 0 n).toInt := fun q => hbt (hb.mpr q)
          refine ⟨⟨j, by omega, j2, j3⟩, fun i hi hp => ?_⟩
          by_cases hin : i = n
          · rw [hin]; omega
          · exact h2 i (by omega) hp
    · rw [if_neg hP]
      have hPf : P n = false := Bool.not_eq_true _ ▸ hP
      rcases ih with ⟨h1, h2⟩ | ⟨⟨j, j1, j2, j3⟩, h2⟩
      · left
        refine ⟨fun i hi => ?_, h2⟩
        by_cases hin : i = n
        · rw [hin]; exact hPf
        · exact h1 i (by omega)
      · right
        refine ⟨⟨j, by omega, j2, j3⟩, fun i hi hp => ?_⟩
        by_cases hin : i = n
        · rw [hin] at hp; exact absurd hp hP
        · exact h2 i (by omega) hp
end KF
