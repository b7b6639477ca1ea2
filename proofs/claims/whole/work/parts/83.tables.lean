section KT
variable {G F : Nat → Nat → Int32} {n last nw c0 : Nat} {M L1 L2 : List Nat} {T0 : Nat → List Nat}
theorem nI_div6 {r : Nat} (hr : r < 2 ^ 30) : nI r / 6 = nI (r / 6) := by
  rw [← Int32.toInt_inj, Int32.toInt_div, nI_toInt (by omega), nI_toInt (by omega)]
  have e6 : (6 : Int32).toInt = 6 := by decide
  rw [e6]
  have h1 : (r : Int).tdiv 6 = ((r / 6 : Nat) : Int) := by
    rw [Int.tdiv_eq_ediv_of_nonneg (by omega)]; omega
  rw [h1]
  have h2 : r / 6 < 2 ^ 30 := by omega
  rw [Int.bmod_def]
  omega
theorem e_ck_mem (L : List Nat) (k x : Nat) : x ∈ e_ck L k ↔ ∃ r, 6 * k ≤ r ∧ r < 6 * k + 6 ∧ L[r]? = some x := by
  unfold e_ck
  constructor
  · intro h
    obtain ⟨j, hj, hx⟩ := List.getElem_of_mem h
    rw [List.length_drop, List.length_take] at hj
    rw [List.getElem_drop, List.getElem_take] at hx
    exact ⟨6 * k + j, by omega, by omega, by rw [List.getElem?_eq_getElem (by omega), hx]⟩
  · rintro ⟨r, h1, h2, h3⟩
    obtain ⟨h4, h5⟩ := List.getElem?_eq_some_iff.mp h3
    rw [← h5]
    refine List.mem_iff_getElem.mpr ⟨r - 6 * k, by rw [List.length_drop, List.length_take]; omega, ?_⟩
    rw [List.getElem_drop, List.getElem_take]
    congr 1
    omega
theorem e_ck_sub (L : List Nat) (k : Nat) : (e_ck L k).Sublist L := (List.drop_sublist _ _).trans (List.take_sublist _ _)
theorem e_ck_ne {L : List Nat} {k : Nat} (hk : k < (L.length + 5) / 6) : e_ck L k ≠ [] := by
  intro h
  have h1 : (e_ck L k).length = 0 := by rw [h]; rfl
  unfold e_ck at h1
  rw [List.length_drop, List.length_take] at h1
  omega
theorem e_ck_map (p : Nat → Nat) (L : List Nat) (k : Nat) : e_ck (L.map p) k = (e_ck L k).map p := by
  unfold e_ck
  rw [List.length_map, List.map_drop, List.map_take]
def k_tb (T0 : Nat → List Nat) (L1 L2 : List Nat) (l k : Nat) : List Nat := match l with
  | 0 => T0 k
  | 1 => e_ck L1 k
  | _ => e_ck L2 k
def k_ct (c0 : Nat) (L1 L2 : List Nat) (l : Nat) : Nat := match l with
  | 0 => c0
  | 1 => (L1.length + 5) / 6
  | _ => (L2.length + 5) / 6
theorem k_ck_li {l : Nat} (hl : l = 1 ∨ l = 2) {L : List Nat} (hm : k_at F n (nI l) L) (hR : k_R F L) (hlen : L.length < 1000) {nwI : Int32} {k : Nat} (hk : k < 1000) (i : Nat) : i ∈ e_ck L k ↔ i < n ∧ m_li F nwI (nI l) (nI k) i = true := by
  rw [e_ck_mem]
  have hl1 : ¬ nI l = -1 := by rcases hl with h | h <;> subst h <;> decide
  have hl0 : ¬ nI l = 0 := by rcases hl with h | h <;> subst h <;> decide
  have hli : m_li F nwI (nI l) (nI k) i = true ↔ F 5 i = nI l ∧ F 6 i / 6 = nI k := by
    unfold m_li m_to
    simp only [Bool.and_eq_true, Bool.or_eq_true, decide_eq_true_eq, hl1, false_or]
    constructor
    · rintro ⟨h1, h2⟩
      rw [if_neg (by rw [h1]; exact hl0)] at h2
      exact ⟨h1, h2⟩
    · rintro ⟨h1, h2⟩
      rw [if_neg (by rw [h1]; exact hl0)]
      exact ⟨h1, h2⟩
  rw [hli]
  constructor
  · rintro ⟨r, h1, h2, h3⟩
    have h4 := (hm i).mp (List.mem_of_getElem? h3)
    have hr := (List.getElem?_eq_some_iff.mp h3).1
    refine ⟨h4.1, h4.2, ?_⟩
    rw [hR r i h3, nI_div6 (by omega)]
    congr 1
    omega
  · rintro ⟨h1, h2, h3⟩
    have hiL := (hm i).mpr ⟨h1, h2⟩
    obtain ⟨r, hr⟩ := List.getElem?_of_mem hiL
    have hrl := (List.getElem?_eq_some_iff.mp hr).1
    rw [hR r i hr, nI_div6 (by omega), nI_eq (by omega) (by omega)] at h3
    exact ⟨r, by omega, by omega, hr⟩
theorem k_li (hV : k_V G F n last nw c0 M T0 L1 L2) {l k : Nat} (hl : l < 3) (hk : k < k_ct c0 L1 L2 l) : (∀ i, i ∈ k_tb T0 L1 L2 l k ↔ i < n ∧ m_li F (nI nw) (nI l) (nI k) i = true) ∧ k_srt G (k_tb T0 L1 L2 l k) ∧ k_tb T0 L1 L2 l k ≠ [] ∧ ∀ i ∈ k_tb T0 L1 L2 l k, F 5 i = nI l := by
  obtain ⟨hA, ⟨⟨z1, z2, z3⟩, z4, z5, z6⟩, ⟨a1, a2⟩, ⟨b1, b2⟩, c1, c2, d1, d2, f1, f2⟩ := hV
  have : l = 0 ∨ l = 1 ∨ l = 2 := by omega
  rcases this with h | h | h
  · subst h
    have hk : k < c0 := hk
    obtain ⟨y1, y2, y3, y4⟩ := z4 k hk
    refine ⟨fun i => ?_, y1, y2, fun i hi => ((y4 i).mp hi).2.1⟩
    show i ∈ T0 k ↔ _
    rw [y4 i]
    have hli : m_li F (nI nw) (nI 0) (nI k) i = true ↔ F 5 i = 0 ∧ F 6 i = nI (nw - k) := by
      have e0 : nI 0 = (0 : Int32) := by decide
      have e1 : ¬ (0 : Int32) = -1 := by decide
      unfold m_li m_to
      rw [e0]
      simp only [Bool.and_eq_true, Bool.or_eq_true, decide_eq_true_eq, e1, false_or]
      constructor
      · rintro ⟨h1, h2⟩
        rw [if_pos h1, Int32.sub_eq_iff_eq_add] at h2
        refine ⟨h1, ?_⟩
        have h3 : nI nw = nI (nw - k) + nI k := by rw [nI_add]; congr 1; omega
        rw [h3, Int32.add_comm (nI k)] at h2
        exact (Int32.add_left_inj (nI k)).mp h2.symm
      · rintro ⟨h1, h2⟩
        refine ⟨h1, ?_⟩
        rw [if_pos h1, Int32.sub_eq_iff_eq_add, h2, nI_add]
        congr 1
        omega
    rw [hli]
  · subst h
    have hk : k < (L1.length + 5) / 6 := hk
    exact ⟨fun i => k_ck_li (.inl rfl) a2 d1 (by omega) (by omega) i, List.Pairwise.sublist (e_ck_sub L1 k) a1, e_ck_ne hk, fun i hi => ((a2 i).mp ((e_ck_sub L1 k).subset hi)).2⟩
  · subst h
    have hk : k < (L2.length + 5) / 6 := hk
    exact ⟨fun i => k_ck_li (.inr rfl) b2 d2 (by omega) (by omega) i, List.Pairwise.sublist (e_ck_sub L2 k) b1, e_ck_ne hk, fun i hi => ((b2 i).mp ((e_ck_sub L2 k).subset hi)).2⟩
theorem k_mem_li (hV : k_V G F n last nw c0 M T0 L1 L2) (nwI k : Int32) (i : Nat) : i ∈ M ↔ i < n ∧ m_li F nwI (-1) k i = true := by
  rw [hV.2.2.2.2.2.2.2.2.2 i]
  unfold m_li
  simp
theorem k_tn (hV : k_V G F n last nw c0 M T0 L1 L2) {l : Nat} (hl : l < 3) : m_tn F c0 n l = k_ct c0 L1 L2 l := by
  obtain ⟨hA, hZ, ⟨a1, a2⟩, ⟨b1, b2⟩, c1, c2, d1, d2, f1, f2⟩ := hV
  have : l = 0 ∨ l = 1 ∨ l = 2 := by omega
  rcases this with h | h | h
  · subst h; rfl
  · subst h
    show (m_cn (fun e => decide (F 5 e = nI 1)) n + 5) / 6 = _
    rw [m_cn_len (P := fun e => decide (F 5 e = nI 1)) a1.nd (fun i => by rw [a2 i, decide_eq_true_eq]; rfl)]
    rfl
  · subst h
    show (m_cn (fun e => decide (F 5 e = nI 2)) n + 5) / 6 = _
    rw [m_cn_len (P := fun e => decide (F 5 e = nI 2)) b1.nd (fun i => by rw [b2 i, decide_eq_true_eq]; rfl)]
    rfl
theorem k_first {L : List Nat} (hs : k_srt G L) (hne : L ≠ []) : L.getD 0 0 ∈ L ∧ ∀ x ∈ L, (G (L.getD 0 0) 0).toInt ≤ (G x 0).toInt := by
  cases L with
  | nil => exact absurd rfl hne
  | cons a l =>
    refine ⟨by simp, fun x hx => ?_⟩
    show (G a 0).toInt ≤ _
    rcases List.mem_cons.mp hx with h | h
    · rw [h]; exact Int.le_refl _
    · unfold k_srt at hs
      rw [List.pairwise_cons] at hs
      have := hs.1 x h
      rw [e_bf_iff] at this
      omega
theorem k_last {L : List Nat} (hs : k_srt G L) (hne : L ≠ []) : L.getD (L.length - 1) 0 ∈ L ∧ ∀ x ∈ L, (G x 0).toInt ≤ (G (L.getD (L.length - 1) 0) 0).toInt := by
  have hl : 0 < L.length := List.length_pos_iff.mpr hne
  have e1 : L.getD (L.length - 1) 0 = L[L.length - 1]'(by omega) := by
    rw [List.getD_eq_getElem?_getD, List.getElem?_eq_getElem (by omega)]; rfl
  rw [e1]
  refine ⟨List.getElem_mem _, fun x hx => ?_⟩
  obtain ⟨j, hj, rfl⟩ := List.getElem_of_mem hx
  by_cases h : j = L.length - 1
  · subst h; exact Int.le_refl _
  · have := List.pairwise_iff_getElem.mp hs j (L.length - 1) hj (by omega) (by omega)
    rw [e_bf_iff] at this
    omega
theorem k_bd0_eq {P : Nat → Bool} {L : List Nat} (hG : ∀ i, i < n → G i 0 = F 0 i) (hs : k_srt G L) (hne : L ≠ []) (hm : ∀ i, i ∈ L ↔ i < n ∧ P i = true) (hk : ∀ x ∈ L, 0 ≤ (G x 0).toInt) : m_bd P F 0 n = G (L.getD 0 0) 0 := by
  obtain ⟨f1, f2⟩ := k_first hs hne
  obtain ⟨g1, g2⟩ := (hm _).mp f1
  rcases k_bd0 (P := P) (F := F) n (fun i hi hp => by rw [← hG i hi]; exact hk i ((hm i).mpr ⟨hi, hp⟩)) with ⟨h1, _⟩ | ⟨⟨j, j1, j2, j3⟩, h2⟩
  · rw [h1 _ g1] at g2; cases g2
  · have h3 := h2 _ g1 g2
    have h4 := f2 j ((hm j).mpr ⟨j1, j2⟩)
    rw [← Int32.toInt_inj]
    rw [hG j j1, ← j3] at h4
    rw [hG _ g1] at *
    omega
theorem k_bd1_eq {P : Nat → Bool} {L : List Nat} (hG : ∀ i, i < n → G i 0 = F 0 i) (hs : k_srt G L) (hne : L ≠ []) (hm : ∀ i, i ∈ L ↔ i < n ∧ P i = true) (hk : ∀ x ∈ L, 0 ≤ (G x 0).toInt) : m_bd P F 1 n = G (L.getD (L.length - 1) 0) 0 := by
  obtain ⟨f1, f2⟩ := k_last hs hne
  obtain ⟨g1, g2⟩ := (hm _).mp f1
  rcases k_bd1 (P := P) (F := F) n (fun i hi hp => by rw [← hG i hi]; exact hk i ((hm i).mpr ⟨hi, hp⟩)) with ⟨h1, _⟩ | ⟨⟨j, j1, j2, j3⟩, h2⟩
  · rw [h1 _ g1] at g2; cases g2
  · have h3 := h2 _ g1 g2
    have h4 := f2 j ((hm j).mpr ⟨j1, j2⟩)
    rw [← Int32.toInt_inj]
    rw [hG j j1, ← j3] at h4
    rw [hG _ g1] at *
    omega
theorem k_gs_spec : ∀ (L : List Nat) (a : Int32), (L.foldl (e_gs G) a = a ∨ ∃ x ∈ L, L.foldl (e_gs G) a = G x 4) ∧ a.toInt ≤ (L.foldl (e_gs G) a).toInt ∧ ∀ x ∈ L, (G x 4).toInt ≤ (L.foldl (e_gs G) a).toInt
  | [], a => ⟨.inl rfl, Int.le_refl _, fun x hx => by cases hx⟩
  | e :: t, a => by
    obtain ⟨h1, h2, h3⟩ := k_gs_spec t (e_gs G a e)
    rw [List.foldl_cons]
    have h4 : a.toInt ≤ (e_gs G a e).toInt ∧ (G e 4).toInt ≤ (e_gs G a e).toInt := by
      unfold e_gs
      by_cases h : a < G e 4
      · rw [if_pos h]; rw [Int32.lt_iff_toInt_lt] at h; omega
      · rw [if_neg h]; rw [Int32.lt_iff_toInt_lt] at h; omega
    refine ⟨?_, by omega, fun x hx => ?_⟩
    · rcases h1 with h1 | ⟨x, hx, h1⟩
      · rw [h1]
        unfold e_gs
        by_cases h : a < G e 4
        · rw [if_pos h]; exact .inr ⟨e, by simp, rfl⟩
        · rw [if_neg h]; exact .inl rfl
      · exact .inr ⟨x, List.mem_cons_of_mem _ hx, h1⟩
    · rcases List.mem_cons.mp hx with h | h
      · rw [h]; omega
      · exact h3 x h
theorem k_gr_spec (P : Nat → Bool) (F : Nat → Nat → Int32) : ∀ n, (m_gr P F n = 0 ∨ ∃ i, i < n ∧ P i = true ∧ m_gr P F n = F 1 i) ∧ 0 ≤ (m_gr P F n).toInt ∧ ∀ i, i < n → P i = true → (F 1 i).toInt ≤ (m_gr P F n).toInt
  | 0 => ⟨.inl rfl, by show (0 : Int) ≤ (0 : Int32).toInt; decide, fun i hi => absurd hi (Nat.not_lt_zero i)⟩
  | n + 1 => by
    obtain ⟨h1, h2, h3⟩ := k_gr_spec P F n
    rw [m_gr]
    by_cases hP : P n = true
    · rw [if_pos hP]
      by_cases hl : F 1 n ≤ m_gr P F n
      · rw [if_pos hl]
        rw [Int32.le_iff_toInt_le] at hl
        refine ⟨h1.imp id (fun ⟨i, a, b⟩ => ⟨i, by omega, b⟩), h2, fun i hi hp => ?_⟩
        by_cases hin : i = n
        · rw [hin]; exact hl
        · exact h3 i (by omega) hp
      · rw [if_neg hl]
        rw [Int32.le_iff_toInt_le] at hl
        refine ⟨.inr ⟨n, by omega, hP, rfl⟩, by omega, fun i hi hp => ?_⟩
        by_cases hin : i = n
        · rw [hin]; exact Int.le_refl _
        · have := h3 i (by omega) hp; omega
    · rw [if_neg hP]
      refine ⟨h1.imp id (fun ⟨i, a, b⟩ => ⟨i, by omega, b⟩), h2, fun i hi hp => ?_⟩
      by_cases hin : i = n
      · rw [hin] at hp; exact absurd hp hP
      · exact h3 i (by omega) hp
theorem k_gr_eq {P : Nat → Bool} {L : List Nat} (hG : ∀ i, i < n → G i 4 = F 1 i) (hm : ∀ i, i ∈ L ↔ i < n ∧ P i = true) : L.foldl (e_gs G) 0 = m_gr P F n := by
  obtain ⟨a1, a2, a3⟩ := k_gs_spec (G := G) L 0
  obtain ⟨b1, b2, b3⟩ := k_gr_spec P F n
  have e0 : (0 : Int32).toInt = 0 := by decide
  rw [← Int32.toInt_inj]
  have h1 : (L.foldl (e_gs G) 0).toInt ≤ (m_gr P F n).toInt := by
    rcases a1 with h | ⟨x, hx, h⟩
    · rw [h]; omega
    · obtain ⟨x1, x2⟩ := (hm x).mp hx
      rw [h, hG x x1]; exact b3 x x1 x2
  have h2 : (m_gr P F n).toInt ≤ (L.foldl (e_gs G) 0).toInt := by
    rcases b1 with h | ⟨i, i1, i2, h⟩
    · rw [h]; omega
    · rw [h, ← hG i i1]; exact a3 i ((hm i).mpr ⟨i1, i2⟩)
  omega
end KT
