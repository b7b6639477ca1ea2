section KN
variable {G F : Nat → Nat → Int32} {S : Nat → Int32} {n last : Nat}
def k_dc (G F : Nat → Nat → Int32) (n : Nat) : Prop := ∀ i, i < n → G i 0 = F 0 i ∧ G i 1 = F 2 i ∧ G i 3 = F 3 i ∧ G i 4 = F 1 i ∧ (F 4 i = if G i 2 ≤ 0 then 0 else G i 5) ∧ (¬ G i 2 ≤ 0 → 0 < G i 5) ∧ G i 6 = F 7 i ∧ G i 7 = F 8 i
theorem k_dc_gone (h : k_dc G F n) {i : Nat} (hi : i < n) (t : Int32) : e_gone G i t = m_gone F t i := by
  obtain ⟨h0, h1, h3, h4, h5, h6, _⟩ := h i hi
  unfold e_gone m_gone
  rw [h3, h5]
  by_cases hl : G i 2 ≤ 0
  · rw [if_pos hl]
    have : (0 : Int32) ≤ 0 := by decide
    simp [hl, this]
  · rw [if_neg hl]
    have h6 := h6 hl
    have : ¬ G i 5 ≤ 0 := by
      rw [Int32.le_iff_toInt_le]; rw [Int32.lt_iff_toInt_lt] at h6; omega
    simp [hl, this]
def k_al (F : Nat → Nat → Int32) (n i : Nat) : Prop := i < n ∧ ¬ F 5 i = 9
def k_A (F : Nat → Nat → Int32) (n last : Nat) : Prop :=
  (∀ i, k_al F n i → (0 ≤ (F 0 i).toInt ∧ (F 0 i).toInt < 32) ∧ 1 ≤ (F 1 i).toInt ∧ (F 1 i).toInt ≤ last) ∧
  (∀ i j, k_al F n i → k_al F n j → (F 1 i).toInt = (F 1 j).toInt → i = j) ∧
  (∀ i j, k_al F n i → k_al F n j → (F 5 i).toInt < (F 5 j).toInt → (F 1 j).toInt < (F 1 i).toInt) ∧
  (∀ i, i < n → F 5 i = -1 ∨ F 5 i = 0 ∨ F 5 i = 1 ∨ F 5 i = 2 ∨ F 5 i = 9)
def k_S (S : Nat → Int32) (F : Nat → Nat → Int32) (last : Nat) : Prop := ∀ s, s < 3 → S s = (if F 14 s = 0 then -1 else F 15 s) ∧ (F 14 s = 0 ∨ F 14 s = 1) ∧ (¬ F 14 s = 0 → 0 ≤ (F 15 s).toInt ∧ (F 15 s).toInt ≤ last)
def k_at (F : Nat → Nat → Int32) (n : Nat) (b : Int32) (L : List Nat) : Prop := ∀ i, i ∈ L ↔ i < n ∧ F 5 i = b
theorem k_cp_al (hd : k_dc G F n) (hA : k_A F n last) {i j : Nat} (hi : k_al F n i) (hj : k_al F n j) (hne : i ≠ j) : k_cp G i j := by
  have h1 := hA.2.1 i j hi hj
  unfold k_cp
  rw [e_bf_iff, e_bf_iff, (hd i hi.1).1, (hd j hj.1).1, (hd i hi.1).2.2.2.1, (hd j hj.1).2.2.2.1]
  have : (F 1 i).toInt ≠ (F 1 j).toInt := fun h => hne (h1 h)
  omega
theorem k_cp_nd (hd : k_dc G F n) (hA : k_A F n last) {U : List Nat} (hU : U.Nodup) (h : ∀ x ∈ U, k_al F n x) : U.Pairwise (k_cp G) := List.Pairwise.imp_of_mem (fun ha hb hab => k_cp_al hd hA (h _ ha) (h _ hb) hab) hU
theorem k_mm (hd : k_dc G F n) (hA : k_A F n last) {a b : Int32} {U L : List Nat} (ha : ¬ a = 9) (hb : ¬ b = 9) (hab : ¬ a = b) (hU : U.Nodup) (hUm : k_at F n a U) (hL : k_srt G L) (hLm : k_at F n b L) : k_srt G (e_mm G U L) ∧ (∀ i, i ∈ e_mm G U L ↔ i < n ∧ (F 5 i = a ∨ F 5 i = b)) ∧ (e_mm G U L).length = U.length + L.length := by
  have hal : ∀ x ∈ L, k_al F n x := fun x hx => ⟨((hLm x).mp hx).1, by rw [((hLm x).mp hx).2]; exact hb⟩
  have hau : ∀ x ∈ U, k_al F n x := fun x hx => ⟨((hUm x).mp hx).1, by rw [((hUm x).mp hx).2]; exact ha⟩
  obtain ⟨l1, l2⟩ := k_srt_fold L [] List.Pairwise.nil (k_cp_nd hd hA hL.nd hal) (fun _ _ _ h => by cases h)
  have hm0 : ∀ x, x ∈ L.foldl (e_ik G) [] ↔ x ∈ L := fun x => by rw [l2]; simp
  obtain ⟨m1, m2⟩ := k_srt_fold U _ l1 (k_cp_nd hd hA hU hau) (fun x hx y hy => k_cp_al hd hA (hau x hx) (hal y ((hm0 y).mp hy)) (by
    intro e
    rw [e] at hx
    exact hab (((hUm y).mp hx).2.symm.trans ((hLm y).mp ((hm0 y).mp hy)).2)))
  have e1 : ∀ i, i ∈ e_mm G U L ↔ i ∈ U ∨ i ∈ L := fun i => by
    have := m2 i
    rw [hm0] at this
    exact this
  refine ⟨m1, fun i => ?_, ?_⟩
  · rw [e1, hUm, hLm]
    constructor
    · rintro (⟨h, h'⟩ | ⟨h, h'⟩)
      · exact ⟨h, .inl h'⟩
      · exact ⟨h, .inr h'⟩
    · rintro ⟨h, h' | h'⟩
      · exact .inl ⟨h, h'⟩
      · exact .inr ⟨h, h'⟩
  · rw [← List.length_append]
    refine List.Perm.length_eq ((List.perm_ext_iff_of_nodup (k_srt.nd m1) ?_).mpr (fun i => by rw [List.mem_append]; exact e1 i))
    unfold List.Nodup
    rw [List.pairwise_append]
    refine ⟨hU, hL.nd, fun x hx y hy e => ?_⟩
    rw [e] at hx
    exact hab (((hUm y).mp hx).2.symm.trans ((hLm y).mp hy).2)
theorem m_mg_ne (F : Nat → Nat → Int32) (t : Int32) (n last : Nat) (a b l : Int32) {j : Nat} (h5 : j ≠ 5) (h9 : j ≠ 9) (h10 : j ≠ 10) : m_mg F t n last a b l j = F j := by
  unfold m_mg m_sf m_ch
  rw [va_up_ne _ _ h5, va_up_ne _ _ h10, va_up_ne _ _ h9]
theorem m_ag_ne (F : Nat → Nat → Int32) (n : Nat) {j : Nat} (h6 : j ≠ 6) : m_ag F n j = F j := by
  unfold m_ag
  rw [va_up_ne _ _ h6]
theorem k_gone_ch (F : Nat → Nat → Int32) (n : Nat) (a b t : Int32) (i : Nat) : m_gone (m_ch F n a b) t i = m_gone F t i := rfl
theorem k_sv_ch (hd : k_dc G F n) (hA : k_A F n last) (hS : k_S S F last) {a b : Int32} {T : List Nat} (hT : k_srt G T) (hTm : ∀ i, i ∈ T ↔ i < n ∧ (F 5 i = a ∨ F 5 i = b)) (ha : ¬ a = 9) (hb : ¬ b = 9) : k_sv G (m_ch F n a b) S n T := by
  have hal : ∀ x ∈ T, k_al F n x := fun x hx => ⟨((hTm x).mp hx).1, by
    rcases ((hTm x).mp hx).2 with h | h
    · rw [h]; exact ha
    · rw [h]; exact hb⟩
  refine ⟨fun i hi => ⟨(hd i hi).1, (hd i hi).2.2.2.1⟩, fun s hs => (hS s hs).1, hT, fun i => ?_, fun x hx => ?_, fun x hx y hy h => ?_⟩
  · rw [hTm]
    constructor
    · rintro ⟨h1, h2⟩
      refine ⟨h1, ?_⟩
      show ¬ (if i < n then m_chV F a b i else F 9 i) = 0
      rw [if_pos h1]
      unfold m_chV
      rw [if_pos h2]; decide
    · rintro ⟨h1, h2⟩
      refine ⟨h1, ?_⟩
      have h2 : ¬ (if i < n then m_chV F a b i else F 9 i) = 0 := h2
      rw [if_pos h1] at h2
      unfold m_chV at h2
      by_cases h : F 5 i = a ∨ F 5 i = b
      · exact h
      · rw [if_neg h] at h2; exact absurd rfl h2
  · have h1 := hal x hx
    rw [(hd x h1.1).1, (hd x h1.1).2.2.2.1]
    have := hA.1 x h1
    omega
  · have h1 := hal x hx
    have h2 := hal y hy
    rw [(hd x h1.1).2.2.2.1, (hd y h2.1).2.2.2.1] at h
    exact hA.2.1 x y h1 h2 h
theorem k_merge (hd : k_dc G F n) (hA : k_A F n last) (hS : k_S S F last) (hlb : last < 2 ^ 30) {t a b : Int32} {q w : Nat} {T : List Nat} (hT : k_srt G T) (hTm : ∀ i, i ∈ T ↔ i < n ∧ (F 5 i = a ∨ F 5 i = b)) (ha : ¬ a = 9) (hb : ¬ b = 9) (hw : w < 3) (hq : G q 0 = -1) :
    (∀ i, i < n → m_mg F t n last a b (nI w) 5 i = if F 5 i = a ∨ F 5 i = b then (if i ∈ e_m3 G t q w (e_du G (e_ta S G) q T) then nI w else 9) else F 5 i) ∧
    m_mc F t n last a b (nI w) = T.length - (e_m3 G t q w (e_du G (e_ta S G) q T)).length ∧
    k_srt G (e_m3 G t q w (e_du G (e_ta S G) q T)) ∧ (∀ i, i ∈ e_m3 G t q w (e_du G (e_ta S G) q T) → i < n ∧ (F 5 i = a ∨ F 5 i = b)) ∧ (e_m3 G t q w (e_du G (e_ta S G) q T)).length ≤ 128 ∧ (e_m3 G t q w (e_du G (e_ta S G) q T)).length ≤ T.length := by
  have hsv := k_sv_ch hd hA hS hT hTm ha hb
  have hsub : (e_m3 G t q w (e_du G (e_ta S G) q T)).Sublist T := (e_m3_sub t q w _).trans (e_du_sub G _ T q)
  have hal : ∀ x ∈ T, k_al F n x := fun x hx => ⟨((hTm x).mp hx).1, by
    rcases ((hTm x).mp hx).2 with h | h
    · rw [h]; exact ha
    · rw [h]; exact hb⟩
  have hl : ∀ x ∈ T, (G x 4).toInt ≤ last := fun x hx => by
    rw [(hd x (hal x hx).1).2.2.2.1]; exact (hA.1 x (hal x hx)).2.2
  have hg : ∀ i, i < n → e_gone G i t = m_gone (m_ch F n a b) t i := fun i hi => k_dc_gone hd hi t
  refine ⟨fun i hi => ?_, m_sf_cnt hsv hw hq hlb hl hg, List.Pairwise.sublist hsub hT, fun i hi => (hTm i).mp (hsub.subset hi), ?_, hsub.length_le⟩
  · have h1 := m_sf_lev hsv hw hq hlb hl hg hi
    have h2 : m_mg F t n last a b (nI w) 5 i = m_sf (m_ch F n a b) t n last (nI w) 5 i := rfl
    rw [h2, h1]
    by_cases hc : F 5 i = a ∨ F 5 i = b
    · rw [if_pos hc, if_pos ((hTm i).mpr ⟨hi, hc⟩)]
    · rw [if_neg hc, if_neg (fun hm => hc ((hTm i).mp hm).2)]; rfl
  · refine Nat.le_trans (e_m3_sub t q w _).length_le (e_du_128 hT hq (fun x hx => ?_))
    rw [(hd x (hal x hx).1).1]
    exact (hA.1 x (hal x hx)).1
end KN
