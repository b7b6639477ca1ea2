section KB
variable {E : Nat → Nat → Int32}
theorem e_tar_iff (S : Nat → Int32) (x y : Int32) : e_tar S x y 3 = true ↔ ∃ s, s < 3 ∧ x.toInt ≤ (S s).toInt ∧ (S s).toInt < y.toInt := by
  have h : ∀ s, (!decide (S s < x) && !decide (y ≤ S s)) = true ↔ (x.toInt ≤ (S s).toInt ∧ (S s).toInt < y.toInt) := by
    intro s
    simp only [Bool.and_eq_true, Bool.not_eq_true', decide_eq_false_iff_not, Int32.lt_iff_toInt_lt, Int32.le_iff_toInt_le, Int.not_lt, Int.not_le]
  simp only [e_tar, Bool.or_eq_true, h, Bool.false_eq_true, or_false]
  constructor
  · rintro (h | h | h)
    · exact ⟨_, by omega, h⟩
    · exact ⟨_, by omega, h⟩
    · exact ⟨_, by omega, h⟩
  · rintro ⟨s, hs, h⟩
    have : s = 0 ∨ s = 1 ∨ s = 2 := by omega
    rcases this with r | r | r <;> subst r
    · exact .inl h
    · exact .inr (.inl h)
    · exact .inr (.inr h)
def k_tg (E : Nat → Nat → Int32) (S : Nat → Int32) (T : List Nat) (x t : Nat) : Prop := (t = 3 ∧ k_nw E T x) ∨ (t < 3 ∧ ∃ y, k_ab E T x y ∧ (E x 4).toInt ≤ (S t).toInt ∧ (S t).toInt < (E y 4).toInt)
theorem k_tg_ex {S : Nat → Int32} {T : List Nat} {x : Nat} (h : k_nw E T x ∨ ∃ y, k_ab E T x y ∧ e_ta S E x y = true) : ∃ t, k_tg E S T x t := by
  rcases h with h | ⟨y, h1, h2⟩
  · exact ⟨3, .inl ⟨rfl, h⟩⟩
  · obtain ⟨s, h3, h4⟩ := (e_tar_iff S _ _).mp h2
    exact ⟨s, .inr ⟨h3, y, h1, h4⟩⟩
theorem k_tg_inj {S : Nat → Int32} {T : List Nat} (hT : k_srt E T) {x y t : Nat} (hx : x ∈ T) (hy : y ∈ T) (hk : (E x 0).toInt = (E y 0).toInt) (h1 : k_tg E S T x t) (h2 : k_tg E S T y t) : ¬ (E x 4).toInt < (E y 4).toInt := by
  intro hlt
  rcases h1 with ⟨_, h1⟩ | ⟨h0, z, ⟨_, _, _, h1⟩, h3, h4⟩
  · exact h1 y hy hk.symm hlt
  · rcases h2 with ⟨h2, _⟩ | ⟨_, z2, _, h5, _⟩
    · omega
    · have := h1 y hy hk.symm hlt
      omega
theorem e_du_128 {S : Nat → Int32} {T : List Nat} {q : Nat} (hT : k_srt E T) (hq : E q 0 = -1) (hk : ∀ x ∈ T, 0 ≤ (E x 0).toInt ∧ (E x 0).toInt < 32) : (e_du E (e_ta S E) q T).length ≤ 128 := by
  have hk0 : ∀ x ∈ T, 0 ≤ (E x 0).toInt := fun x hx => (hk x hx).1
  have hex : ∀ x ∈ e_du E (e_ta S E) q T, ∃ t, k_tg E S T x t := fun x hx => k_tg_ex ((e_du_iff hT hq hk0 x).mp hx).2
  have hsub := e_du_sub E (e_ta S E) T q
  have hsd : k_srt E (e_du E (e_ta S E) q T) := List.Pairwise.sublist hsub hT
  have hf : ∃ f : Nat → Nat, ∀ x ∈ e_du E (e_ta S E) q T, k_tg E S T x (f x) := by
    refine ⟨fun x => (Classical.epsilon (fun t => k_tg E S T x t)), fun x hx => ?_⟩
    exact Classical.epsilon_spec (hex x hx)
  obtain ⟨f, hf⟩ := hf
  have hf4 : ∀ x ∈ e_du E (e_ta S E) q T, f x < 4 := by
    intro x hx
    rcases hf x hx with ⟨h, _⟩ | ⟨h, _⟩ <;> omega
  have hm : ((e_du E (e_ta S E) q T).map (fun x => 4 * (E x 0).toInt.toNat + f x)).Nodup := by
    unfold List.Nodup
    rw [List.pairwise_map]
    refine List.Pairwise.imp_of_mem ?_ hsd
    intro a b ha hb hab he
    have ka := hk a (hsub.subset ha)
    have kb := hk b (hsub.subset hb)
    have fa := hf4 a ha
    have fb := hf4 b hb
    have h1 : (E a 0).toInt = (E b 0).toInt := by omega
    have h2 : f a = f b := by omega
    have h3 := hf a ha
    have h4 := hf b hb
    rw [h2] at h3
    have := k_tg_inj hT (hsub.subset hb) (hsub.subset ha) h1.symm h4 h3
    rw [e_bf_iff] at hab
    omega
  have hr : ((e_du E (e_ta S E) q T).map (fun x => 4 * (E x 0).toInt.toNat + f x)) ⊆ List.range 128 := by
    intro v hv
    obtain ⟨x, hx, rfl⟩ := List.mem_map.mp hv
    have ka := hk x (hsub.subset hx)
    have fa := hf4 x hx
    rw [List.mem_range]
    omega
  have := List.Nodup.length_le_of_subset hm hr
  rw [List.length_map, List.length_range] at this
  exact this
theorem e_rs_128 {S : Nat → Int32} {now : Int32} {q w : Nat} {up lo : List Nat} (hT : k_srt E (e_mm E up lo)) (hq : E q 0 = -1) (hk : ∀ x ∈ e_mm E up lo, 0 ≤ (E x 0).toInt ∧ (E x 0).toInt < 32) : (e_rs E S now q w up lo).length ≤ 128 := by
  have h := e_du_128 (S := S) hT hq hk
  unfold e_rs e_m3
  by_cases hw : w = 2
  · rw [if_pos hw, e_dg_eq]; exact Nat.le_trans (k_g_sub now q _).length_le h
  · rw [if_neg hw]; exact h
end KB
