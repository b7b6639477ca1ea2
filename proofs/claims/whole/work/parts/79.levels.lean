section KO
variable {G F F' : Nat → Nat → Int32} {S : Nat → Int32} {n last : Nat}
theorem k_fl_mem (C : Nat → List Nat) (x : Nat) : ∀ m k, x ∈ e_fl C k m ↔ ∃ j, k ≤ j ∧ j < k + m ∧ x ∈ C j
  | 0, k => by
    rw [e_fl]
    exact ⟨fun h => (by cases h), fun ⟨j, h1, h2, _⟩ => by omega⟩
  | m + 1, k => by
    rw [e_fl, List.mem_append, k_fl_mem C x m (k + 1)]
    constructor
    · rintro (h | ⟨j, h1, h2, h3⟩)
      · exact ⟨k, by omega, by omega, h⟩
      · exact ⟨j, by omega, by omega, h3⟩
    · rintro ⟨j, h1, h2, h3⟩
      by_cases hj : j = k
      · left; rw [← hj]; exact h3
      · exact .inr ⟨j, by omega, by omega, h3⟩
theorem e_fl_nd (C : Nat → List Nat) : ∀ m k, (∀ j, k ≤ j → j < k + m → (C j).Nodup) → (∀ i j x, k ≤ i → i < j → j < k + m → x ∈ C i → x ∈ C j → False) → (e_fl C k m).Nodup
  | 0, k, _, _ => List.Pairwise.nil
  | m + 1, k, h1, h2 => by
    rw [e_fl]
    unfold List.Nodup
    rw [List.pairwise_append]
    refine ⟨h1 k (by omega) (by omega), e_fl_nd C m (k + 1) (fun j hj hk => h1 j (by omega) (by omega)) (fun i j x hi hij hj => h2 i j x (by omega) hij (by omega)), ?_⟩
    intro x hx y hy e
    rw [← e, k_fl_mem] at hy
    obtain ⟨j, j1, j2, j3⟩ := hy
    exact h2 k j x (Nat.le_refl _) (by omega) (by omega) hx j3
theorem e_fl_len (C : Nat → List Nat) {b : Nat} : ∀ m k, (∀ j, k ≤ j → j < k + m → (C j).length ≤ b) → (e_fl C k m).length ≤ b * m
  | 0, k, _ => by rw [e_fl]; exact Nat.zero_le _
  | m + 1, k, h => by
    rw [e_fl, List.length_append, Nat.mul_succ]
    have h1 := h k (by omega) (by omega)
    have h2 := e_fl_len C m (k + 1) (fun j hj hk => h j (by omega) (by omega))
    omega
theorem e_fl_map (p : Nat → Nat) {C D : Nat → List Nat} : ∀ m k, (∀ j, k ≤ j → j < k + m → C j = (D j).map p) → e_fl C k m = (e_fl D k m).map p
  | 0, k, _ => rfl
  | m + 1, k, h => by
    rw [e_fl, e_fl, List.map_append, h k (by omega) (by omega), e_fl_map p m (k + 1) (fun j hj hk => h j (by omega) (by omega))]
def k_R (F : Nat → Nat → Int32) (L : List Nat) : Prop := ∀ r x, L[r]? = some x → F 6 x = nI r
def k_Z (G F : Nat → Nat → Int32) (n nw c0 : Nat) (T : Nat → List Nat) : Prop :=
  (c0 ≤ 4 ∧ c0 ≤ nw ∧ nw < 2 ^ 30) ∧ (∀ k, k < c0 → k_srt G (T k) ∧ T k ≠ [] ∧ (T k).length ≤ 8 ∧ ∀ i, i ∈ T k ↔ i < n ∧ F 5 i = 0 ∧ F 6 i = nI (nw - k)) ∧ (∀ i, i < n → F 5 i = 0 → ∃ k, k < c0 ∧ F 6 i = nI (nw - k)) ∧ ∀ i j, i < n → j < n → F 5 i = 0 → F 5 j = 0 → (F 6 j).toInt < (F 6 i).toInt → (F 1 j).toInt < (F 1 i).toInt
theorem k_Z_fl {nw c0 : Nat} {T : Nat → List Nat} (hZ : k_Z G F n nw c0 T) : (e_fl T 0 c0).Nodup ∧ k_at F n 0 (e_fl T 0 c0) ∧ (e_fl T 0 c0).length ≤ 8 * c0 := by
  obtain ⟨⟨z1, z2, z3⟩, z4, z5, z6⟩ := hZ
  refine ⟨e_fl_nd T c0 0 (fun j _ hj => (z4 j (by omega)).1.nd) ?_, fun i => ?_, e_fl_len T c0 0 (fun j _ hj => (z4 j (by omega)).2.2.1)⟩
  · intro i j x _ hij hj hi hx
    have h1 := ((z4 i (by omega)).2.2.2 x).mp hi
    have h2 := ((z4 j (by omega)).2.2.2 x).mp hx
    have h3 := h1.2.2.symm.trans h2.2.2
    rw [nI_eq (by omega) (by omega)] at h3
    omega
  · rw [k_fl_mem]
    constructor
    · rintro ⟨j, _, h2, h3⟩
      have := ((z4 j (by omega)).2.2.2 i).mp h3
      exact ⟨this.1, this.2.1⟩
    · rintro ⟨h1, h2⟩
      obtain ⟨k, k1, k2⟩ := z5 i h1 h2
      exact ⟨k, Nat.zero_le _, by omega, ((z4 k k1).2.2.2 i).mpr ⟨h1, h2, k2⟩⟩
theorem k_Z_cg {nw c0 : Nat} {T : Nat → List Nat} (hZ : k_Z G F n nw c0 T) (h5 : ∀ i, i < n → (F' 5 i = 0 ↔ F 5 i = 0)) (h6 : ∀ i, i < n → F 5 i = 0 → F' 6 i = F 6 i) (h1 : ∀ i, i < n → F' 1 i = F 1 i) : k_Z G F' n nw c0 T := by
  obtain ⟨z1, z4, z5, z6⟩ := hZ
  refine ⟨z1, fun k hk => ⟨(z4 k hk).1, (z4 k hk).2.1, (z4 k hk).2.2.1, fun i => ?_⟩, fun i hi h0 => ?_, fun i j hi hj hi0 hj0 h => ?_⟩
  · rw [(z4 k hk).2.2.2 i]
    constructor
    · rintro ⟨a, b, c⟩; exact ⟨a, (h5 i a).mpr b, by rw [h6 i a b]; exact c⟩
    · rintro ⟨a, b, c⟩; rw [h5 i a] at b; exact ⟨a, b, by rw [← h6 i a b]; exact c⟩
  · rw [h5 i hi] at h0
    rw [h6 i hi h0]
    exact z5 i hi h0
  · rw [h5 i hi] at hi0
    rw [h5 j hj] at hj0
    rw [h6 i hi hi0, h6 j hj hj0] at h
    rw [h1 i hi, h1 j hj]
    exact z6 i j hi hj hi0 hj0 h
theorem k_ag_R (hd : k_dc G F n) {l : Nat} (hl : l = 1 ∨ l = 2) {L : List Nat} (hL : k_srt G L) (hm : k_at F n (nI l) L) : k_R (m_ag F n) L := by
  intro r x hx
  have hxL : x ∈ L := List.mem_of_getElem? hx
  obtain ⟨x1, x2⟩ := (hm x).mp hxL
  obtain ⟨hr, hrx⟩ := List.getElem?_eq_some_iff.mp hx
  show (if x < n then m_arV F n x else F 6 x) = nI r
  rw [if_pos x1]
  unfold m_arV
  have h12 : F 5 x = 1 ∨ F 5 x = 2 := by
    rw [x2]
    rcases hl with h | h <;> subst h
    · exact .inl rfl
    · exact .inr rfl
  rw [if_pos h12]
  congr 1
  have hlen : (L.take r).length = r := by rw [List.length_take]; omega
  have := m_cn_len (P := fun f => decide (F 5 f = F 5 x) && m_bf F f x) (n := n) (T := L.take r) (List.Pairwise.sublist (List.take_sublist r L) hL.nd) (by
    intro i
    simp only [Bool.and_eq_true, decide_eq_true_eq]
    have hbf : ∀ f, f < n → m_bf F f x = e_bf G f x := by
      intro f hf
      unfold m_bf e_bf
      rw [(hd f hf).1, (hd x x1).1, (hd f hf).2.2.2.1, (hd x x1).2.2.2.1]
    have hp := List.pairwise_iff_getElem.mp hL
    constructor
    · intro hi
      have hiL := List.mem_of_mem_take hi
      obtain ⟨i1, i2⟩ := (hm i).mp hiL
      obtain ⟨j, hj, hji⟩ := List.getElem_of_mem hi
      rw [List.length_take] at hj
      rw [List.getElem_take] at hji
      refine ⟨i1, by rw [i2, x2], ?_⟩
      rw [hbf i i1, ← hji, ← hrx]
      exact hp j r (by omega) hr (by omega)
    · rintro ⟨i1, i2, i3⟩
      rw [hbf i i1] at i3
      have hiL := (hm i).mpr ⟨i1, by rw [i2, x2]⟩
      obtain ⟨j, hj, hji⟩ := List.getElem_of_mem hiL
      by_cases hjr : j < r
      · rw [← hji, List.mem_take_iff_getElem]
        exact ⟨j, by omega, rfl⟩
      · exfalso
        by_cases hje : j = r
        · have : i = x := by rw [← hji, ← hrx]; congr
          rw [this] at i3
          exact e_bf_ir i3
        · have := hp r j hr hj (by omega)
          rw [hji, hrx] at this
          exact e_bf_as i3 this)
  rw [hlen] at this
  exact this
theorem k_A_mg {x : Int} (hA : k_A F n last) (h0 : ∀ i, i < n → F' 0 i = F 0 i) (h1 : ∀ i, i < n → F' 1 i = F 1 i) (hx : -1 ≤ x ∧ x ≤ 1) (h5 : ∀ i, i < n → F' 5 i = 9 ∨ (F' 5 i = F 5 i ∧ (F 5 i).toInt ≠ x) ∨ ((F' 5 i).toInt = x + 1 ∧ ((F 5 i).toInt = x ∨ (F 5 i).toInt = x + 1))) : k_A F' n last := by
  have e9 : (9 : Int32).toInt = 9 := by decide
  have hal : ∀ i, k_al F' n i → k_al F n i := by
    rintro i ⟨i1, i2⟩
    refine ⟨i1, fun h => ?_⟩
    rcases h5 i i1 with q | ⟨q, _⟩ | ⟨q, q2⟩
    · exact i2 q
    · exact i2 (q.trans h)
    · rw [h] at q2; omega
  refine ⟨fun i hi => ?_, fun i j hi hj h => ?_, fun i j hi hj h => ?_, fun i hi => ?_⟩
  · rw [h0 i hi.1, h1 i hi.1]; exact hA.1 i (hal i hi)
  · rw [h1 i hi.1, h1 j hj.1] at h; exact hA.2.1 i j (hal i hi) (hal j hj) h
  · rw [h1 i hi.1, h1 j hj.1]
    refine hA.2.2.1 i j (hal i hi) (hal j hj) ?_
    rcases h5 i hi.1 with q | ⟨q, q'⟩ | ⟨q, q'⟩
    · exact absurd q hi.2
    · rcases h5 j hj.1 with u | ⟨u, u'⟩ | ⟨u, u'⟩
      · exact absurd u hj.2
      · rw [q, u] at h; exact h
      · rw [q, u] at h; omega
    · rcases h5 j hj.1 with u | ⟨u, u'⟩ | ⟨u, u'⟩
      · exact absurd u hj.2
      · rw [u] at h; omega
      · omega
  · rcases h5 i hi with q | ⟨q, _⟩ | ⟨q, _⟩
    · exact .inr (.inr (.inr (.inr q)))
    · rw [q]; exact hA.2.2.2 i hi
    · have : x = -1 ∨ x = 0 ∨ x = 1 := by omega
      right
      rcases this with r | r | r
      · exact .inl (Int32.toInt_inj.mp (by rw [q, r]; decide))
      · exact .inr (.inl (Int32.toInt_inj.mp (by rw [q, r]; decide)))
      · exact .inr (.inr (.inl (Int32.toInt_inj.mp (by rw [q, r]; decide))))
end KO
