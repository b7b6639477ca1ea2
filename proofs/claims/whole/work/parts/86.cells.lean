section KCE
variable {G F : Nat → Nat → Int32} {n last nw c0 : Nat} {M L1 L2 : List Nat} {T0 : Nat → List Nat}
def k_vs (val : Nat → Int) (L : List Nat) : Prop := L.Pairwise (fun a b => val a < val b)
theorem k_vs_ins {val : Nat → Int} {f : Nat → Bool} {e : Nat} {T : List Nat} (hf : ∀ x, f x = true ↔ val e < val x) (hT : k_vs val T) (hd : ∀ x ∈ T, val x ≠ val e) : k_vs val (e_ins f e T) := by
  obtain ⟨A, B, h1, h2, h3, h4⟩ := e_ins_split f e T
  rw [h2]
  unfold k_vs at *
  rw [h1, List.pairwise_append] at hT
  obtain ⟨p1, p2, p3⟩ := hT
  have hA : ∀ x ∈ A, val x < val e := by
    rcases List.eq_nil_or_concat A with h | ⟨A', y, h⟩
    · rw [h]; intro x hx; cases hx
    · rw [List.concat_eq_append] at h
      have hy : val y < val e := by
        have h5 := hd y (by rw [h1, h]; simp)
        have h6 : ¬ val e < val y := fun q => by
          have := h4 A' y h
          rw [(hf y).mpr q] at this; cases this
        omega
      intro x hx
      rw [h] at hx p1
      rcases List.mem_append.mp hx with q | q
      · rw [List.pairwise_append] at p1
        have := p1.2.2 x q y (by simp)
        omega
      · rw [List.mem_singleton] at q
        rw [q]; exact hy
  rw [List.pairwise_append]
  refine ⟨p1, List.pairwise_cons.mpr ⟨fun x hx => (hf x).mp (h3 x hx), p2⟩, ?_⟩
  intro a ha b hb
  rcases List.mem_cons.mp hb with q | q
  · rw [q]; exact hA a ha
  · exact p3 a ha b q
theorem e_cb_iff (G : Nat → Nat → Int32) (e x : Nat) : e_cb G e x = true ↔ (G e 7).toInt < (G x 7).toInt := by
  unfold e_cb
  simp only [Bool.not_eq_true', decide_eq_false_iff_not, Int32.le_iff_toInt_le, Int.not_le]
theorem e_ll_map (p : Nat → Nat) {E : Nat → Nat → Int32} {s : Int32} : ∀ (U T : List Nat), (U.map p).foldl (e_ll E s) (T.map p) = (U.foldl (e_ll (k_ep E p) s) T).map p
  | [], _ => rfl
  | u :: U, T => by
    rw [List.map_cons, List.foldl_cons, List.foldl_cons]
    have h1 : e_ll E s (T.map p) (p u) = (e_ll (k_ep E p) s T u).map p := by
      unfold e_ll
      have hl : e_live E s (p u) = e_live (k_ep E p) s u := rfl
      rw [hl]
      by_cases h : e_live (k_ep E p) s u = true
      · rw [if_pos h, if_pos h]; exact e_ins_map _ _ _ _
      · rw [if_neg h, if_neg h]
    rw [h1, e_ll_map p U]
theorem e_gl_map (p : Nat → Nat) {E : Nat → Nat → Int32} {s : Int32} (f0 f1 f2 : List Nat) : e_gl E s (f0.map p) (f1.map p) (f2.map p) = (e_gl (k_ep E p) s f0 f1 f2).map p := by
  unfold e_gl
  have h := e_ll_map (E := E) (s := s) p f0 []
  rw [List.map_nil] at h
  rw [h, e_ll_map, e_ll_map]
theorem k_ll_spec {s : Int32} : ∀ (U T : List Nat), k_vs (fun x => (G x 7).toInt) T → U.Nodup → (∀ x ∈ U, ∀ y ∈ U, e_live G s x = true → e_live G s y = true → x ≠ y → (G x 7).toInt ≠ (G y 7).toInt) → (∀ x ∈ U, ∀ y ∈ T, e_live G s x = true → (G x 7).toInt ≠ (G y 7).toInt) →
    k_vs (fun x => (G x 7).toInt) (U.foldl (e_ll G s) T) ∧ (∀ x, x ∈ U.foldl (e_ll G s) T ↔ (x ∈ U ∧ e_live G s x = true) ∨ x ∈ T) ∧ (U.foldl (e_ll G s) T).length = U.countP (e_live G s) + T.length
  | [], T, hT, _, _, _ => ⟨hT, fun x => by simp, by simp⟩
  | u :: U, T, hT, hn, hU, hUT => by
    unfold List.Nodup at hn
    rw [List.pairwise_cons] at hn
    rw [List.foldl_cons]
    by_cases hl : e_live G s u = true
    · have h1 : e_ll G s T u = e_ins (e_cb G u) u T := by unfold e_ll; rw [if_pos hl]
      rw [h1]
      have hs := k_vs_ins (val := fun x => (G x 7).toInt) (e_cb_iff G u) hT (fun x hx => (hUT u (by simp) x hx hl).symm)
      obtain ⟨i1, i2, i3⟩ := k_ll_spec U _ hs hn.2 (fun x hx y hy => hU x (List.mem_cons_of_mem _ hx) y (List.mem_cons_of_mem _ hy)) (by
        intro x hx y hy hlx
        rcases (e_ins_mem _ _ _ _).mp hy with q | q
        · rw [q]; exact hU x (List.mem_cons_of_mem _ hx) u (by simp) hlx hl (hn.1 x hx).symm
        · exact hUT x (List.mem_cons_of_mem _ hx) y q hlx)
      refine ⟨i1, fun x => ?_, ?_⟩
      · rw [i2, e_ins_mem, List.mem_cons]
        constructor
        · rintro (⟨a, b⟩ | a | a)
          · exact .inl ⟨.inr a, b⟩
          · exact .inl ⟨.inl a, by rw [a]; exact hl⟩
          · exact .inr a
        · rintro (⟨a | a, b⟩ | a)
          · exact .inr (.inl a)
          · exact .inl ⟨a, b⟩
          · exact .inr (.inr a)
      · rw [i3, e_ins_len, List.countP_cons_of_pos hl]; omega
    · have h1 : e_ll G s T u = T := by unfold e_ll; rw [if_neg hl]
      rw [h1]
      obtain ⟨i1, i2, i3⟩ := k_ll_spec U T hT hn.2 (fun x hx y hy => hU x (List.mem_cons_of_mem _ hx) y (List.mem_cons_of_mem _ hy)) (fun x hx => hUT x (List.mem_cons_of_mem _ hx))
      refine ⟨i1, fun x => ?_, ?_⟩
      · rw [i2, List.mem_cons]
        constructor
        · rintro (⟨a, b⟩ | a)
          · exact .inl ⟨.inr a, b⟩
          · exact .inr a
        · rintro (⟨a | a, b⟩ | a)
          · rw [a] at b; exact absurd b hl
          · exact .inl ⟨a, b⟩
          · exact .inr a
      · rw [i3, List.countP_cons_of_neg hl]
def k_C (F : Nat → Nat → Int32) (tk : Nat → Nat) (n tl cn : Nat) : Prop :=
  (∀ i, k_al F n i → F 3 i = 0 → ∃ sg ce, F 7 i = nI sg ∧ F 8 i = nI ce ∧ tl ≤ sg ∧ sg < tl + cn ∧ 1 ≤ ce ∧ ce < tk (sg - tl)) ∧
  (∀ i j, k_al F n i → k_al F n j → F 3 i = 0 → F 3 j = 0 → F 7 i = F 7 j → F 8 i = F 8 j → i = j) ∧ (∀ k, k < cn → tk k ≤ 16) ∧ 1 ≤ cn ∧ cn ≤ 8 ∧ tl < 5000
theorem k_gl_spec (hd : k_dc G F n) (hV : k_V G F n last nw c0 [] T0 L1 L2) {tk : Nat → Nat} {tl cn sg : Nat} (hC : k_C F tk n tl cn) :
    k_vs (fun x => (F 8 x).toInt) (e_gl G (nI sg) (e_fl T0 0 c0) L1 L2) ∧ (∀ i, i ∈ e_gl G (nI sg) (e_fl T0 0 c0) L1 L2 ↔ i < n ∧ m_lv F (nI sg) i = true) ∧
    (e_gl G (nI sg) (e_fl T0 0 c0) L1 L2).length = (e_fl T0 0 c0).countP (e_live G (nI sg)) + L1.countP (e_live G (nI sg)) + L2.countP (e_live G (nI sg)) ∧ (e_gl G (nI sg) (e_fl T0 0 c0) L1 L2).length ≤ 16 := by
  obtain ⟨hA, hZ, ⟨a1, a2⟩, ⟨b1, b2⟩, c1, c2, d1, d2, f1, f2⟩ := hV
  obtain ⟨u1, u2, u3⟩ := k_Z_fl hZ
  have hal : ∀ b : Int32, b ≠ 9 → ∀ L, k_at F n b L → ∀ x ∈ L, k_al F n x := fun b hb L hL x hx => ⟨((hL x).mp hx).1, by rw [((hL x).mp hx).2]; exact hb⟩
  have al0 := hal 0 (by decide) _ u2
  have al1 := hal 1 (by decide) _ a2
  have al2 := hal 2 (by decide) _ b2
  have hlv : ∀ x, x < n → (e_live G (nI sg) x = true ↔ F 3 x = 0 ∧ F 7 x = nI sg) := by
    intro x hx
    unfold e_live
    rw [Bool.and_eq_true, decide_eq_true_eq, decide_eq_true_eq, (hd x hx).2.2.1, (hd x hx).2.2.2.2.2.2.1]
  have hne : ∀ x y, k_al F n x → k_al F n y → e_live G (nI sg) x = true → e_live G (nI sg) y = true → x ≠ y → (G x 7).toInt ≠ (G y 7).toInt := by
    intro x y hx hy lx ly hxy h
    obtain ⟨x1, x2⟩ := (hlv x hx.1).mp lx
    obtain ⟨y1, y2⟩ := (hlv y hy.1).mp ly
    rw [Int32.toInt_inj, (hd x hx.1).2.2.2.2.2.2.2, (hd y hy.1).2.2.2.2.2.2.2] at h
    exact hxy (hC.2.1 x y hx hy x1 y1 (x2.trans y2.symm) h)
  obtain ⟨p1, p2, p3⟩ := k_ll_spec (G := G) (s := nI sg) (e_fl T0 0 c0) [] List.Pairwise.nil u1 (fun x hx y hy => hne x y (al0 x hx) (al0 y hy)) (fun x _ y hy => by cases hy)
  obtain ⟨q1, q2, q3⟩ := k_ll_spec (G := G) (s := nI sg) L1 _ p1 a1.nd (fun x hx y hy => hne x y (al1 x hx) (al1 y hy)) (by
    intro x hx y hy lx
    rcases (p2 y).mp hy with ⟨h, ly⟩ | h
    · refine hne x y (al1 x hx) (al0 y h) lx ly (fun e => ?_)
      rw [e] at hx
      exact absurd (((a2 y).mp hx).2.symm.trans ((u2 y).mp h).2) (by decide)
    · cases h)
  obtain ⟨r1, r2, r3⟩ := k_ll_spec (G := G) (s := nI sg) L2 _ q1 b1.nd (fun x hx y hy => hne x y (al2 x hx) (al2 y hy)) (by
    intro x hx y hy lx
    rcases (q2 y).mp hy with ⟨h, ly⟩ | h
    · refine hne x y (al2 x hx) (al1 y h) lx ly (fun e => ?_)
      rw [e] at hx
      exact absurd (((b2 y).mp hx).2.symm.trans ((a2 y).mp h).2) (by decide)
    · rcases (p2 y).mp h with ⟨h, ly⟩ | h
      · refine hne x y (al2 x hx) (al0 y h) lx ly (fun e => ?_)
        rw [e] at hx
        exact absurd (((b2 y).mp hx).2.symm.trans ((u2 y).mp h).2) (by decide)
      · cases h)
  have hmem : ∀ i, i ∈ e_gl G (nI sg) (e_fl T0 0 c0) L1 L2 ↔ i < n ∧ m_lv F (nI sg) i = true := by
    intro i
    have e1 : m_lv F (nI sg) i = true ↔ ¬ F 5 i = 9 ∧ F 3 i = 0 ∧ F 7 i = nI sg := by
      unfold m_lv
      simp only [Bool.and_eq_true, Bool.not_eq_true', decide_eq_false_iff_not, decide_eq_true_eq]
    rw [e1]
    unfold e_gl
    rw [r2, q2, p2]
    constructor
    · rintro (⟨h, l⟩ | ⟨h, l⟩ | ⟨h, l⟩ | h)
      · exact ⟨(al2 i h).1, (al2 i h).2, (hlv i (al2 i h).1).mp l⟩
      · exact ⟨(al1 i h).1, (al1 i h).2, (hlv i (al1 i h).1).mp l⟩
      · exact ⟨(al0 i h).1, (al0 i h).2, (hlv i (al0 i h).1).mp l⟩
      · cases h
    · rintro ⟨h, h9, l⟩
      have l := (hlv i h).mpr l
      rcases hA.2.2.2 i h with k | k | k | k | k
      · have := (f2 i).mpr ⟨h, k⟩; cases this
      · exact .inr (.inr (.inl ⟨(u2 i).mpr ⟨h, k⟩, l⟩))
      · exact .inr (.inl ⟨(a2 i).mpr ⟨h, k⟩, l⟩)
      · exact .inl ⟨(b2 i).mpr ⟨h, k⟩, l⟩
      · exact absurd k h9
  have hal' : ∀ i ∈ e_gl G (nI sg) (e_fl T0 0 c0) L1 L2, k_al F n i ∧ F 3 i = 0 ∧ F 7 i = nI sg := by
    intro i hi
    obtain ⟨h1, h2⟩ := (hmem i).mp hi
    unfold m_lv at h2
    simp only [Bool.and_eq_true, Bool.not_eq_true', decide_eq_false_iff_not, decide_eq_true_eq] at h2
    exact ⟨⟨h1, h2.1⟩, h2.2⟩
  have hvs : k_vs (fun x => (F 8 x).toInt) (e_gl G (nI sg) (e_fl T0 0 c0) L1 L2) := by
    refine List.Pairwise.imp_of_mem ?_ r1
    intro a b ha hb hab
    have hab : (G a 7).toInt < (G b 7).toInt := hab
    rw [(hd a (hal' a ha).1.1).2.2.2.2.2.2.2, (hd b (hal' b hb).1.1).2.2.2.2.2.2.2] at hab
    exact hab
  refine ⟨hvs, hmem, ?_, ?_⟩
  · unfold e_gl
    rw [r3, q3, p3]
    simp only [List.length_nil]
    omega
  · have hm : ((e_gl G (nI sg) (e_fl T0 0 c0) L1 L2).map (fun x => (F 8 x).toInt.toNat)).Nodup := by
      unfold List.Nodup
      rw [List.pairwise_map]
      refine List.Pairwise.imp_of_mem ?_ hvs
      intro a b ha hb hab he
      have hab : (F 8 a).toInt < (F 8 b).toInt := hab
      have h2 : 0 ≤ (F 8 a).toInt := by
        obtain ⟨sa, ca, s1, s2, s3, s4, s5, s6⟩ := hC.1 a (hal' a ha).1 (hal' a ha).2.1
        have := hC.2.2.1 (sa - tl) (by omega)
        rw [s2, nI_toInt (by omega)]; omega
      omega
    have hr : ((e_gl G (nI sg) (e_fl T0 0 c0) L1 L2).map (fun x => (F 8 x).toInt.toNat)) ⊆ List.range 16 := by
      intro v hv
      obtain ⟨x, hx, rfl⟩ := List.mem_map.mp hv
      obtain ⟨sa, ca, s1, s2, s3, s4, s5, s6⟩ := hC.1 x (hal' x hx).1 (hal' x hx).2.1
      have := hC.2.2.1 (sa - tl) (by omega)
      rw [s2, nI_toInt (by omega), List.mem_range]
      omega
    have := List.Nodup.length_le_of_subset hm hr
    rw [List.length_map, List.length_range] at this
    exact this
end KCE
