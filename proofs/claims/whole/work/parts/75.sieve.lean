section KV
variable {E : Nat → Nat → Int32}
def k_pr (E : Nat → Nat → Int32) (L : List Nat) (q x : Nat) : Prop := q ∈ L ∧ e_bf E q x = true ∧ ∀ y ∈ L, e_bf E y x = true → y = q ∨ e_bf E y q = true
theorem e_du_sub (E : Nat → Nat → Int32) (ta : Nat → Nat → Bool) : ∀ (T : List Nat) (q : Nat), (e_du E ta q T).Sublist T
  | [], _ => List.Sublist.refl _
  | e :: t, q => by
    unfold e_du
    by_cases h : ¬ E e 0 = E q 0 ∨ ta e q = true
    · rw [if_pos h]; exact (e_du_sub E ta t e).cons_cons e
    · rw [if_neg h]; exact (e_du_sub E ta t e).cons e
theorem e_du_pr (ta : Nat → Nat → Bool) : ∀ (T : List Nat) (q : Nat), k_srt E (q :: T) → ∀ x ∈ T, ∃ r, k_pr E (q :: T) r x ∧ (x ∈ e_du E ta q T ↔ ¬ E x 0 = E r 0 ∨ ta x r = true)
  | [], _, _ => fun x hx => by cases hx
  | e :: t, q, hs => by
    intro x hx
    have hs' := hs
    unfold k_srt at hs'
    rw [List.pairwise_cons, List.pairwise_cons] at hs'
    obtain ⟨h1, h2, h3⟩ := hs'
    have hst : k_srt E (e :: t) := List.pairwise_cons.mpr ⟨h2, h3⟩
    have hqe := h1 e (by simp)
    rcases List.mem_cons.mp hx with hxe | hxt
    · subst hxe
      refine ⟨q, ⟨by simp, hqe, ?_⟩, ?_⟩
      · intro y hy hyx
        rcases List.mem_cons.mp hy with r | r
        · exact .inl r
        · rcases List.mem_cons.mp r with r | r
          · rw [r] at hyx; exact (e_bf_ir hyx).elim
          · exact (e_bf_as hyx (h2 y r)).elim
      · have hnx : x ∉ e_du E ta x t := fun hm => e_bf_ir (h2 x ((e_du_sub E ta t x).subset hm))
        unfold e_du
        by_cases hc : ¬ E x 0 = E q 0 ∨ ta x q = true
        · rw [if_pos hc]; exact ⟨fun _ => hc, fun _ => by simp⟩
        · rw [if_neg hc]; exact ⟨fun hm => absurd hm hnx, fun hm => absurd hm hc⟩
    · obtain ⟨r, ⟨r1, r2, r3⟩, r4⟩ := e_du_pr ta t e hst x hxt
      refine ⟨r, ⟨List.mem_cons_of_mem _ r1, r2, ?_⟩, ?_⟩
      · intro y hy hyx
        rcases List.mem_cons.mp hy with s | s
        · right
          rw [s]
          rcases List.mem_cons.mp r1 with u | u
          · rw [u]; exact hqe
          · exact h1 r (List.mem_cons_of_mem _ u)
        · exact r3 y s hyx
      · rw [← r4]
        have hxe : x ≠ e := fun h => by rw [h] at hxt; exact e_bf_ir (h2 e hxt)
        rw [e_du]
        by_cases hc : ¬ E e 0 = E q 0 ∨ ta e q = true
        · rw [if_pos hc, List.mem_cons]; exact ⟨fun h => h.elim (fun h => absurd h hxe) id, .inr⟩
        · rw [if_neg hc]
def k_ab (E : Nat → Nat → Int32) (T : List Nat) (x y : Nat) : Prop := y ∈ T ∧ (E y 0).toInt = (E x 0).toInt ∧ (E x 4).toInt < (E y 4).toInt ∧ ∀ z ∈ T, (E z 0).toInt = (E x 0).toInt → (E x 4).toInt < (E z 4).toInt → (E y 4).toInt ≤ (E z 4).toInt
def k_nw (E : Nat → Nat → Int32) (T : List Nat) (x : Nat) : Prop := ∀ y ∈ T, (E y 0).toInt = (E x 0).toInt → ¬ (E x 4).toInt < (E y 4).toInt
theorem k_srt_bl {q : Nat} {T : List Nat} (hT : k_srt E T) (hq : E q 0 = -1) (hk : ∀ x ∈ T, 0 ≤ (E x 0).toInt) : k_srt E (q :: T) := by
  refine List.pairwise_cons.mpr ⟨fun x hx => ?_, hT⟩
  rw [e_bf_iff, hq]
  have := hk x hx
  have e1 : (-1 : Int32).toInt = -1 := by decide
  left
  omega
theorem e_du_iff {ta : Nat → Nat → Bool} {T : List Nat} {q : Nat} (hT : k_srt E T) (hq : E q 0 = -1) (hk : ∀ x ∈ T, 0 ≤ (E x 0).toInt) (x : Nat) : x ∈ e_du E ta q T ↔ x ∈ T ∧ (k_nw E T x ∨ ∃ y, k_ab E T x y ∧ ta x y = true) := by
  have e1 : (-1 : Int32).toInt = -1 := by decide
  constructor
  · intro hx
    have hxT := (e_du_sub E ta T q).subset hx
    refine ⟨hxT, ?_⟩
    obtain ⟨r, ⟨r1, r2, r3⟩, r4⟩ := e_du_pr ta T q (k_srt_bl hT hq hk) x hxT
    have hkx := hk x hxT
    by_cases hkr : E x 0 = E r 0
    · right
      have hta : ta x r = true := (r4.mp hx).elim (fun h => absurd hkr h) id
      refine ⟨r, ⟨?_, by rw [hkr], ?_, ?_⟩, hta⟩
      · rcases List.mem_cons.mp r1 with u | u
        · rw [u] at hkr; rw [hkr, hq] at hkx; omega
        · exact u
      · rw [e_bf_iff, hkr] at r2; omega
      · intro z hz hzk hzs
        have hzx : e_bf E z x = true := by rw [e_bf_iff]; right; exact ⟨hzk, hzs⟩
        rcases r3 z (List.mem_cons_of_mem _ hz) hzx with u | u
        · rw [u]; exact Int.le_refl _
        · rw [e_bf_iff, hzk, hkr] at u; omega
    · left
      intro y hy hyk hys
      have hyx : e_bf E y x = true := by rw [e_bf_iff]; right; exact ⟨hyk, hys⟩
      rw [← Int32.toInt_inj] at hkr
      rw [e_bf_iff] at r2
      rcases r3 y (List.mem_cons_of_mem _ hy) hyx with u | u
      · rw [u] at hyk; omega
      · rw [e_bf_iff] at u; omega
  · rintro ⟨hxT, h⟩
    obtain ⟨r, ⟨r1, r2, r3⟩, r4⟩ := e_du_pr ta T q (k_srt_bl hT hq hk) x hxT
    rw [r4]
    have hkx := hk x hxT
    by_cases hkr : E x 0 = E r 0
    · right
      have hrT : r ∈ T := by
        rcases List.mem_cons.mp r1 with u | u
        · rw [u] at hkr; rw [hkr, hq] at hkx; omega
        · exact u
      have hrs : (E x 4).toInt < (E r 4).toInt := by rw [e_bf_iff, hkr] at r2; omega
      rcases h with h | ⟨y, ⟨y1, y2, y3, y4⟩, y5⟩
      · exact absurd hrs (h r hrT (by rw [hkr]))
      · have := y4 r hrT (by rw [hkr]) hrs
        have hyx : e_bf E y x = true := by rw [e_bf_iff]; right; exact ⟨y2, y3⟩
        rcases r3 y (List.mem_cons_of_mem _ y1) hyx with u | u
        · rw [← u]; exact y5
        · rw [e_bf_iff, y2, hkr] at u; omega
    · exact .inl hkr
theorem e_dg_snoc (now : Int32) : ∀ (R : List Nat) (e lo : Nat) (acc : List Nat), acc.headD lo = lo → e_dg E now (R ++ [e]) lo acc = if E e 0 = E ((e_dg E now R lo acc).headD lo) 0 ∨ e_gone E e now = false then e :: e_dg E now R lo acc else e_dg E now R lo acc
  | [], e, lo, acc, h => by
    rw [List.nil_append, e_dg, e_dg, e_dg, e_dg, h]
  | r :: R, e, lo, acc, h => by
    rw [List.cons_append, e_dg, e_dg]
    by_cases hc : E r 0 = E lo 0 ∨ e_gone E r now = false
    · rw [if_pos hc, if_pos hc]
      have ih := e_dg_snoc now R e r (r :: acc) rfl
      rw [ih]
      have hh : ∀ (Q : List Nat) (a : Nat) (ac : List Nat), (e_dg E now Q a (a :: ac)).headD a = (e_dg E now Q a (a :: ac)).headD lo := by
        intro Q a ac
        have : e_dg E now Q a (a :: ac) ≠ [] := by
          intro h0
          have : ∀ (Q : List Nat) (a : Nat) (ac : List Nat), ac ≠ [] → e_dg E now Q a ac ≠ [] := by
            intro Q
            induction Q with
            | nil => intro a ac h; exact h
            | cons q Q ih =>
              intro a ac h
              rw [e_dg]
              by_cases hq : E q 0 = E a 0 ∨ e_gone E q now = false
              · rw [if_pos hq]; exact ih _ _ (by simp)
              · rw [if_neg hq]; exact ih _ _ h
          exact this Q a (a :: ac) (by simp) h0
        cases hl : e_dg E now Q a (a :: ac) with
        | nil => exact absurd hl this
        | cons x l => rfl
      rw [hh]
    · rw [if_neg hc, if_neg hc]
      exact e_dg_snoc now R e lo acc h
def k_g (E : Nat → Nat → Int32) (now : Int32) (q : Nat) : List Nat → List Nat
  | [] => []
  | e :: t => if E e 0 = E ((k_g E now q t).headD q) 0 ∨ e_gone E e now = false then e :: k_g E now q t else k_g E now q t
theorem e_dg_eq (now : Int32) (q : Nat) : ∀ T, e_dg E now T.reverse q [] = k_g E now q T
  | [] => rfl
  | e :: t => by
    rw [List.reverse_cons, e_dg_snoc now _ _ _ _ rfl, e_dg_eq now q t]
    rfl
theorem k_g_sub (now : Int32) (q : Nat) : ∀ T, (k_g E now q T).Sublist T
  | [] => List.Sublist.refl _
  | e :: t => by
    rw [k_g]
    by_cases h : E e 0 = E ((k_g E now q t).headD q) 0 ∨ e_gone E e now = false
    · rw [if_pos h]; exact (k_g_sub now q t).cons_cons e
    · rw [if_neg h]; exact (k_g_sub now q t).cons e
theorem k_g_iff (now : Int32) {q : Nat} (hq : E q 0 = -1) : ∀ T, k_srt E T → (∀ x ∈ T, 0 ≤ (E x 0).toInt) → ∀ x, x ∈ k_g E now q T ↔ x ∈ T ∧ ∃ y ∈ T, (E y 0).toInt = (E x 0).toInt ∧ (E y 4).toInt ≤ (E x 4).toInt ∧ e_gone E y now = false
  | [], _, _ => fun x => by simp [k_g]
  | e :: t, hs, hk => by
    intro x
    have hs' := hs
    unfold k_srt at hs'
    rw [List.pairwise_cons] at hs'
    obtain ⟨h1, h2⟩ := hs'
    have ih := k_g_iff now hq t h2 (fun y hy => hk y (List.mem_cons_of_mem _ hy))
    have hsub := k_g_sub (E := E) now q t
    have e1 : (-1 : Int32).toInt = -1 := by decide
    have hke := hk e (by simp)
    have hhead : E e 0 = E ((k_g E now q t).headD q) 0 ↔ ∃ z ∈ k_g E now q t, (E z 0).toInt = (E e 0).toInt := by
      have hsg : k_srt E (k_g E now q t) := List.Pairwise.sublist hsub h2
      revert hsg hsub
      cases k_g E now q t with
      | nil =>
        intro _ _
        constructor
        · intro h
          rw [List.headD_nil, hq] at h
          rw [h] at hke; omega
        · rintro ⟨z, hz, _⟩; cases hz
      | cons a l =>
        intro hsub hsg
        rw [List.headD_cons]
        constructor
        · exact fun h => ⟨a, by simp, by rw [h]⟩
        · rintro ⟨z, hz, hzk⟩
          rw [← Int32.toInt_inj]
          have hea := h1 a (hsub.subset (by simp))
          rw [e_bf_iff] at hea
          rcases List.mem_cons.mp hz with u | u
          · rw [← u]; exact hzk.symm
          · unfold k_srt at hsg
            rw [List.pairwise_cons] at hsg
            have haz := hsg.1 z u
            rw [e_bf_iff] at haz
            omega
    rw [k_g]
    have hxt : ∀ y ∈ t, (E e 0).toInt < (E y 0).toInt ∨ ((E e 0).toInt = (E y 0).toInt ∧ (E y 4).toInt < (E e 4).toInt) := fun y hy => (e_bf_iff E e y).mp (h1 y hy)
    by_cases hc : E e 0 = E ((k_g E now q t).headD q) 0 ∨ e_gone E e now = false
    · rw [if_pos hc, List.mem_cons, List.mem_cons, ih]
      constructor
      · rintro (h | ⟨h, y, hy, hyk, hys, hyg⟩)
        · refine ⟨.inl h, ?_⟩
          rcases hc with hc | hc
          · obtain ⟨z, hz, hzk⟩ := hhead.mp hc
            obtain ⟨hzt, y, hy, hyk, hys, hyg⟩ := (ih z).mp hz
            have := hxt z hzt
            exact ⟨y, List.mem_cons_of_mem _ hy, by rw [h]; omega, by rw [h]; omega, hyg⟩
          · exact ⟨e, by simp, by rw [h], by rw [h]; exact Int.le_refl _, hc⟩
        · exact ⟨.inr h, y, List.mem_cons_of_mem _ hy, hyk, hys, hyg⟩
      · rintro ⟨h | h, y, hy, hyk, hys, hyg⟩
        · exact .inl h
        · right
          refine ⟨h, ?_⟩
          rcases List.mem_cons.mp hy with u | u
          · have := hxt x h
            rw [u] at hyk hys
            omega
          · exact ⟨y, u, hyk, hys, hyg⟩
    · rw [if_neg hc, ih, List.mem_cons]
      have hc1 : ¬ ∃ z ∈ k_g E now q t, (E z 0).toInt = (E e 0).toInt := fun h => hc (.inl (hhead.mpr h))
      have hc2 : ¬ e_gone E e now = false := fun h => hc (.inr h)
      constructor
      · rintro ⟨h, y, hy, hyk, hys, hyg⟩
        exact ⟨.inr h, y, List.mem_cons_of_mem _ hy, hyk, hys, hyg⟩
      · rintro ⟨h | h, y, hy, hyk, hys, hyg⟩
        · exfalso
          rcases List.mem_cons.mp hy with u | u
          · rw [u] at hyg; exact hc2 hyg
          · refine hc1 ⟨y, (ih y).mpr ⟨u, y, u, rfl, Int.le_refl _, hyg⟩, ?_⟩
            rw [hyk, h]
        · refine ⟨h, ?_⟩
          rcases List.mem_cons.mp hy with u | u
          · rw [u] at hyg; exact absurd hyg hc2
          · exact ⟨y, u, hyk, hys, hyg⟩
theorem e_rs_sub (S : Nat → Int32) (now : Int32) (q w : Nat) (up lo : List Nat) : (e_rs E S now q w up lo).Sublist (e_mm E up lo) := by
  unfold e_rs e_m3
  by_cases hw : w = 2
  · rw [if_pos hw, e_dg_eq]; exact (k_g_sub now q _).trans (e_du_sub E _ _ _)
  · rw [if_neg hw]; exact e_du_sub E _ _ _
end KV
