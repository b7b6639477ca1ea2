section VG
variable {z : Nat} {h hh : am_H} {ad : Nat → Nat} {tt rr aa : Nat → Nat → Nat} {R : Nat → List Nat} {C : Nat → Nat → List Nat} {fl : Nat → Nat → Int32} {c : Nat → Nat} {tk cb tb sb g : Nat → Nat} {S : Nat → Int32} {En : Nat → Prop} {E : Nat → Nat → Int32} {v : Nat → Int32}
theorem vs_V.row (hV : vs_V z h ad tt rr aa R C fl c tk cb tb sb g S En E v) {i : Nat} (hi : i < 4) {L' : List Nat} (hc : vs_ch h hh (ad (10 + i)) (ad (14 + i))) (hr : vs_row hh (ad (10 + i)) (ad (14 + i)) (ad 1) (vn i) L') (hL : ∀ x ∈ L', En x) : vs_V z hh ad tt rr aa (va_up R i L') C fl c tk cb tb sb g S En E v := by
  have hE := fun {e : Nat} (he : En e) => hV.ent he
  obtain ⟨v0, v1, v2, v3, v4, v5, v6, v7, v8⟩ := hV
  have dn : ∀ j, j < 23 → j ≠ 10 + i → j ≠ 14 + i → hh.1 (ad j) = h.1 (ad j) := fun j hj h1 h2 => hc.1 _ (v7.1 j _ hj (by omega) h1) (v7.1 j _ hj (by omega) h2)
  refine ⟨by rw [dn 0 (by omega) (by omega) (by omega)]; exact v0, fun e he => ⟨?_, (v1 e he).2⟩, v2, fun j hj => ?_, fun l hl => ⟨?_, (v4 l hl).2⟩, v5.mv (dn 2 (by omega) (by omega) (by omega)) (fun j hj => dn (19 + j) (by omega) (by omega) (by omega)), v6.mv (dn 3 (by omega) (by omega) (by omega)) (dn 18 (by omega) (by omega) (by omega)), v7, fun a e ha => ?_⟩
  · rw [hc.1 e ((hE he).1 _ (by omega) (by omega)) ((hE he).1 _ (by omega) (by omega))]
    exact (v1 e he).1
  · by_cases hji : j = i
    · subst hji; rw [va_up_self]; exact ⟨hr, hL⟩
    · rw [va_up_ne _ _ hji]
      exact ⟨(v3 j hj).1.fr (dn (10 + j) (by omega) (by omega) (by omega)) (dn (14 + j) (by omega) (by omega) (by omega)), (v3 j hj).2⟩
  · refine (v4 l hl).1.mv (dn (4 + l) (by omega) (by omega) (by omega)) (dn (7 + l) (by omega) (by omega) (by omega)) (fun k hk => ?_)
    have q1 := v7.2.2.2.1 l k (10 + i) hl hk (by omega)
    have q2 := v7.2.2.2.1 l k (14 + i) hl hk (by omega)
    exact ⟨hc.1 _ q1.1 q2.1, hc.1 _ q1.2.1 q2.2.1, hc.1 _ q1.2.2 q2.2.2⟩
  · rw [hc.2]
    obtain ⟨g1, p1, p2, p3, p4, p5, pne⟩ := (v3 i hi).1.g
    by_cases h1 : a = ad (10 + i)
    · rw [h1]; exact v8 _ _ p1
    · by_cases h2 : a = ad (14 + i)
      · rw [h2]; exact v8 _ _ p2
      · rw [hc.1 a h1 h2] at ha
        exact v8 a e ha
theorem vs_V.lev (hV : vs_V z h ad tt rr aa R C fl c tk cb tb sb g S En E v) {l : Nat} (hl : l < 3) {t' r' a' : Nat → Nat} {C' : Nat → List Nat} {fl' : Nat → Int32} {c' : Nat} (hc : vs_chl h hh (ad (4 + l)) (ad (7 + l)) (vm l) (tt l) (rr l) (aa l)) (hlv : vs_lv hh (ad (4 + l)) (ad (7 + l)) (vm l) c' (vc l) (ad 1) t' r' a' C' fl') (hp : ∀ k, k < vm l → ∃ k', k' < vm l ∧ t' k = tt l k' ∧ r' k = rr l k' ∧ a' k = aa l k') (hx : ∀ k, k < vm l → ∀ x ∈ C' k, En x) :
    vs_V z hh ad (va_up tt l t') (va_up rr l r') (va_up aa l a') R (va_up C l C') (va_up fl l fl') (va_up c l c') tk cb tb sb g S En E v := by
  have hE := fun {e : Nat} (he : En e) => hV.ent he
  obtain ⟨v0, v1, v2, v3, v4, v5, v6, v7, v8⟩ := hV
  have dn : ∀ j, j < 23 → j ≠ 4 + l → j ≠ 7 + l → hh.1 (ad j) = h.1 (ad j) := fun j hj h1 h2 => hc.1 _ (v7.1 j _ hj (by omega) h1) (v7.1 j _ hj (by omega) h2) (fun k hk => by
    have q := v7.2.2.2.1 l k j hl hk hj
    exact ⟨q.1.symm, q.2.1.symm, q.2.2.symm⟩)
  refine ⟨by rw [dn 0 (by omega) (by omega) (by omega)]; exact v0, fun e he => ⟨?_, (v1 e he).2⟩, v2, fun j hj => ⟨(v3 j hj).1.fr (dn (10 + j) (by omega) (by omega) (by omega)) (dn (14 + j) (by omega) (by omega) (by omega)), (v3 j hj).2⟩, fun i hi => ?_, v5.mv (dn 2 (by omega) (by omega) (by omega)) (fun j hj => dn (19 + j) (by omega) (by omega) (by omega)), v6.mv (dn 3 (by omega) (by omega) (by omega)) (dn 18 (by omega) (by omega) (by omega)), ?_, fun a e ha => ?_⟩
  · rw [hc.1 e ((hE he).1 _ (by omega) (by omega)) ((hE he).1 _ (by omega) (by omega)) (fun k hk => (hE he).2 l k hl hk)]
    exact (v1 e he).1
  · by_cases hil : i = l
    · subst hil
      rw [va_up_self, va_up_self, va_up_self, va_up_self, va_up_self, va_up_self]
      exact ⟨hlv, hx⟩
    · rw [va_up_ne _ _ hil, va_up_ne _ _ hil, va_up_ne _ _ hil, va_up_ne _ _ hil, va_up_ne _ _ hil, va_up_ne _ _ hil]
      refine ⟨(v4 i hi).1.mv (dn (4 + i) (by omega) (by omega) (by omega)) (dn (7 + i) (by omega) (by omega) (by omega)) (fun k hk => ?_), (v4 i hi).2⟩
      obtain ⟨l1, l2, l3, ⟨G, l4, l5⟩, l6, l7, l8⟩ := (v4 l hl).1
      obtain ⟨m1, m2, m3, ⟨G2, m4, m5⟩, m6, m7, m8⟩ := (v4 i hi).1
      obtain ⟨g2, p1, p2, p3, p4, p5, pne⟩ := (m7 k hk).g
      have q1 := v7.2.2.2.1 i k (4 + l) hi hk (by omega)
      have q2 := v7.2.2.2.1 i k (7 + l) hi hk (by omega)
      have q3 := fun k' (hk' : k' < vm l) => v7.2.2.2.2 i k l k' hi hk hl hk' hil
      refine ⟨hc.1 _ q1.1 q2.1 (fun k' hk' => ?_), hc.1 _ q1.2.1 q2.2.1 (fun k' hk' => ?_), hc.1 _ q1.2.2 q2.2.2 (fun k' hk' => ?_)⟩
      · obtain ⟨g3, r1, r2, r3, r4, r5, rne⟩ := (l7 k' hk').g
        exact ⟨(q3 k' hk').1, am_ne (m6 k hk) r1 (by simp), am_ne (m6 k hk) r2 (by simp)⟩
      · obtain ⟨g3, r1, r2, r3, r4, r5, rne⟩ := (l7 k' hk').g
        exact ⟨am_ne p1 (l6 k' hk') (by simp), (q3 k' hk').2.1, am_ne p1 r2 (by simp)⟩
      · obtain ⟨g3, r1, r2, r3, r4, r5, rne⟩ := (l7 k' hk').g
        exact ⟨am_ne p2 (l6 k' hk') (by simp), am_ne p2 r1 (by simp), (q3 k' hk').2.2⟩
  · have key : ∀ i k, i < 3 → k < vm i → ∃ k', k' < vm i ∧ va_up tt l t' i k = tt i k' ∧ va_up rr l r' i k = rr i k' ∧ va_up aa l a' i k = aa i k' := by
      intro i k hi hk
      by_cases hil : i = l
      · subst hil
        rw [va_up_self, va_up_self, va_up_self]
        exact hp k hk
      · rw [va_up_ne _ _ hil, va_up_ne _ _ hil, va_up_ne _ _ hil]
        exact ⟨k, hk, rfl, rfl, rfl⟩
    refine ⟨v7.1, v7.2.1, fun i k hi hk => ?_, fun i k j hi hk hj => ?_, fun i k i' k' hi hk hi' hk' hne => ?_⟩
    · obtain ⟨q, q0, q1, q2, q3⟩ := key i k hi hk
      rw [q1, q2, q3]
      exact v7.2.2.1 i q hi q0
    · obtain ⟨q, q0, q1, q2, q3⟩ := key i k hi hk
      rw [q1, q2, q3]
      exact v7.2.2.2.1 i q j hi q0 hj
    · obtain ⟨q, q0, q1, q2, q3⟩ := key i k hi hk
      obtain ⟨p, p0, p1, p2, p3⟩ := key i' k' hi' hk'
      rw [q1, q2, q3, p1, p2, p3]
      exact v7.2.2.2.2 i q i' p hi q0 hi' p0 hne
  · rw [hc.2]
    obtain ⟨l1, l2, l3, ⟨G, l4, l5⟩, l6, l7, l8⟩ := (v4 l hl).1
    by_cases h1 : a = ad (4 + l)
    · rw [h1]; exact v8 _ _ l1
    · by_cases h2 : a = ad (7 + l)
      · rw [h2]; exact v8 _ _ l4
      · by_cases h3 : ∃ k, k < vm l ∧ (a = tt l k ∨ a = rr l k ∨ a = aa l k)
        · obtain ⟨k, hk, q | q | q⟩ := h3
          · rw [q]; exact v8 _ _ (l6 k hk)
          · obtain ⟨g3, r1, r2, r3, r4, r5, rne⟩ := (l7 k hk).g
            rw [q]; exact v8 _ _ r1
          · obtain ⟨g3, r1, r2, r3, r4, r5, rne⟩ := (l7 k hk).g
            rw [q]; exact v8 _ _ r2
        · rw [hc.1 a h1 h2 (fun k hk => ⟨fun q => h3 ⟨k, hk, Or.inl q⟩, fun q => h3 ⟨k, hk, Or.inr (Or.inl q)⟩, fun q => h3 ⟨k, hk, Or.inr (Or.inr q)⟩⟩)] at ha
          exact v8 a e ha
theorem vs_V.log (hV : vs_V z h ad tt rr aa R C fl c tk cb tb sb g S En E v) {tk' cb' tb' sb' g' : Nat → Nat} (hc : vs_chg h hh (ad 2) (fun i => ad (19 + i))) (hlg : vs_lg hh (ad 2) (fun i => ad (19 + i)) tk' cb' tb' sb' (g' 0) (g' 1) (g' 2)) : vs_V z hh ad tt rr aa R C fl c tk' cb' tb' sb' g' S En E v := by
  have hE := fun {e : Nat} (he : En e) => hV.ent he
  obtain ⟨v0, v1, v2, v3, v4, v5, v6, v7, v8⟩ := hV
  have dn : ∀ j, j < 19 → j ≠ 2 → hh.1 (ad j) = h.1 (ad j) := fun j hj h1 => hc.1 _ (v7.1 j _ (by omega) (by omega) h1) (fun i hi => v7.1 j _ (by omega) (by omega) (by omega))
  refine ⟨by rw [dn 0 (by omega) (by omega)]; exact v0, fun e he => ⟨?_, (v1 e he).2⟩, v2, fun j hj => ⟨(v3 j hj).1.fr (dn (10 + j) (by omega) (by omega)) (dn (14 + j) (by omega) (by omega)), (v3 j hj).2⟩, fun l hl => ⟨?_, (v4 l hl).2⟩, hlg, v6.mv (dn 3 (by omega) (by omega)) (dn 18 (by omega) (by omega)), v7, fun a e ha => ?_⟩
  · rw [hc.1 e ((hE he).1 _ (by omega) (by omega)) (fun i hi => (hE he).1 _ (by omega) (by omega))]
    exact (v1 e he).1
  · refine (v4 l hl).1.mv (dn (4 + l) (by omega) (by omega)) (dn (7 + l) (by omega) (by omega)) (fun k hk => ?_)
    have q := fun j (hj : j < 23) => v7.2.2.2.1 l k j hl hk hj
    exact ⟨hc.1 _ (q 2 (by omega)).1 (fun i hi => (q _ (by omega)).1), hc.1 _ (q 2 (by omega)).2.1 (fun i hi => (q _ (by omega)).2.1), hc.1 _ (q 2 (by omega)).2.2 (fun i hi => (q _ (by omega)).2.2)⟩
  · rw [hc.2]
    obtain ⟨q0, q1, q2, q3, q4, -⟩ := v5
    by_cases h1 : a = ad 2
    · rw [h1]; exact v8 _ _ q0
    · by_cases h3 : ∃ i, i < 4 ∧ a = ad (19 + i)
      · obtain ⟨i, hi, q⟩ := h3
        rw [q]
        rcases (by omega : i = 0 ∨ i = 1 ∨ i = 2 ∨ i = 3) with w | w | w | w <;> subst w
        · exact v8 _ _ q1
        · exact v8 _ _ q2
        · exact v8 _ _ q3
        · exact v8 _ _ q4
      · rw [hc.1 a h1 (fun i hi q => h3 ⟨i, hi, q⟩)] at ha
        exact v8 a e ha
theorem vs_V.fld (hV : vs_V z h ad tt rr aa R C fl c tk cb tb sb g S En E v) (v' : Nat → Int32) : vs_V z (am_up h (ad 0) (vs_vo ad v')) ad tt rr aa R C fl c tk cb tb sb g S En E v' := by
  have hE := fun {e : Nat} (he : En e) => hV.ent he
  obtain ⟨v0, v1, v2, v3, v4, v5, v6, v7, v8⟩ := hV
  have dn : ∀ j, j < 23 → j ≠ 0 → (am_up h (ad 0) (vs_vo ad v')).1 (ad j) = h.1 (ad j) := fun j hj h1 => am_up_ne _ _ (v7.1 j _ hj (by omega) h1)
  refine ⟨am_up_at _ _ _, fun e he => ⟨?_, (v1 e he).2⟩, v2, fun j hj => ⟨(v3 j hj).1.fr (dn (10 + j) (by omega) (by omega)) (dn (14 + j) (by omega) (by omega)), (v3 j hj).2⟩, fun l hl => ⟨?_, (v4 l hl).2⟩, v5.mv (dn 2 (by omega) (by omega)) (fun j hj => dn (19 + j) (by omega) (by omega)), v6.mv (dn 3 (by omega) (by omega)) (dn 18 (by omega) (by omega)), v7, fun a e ha => ?_⟩
  · rw [am_up_ne _ _ ((hE he).1 _ (by omega) (by omega))]
    exact (v1 e he).1
  · refine (v4 l hl).1.mv (dn (4 + l) (by omega) (by omega)) (dn (7 + l) (by omega) (by omega)) (fun k hk => ?_)
    have q := v7.2.2.2.1 l k 0 hl hk (by omega)
    exact ⟨am_up_ne _ _ q.1, am_up_ne _ _ q.2.1, am_up_ne _ _ q.2.2⟩
  · by_cases h1 : a = ad 0
    · rw [h1]; exact v8 _ _ v0
    · rw [am_up_ne _ _ h1] at ha
      exact v8 a e ha
theorem vs_V.snp (hV : vs_V z h ad tt rr aa R C fl c tk cb tb sb g S En E v) (S' : Nat → Int32) : vs_V z (am_up h (ad 18) (.inl (0, 3, .inl S'))) ad tt rr aa R C fl c tk cb tb sb g S' En E v := by
  have hE := fun {e : Nat} (he : En e) => hV.ent he
  obtain ⟨v0, v1, v2, v3, v4, v5, v6, v7, v8⟩ := hV
  have dn : ∀ j, j < 23 → j ≠ 18 → (am_up h (ad 18) (.inl (0, 3, .inl S'))).1 (ad j) = h.1 (ad j) := fun j hj h1 => am_up_ne _ _ (v7.1 j _ hj (by omega) h1)
  refine ⟨by rw [dn 0 (by omega) (by omega)]; exact v0, fun e he => ⟨?_, (v1 e he).2⟩, v2, fun j hj => ⟨(v3 j hj).1.fr (dn (10 + j) (by omega) (by omega)) (dn (14 + j) (by omega) (by omega)), (v3 j hj).2⟩, fun l hl => ⟨?_, (v4 l hl).2⟩, v5.mv (dn 2 (by omega) (by omega)) (fun j hj => dn (19 + j) (by omega) (by omega)), ⟨by rw [dn 3 (by omega) (by omega)]; exact v6.1, am_up_at _ _ _⟩, v7, fun a e ha => ?_⟩
  · rw [am_up_ne _ _ ((hE he).1 _ (by omega) (by omega))]
    exact (v1 e he).1
  · refine (v4 l hl).1.mv (dn (4 + l) (by omega) (by omega)) (dn (7 + l) (by omega) (by omega)) (fun k hk => ?_)
    have q := v7.2.2.2.1 l k 18 hl hk (by omega)
    exact ⟨am_up_ne _ _ q.1, am_up_ne _ _ q.2.1, am_up_ne _ _ q.2.2⟩
  · by_cases h1 : a = ad 18
    · rw [h1]; exact v8 _ _ v6.2
    · rw [am_up_ne _ _ h1] at ha
      exact v8 a e ha
theorem vs_V.upe (hV : vs_V z h ad tt rr aa R C fl c tk cb tb sb g S En E v) {e : Nat} (he : En e) (hb : e ≠ ad 1) {E' : Nat → Nat → Int32} (hE' : ∀ a j, a ≠ e → E' a j = E a j) : vs_V z (am_up h e (vs_e E' e)) ad tt rr aa R C fl c tk cb tb sb g S En E' v := by
  have hEe := hV.ent he
  obtain ⟨v0, v1, v2, v3, v4, v5, v6, v7, v8⟩ := hV
  have dn : ∀ j, j < 23 → j ≠ 1 → (am_up h e (vs_e E' e)).1 (ad j) = h.1 (ad j) := fun j hj h1 => am_up_ne _ _ (hEe.1 j hj h1).symm
  refine ⟨by rw [dn 0 (by omega) (by omega)]; exact v0, fun a ha => ⟨?_, (v1 a ha).2⟩, v2, fun j hj => ⟨(v3 j hj).1.fr (dn (10 + j) (by omega) (by omega)) (dn (14 + j) (by omega) (by omega)), (v3 j hj).2⟩, fun l hl => ⟨?_, (v4 l hl).2⟩, v5.mv (dn 2 (by omega) (by omega)) (fun j hj => dn (19 + j) (by omega) (by omega)), v6.mv (dn 3 (by omega) (by omega)) (dn 18 (by omega) (by omega)), v7, fun a w ha => ?_⟩
  · by_cases hae : a = e
    · subst hae; rw [am_up_at]
    · rw [am_up_ne _ _ hae, (v1 a ha).1]
      simp only [vs_e, hE' a _ hae]
  · refine (v4 l hl).1.mv (dn (4 + l) (by omega) (by omega)) (dn (7 + l) (by omega) (by omega)) (fun k hk => ?_)
    have q := hEe.2 l k hl hk
    exact ⟨am_up_ne _ _ q.1.symm, am_up_ne _ _ q.2.1.symm, am_up_ne _ _ q.2.2.symm⟩
  · by_cases h1 : a = e
    · rw [h1]; exact v8 _ _ (v1 e he).1
    · rw [am_up_ne _ _ h1] at ha
      exact v8 a w ha
end VG
