def vn (i : Nat) : Nat := match i with
  | 0 => 6
  | 1 => 8
  | 2 => 172
  | _ => 16
def vm (l : Nat) : Nat := match l with
  | 0 => 4
  | 1 => 8
  | _ => 22
def vc (l : Nat) : Nat := match l with
  | 0 => 8
  | _ => 6
abbrev vs_vo (ad : Nat → Nat) (v : Nat → Int32) : am_E := .inr (0, [.ref (ad 1), .ref (ad 10), .ref (ad 11), .ref (ad 4), .ref (ad 5), .ref (ad 6), .ref (ad 12), .ref (ad 13), .ref (ad 2), .ref (ad 3), .int (v 0), .int (v 1), .int (v 2), .int (v 3)])
def vs_D (z : Nat) (ad : Nat → Nat) (tt rr aa : Nat → Nat → Nat) : Prop :=
  (∀ i j, i < 23 → j < 23 → i ≠ j → ad i ≠ ad j) ∧ (∀ i, i < 23 → z ≤ ad i) ∧ (∀ l k, l < 3 → k < vm l → z ≤ tt l k ∧ z ≤ rr l k ∧ z ≤ aa l k) ∧
  (∀ l k i, l < 3 → k < vm l → i < 23 → tt l k ≠ ad i ∧ rr l k ≠ ad i ∧ aa l k ≠ ad i) ∧ ∀ l k l' k', l < 3 → k < vm l → l' < 3 → k' < vm l' → l ≠ l' → tt l k ≠ tt l' k' ∧ rr l k ≠ rr l' k' ∧ aa l k ≠ aa l' k'
def vs_V (z : Nat) (h : am_H) (ad : Nat → Nat) (tt rr aa : Nat → Nat → Nat) (R : Nat → List Nat) (C : Nat → Nat → List Nat) (fl : Nat → Nat → Int32) (c : Nat → Nat) (tk cb tb sb g : Nat → Nat) (S : Nat → Int32) (En : Nat → Prop) (E : Nat → Nat → Int32) (v : Nat → Int32) : Prop :=
  h.1 (ad 0) = some (vs_vo ad v) ∧ (∀ e, En e → h.1 e = some (vs_e E e) ∧ z ≤ e) ∧ En (ad 1) ∧
  (∀ i, i < 4 → vs_row h (ad (10 + i)) (ad (14 + i)) (ad 1) (vn i) (R i) ∧ ∀ x ∈ R i, En x) ∧
  (∀ l, l < 3 → vs_lv h (ad (4 + l)) (ad (7 + l)) (vm l) (c l) (vc l) (ad 1) (tt l) (rr l) (aa l) (C l) (fl l) ∧ ∀ k, k < vm l → ∀ x ∈ C l k, En x) ∧
  vs_lg h (ad 2) (fun i => ad (19 + i)) tk cb tb sb (g 0) (g 1) (g 2) ∧ vs_sn h (ad 3) (ad 18) S ∧ vs_D z ad tt rr aa ∧ ∀ a e, h.1 a = some e → a < h.2.1
section VF
variable {z : Nat} {h hh : am_H} {ad : Nat → Nat} {tt rr aa : Nat → Nat → Nat} {R : Nat → List Nat} {C : Nat → Nat → List Nat} {fl : Nat → Nat → Int32} {c : Nat → Nat} {tk cb tb sb g : Nat → Nat} {S : Nat → Int32} {En : Nat → Prop} {E : Nat → Nat → Int32} {v : Nat → Int32}
theorem vs_lv.mv {h hh : am_H} {lv ta m c cap bl : Nat} {tt rr aa : Nat → Nat} {C : Nat → List Nat} {fl : Nat → Int32} (hl : vs_lv h lv ta m c cap bl tt rr aa C fl) (h1 : hh.1 lv = h.1 lv) (h2 : hh.1 ta = h.1 ta) (h3 : ∀ k, k < m → hh.1 (tt k) = h.1 (tt k) ∧ hh.1 (rr k) = h.1 (rr k) ∧ hh.1 (aa k) = h.1 (aa k)) : vs_lv hh lv ta m c cap bl tt rr aa C fl := by
  obtain ⟨l1, l2, l3, ⟨G, l4, l5⟩, l6, l7, l8⟩ := hl
  exact ⟨by rw [h1]; exact l1, l2, l3, ⟨G, by rw [h2]; exact l4, l5⟩, fun k hk => by rw [(h3 k hk).1]; exact l6 k hk, fun k hk => (l7 k hk).fr (h3 k hk).2.1 (h3 k hk).2.2, l8⟩
theorem vs_lg.mv {h hh : am_H} {lg : Nat} {A : Nat → Nat} {tk cb tb sb : Nat → Nat} {tl c un : Nat} (hl : vs_lg h lg A tk cb tb sb tl c un) (h1 : hh.1 lg = h.1 lg) (h2 : ∀ i, i < 4 → hh.1 (A i) = h.1 (A i)) : vs_lg hh lg A tk cb tb sb tl c un := by
  obtain ⟨h0, q1, q2, q3, q4, hb, hk2, hA⟩ := hl
  exact ⟨by rw [h1]; exact h0, by rw [h2 0 (by omega)]; exact q1, by rw [h2 1 (by omega)]; exact q2, by rw [h2 2 (by omega)]; exact q3, by rw [h2 3 (by omega)]; exact q4, hb, hk2, hA⟩
theorem vs_sn.mv {h hh : am_H} {s ss : Nat} {S : Nat → Int32} (hl : vs_sn h s ss S) (h1 : hh.1 s = h.1 s) (h2 : hh.1 ss = h.1 ss) : vs_sn hh s ss S := ⟨by rw [h1]; exact hl.1, by rw [h2]; exact hl.2⟩
theorem vs_V.ent (hV : vs_V z h ad tt rr aa R C fl c tk cb tb sb g S En E v) {e : Nat} (he : En e) : (∀ i, i < 23 → i ≠ 1 → e ≠ ad i) ∧ ∀ l k, l < 3 → k < vm l → e ≠ tt l k ∧ e ≠ rr l k ∧ e ≠ aa l k := by
  obtain ⟨v0, v1, v2, v3, v4, v5, v6, v7, v8⟩ := hV
  have he1 := (v1 e he).1
  refine ⟨fun i hi h1 => ?_, fun l k hl hk => ?_⟩
  · have key : ∃ x, h.1 (ad i) = some x ∧ ∀ w, x ≠ .inr (1, w) := by
      rcases (by omega : i = 0 ∨ i = 2 ∨ i = 3 ∨ (4 ≤ i ∧ i < 7) ∨ (7 ≤ i ∧ i < 10) ∨ (10 ≤ i ∧ i < 14) ∨ (14 ≤ i ∧ i < 18) ∨ i = 18 ∨ (19 ≤ i ∧ i < 23)) with q | q | q | q | q | q | q | q | q
      · subst q; exact ⟨_, v0, fun w => by simp⟩
      · subst q; exact ⟨_, v5.1, fun w => by simp⟩
      · subst q; exact ⟨_, v6.1, fun w => by simp⟩
      · have := (v4 (i - 4) (by omega)).1.1
        rw [show 4 + (i - 4) = i by omega] at this
        exact ⟨_, this, fun w => by simp⟩
      · obtain ⟨G, q2, -⟩ := (v4 (i - 7) (by omega)).1.2.2.2.1
        rw [show 7 + (i - 7) = i by omega] at q2
        exact ⟨_, q2, fun w => by simp⟩
      · have := (v3 (i - 10) (by omega)).1.1
        rw [show 10 + (i - 10) = i by omega] at this
        exact ⟨_, this, fun w => by simp⟩
      · obtain ⟨G, q2, -⟩ := (v3 (i - 14) (by omega)).1.2.2.2
        rw [show 14 + (i - 14) = i by omega] at q2
        exact ⟨_, q2, fun w => by simp⟩
      · subst q; exact ⟨_, v6.2, fun w => by simp⟩
      · obtain ⟨-, q1, q2, q3, q4, -⟩ := v5
        rcases (by omega : i = 19 ∨ i = 20 ∨ i = 21 ∨ i = 22) with w | w | w | w <;> subst w
        · exact ⟨_, q1, fun w => by simp⟩
        · exact ⟨_, q2, fun w => by simp⟩
        · exact ⟨_, q3, fun w => by simp⟩
        · exact ⟨_, q4, fun w => by simp⟩
    obtain ⟨x, hx, hn⟩ := key
    exact am_ne he1 hx (fun q => hn _ q.symm)
  · obtain ⟨l1, l2, l3, ⟨G, l4, l5⟩, l6, l7, l8⟩ := (v4 l hl).1
    obtain ⟨g2, p1, p2, p3, p4, p5, pne⟩ := (l7 k hk).g
    exact ⟨am_ne he1 (l6 k hk) (by simp), am_ne he1 p1 (by simp), am_ne he1 p2 (by simp)⟩
end VF
