section AMX
def am_cut (b : Nat) (h : am_H) : am_H := (fun a => if a = b then none else h.1 a, h.2)
theorem am_cut_ne {b a : Nat} {h : am_H} (ha : a ≠ b) : (am_cut b h).1 a = h.1 a := by
  show (if a = b then none else h.1 a) = _
  rw [if_neg ha]
theorem am_cut_b (b : Nat) (h : am_H) : (am_cut b h).1 b = none := by
  show (if b = b then none else h.1 b) = _
  rw [if_pos rfl]
def am_sc (b L : Nat) (xs : Nat → Int32) : Nat → Option am_E := fun a => if a = b then some (.inl (0, L, .inl xs)) else none
theorem am_cut_jn {b L : Nat} {xs : Nat → Int32} {g : am_H} (hg : g.1 b = none) : am_cut b (am_jn g (am_sc b L xs)) = g := by
  refine Prod.ext ?_ rfl
  funext a
  show (if a = b then none else (am_jn g (am_sc b L xs)).1 a) = g.1 a
  by_cases ha : a = b
  · rw [if_pos ha, ha, hg]
  · rw [if_neg ha]
    cases hga : g.1 a with
    | some e => rw [am_jn_some hga]
    | none =>
      rw [am_jn_none hga]
      show (if a = b then _ else none) = none
      rw [if_neg ha]
theorem am_sc_b {b L : Nat} {xs : Nat → Int32} {g : am_H} (hg : g.1 b = none) : (am_jn g (am_sc b L xs)).1 b = some (.inl (0, L, .inl xs)) := by
  rw [am_jn_none hg]
  show (if b = b then _ else none) = _
  rw [if_pos rfl]
def am_Cx (z d b L : Nat) (xs : Nat → Int32) : am_T := fun x av h v h1 => ∃ g1, h1 = am_jn g1 (am_sc b L xs) ∧ g1.1 b = none ∧ am_M z d x av (am_cut b h) v g1
theorem am_Cx_of {z d b L x : Nat} {xs : Nat → Int32} {av : List Value} {g g1 : am_H} {v : Option Value} (hg : g.1 b = none) (hg1 : g1.1 b = none) (hm : am_M z d x av g v g1) : am_Cx z d b L xs x av (am_jn g (am_sc b L xs)) v (am_jn g1 (am_sc b L xs)) := ⟨g1, rfl, hg1, by rw [am_cut_jn hg]; exact hm⟩
theorem am_Cx_mono {z d b L : Nat} {xs : Nat → Int32} : ∀ x av h v h1, am_Cx z d b L xs x av h v h1 → h.2.1 ≤ h1.2.1 ∧ h.2.2 ≤ h1.2.2 := by
  rintro x av h v h1 ⟨g1, rfl, _, hm⟩
  exact am_M_mono d x av _ v g1 hm
theorem am_gf_sc {L : Nat} {xs : Nat → Int32} (x y : Nat) : am_gf (some (.inl (0, L, .inl xs))) x y = none := rfl
theorem am_s_cut {b L : Nat} {xs : Nat → Int32} {i : Instr} {x y : Nat} {c : Int32} {ts : List Nat} {q : Nat} {lo : am_L} {st : List Value} {h : am_H} {r : am_C} (hs : am_s i x y c ts q lo st h = some r) (hb : h.1 b = some (.inl (0, L, .inl xs))) : am_s i x y c ts q lo st (am_cut b h) = some r ∨ (i = .iaload ∧ ∃ k rest, st = .int k :: .ref b :: rest ∧ vp_in k L ∧ r = (q, lo, .int (xs k.toNatClampNeg) :: rest)) ∨ (i = .arraylength ∧ ∃ rest, st = .ref b :: rest ∧ r = (q, lo, .int (nI L) :: rest)) := by
  cases i with
  | getfield k =>
    left
    simp only [am_s] at hs ⊢
    split at hs
    · rename_i a r'
      by_cases ha : a = b
      · rw [ha, hb] at hs; cases hs
      · rw [am_cut_ne ha]; exact hs
    · cases hs
  | iaload =>
    simp only [am_s] at hs
    split at hs
    · rename_i k a r'
      by_cases ha : a = b
      · right; left
        subst ha
        rw [hb] at hs
        refine ⟨rfl, k, r', rfl, ?_⟩
        unfold am_ri at hs
        rw [if_pos rfl] at hs
        cases hix : am_ix k L with
        | none => rw [hix] at hs; cases hs
        | some n =>
          obtain ⟨h1, h2⟩ := am_ix_spec hix
          rw [hix] at hs
          refine ⟨h1, ?_⟩
          rw [h2] at hs
          exact (Option.some.inj hs).symm
      · left
        simp only [am_s]
        rw [am_cut_ne ha]; exact hs
    · cases hs
  | baload =>
    left
    simp only [am_s] at hs ⊢
    split at hs
    · rename_i k a r'
      by_cases ha : a = b
      · rw [ha, hb] at hs; cases hs
      · rw [am_cut_ne ha]; exact hs
    · cases hs
  | aaload =>
    left
    simp only [am_s] at hs ⊢
    split at hs
    · rename_i k a r'
      by_cases ha : a = b
      · rw [ha, hb] at hs; cases hs
      · rw [am_cut_ne ha]; exact hs
    · cases hs
  | arraylength =>
    simp only [am_s] at hs
    split at hs
    · rename_i a r'
      by_cases ha : a = b
      · right; right
        subst ha
        rw [hb] at hs
        exact ⟨rfl, r', rfl, (Option.some.inj hs).symm⟩
      · left
        simp only [am_s]
        rw [am_cut_ne ha]; exact hs
    · cases hs
  | _ => exact .inl hs
theorem am_ca_cut {b L : Nat} {xs : Nat → Int32} {i : Instr} {x y : Nat} {st : List Value} {h : am_H} {r : List Value × List Value} (hs : am_ca i x y st h = some r) (hb : h.1 b = some (.inl (0, L, .inl xs))) : am_ca i x y st (am_cut b h) = some r := by
  cases i with
  | invokevirtual k =>
    simp only [am_ca] at hs ⊢
    have : ∀ {o}, am_cv (am_pop y st []) x h = some o → am_cv (am_pop y st []) x (am_cut b h) = some o := by
      intro o ho
      unfold am_cv at ho ⊢
      split at ho
      · rename_i a t st' hp
        split at ho
        · rename_i hko
          have ha : a ≠ b := fun q => by rw [q, hb] at hko; cases hko
          rw [if_pos (by rw [am_cut_ne ha]; exact hko)]
          exact ho
        · cases ho
      · cases ho
    cases hcv : am_cv (am_pop y st []) x h with
    | none => rw [hcv] at hs; cases hs
    | some o => rw [this hcv, ← hcv]; exact hs
  | _ => exact hs
def am_isW (i : Instr) : Bool := match i with
  | .putfield _ => true
  | .iastore => true
  | .bastore => true
  | .aastore => true
  | .invokestatic _ => true
  | _ => false
theorem am_w_no {z : Nat} {i : Instr} {x y : Nat} {st : List Value} {h : am_H} (hi : am_isW i = false) : am_w z i x y st h = none := by
  cases i <;> first | rfl | cases hi
theorem am_cut_nw {b : Nat} {h : am_H} {e : am_E} {k : Nat} (hb : b < h.2.1) : am_cut b (am_nw h e k) = am_nw (am_cut b h) e k := by
  refine Prod.ext ?_ rfl
  funext a
  show (if a = b then none else if a = h.2.1 then some e else h.1 a) = if a = h.2.1 then some e else if a = b then none else h.1 a
  by_cases ha : a = b
  · rw [if_pos ha, if_neg (by omega), if_pos ha]
  · rw [if_neg ha, if_neg ha]
end AMX
