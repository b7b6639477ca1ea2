section AMX
def am_cut (b : Nat) (h : am_H) : am_H := (fun a => if a = b then none else h.1 a, h.2)
theorem am_cut_ne {b a : Nat} {h : am_H} (ha : a ≠ b) : (am_cut b h).1 a = h.1 a := by
  show (if a = b then none else h.1 a) = _
  rw [if_neg ha]
theorem am_cut_b (b : Nat) (h : am_H) : (am_cut b h).1 b = none := by
  show (if b = b then none else h.1 b) = _
  rw [if_pos rfl]
def am_sc (b L : Nat) (xs : Nat → Int32) : Nat → Option am_E := fun a => if a = b then some (.inl (0, L, .inl xs)) else none
theorem am_cut_jn {b L : Nat} {xs : Nat → Int32} {g : am_H} (hg : g.1 b = none) : am_cut b (am_jn g (am_sc b L xs)) = g := by
  refine Prod.ext ?_ rfl
  funext a
  show (if a = b then none else (am_jn g (am_sc b L xs)).1 a) = g.1 a
  by_cases ha : a = b
  · rw [if_pos ha, ha, hg]
  · rw [if_neg ha]
    cases hga : g.1 a with
    | some e => rw [am_jn_some hga]
    | none =>
      rw [am_jn_none hga]
      show (if a = b then _ else none) = none
      rw [if_neg ha]
theorem am_sc_b {b L : Nat} {xs : Nat → Int32} {g : am_H} (hg : g.1 b = none) : (am_jn g (am_sc b L xs)).1 b = some (.inl (0, L, .inl xs)) := by
  rw [am_jn_none hg]
  show (if b = b then _ else none) = _
  rw [if_pos rfl]
def am_Cx (z d b L : Nat) (xs : Nat → Int32) : am_T := fun x av h v h1 => ∃ g1, h1 = am_jn g1 (am_sc b L xs) ∧ g1.1 b = none ∧ am_M z d x av (am_cut b h) v g1
theorem am_Cx_of {z d b L x : Nat} {xs : Nat → Int32} {av : List Value} {g g1 : am_H} {v : Option Value} (hg : g.1 b = none) (hg1 : g1.1 b = none) (hm : am_M z d x av g v g1) : am_Cx z d b L xs x av (am_jn g (am_sc b L xs)) v (am_jn g1 (am_sc b L xs)) := ⟨g1, rfl, hg1, by rw [am_cut_jn hg]; exact hm⟩
theorem am_Cx_mono {z d b L : Nat} {xs : Nat → Int32} : ∀ x av h v h1, am_Cx z d b L xs x av h v h1 → h.2.1 ≤ h1.2.1 ∧ h.2.2 ≤ h1.2.2 := by
  rintro x av h v h1 ⟨g1, rfl, _, hm⟩
  have q := am_M_mono d x av (am_cut b h) v g1 hm
  exact q
theorem am_gf_sc {L : Nat} {xs : Nat → Int32} (x y : Nat) : am_gf (some (.inl (0, L, .inl xs))) x y = none := rfl
theorem am_s_cut {b L : Nat} {xs : Nat → Int32} {i : Instr} {x y : Nat} {c : Int32} {ts : List Nat} {q : Nat} {lo : am_L} {st : List Value} {h : am_H} {r : am_C} (hs : am_s i x y c ts q lo st h = some r) (hb : h.1 b = some (.inl (0, L, .inl xs))) : am_s i x y c ts q lo st (am_cut b h) = some r ∨ (i = .iaload ∧ ∃ k rest, st = .int k :: .ref b :: rest ∧ vp_in k L ∧ r = (q, lo, .int (xs k.toNatClampNeg) :: rest)) ∨ (i = .arraylength ∧ ∃ rest, st = .ref b :: rest ∧ r = (q, lo, .int (nI L) :: rest)) := by
  cases i with
  | getfield k =>
    left
    simp only [am_s] at hs ⊢
    split at hs
    · rename_i a r'
      by_cases ha : a = b
      · rw [ha, hb] at hs; cases hs
      · rw [am_cut_ne ha]; exact hs
    · cases hs
  | iaload =>
    simp only [am_s] at hs
    split at hs
    · rename_i k a r'
      by_cases ha : a = b
      · right; left
        subst ha
        rw [hb] at hs
        refine ⟨rfl, k, r', rfl, ?_⟩
        have er : am_ri 0 (some (.inl (0, L, .inl xs))) k = (match am_ix k L with | some n => some (.int (xs n)) | none => none) := rfl
        rw [er] at hs
        cases hix : am_ix k L with
        | none => rw [hix] at hs; cases hs
        | some n =>
          obtain ⟨h1, h2⟩ := am_ix_spec hix
          rw [hix] at hs
          refine ⟨h1, ?_⟩
          rw [h2] at hs
          exact (Option.some.inj hs).symm
      · left
        simp only [am_s]
        rw [am_cut_ne ha]; exact hs
    · cases hs
  | baload =>
    left
    simp only [am_s] at hs ⊢
    split at hs
    · rename_i k a r'
      by_cases ha : a = b
      · rw [ha, hb] at hs; cases hs
      · rw [am_cut_ne ha]; exact hs
    · cases hs
  | aaload =>
    left
    simp only [am_s] at hs ⊢
    split at hs
    · rename_i k a r'
      by_cases ha : a = b
      · rw [ha, hb] at hs; cases hs
      · rw [am_cut_ne ha]; exact hs
    · cases hs
  | arraylength =>
    simp only [am_s] at hs
    split at hs
    · rename_i a r'
      by_cases ha : a = b
      · right; right
        subst ha
        rw [hb] at hs
        exact ⟨rfl, r', rfl, (Option.some.inj hs).symm⟩
      · left
        simp only [am_s]
        rw [am_cut_ne ha]; exact hs
    · cases hs
  | _ => exact .inl hs
theorem am_ca_cut {b L : Nat} {xs : Nat → Int32} {i : Instr} {x y : Nat} {st : List Value} {h : am_H} {r : List Value × List Value} (hs : am_ca i x y st h = some r) (hb : h.1 b = some (.inl (0, L, .inl xs))) : am_ca i x y st (am_cut b h) = some r := by
  cases i with
  | invokevirtual k =>
    simp only [am_ca] at hs ⊢
    have : ∀ {o}, am_cv (am_pop y st []) x h = some o → am_cv (am_pop y st []) x (am_cut b h) = some o := by
      intro o ho
      unfold am_cv at ho ⊢
      split at ho
      · rename_i a t st' hp
        split at ho
        · rename_i hko
          have ha : a ≠ b := fun q => by rw [q, hb] at hko; cases hko
          rw [if_pos (by rw [am_cut_ne ha]; exact hko)]
          exact ho
        · cases ho
      · cases ho
    cases hcv : am_cv (am_pop y st []) x h with
    | none => rw [hcv] at hs; cases hs
    | some o => rw [this hcv, ← hcv]; exact hs
  | _ => exact hs
def am_isW (i : Instr) : Bool := match i with
  | .putfield _ => true
  | .iastore => true
  | .bastore => true
  | .aastore => true
  | .invokestatic _ => true
  | _ => false
theorem am_w_no {z : Nat} {i : Instr} {x y : Nat} {st : List Value} {h : am_H} (hi : am_isW i = false) : am_w z i x y st h = none := by
  cases i <;> first | rfl | cases hi
theorem am_cut_nw {b : Nat} {h : am_H} {e : am_E} {k : Nat} (hb : b < h.2.1) : am_cut b (am_nw h e k) = am_nw (am_cut b h) e k := by
  refine Prod.ext ?_ rfl
  funext a
  show (if a = b then none else if a = h.2.1 then some e else h.1 a) = if a = h.2.1 then some e else if a = b then none else h.1 a
  by_cases ha : a = b
  · rw [if_pos ha, if_neg (by omega), if_pos ha]
  · rw [if_neg ha, if_neg ha]
end AMX
section AMZ
variable {p : Program} {l : Launch} {e : Env} {R : Room} {s : State} {m : MethodId} {args : Array Value} {below : List Frame} {meth : Method} {c : Code} {Q : State → Prop}
variable {D : va_G} {cA : Nat → ClassId} {j : Nat} {z : Nat}
set_option maxHeartbeats 4000000 in
theorem am_walkX (hc : am_cx p c meth j s m args D cA) {d : Nat} (hRf : d + 1 ≤ R.frames) (hRl : 40 * d + 40 ≤ R.locals) {c0 s0 : Nat} {r : Option Value} {h' : am_H} (hRc : h'.2.1 - c0 ≤ R.cells) (hRs : h'.2.2 - s0 ≤ R.slots) {b L : Nat} {xs : Nat → Int32} (hX : va_X b L xs s s.heap) (hbl : b < s.heap.size) (hbz : b < z)
    (hnw : ∀ pc i l' x y cc ts, am_cd j pc = some (i, l', x, y, cc, ts) → am_isW i = false)
    (hend : ∀ (pc : Nat) (i : Instr) (ls : Array Slot) (H : Heap) (locs : List Loc) (st : List Value), decode (am_by j) pc = .ok (i, 1) → am_rt (am_ret j) i st = some r → va_S (fun q => z ≤ q) s.heap H locs → W p l e R s m args below meth c H locs (h'.2.1 - c0) (h'.2.2 - s0) Q (F0 m pc ls st)) :
    ∀ (n pc : Nat) (lo : am_L) (st : List Value) (h : am_H) (H : Heap) (locs : List Loc) (ls : Array Slot), am_run z (am_Cx z d b L xs) j n pc lo st h r h' → am_rl (am_mx j) ls lo → h.1 b = some (.inl (0, L, .inl xs)) → am_W D cA (am_cut b h) H → va_S (fun q => z ≤ q) s.heap H locs → b < h.2.1 → c0 ≤ h.2.1 → s0 ≤ h.2.2 → W p l e R s m args below meth c H locs (h.2.1 - c0) (h.2.2 - s0) Q (F0 m pc ls st) := by
  intro n
  induction n with
  | zero => intro pc lo st h H locs ls hn; exact hn.elim
  | succ n ih =>
    intro pc lo st h H locs ls hn hl hsb hW hS hbh hc0 hs0
    have hmono := am_run_mono am_Cx_mono (n + 1) _ _ _ _ _ _ hn
    unfold am_run at hn
    split at hn
    · exact hn.elim
    · rename_i i l' x y cc ts hcd
      obtain ⟨hd, hv⟩ := am_all hcd
      split at hn
      · rename_i v hrt
        obtain ⟨rfl, rfl⟩ := hn
        have hl1 : l' = 1 := by
          cases i <;> first | (simp only [am_vb, decide_eq_true_eq] at hv; exact hv) | (simp [am_rt] at hrt)
        subst hl1
        exact hend pc i ls H locs st hd hrt hS
      · split at hn
        · rename_i av st' hca
          obtain ⟨v, h1, ⟨g1, rfl, hg1, hm⟩, hn⟩ := hn
          have q1 := am_M_mono d _ _ _ _ _ hm
          have q2 := am_run_mono am_Cx_mono n _ _ _ _ _ _ hn
          have q1' : h.2.1 ≤ g1.2.1 ∧ h.2.2 ≤ g1.2.2 := q1
          have q2' : g1.2.1 ≤ h'.2.1 ∧ g1.2.2 ≤ h'.2.2 := q2
          refine am_cc hc hRf hRl hd hv (am_ca_cut hca hsb) hl hW hS (mc := g1.2.1 - h.2.1) (ms := g1.2.2 - h.2.2) (by omega) (by omega) (am_sound l D cA z d x av (am_cut b h) v g1 hm) (fun H' locs' hW' hS' => ?_)
          have k := ih _ _ _ _ H' locs' ls hn hl (am_sc_b hg1) (by rw [am_cut_jn hg1]; exact hW') hS' (by show b < g1.2.1; omega) (by show c0 ≤ g1.2.1; omega) (by show s0 ≤ g1.2.2; omega)
          have k : W p l e R s m args below meth c H' locs' (g1.2.1 - c0) (g1.2.2 - s0) Q (F0 m (pc + l') ls (v.toList ++ st')) := k
          rw [show h.2.1 - c0 + (g1.2.1 - h.2.1) = g1.2.1 - c0 by omega, show h.2.2 - s0 + (g1.2.2 - h.2.2) = g1.2.2 - s0 by omega]
          exact k
        · rw [am_w_no (hnw _ _ _ _ _ _ _ hcd)] at hn
          dsimp only at hn
          split at hn
          · rename_i st' en k hnn
            have q2 := am_run_mono am_Cx_mono n _ _ _ _ _ _ hn
            rw [am_nw_2] at q2
            dsimp only at q2
            refine am_nn hc hd hv hnn hW hS (by show h.2.1 - c0 + 1 ≤ _; omega) (by omega) (fun H' hW' hS' => ?_)
            have kq := ih _ _ _ _ H' locs ls hn hl (by rw [am_nw_ne _ _ _ (by omega)]; exact hsb) (by rw [am_cut_nw hbh]; exact hW') hS' (by rw [am_nw_2]; dsimp only; omega) (by rw [am_nw_2]; dsimp only; omega) (by rw [am_nw_2]; dsimp only; omega)
            rw [am_nw_2] at kq
            dsimp only at kq
            rw [show h.2.1 - c0 + 1 = h.2.1 + 1 - c0 by omega, show h.2.2 - s0 + k = h.2.2 + k - s0 by omega]
            exact kq
          · split at hn
            · rename_i q hq
              rcases am_s_cut hq hsb with hq' | ⟨hi, k, rest, hst, hin, hr⟩ | ⟨hi, rest, hst, hr⟩
              · exact am_ss hc ⟨by omega, by omega⟩ ⟨by omega, by omega⟩ hd hv hq' hl hW (fun ls' hl' => ih _ _ _ _ H locs ls' hn hl' hsb hW hS hbh hc0 hs0)
              · subst hi
                subst hst
                have hl1 : l' = 1 := by simp only [am_vb, decide_eq_true_eq] at hv; exact hv
                subst hl1
                rw [hr] at hn
                exact va_sld hc.1 hc.2.1 hX hbl (by show ¬ z ≤ b; omega) hS hin hd (ih _ _ _ _ H locs ls hn hl hsb hW hS hbh hc0 hs0)
              · subst hi
                subst hst
                have hl1 : l' = 1 := by simp only [am_vb, decide_eq_true_eq] at hv; exact hv
                subst hl1
                rw [hr] at hn
                exact va_slen hc.1 hc.2.1 hX hbl (by show ¬ z ≤ b; omega) hS hd (ih _ _ _ _ H locs ls hn hl hsb hW hS hbh hc0 hs0)
            · exact hn.elim
end AMZ
