def am_jn (h : am_H) (G : Nat → Option am_E) : am_H := (fun a => match h.1 a with | some e => some e | none => G a, h.2)
theorem am_jn_some {h : am_H} {G : Nat → Option am_E} {a : Nat} {e : am_E} (he : h.1 a = some e) : (am_jn h G).1 a = some e := by simp only [am_jn, he]
theorem am_jn_none {h : am_H} {G : Nat → Option am_E} {a : Nat} (he : h.1 a = none) : (am_jn h G).1 a = G a := by simp only [am_jn, he]
theorem am_jn_up (h : am_H) (G : Nat → Option am_E) (a : Nat) (e : am_E) : am_up (am_jn h G) a e = am_jn (am_up h a e) G := by
  unfold am_up am_jn
  congr 1
  funext q
  by_cases hq : q = a <;> simp [hq]
theorem am_jn_nw (h : am_H) (G : Nat → Option am_E) (e : am_E) (n : Nat) : am_nw (am_jn h G) e n = am_jn (am_nw h e n) G := by
  unfold am_nw am_jn
  congr 1
  funext q
  by_cases hq : q = h.2.1 <;> simp [hq]
theorem am_jn_2 (h : am_H) (G : Nat → Option am_E) : (am_jn h G).2 = h.2 := rfl
theorem am_gf_jn {h : am_H} {G : Nat → Option am_E} {a x y : Nat} {v : Value} (hv : am_gf (h.1 a) x y = some v) : am_gf ((am_jn h G).1 a) x y = some v := by
  cases hh : h.1 a with
  | none => rw [hh] at hv; cases hv
  | some e => rw [am_jn_some hh, ← hh]; exact hv
theorem am_ri_jn {h : am_H} {G : Nat → Option am_E} {a t : Nat} {i : Int32} {v : Value} (hv : am_ri t (h.1 a) i = some v) : am_ri t ((am_jn h G).1 a) i = some v := by
  cases hh : h.1 a with
  | none => rw [hh] at hv; cases hv
  | some e => rw [am_jn_some hh, ← hh]; exact hv
theorem am_rq_jn {h : am_H} {G : Nat → Option am_E} {a : Nat} {i : Int32} {v : Value} (hv : am_rq (h.1 a) i = some v) : am_rq ((am_jn h G).1 a) i = some v := by
  cases hh : h.1 a with
  | none => rw [hh] at hv; cases hv
  | some e => rw [am_jn_some hh, ← hh]; exact hv
theorem am_ln_jn {h : am_H} {G : Nat → Option am_E} {a : Nat} {v : Int32} (hv : am_ln (h.1 a) = some v) : am_ln ((am_jn h G).1 a) = some v := by
  cases hh : h.1 a with
  | none => rw [hh] at hv; cases hv
  | some e => rw [am_jn_some hh, ← hh]; exact hv
theorem am_pV_jn {o o' : Option Value} {q : Nat} {lo : am_L} {st : List Value} {c : am_C} (h : am_pV o q lo st = some c) (ho : ∀ v, o = some v → o' = some v) : am_pV o' q lo st = some c := by
  cases o with
  | none => cases h
  | some v => rw [ho v rfl]; exact h
theorem am_s_jn {i : Instr} {x y : Nat} {c : Int32} {ts : List Nat} {q : Nat} {lo : am_L} {st : List Value} {h : am_H} {G : Nat → Option am_E} {r : am_C} (hs : am_s i x y c ts q lo st h = some r) : am_s i x y c ts q lo st (am_jn h G) = some r := by
  cases i with
  | getfield k =>
    simp only [am_s] at hs ⊢
    split at hs
    · exact am_pV_jn hs (fun v hv => am_gf_jn hv)
    · cases hs
  | iaload =>
    simp only [am_s] at hs ⊢
    split at hs
    · exact am_pV_jn hs (fun v hv => am_ri_jn hv)
    · cases hs
  | baload =>
    simp only [am_s] at hs ⊢
    split at hs
    · exact am_pV_jn hs (fun v hv => am_ri_jn hv)
    · cases hs
  | aaload =>
    simp only [am_s] at hs ⊢
    split at hs
    · exact am_pV_jn hs (fun v hv => am_rq_jn hv)
    · cases hs
  | arraylength =>
    simp only [am_s] at hs ⊢
    split at hs
    · rename_i a r
      unfold am_pN at hs ⊢
      split at hs
      · rename_i w hw
        rw [am_ln_jn hw]
        exact hs
      · cases hs
    · cases hs
  | _ => exact hs
theorem am_ko_jn {h : am_H} {G : Nat → Option am_E} {a k : Nat} (hv : am_ko (h.1 a) = some k) : am_ko ((am_jn h G).1 a) = some k := by
  cases hh : h.1 a with
  | none => rw [hh] at hv; cases hv
  | some e => rw [am_jn_some hh, ← hh]; exact hv
theorem am_ca_jn {i : Instr} {x y : Nat} {st : List Value} {h : am_H} {G : Nat → Option am_E} {r : List Value × List Value} (hs : am_ca i x y st h = some r) : am_ca i x y st (am_jn h G) = some r := by
  cases i with
  | invokevirtual k =>
    simp only [am_ca] at hs ⊢
    have : ∀ {o}, am_cv (am_pop y st []) x h = some o → am_cv (am_pop y st []) x (am_jn h G) = some o := by
      intro o ho
      unfold am_cv at ho ⊢
      split at ho
      · split at ho
        · rename_i hko
          rw [if_pos (am_ko_jn hko)]
          exact ho
        · cases ho
      · cases ho
    cases hcv : am_cv (am_pop y st []) x h with
    | none => rw [hcv] at hs; cases hs
    | some o => rw [this hcv, ← hcv]; exact hs
  | _ => exact hs
theorem am_w1_jn {z a : Nat} {st : List Value} {o o' : Option am_E} {r : List Value × Nat × am_E} (h : am_w1 z a st o = some r) (ho : ∀ v, o = some v → o' = some v) : am_w1 z a st o' = some r := by
  cases o with
  | none => cases h
  | some v => rw [ho v rfl]; exact h
theorem am_w_jn {z : Nat} {i : Instr} {x y : Nat} {st : List Value} {h : am_H} {G : Nat → Option am_E} {r : List Value × Nat × am_E} (hs : am_w z i x y st h = some r) : am_w z i x y st (am_jn h G) = some r := by
  cases i with
  | putfield k =>
    simp only [am_w] at hs ⊢
    split at hs
    · split at hs
      · rename_i v a r' hok
        rw [if_pos hok]
        refine am_w1_jn hs (fun e he => ?_)
        cases hh : h.1 a with
        | none => rw [hh] at he; cases he
        | some e' => rw [am_jn_some hh, ← hh]; exact he
      · cases hs
    · cases hs
  | iastore =>
    simp only [am_w] at hs ⊢
    split at hs
    · rename_i v k a r'
      refine am_w1_jn hs (fun e he => ?_)
      cases hh : h.1 a with
      | none => rw [hh] at he; cases he
      | some e' => rw [am_jn_some hh, ← hh]; exact he
    · cases hs
  | bastore =>
    simp only [am_w] at hs ⊢
    split at hs
    · rename_i v k a r'
      refine am_w1_jn hs (fun e he => ?_)
      cases hh : h.1 a with
      | none => rw [hh] at he; cases he
      | some e' => rw [am_jn_some hh, ← hh]; exact he
    · cases hs
  | aastore =>
    simp only [am_w] at hs ⊢
    split at hs
    · rename_i v k a r'
      refine am_w1_jn hs (fun e he => ?_)
      cases hh : h.1 a with
      | none => rw [hh] at he; cases he
      | some e' =>
        rw [am_jn_some hh, ← hh]
        cases hv : h.1 v with
        | none =>
          exfalso
          rw [hv] at he
          unfold am_wq at he
          split at he
          · split at he
            · rename_i hc
              cases hc.2.2
            · cases he
          · cases he
        | some ev => rw [am_jn_some hv, ← hv]; exact he
    · cases hs
  | invokestatic k =>
    simp only [am_w] at hs ⊢
    split at hs
    · rename_i n dp b sp a r'
      split at hs
      · rename_i hc
        rw [if_pos hc]
        refine am_w1_jn hs (fun e he => ?_)
        cases hh : h.1 b with
        | none => rw [hh] at he; cases he
        | some e' => rw [am_jn_some hh, ← hh]; exact he
      · cases hs
    · cases hs
  | _ => exact hs
theorem am_caw_jn {z : Nat} {i : Instr} {x y : Nat} {st : List Value} {h : am_H} {G : Nat → Option am_E} (hs : am_ca i x y st h = none) (hn : ∃ r, am_w z i x y st h = some r) : am_ca i x y st (am_jn h G) = none := by
  cases i with
  | invokevirtual k => obtain ⟨r, hr⟩ := hn; cases hr
  | _ => exact hs
theorem am_can_jn {i : Instr} {x y : Nat} {st : List Value} {h : am_H} {G : Nat → Option am_E} (hs : am_ca i x y st h = none) (hn : ∃ r, am_n i x y st = some r) : am_ca i x y st (am_jn h G) = none := by
  cases i with
  | invokevirtual k => obtain ⟨r, hr⟩ := hn; cases hr
  | _ => exact hs
theorem am_cas_jn {i : Instr} {x y : Nat} {c : Int32} {ts : List Nat} {q : Nat} {lo : am_L} {st : List Value} {h : am_H} {G : Nat → Option am_E} (hs : am_ca i x y st h = none) (hn : ∃ r, am_s i x y c ts q lo st h = some r) : am_ca i x y st (am_jn h G) = none := by
  cases i with
  | invokevirtual k => obtain ⟨r, hr⟩ := hn; cases hr
  | _ => exact hs
theorem am_wn_jn {z : Nat} {i : Instr} {x y : Nat} {st : List Value} {h : am_H} {G : Nat → Option am_E} (hn : ∃ r, am_n i x y st = some r) : am_w z i x y st (am_jn h G) = none := by
  cases i with
  | new k => rfl
  | newarray t => rfl
  | anewarray k => rfl
  | _ => obtain ⟨r, hr⟩ := hn; exact absurd hr (by simp [am_n])
theorem am_ws_jn {z : Nat} {i : Instr} {x y : Nat} {c : Int32} {ts : List Nat} {q : Nat} {lo : am_L} {st : List Value} {h : am_H} {G : Nat → Option am_E} (hn : ∃ r, am_s i x y c ts q lo st h = some r) : am_w z i x y st (am_jn h G) = none := by
  cases i with
  | putfield k => obtain ⟨r, hr⟩ := hn; cases hr
  | iastore => obtain ⟨r, hr⟩ := hn; cases hr
  | bastore => obtain ⟨r, hr⟩ := hn; cases hr
  | aastore => obtain ⟨r, hr⟩ := hn; cases hr
  | invokestatic k =>
    obtain ⟨r, hr⟩ := hn
    have hy : ¬ y = 92 := by
      intro hy
      subst hy
      simp only [am_s] at hr
      rw [if_neg (by decide), if_neg (by decide)] at hr
      cases hr
    simp only [am_w, hy, false_and, if_false]
    split <;> rfl
  | _ => rfl
theorem am_run_jn {z : Nat} {C : Nat → List Value → am_H → Option Value → am_H → Prop} {G : Nat → Option am_E} (hC : ∀ x av h v h1, C x av h v h1 → C x av (am_jn h G) v (am_jn h1 G)) {j : Nat} : ∀ (n pc : Nat) (lo : am_L) (st : List Value) (h : am_H) (r : Option Value) (h' : am_H), am_run z C j n pc lo st h r h' → am_run z C j n pc lo st (am_jn h G) r (am_jn h' G) := by
  intro n
  induction n with
  | zero => intro pc lo st h r h' hn; exact hn.elim
  | succ n ih =>
    intro pc lo st h r h' hn
    unfold am_run at hn ⊢
    cases hcd : am_cd j pc with
    | none => rw [hcd] at hn; exact hn.elim
    | some q =>
      obtain ⟨i, l, x, y, c, ts⟩ := q
      rw [hcd] at hn
      dsimp only at hn ⊢
      cases hrt : am_rt (am_ret j) i st with
      | some v =>
        rw [hrt] at hn
        obtain ⟨rfl, rfl⟩ := hn
        exact ⟨rfl, rfl⟩
      | none =>
        rw [hrt] at hn
        dsimp only at hn ⊢
        cases hca : am_ca i x y st h with
        | some q =>
          obtain ⟨av, st'⟩ := q
          rw [hca] at hn
          rw [am_ca_jn hca]
          obtain ⟨v, h1, a, b⟩ := hn
          exact ⟨v, am_jn h1 G, hC _ _ _ _ _ a, ih _ _ _ _ _ _ b⟩
        | none =>
          rw [hca] at hn
          dsimp only at hn
          cases hw : am_w z i x y st h with
          | some q =>
            obtain ⟨st', a, e⟩ := q
            rw [hw] at hn
            rw [am_caw_jn hca ⟨_, hw⟩]
            dsimp only
            rw [am_w_jn hw]
            dsimp only
            rw [am_jn_up]
            exact ih _ _ _ _ _ _ hn
          | none =>
            rw [hw] at hn
            dsimp only at hn
            cases hnw : am_n i x y st with
            | some q =>
              obtain ⟨st', e, k⟩ := q
              rw [hnw] at hn
              rw [am_can_jn hca ⟨_, hnw⟩]
              dsimp only
              rw [am_wn_jn ⟨_, hnw⟩]
              dsimp only
              rw [am_jn_nw]
              exact ih _ _ _ _ _ _ hn
            | none =>
              rw [hnw] at hn
              dsimp only at hn
              cases hs : am_s i x y c ts (pc + l) lo st h with
              | some q =>
                rw [hs] at hn
                rw [am_cas_jn hca ⟨_, hs⟩]
                dsimp only
                rw [am_ws_jn ⟨_, hs⟩]
                dsimp only
                rw [am_s_jn hs]
                exact ih _ _ _ _ _ _ hn
              | none =>
                rw [hs] at hn
                exact hn.elim
theorem am_M_jn {z : Nat} {G : Nat → Option am_E} : ∀ (d x : Nat) (av : List Value) (h : am_H) (v : Option Value) (h1 : am_H), am_M z d x av h v h1 → am_M z d x av (am_jn h G) v (am_jn h1 G) := by
  intro d
  induction d with
  | zero => intro x av h v h1 hm; exact hm.elim
  | succ d ih =>
    intro x av h v h1 hm
    obtain ⟨n, hn⟩ := hm
    exact ⟨n, am_run_jn ih n _ _ _ _ _ _ hn⟩
theorem am_run_up {z : Nat} {C C' : Nat → List Value → am_H → Option Value → am_H → Prop} (hC : ∀ x av h v h1, C x av h v h1 → C' x av h v h1) {j : Nat} : ∀ (n pc : Nat) (lo : am_L) (st : List Value) (h : am_H) (r : Option Value) (h' : am_H), am_run z C j n pc lo st h r h' → am_run z C' j n pc lo st h r h' := by
  intro n
  induction n with
  | zero => intro pc lo st h r h' hn; exact hn.elim
  | succ n ih =>
    intro pc lo st h r h' hn
    unfold am_run at hn ⊢
    cases hcd : am_cd j pc with
    | none => rw [hcd] at hn; exact hn.elim
    | some q =>
      obtain ⟨i, l, x, y, c, ts⟩ := q
      rw [hcd] at hn
      dsimp only at hn ⊢
      cases hrt : am_rt (am_ret j) i st with
      | some v =>
        rw [hrt] at hn
        exact hn
      | none =>
        rw [hrt] at hn
        dsimp only at hn ⊢
        cases hca : am_ca i x y st h with
        | some q =>
          obtain ⟨av, st'⟩ := q
          rw [hca] at hn
          obtain ⟨v, h1, a, b⟩ := hn
          exact ⟨v, h1, hC _ _ _ _ _ a, ih _ _ _ _ _ _ b⟩
        | none =>
          rw [hca] at hn
          dsimp only at hn ⊢
          cases hw : am_w z i x y st h with
          | some q =>
            obtain ⟨st', a, e⟩ := q
            rw [hw] at hn
            exact ih _ _ _ _ _ _ hn
          | none =>
            rw [hw] at hn
            dsimp only at hn ⊢
            cases hnw : am_n i x y st with
            | some q =>
              obtain ⟨st', e, k⟩ := q
              rw [hnw] at hn
              exact ih _ _ _ _ _ _ hn
            | none =>
              rw [hnw] at hn
              dsimp only at hn ⊢
              cases hs : am_s i x y c ts (pc + l) lo st h with
              | some q =>
                rw [hs] at hn
                exact ih _ _ _ _ _ _ hn
              | none =>
                rw [hs] at hn
                exact hn.elim
theorem am_M_up1 {z : Nat} : ∀ (d x : Nat) (av : List Value) (h : am_H) (v : Option Value) (h1 : am_H), am_M z d x av h v h1 → am_M z (d + 1) x av h v h1 := by
  intro d
  induction d with
  | zero => intro x av h v h1 hm; exact hm.elim
  | succ d ih =>
    intro x av h v h1 hm
    obtain ⟨n, hn⟩ := hm
    exact ⟨n, am_run_up ih n _ _ _ _ _ _ hn⟩
theorem am_M_up {z d d' x : Nat} {av : List Value} {h : am_H} {v : Option Value} {h1 : am_H} (hd : d ≤ d') (hm : am_M z d x av h v h1) : am_M z d' x av h v h1 := by
  obtain ⟨k, rfl⟩ := Nat.le.dest hd
  clear hd
  induction k with
  | zero => exact hm
  | succ k ih => exact am_M_up1 _ _ _ _ _ _ ih
