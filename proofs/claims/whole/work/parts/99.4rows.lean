section BMR
abbrev am_T : Type := Nat → List Value → am_H → Option Value → am_H → Prop
def bm_R (C : am_T) (z j pc : Nat) (lo : am_L) (st : List Value) (h : am_H) (r : Option Value) (h' : am_H) : Prop := ∃ n, am_run z C j n pc lo st h r h'
def bm_CL (C : am_T) (z j x : Nat) (av : List Value) (pc : Nat) (lo : am_L) (st : List Value) (h : am_H) (r : Option Value) (h' : am_H) : Prop := ∃ v h1, C x av h v h1 ∧ bm_R C z j pc lo (v.toList ++ st) h1 r h'
def bm_K (C : am_T) (z j : Nat) (o : Option am_C) (h : am_H) (r : Option Value) (h' : am_H) : Prop := match o with
  | some q => bm_R C z j q.1 q.2.1 q.2.2 h r h'
  | none => False
def bm_KC (C : am_T) (z j x pc : Nat) (lo : am_L) (o : Option (List Value × List Value)) (h : am_H) (r : Option Value) (h' : am_H) : Prop := match o with
  | some (av, st') => bm_CL C z j x av pc lo st' h r h'
  | none => False
def bm_KW (C : am_T) (z j pc : Nat) (lo : am_L) (o : Option (List Value × Nat × am_E)) (h : am_H) (r : Option Value) (h' : am_H) : Prop := match o with
  | some (st', a, e) => bm_R C z j pc lo st' (am_up h a e) r h'
  | none => False
def bm_KN (C : am_T) (z j pc : Nat) (lo : am_L) (o : Option (List Value × am_E × Nat)) (h : am_H) (r : Option Value) (h' : am_H) : Prop := match o with
  | some (st', e, k) => bm_R C z j pc lo (.ref h.2.1 :: st') (am_nw h e k) r h'
  | none => False
def bm_X (C : am_T) (z j : Nat) (o : Option am_I) (pc : Nat) (lo : am_L) (st : List Value) (h : am_H) (r : Option Value) (h' : am_H) : Prop := match o with
  | none => False
  | some (i, l, x, y, c, ts) => match am_rt (am_ret j) i st with
    | some v => r = v ∧ h' = h
    | none => match am_ca i x y st h with
      | some (av, st') => bm_CL C z j x av (pc + l) lo st' h r h'
      | none => match am_w z i x y st h with
        | some (st', a, e) => bm_R C z j (pc + l) lo st' (am_up h a e) r h'
        | none => match am_n i x y st with
          | some (st', e, k) => bm_R C z j (pc + l) lo (.ref h.2.1 :: st') (am_nw h e k) r h'
          | none => bm_K C z j (am_s i x y c ts (pc + l) lo st h) h r h'
theorem bm_R_iff (C : am_T) (z j pc : Nat) (lo : am_L) (st : List Value) (h : am_H) (r : Option Value) (h' : am_H) : bm_R C z j pc lo st h r h' ↔ bm_X C z j (am_cd j pc) pc lo st h r h' := by
  constructor
  · rintro ⟨n, hn⟩
    cases n with
    | zero => exact hn.elim
    | succ n =>
      unfold am_run at hn
      unfold bm_X
      cases hc : am_cd j pc with
      | none => rw [hc] at hn; exact hn.elim
      | some q =>
        obtain ⟨i, l, x, y, c, ts⟩ := q
        rw [hc] at hn
        dsimp only at hn ⊢
        cases hrt : am_rt (am_ret j) i st with
        | some v => rw [hrt] at hn; exact hn
        | none =>
          rw [hrt] at hn
          dsimp only at hn ⊢
          cases hca : am_ca i x y st h with
          | some q =>
            obtain ⟨av, st'⟩ := q
            rw [hca] at hn
            obtain ⟨v, h1, a, b⟩ := hn
            exact ⟨v, h1, a, n, b⟩
          | none =>
            rw [hca] at hn
            dsimp only at hn ⊢
            cases hw : am_w z i x y st h with
            | some q =>
              obtain ⟨st', a, e⟩ := q
              rw [hw] at hn
              exact ⟨n, hn⟩
            | none =>
              rw [hw] at hn
              dsimp only at hn ⊢
              cases hnw : am_n i x y st with
              | some q =>
                obtain ⟨st', e, k⟩ := q
                rw [hnw] at hn
                exact ⟨n, hn⟩
              | none =>
                rw [hnw] at hn
                dsimp only at hn ⊢
                cases hs : am_s i x y c ts (pc + l) lo st h with
                | some q =>
                  rw [hs] at hn
                  exact ⟨n, hn⟩
                | none =>
                  rw [hs] at hn
                  exact hn.elim
  · intro hn
    unfold bm_X at hn
    split at hn
    · exact hn.elim
    · rename_i i l x y c ts hc
      split at hn
      · rename_i v hv
        exact ⟨1, by unfold am_run; rw [hc]; dsimp only; rw [hv]; exact hn⟩
      · rename_i hv
        split at hn
        · rename_i av st' hv2
          obtain ⟨v, h1, a, n, b⟩ := hn
          exact ⟨n + 1, by unfold am_run; rw [hc]; dsimp only; rw [hv]; dsimp only; rw [hv2]; exact ⟨v, h1, a, b⟩⟩
        · rename_i hv2
          split at hn
          · rename_i hv3
            obtain ⟨n, b⟩ := hn
            exact ⟨n + 1, by unfold am_run; rw [hc]; dsimp only; rw [hv]; dsimp only; rw [hv2]; dsimp only; rw [hv3]; exact b⟩
          · rename_i hv3
            split at hn
            · rename_i hv4
              obtain ⟨n, b⟩ := hn
              exact ⟨n + 1, by unfold am_run; rw [hc]; dsimp only; rw [hv]; dsimp only; rw [hv2]; dsimp only; rw [hv3]; dsimp only; rw [hv4]; exact b⟩
            · rename_i hv4
              unfold bm_K at hn
              split at hn
              · rename_i hv5
                obtain ⟨n, b⟩ := hn
                exact ⟨n + 1, by unfold am_run; rw [hc]; dsimp only; rw [hv]; dsimp only; rw [hv2]; dsimp only; rw [hv3]; dsimp only; rw [hv4]; dsimp only; rw [hv5]; exact b⟩
              · exact hn.elim
theorem bm_R_eq (C : am_T) (z j pc : Nat) (lo : am_L) (st : List Value) (h : am_H) (r : Option Value) (h' : am_H) : bm_R C z j pc lo st h r h' = bm_X C z j (am_cd j pc) pc lo st h r h' := propext (bm_R_iff ..)
theorem bm_CL_of {C : am_T} {z j x : Nat} {av : List Value} {pc : Nat} {lo : am_L} {st : List Value} {h h1 : am_H} {v r : Option Value} {h' : am_H} (hm : C x av h v h1) (k : bm_R C z j pc lo (v.toList ++ st) h1 r h') : bm_CL C z j x av pc lo st h r h' := ⟨v, h1, hm, k⟩
theorem ry_aload_n (C : am_T) (z j l x y pc : Nat) (c : Int32) (ts : List Nat) (lo : am_L) (st : List Value) (h : am_H) (r : Option Value) (h' : am_H) (k : Fin 4) : bm_X C z j (some (.aload_n k, l, x, y, c, ts)) pc lo st h r h' = bm_K C z j (am_pR (am_ld lo x) (pc + l) lo st) h r h' := rfl
theorem ry_arraylength (C : am_T) (z j l x y pc : Nat) (c : Int32) (ts : List Nat) (lo : am_L) (st : List Value) (h : am_H) (r : Option Value) (h' : am_H) (a : Nat) : bm_X C z j (some (.arraylength, l, x, y, c, ts)) pc lo (.ref a :: st) h r h' = bm_K C z j (am_pN (am_ln (h.1 a)) (pc + l) lo st) h r h' := rfl
theorem ry_astore_n (C : am_T) (z j l x y pc : Nat) (c : Int32) (ts : List Nat) (lo : am_L) (st : List Value) (h : am_H) (r : Option Value) (h' : am_H) (k : Fin 4) : bm_X C z j (some (.astore_n k, l, x, y, c, ts)) pc lo st h r h' = bm_K C z j (am_sR x (pc + l) lo st) h r h' := rfl
theorem ry_bipush (C : am_T) (z j l x y pc : Nat) (c : Int32) (ts : List Nat) (lo : am_L) (st : List Value) (h : am_H) (r : Option Value) (h' : am_H) (k : Int) : bm_X C z j (some (.bipush k, l, x, y, c, ts)) pc lo st h r h' = bm_R C z j (pc + l) lo (.int c :: st) h r h' := rfl
theorem ry_dup_i (C : am_T) (z j l x y pc : Nat) (c : Int32) (ts : List Nat) (lo : am_L) (st : List Value) (h : am_H) (r : Option Value) (h' : am_H) (a : Int32) : bm_X C z j (some (.dup, l, x, y, c, ts)) pc lo (.int a :: st) h r h' = bm_R C z j (pc + l) lo (.int a :: .int a :: st) h r h' := rfl
theorem ry_dup_r (C : am_T) (z j l x y pc : Nat) (c : Int32) (ts : List Nat) (lo : am_L) (st : List Value) (h : am_H) (r : Option Value) (h' : am_H) (a : Nat) : bm_X C z j (some (.dup, l, x, y, c, ts)) pc lo (.ref a :: st) h r h' = bm_R C z j (pc + l) lo (.ref a :: .ref a :: st) h r h' := rfl
theorem ry_goto (C : am_T) (z j l x y pc : Nat) (c : Int32) (ts : List Nat) (lo : am_L) (st : List Value) (h : am_H) (r : Option Value) (h' : am_H) (o : Int) : bm_X C z j (some (.goto o, l, x, y, c, ts)) pc lo st h r h' = bm_R C z j x lo st h r h' := rfl
theorem ry_iadd (C : am_T) (z j l x y pc : Nat) (c : Int32) (ts : List Nat) (lo : am_L) (st : List Value) (h : am_H) (r : Option Value) (h' : am_H) (a b : Int32) : bm_X C z j (some (.iadd, l, x, y, c, ts)) pc lo (.int b :: .int a :: st) h r h' = bm_R C z j (pc + l) lo (.int (a + b) :: st) h r h' := rfl
theorem ry_iaload (C : am_T) (z j l x y pc : Nat) (c : Int32) (ts : List Nat) (lo : am_L) (st : List Value) (h : am_H) (r : Option Value) (h' : am_H) (i : Int32) (a : Nat) : bm_X C z j (some (.iaload, l, x, y, c, ts)) pc lo (.int i :: .ref a :: st) h r h' = bm_K C z j (am_pV (am_ri 0 (h.1 a) i) (pc + l) lo st) h r h' := rfl
theorem ry_iand (C : am_T) (z j l x y pc : Nat) (c : Int32) (ts : List Nat) (lo : am_L) (st : List Value) (h : am_H) (r : Option Value) (h' : am_H) (a b : Int32) : bm_X C z j (some (.iand, l, x, y, c, ts)) pc lo (.int b :: .int a :: st) h r h' = bm_R C z j (pc + l) lo (.int (a &&& b) :: st) h r h' := rfl
theorem ry_iconst (C : am_T) (z j l x y pc : Nat) (c : Int32) (ts : List Nat) (lo : am_L) (st : List Value) (h : am_H) (r : Option Value) (h' : am_H) (k : Int) : bm_X C z j (some (.iconst k, l, x, y, c, ts)) pc lo st h r h' = bm_R C z j (pc + l) lo (.int c :: st) h r h' := rfl
theorem ry_icmp_eq (C : am_T) (z j l x y pc : Nat) (c : Int32) (ts : List Nat) (lo : am_L) (st : List Value) (h : am_H) (r : Option Value) (h' : am_H) (a b : Int32) (o : Int) : bm_X C z j (some (.if_icmp .eq o, l, x, y, c, ts)) pc lo (.int b :: .int a :: st) h r h' = if a = b then bm_R C z j x lo st h r h' else bm_R C z j (pc + l) lo st h r h' := by
  show bm_R C z j (if am_c2f .eq a b = true then x else pc + l) lo st h r h' = _
  by_cases q : a = b <;> simp [am_c2f, q]
theorem ry_icmp_gt (C : am_T) (z j l x y pc : Nat) (c : Int32) (ts : List Nat) (lo : am_L) (st : List Value) (h : am_H) (r : Option Value) (h' : am_H) (a b : Int32) (o : Int) : bm_X C z j (some (.if_icmp .gt o, l, x, y, c, ts)) pc lo (.int b :: .int a :: st) h r h' = if b < a then bm_R C z j x lo st h r h' else bm_R C z j (pc + l) lo st h r h' := by
  show bm_R C z j (if am_c2f .gt a b = true then x else pc + l) lo st h r h' = _
  by_cases q : b < a <;> simp [am_c2f, q]
theorem ry_iinc (C : am_T) (z j l x y pc : Nat) (c : Int32) (ts : List Nat) (lo : am_L) (st : List Value) (h : am_H) (r : Option Value) (h' : am_H) (k : Nat) (n : Int) : bm_X C z j (some (.iinc k n, l, x, y, c, ts)) pc lo st h r h' = bm_K C z j (am_inc (am_ld lo x) c x (pc + l) lo st) h r h' := rfl
theorem ry_iload_n (C : am_T) (z j l x y pc : Nat) (c : Int32) (ts : List Nat) (lo : am_L) (st : List Value) (h : am_H) (r : Option Value) (h' : am_H) (k : Fin 4) : bm_X C z j (some (.iload_n k, l, x, y, c, ts)) pc lo st h r h' = bm_K C z j (am_pI (am_ld lo x) (pc + l) lo st) h r h' := rfl
theorem ry_invi (C : am_T) (z j l x y pc : Nat) (c : Int32) (ts : List Nat) (lo : am_L) (st : List Value) (h : am_H) (r : Option Value) (h' : am_H) (k : Nat) (hy : y < 90) : bm_X C z j (some (.invokespecial k, l, x, y, c, ts)) pc lo st h r h' = bm_KC C z j x (pc + l) lo (am_k (am_cs (am_pop y st []))) h r h' := by
  have h0 : ¬ y = 99 := by omega
  cases hk : am_k (am_cs (am_pop y st [])) with
  | some q => simp only [bm_X, am_rt, am_ca, hy, if_true, hk, bm_KC]
  | none =>
    simp only [bm_X, am_rt, am_ca, hy, if_true, hk, bm_KC, am_n, am_w]
    have hw : am_s (.invokespecial k) x y c ts (pc + l) lo st h = none := by
      simp only [am_s, h0, false_and, if_false]
      split <;> rfl
    rw [hw]
    rfl
theorem ry_invv (C : am_T) (z j l x y pc : Nat) (c : Int32) (ts : List Nat) (lo : am_L) (st : List Value) (h : am_H) (r : Option Value) (h' : am_H) (k : Nat) : bm_X C z j (some (.invokevirtual k, l, x, y, c, ts)) pc lo st h r h' = bm_KC C z j x (pc + l) lo (am_k (am_cv (am_pop y st []) x h)) h r h' := by
  simp only [bm_X, am_rt, am_ca, bm_KC, am_w, am_n, am_s, bm_K]
theorem ry_ireturn (C : am_T) (z j l x y pc : Nat) (c : Int32) (ts : List Nat) (lo : am_L) (h : am_H) (r : Option Value) (h' : am_H) (v : Int32) : bm_X C z j (some (.ireturn, l, x, y, c, ts)) pc lo [.int v] h r h' = (if am_ret j = 1 ∨ (am_ret j = 2 ∧ v &&& 1 = v) then (r = some (.int v) ∧ h' = h) else False) := by
  by_cases q : am_ret j = 1 ∨ (am_ret j = 2 ∧ v &&& 1 = v)
  · simp only [bm_X, am_rt, q, if_true]
  · simp only [bm_X, am_rt, q, if_false, am_ca, am_w, am_n, am_s, bm_K]
theorem ry_istore_n (C : am_T) (z j l x y pc : Nat) (c : Int32) (ts : List Nat) (lo : am_L) (st : List Value) (h : am_H) (r : Option Value) (h' : am_H) (k : Fin 4) : bm_X C z j (some (.istore_n k, l, x, y, c, ts)) pc lo st h r h' = bm_K C z j (am_sI x (pc + l) lo st) h r h' := rfl
theorem ry_isub (C : am_T) (z j l x y pc : Nat) (c : Int32) (ts : List Nat) (lo : am_L) (st : List Value) (h : am_H) (r : Option Value) (h' : am_H) (a b : Int32) : bm_X C z j (some (.isub, l, x, y, c, ts)) pc lo (.int b :: .int a :: st) h r h' = bm_R C z j (pc + l) lo (.int (a - b) :: st) h r h' := rfl
theorem ry_new (C : am_T) (z j l x y pc : Nat) (c : Int32) (ts : List Nat) (lo : am_L) (st : List Value) (h : am_H) (r : Option Value) (h' : am_H) (k : Nat) : bm_X C z j (some (.new k, l, x, y, c, ts)) pc lo st h r h' = bm_R C z j (pc + l) lo (.ref h.2.1 :: st) (am_nw h (.inr (x, am_df x)) y) r h' := rfl
theorem ry_tableswitch (C : am_T) (z j l x y pc : Nat) (c : Int32) (ts : List Nat) (lo : am_L) (st : List Value) (h : am_H) (r : Option Value) (h' : am_H) (o1 o2 o3 : Int) (o4 : Array Int) (a : Int32) : bm_X C z j (some (.tableswitch o1 o2 o3 o4, l, x, y, c, ts)) pc lo (.int a :: st) h r h' = bm_R C z j (if a < 0 ∨ ts.length ≤ a.toNatClampNeg then x else am_tn ts a.toNatClampNeg x) lo st h r h' := rfl
theorem ew_K (C : am_T) (z j q : Nat) (lo : am_L) (st : List Value) (h : am_H) (r : Option Value) (h' : am_H) : bm_K C z j (some (q, lo, st)) h r h' = bm_R C z j q lo st h r h' := rfl
theorem ew_KC (C : am_T) (z j x pc : Nat) (lo : am_L) (av st : List Value) (h : am_H) (r : Option Value) (h' : am_H) : bm_KC C z j x pc lo (some (av, st)) h r h' = bm_CL C z j x av pc lo st h r h' := rfl
end BMR
