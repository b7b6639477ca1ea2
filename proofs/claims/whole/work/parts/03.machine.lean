abbrev am_E : Type := (Nat × vp_A) ⊕ (Nat × List Value)
abbrev am_H : Type := (Nat → Option am_E) × Nat × Nat
abbrev am_L : Type := List (Option Value)
def am_up (h : am_H) (a : Nat) (e : am_E) : am_H := (fun q => if q = a then some e else h.1 q, h.2)
def am_nw (h : am_H) (e : am_E) (n : Nat) : am_H := (fun q => if q = h.2.1 then some e else h.1 q, h.2.1 + 1, h.2.2 + n)
theorem am_up_at (h : am_H) (a : Nat) (e : am_E) : (am_up h a e).1 a = some e := by simp [am_up]
theorem am_up_ne (h : am_H) {a b : Nat} (e : am_E) (hb : b ≠ a) : (am_up h a e).1 b = h.1 b := by simp [am_up, hb]
theorem am_up_2 (h : am_H) (a : Nat) (e : am_E) : (am_up h a e).2 = h.2 := rfl
theorem am_nw_at (h : am_H) (e : am_E) (n : Nat) : (am_nw h e n).1 h.2.1 = some e := by simp [am_nw]
theorem am_nw_ne (h : am_H) {b : Nat} (e : am_E) (n : Nat) (hb : b ≠ h.2.1) : (am_nw h e n).1 b = h.1 b := by simp [am_nw, hb]
theorem am_nw_2 (h : am_H) (e : am_E) (n : Nat) : (am_nw h e n).2 = (h.2.1 + 1, h.2.2 + n) := rfl
def am_ld : am_L → Nat → Option Value
  | [], _ => none
  | v :: _, 0 => v
  | _ :: t, n + 1 => am_ld t n
def am_sv : am_L → Nat → Value → am_L
  | [], _, _ => []
  | _ :: t, 0, v => some v :: t
  | w :: t, n + 1, v => w :: am_sv t n v
def am_at : List Value → Nat → Option Value
  | [], _ => none
  | v :: _, 0 => some v
  | _ :: t, n + 1 => am_at t n
def am_st : List Value → Nat → Value → List Value
  | [], _, _ => []
  | _ :: t, 0, v => v :: t
  | w :: t, n + 1, v => w :: am_st t n v
def am_tn : List Nat → Nat → Nat → Nat
  | [], _, d => d
  | v :: _, 0, _ => v
  | _ :: t, n + 1, d => am_tn t n d
def am_gf (e : Option am_E) (ci k : Nat) : Option Value := match e with
  | some (.inr (c, fs)) => if c = ci then am_at fs k else none
  | _ => none
def am_pf (e : Option am_E) (ci k : Nat) (v : Value) : Option am_E := match e with
  | some (.inr (c, fs)) => if c = ci ∧ k < fs.length then some (.inr (c, am_st fs k v)) else none
  | _ => none
def am_ko (e : Option am_E) : Option Nat := match e with
  | some (.inr (c, _)) => some c
  | _ => none
def am_ix (i : Int32) (n : Nat) : Option Nat := if i < 0 ∨ n ≤ i.toNatClampNeg then none else some i.toNatClampNeg
def am_ri (t : Nat) (e : Option am_E) (i : Int32) : Option Value := match e with
  | some (.inl (c, n, .inl g)) => if c = t then (match am_ix i n with | some k => some (.int (g k)) | none => none) else none
  | _ => none
def am_rq (e : Option am_E) (i : Int32) : Option Value := match e with
  | some (.inl (c, n, .inr (.inr (.inr (.inr g))))) => if 2 ≤ c ∧ c < 4 then (match am_ix i n with | some k => (match g k with | some b => some (.ref b) | none => none) | none => none) else none
  | _ => none
def am_wi (t : Nat) (e : Option am_E) (i : Int32) (x : Int32) : Option am_E := match e with
  | some (.inl (c, n, .inl g)) => if c = t then (match am_ix i n with | some k => some (.inl (c, n, .inl (upd g k x))) | none => none) else none
  | _ => none
def am_wq (e : Option am_E) (i : Int32) (v : Nat) (ev : Option am_E) : Option am_E := match e with
  | some (.inl (c, n, .inr (.inr (.inr (.inr g))))) => if 2 ≤ c ∧ c < 4 ∧ am_ko ev = some (am_ec c) then (match am_ix i n with | some k => some (.inl (c, n, .inr (.inr (.inr (.inr (va_up g k (some v))))))) | none => none) else none
  | _ => none
def am_ln (e : Option am_E) : Option Int32 := match e with
  | some (.inl (c, n, _)) => if c < 4 then some (nI n) else none
  | _ => none
def am_pop : Nat → List Value → List Value → Option (List Value × List Value)
  | 0, st, acc => some (acc, st)
  | n + 1, v :: st, acc => am_pop n st (v :: acc)
  | _ + 1, [], _ => none
def am_rt (rt : Nat) (i : Instr) (st : List Value) : Option (Option Value) := match i with
  | .ireturn => (match st with | [.int v] => if rt = 1 ∨ (rt = 2 ∧ v &&& 1 = v) then some (some (.int v)) else none | _ => none)
  | .areturn => (match st with | [.ref a] => if rt = 3 then some (some (.ref a)) else none | _ => none)
  | .return_ => (match st with | [] => if rt = 0 then some none else none | _ => none)
  | _ => none
def am_g : Nat → List Value → Bool
  | _, [] => true
  | n + 1, .int _ :: t => am_g n t
  | n + 1, .ref _ :: t => am_g n t
  | _, _ => false
def am_k (o : Option (List Value × List Value)) : Option (List Value × List Value) := match o with
  | some (av, st') => if am_g 8 av = true ∧ am_g 8 st' = true then some (av, st') else none
  | none => none
def am_cv (o : Option (List Value × List Value)) (x : Nat) (h : am_H) : Option (List Value × List Value) := match o with
  | some (.ref a :: t, st') => if am_ko (h.1 a) = some (am_kl x) then some (.ref a :: t, st') else none
  | _ => none
def am_cs (o : Option (List Value × List Value)) : Option (List Value × List Value) := match o with
  | some (.ref a :: t, st') => some (.ref a :: t, st')
  | _ => none
def am_ca (i : Instr) (x y : Nat) (st : List Value) (h : am_H) : Option (List Value × List Value) := match i with
  | .invokevirtual _ => am_k (am_cv (am_pop y st []) x h)
  | .invokestatic _ => if y < 90 then am_k (am_pop y st []) else none
  | .invokespecial _ => if y < 90 then am_k (am_cs (am_pop y st [])) else none
  | _ => none
def am_w1 (z a : Nat) (st : List Value) (o : Option am_E) : Option (List Value × Nat × am_E) := match o with
  | some e => if z ≤ a then some (st, a, e) else none
  | none => none
def am_fok (x y : Nat) (v : Value) : Bool := match v with
  | .int w => match am_ft x y with
    | 0 => true
    | 1 => w &&& 1 == w
    | _ => false
  | .ref _ => am_ft x y == 2
  | _ => false
def am_cp (ed : Option am_E) (sp dp n : Int32) : Option am_E := match ed with
  | some (.inl (c1, n1, .inl g)) => if c1 = 0 ∧ ¬ sp < 0 ∧ ¬ dp < 0 ∧ ¬ n < 0 ∧ sp.toNatClampNeg + n.toNatClampNeg ≤ n1 ∧ dp.toNatClampNeg + n.toNatClampNeg ≤ n1 then some (.inl (0, n1, .inl (va_cpy g g sp.toNatClampNeg dp.toNatClampNeg n.toNatClampNeg))) else none
  | _ => none
def am_w (z : Nat) (i : Instr) (x y : Nat) (st : List Value) (h : am_H) : Option (List Value × Nat × am_E) := match i with
  | .putfield _ => (match st with | v :: .ref a :: r => if am_fok x y v = true then am_w1 z a r (am_pf (h.1 a) x y v) else none | _ => none)
  | .iastore => (match st with | .int v :: .int k :: .ref a :: r => am_w1 z a r (am_wi 0 (h.1 a) k v) | _ => none)
  | .bastore => (match st with | .int v :: .int k :: .ref a :: r => am_w1 z a r (am_wi 1 (h.1 a) k (v &&& 1)) | _ => none)
  | .aastore => (match st with | .ref v :: .int k :: .ref a :: r => am_w1 z a r (am_wq (h.1 a) k v (h.1 v)) | _ => none)
  | .invokestatic _ => (match st with | .int n :: .int dp :: .ref b :: .int sp :: .ref a :: r => if y = 92 ∧ a = b ∧ am_g 8 r = true then am_w1 z b r (am_cp (h.1 b) sp dp n) else none | _ => none)
  | _ => none
def am_n (i : Instr) (x y : Nat) (st : List Value) : Option (List Value × am_E × Nat) := match i with
  | .new _ => some (st, .inr (x, am_df x), y)
  | .newarray _ => (match st with | .int n :: r => if ¬ n < 0 ∧ n.toNatClampNeg ≤ 1000000 then some (r, .inl (x, n.toNatClampNeg, .inl (fun _ => 0)), n.toNatClampNeg) else none | _ => none)
  | .anewarray _ => (match st with | .int n :: r => if ¬ n < 0 ∧ n.toNatClampNeg ≤ 1000000 then some (r, .inl (x, n.toNatClampNeg, .inr (.inr (.inr (.inr (fun _ => none))))), n.toNatClampNeg) else none | _ => none)
  | _ => none
abbrev am_C : Type := Nat × am_L × List Value
def am_pI (v : Option Value) (q : Nat) (lo : am_L) (st : List Value) : Option am_C := match v with
  | some (.int w) => some (q, lo, .int w :: st)
  | _ => none
def am_pR (v : Option Value) (q : Nat) (lo : am_L) (st : List Value) : Option am_C := match v with
  | some (.ref w) => some (q, lo, .ref w :: st)
  | _ => none
def am_pV (v : Option Value) (q : Nat) (lo : am_L) (st : List Value) : Option am_C := match v with
  | some (.ref w) => some (q, lo, .ref w :: st)
  | some (.int w) => some (q, lo, .int w :: st)
  | _ => none
def am_pN (v : Option Int32) (q : Nat) (lo : am_L) (st : List Value) : Option am_C := match v with
  | some w => some (q, lo, .int w :: st)
  | none => none
def am_b2 (f : Int32 → Int32 → Int32) (q : Nat) (lo : am_L) (st : List Value) : Option am_C := match st with
  | .int b :: .int a :: r => some (q, lo, .int (f a b) :: r)
  | _ => none
def am_m2 (f : Int32 → Int32 → Int32) (q : Nat) (lo : am_L) (st : List Value) : Option am_C := match st with
  | .int b :: .int a :: r => if am_g 8 r = true then some (q, lo, .int (f a b) :: r) else none
  | _ => none
def am_d2 (f : Int32 → Int32 → Int32) (q : Nat) (lo : am_L) (st : List Value) : Option am_C := match st with
  | .int b :: .int a :: r => if b = 0 then none else some (q, lo, .int (f a b) :: r)
  | _ => none
def am_c1 (f : Int32 → Bool) (x q : Nat) (lo : am_L) (st : List Value) : Option am_C := match st with
  | .int a :: r => some (if f a = true then x else q, lo, r)
  | _ => none
def am_c2 (f : Int32 → Int32 → Bool) (x q : Nat) (lo : am_L) (st : List Value) : Option am_C := match st with
  | .int b :: .int a :: r => some (if f a b = true then x else q, lo, r)
  | _ => none
def am_cA (f : Nat → Nat → Bool) (x q : Nat) (lo : am_L) (st : List Value) : Option am_C := match st with
  | .ref b :: .ref a :: r => some (if f a b = true then x else q, lo, r)
  | _ => none
def am_sI (x q : Nat) (lo : am_L) (st : List Value) : Option am_C := match st with
  | .int a :: r => if x < lo.length then some (q, am_sv lo x (.int a), r) else none
  | _ => none
def am_sR (x q : Nat) (lo : am_L) (st : List Value) : Option am_C := match st with
  | .ref a :: r => if x < lo.length then some (q, am_sv lo x (.ref a), r) else none
  | _ => none
def am_inc (v : Option Value) (c : Int32) (x q : Nat) (lo : am_L) (st : List Value) : Option am_C := match v with
  | some (.int a) => some (q, am_sv lo x (.int (a + c)), st)
  | _ => none
def am_c1f (c : ClassFile.Cond) (a : Int32) : Bool := match c with
  | .eq => a = 0
  | .ne => a ≠ 0
  | .lt => a < 0
  | .ge => 0 ≤ a
  | .gt => 0 < a
  | .le => a ≤ 0
def am_c2f (c : ClassFile.Cond) (a b : Int32) : Bool := match c with
  | .eq => a = b
  | .ne => a ≠ b
  | .lt => a < b
  | .ge => b ≤ a
  | .gt => b < a
  | .le => a ≤ b
def am_caf (c : ClassFile.ACond) (a b : Nat) : Bool := match c with
  | .eq => a = b
  | .ne => a ≠ b
def am_sw (x q : Nat) (ts : List Nat) (lo : am_L) (st : List Value) : Option am_C := match st with
  | .int a :: r => some (if a < 0 ∨ ts.length ≤ a.toNatClampNeg then x else am_tn ts a.toNatClampNeg x, lo, r)
  | _ => none
def am_s (i : Instr) (x y : Nat) (c : Int32) (ts : List Nat) (q : Nat) (lo : am_L) (st : List Value) (h : am_H) : Option am_C := match i with
  | .iconst _ => some (q, lo, .int c :: st)
  | .bipush _ => some (q, lo, .int c :: st)
  | .sipush _ => some (q, lo, .int c :: st)
  | .iload_n _ => am_pI (am_ld lo x) q lo st
  | .iload _ => am_pI (am_ld lo x) q lo st
  | .aload_n _ => am_pR (am_ld lo x) q lo st
  | .aload _ => am_pR (am_ld lo x) q lo st
  | .istore_n _ => am_sI x q lo st
  | .istore _ => am_sI x q lo st
  | .astore_n _ => am_sR x q lo st
  | .astore _ => am_sR x q lo st
  | .iinc _ _ => am_inc (am_ld lo x) c x q lo st
  | .iadd => am_b2 (fun a b => a + b) q lo st
  | .isub => am_b2 (fun a b => a - b) q lo st
  | .imul => am_b2 (fun a b => a * b) q lo st
  | .iand => am_b2 (fun a b => a &&& b) q lo st
  | .ior => am_b2 (fun a b => a ||| b) q lo st
  | .ishl => am_b2 (fun a b => a <<< (b &&& 31)) q lo st
  | .ishr => am_b2 (fun a b => a >>> (b &&& 31)) q lo st
  | .idiv => am_d2 (fun a b => a / b) q lo st
  | .irem => am_d2 (fun a b => a - a / b * b) q lo st
  | .dup => (match st with | v :: r => if v.category = 1 then some (q, lo, v :: v :: r) else none | _ => none)
  | .pop => (match st with | v :: r => if v.category = 1 then some (q, lo, r) else none | _ => none)
  | .dup_x1 => (match st with | v :: w :: r => if v.category = 1 ∧ w.category = 1 then some (q, lo, v :: w :: v :: r) else none | _ => none)
  | .dup_x2 => (match st with | v :: w :: u :: r => if v.category = 1 ∧ w.category = 1 ∧ u.category = 1 then some (q, lo, v :: w :: u :: v :: r) else none | _ => none)
  | .dup2 => (match st with | v :: w :: r => if v.category = 1 ∧ w.category = 1 then some (q, lo, v :: w :: v :: w :: r) else none | _ => none)
  | .ifCond k _ => am_c1 (am_c1f k) x q lo st
  | .if_icmp k _ => am_c2 (am_c2f k) x q lo st
  | .if_acmp k _ => am_cA (am_caf k) x q lo st
  | .goto _ => some (x, lo, st)
  | .tableswitch _ _ _ _ => am_sw x q ts lo st
  | .getfield _ => (match st with | .ref a :: r => am_pV (am_gf (h.1 a) x y) q lo r | _ => none)
  | .iaload => (match st with | .int k :: .ref a :: r => am_pV (am_ri 0 (h.1 a) k) q lo r | _ => none)
  | .baload => (match st with | .int k :: .ref a :: r => am_pV (am_ri 1 (h.1 a) k) q lo r | _ => none)
  | .aaload => (match st with | .int k :: .ref a :: r => am_pV (am_rq (h.1 a) k) q lo r | _ => none)
  | .arraylength => (match st with | .ref a :: r => am_pN (am_ln (h.1 a)) q lo r | _ => none)
  | .invokespecial _ => (match st with | .ref _ :: r => if y = 99 ∧ am_g 8 r = true then some (q, lo, r) else none | _ => none)
  | .invokestatic _ => if y = 90 then am_m2 (fun a b => if a < b then b else a) q lo st else if y = 91 then am_m2 (fun a b => if b < a then b else a) q lo st else none
  | _ => none
def am_run (z : Nat) (C : Nat → List Value → am_H → Option Value → am_H → Prop) (j : Nat) : Nat → Nat → am_L → List Value → am_H → Option Value → am_H → Prop
  | 0, _, _, _, _, _, _ => False
  | n + 1, pc, lo, st, h, r, h' => match am_cd j pc with
    | none => False
    | some (i, l, x, y, c, ts) => match am_rt (am_ret j) i st with
      | some v => r = v ∧ h' = h
      | none => match am_ca i x y st h with
        | some (av, st') => ∃ v h1, C x av h v h1 ∧ am_run z C j n (pc + l) lo (v.toList ++ st') h1 r h'
        | none => match am_w z i x y st h with
          | some (st', a, e) => am_run z C j n (pc + l) lo st' (am_up h a e) r h'
          | none => match am_n i x y st with
            | some (st', e, k) => am_run z C j n (pc + l) lo (.ref h.2.1 :: st') (am_nw h e k) r h'
            | none => match am_s i x y c ts (pc + l) lo st h with
              | some q => am_run z C j n q.1 q.2.1 q.2.2 h r h'
              | none => False
def am_en (j : Nat) (av : List Value) : am_L := av.map some ++ List.replicate (am_mx j - av.length) none
def am_M (z : Nat) : Nat → Nat → List Value → am_H → Option Value → am_H → Prop
  | 0, _, _, _, _, _ => False
  | d + 1, j, av, h, r, h' => ∃ n, am_run z (am_M z d) j n 0 (am_en j av) [] h r h'
def am_R (z d j pc : Nat) (lo : am_L) (st : List Value) (h : am_H) (r : Option Value) (h' : am_H) : Prop := ∃ n, am_run z (am_M z d) j n pc lo st h r h'
def am_CL (z d j x : Nat) (av : List Value) (pc : Nat) (lo : am_L) (st : List Value) (h : am_H) (r : Option Value) (h' : am_H) : Prop := ∃ v h1, am_M z d x av h v h1 ∧ am_R z d j pc lo (v.toList ++ st) h1 r h'
def am_K (z d j : Nat) (o : Option am_C) (h : am_H) (r : Option Value) (h' : am_H) : Prop := match o with
  | some q => am_R z d j q.1 q.2.1 q.2.2 h r h'
  | none => False
def am_KC (z d j x pc : Nat) (lo : am_L) (o : Option (List Value × List Value)) (h : am_H) (r : Option Value) (h' : am_H) : Prop := match o with
  | some (av, st') => am_CL z d j x av pc lo st' h r h'
  | none => False
def am_KW (z d j pc : Nat) (lo : am_L) (o : Option (List Value × Nat × am_E)) (h : am_H) (r : Option Value) (h' : am_H) : Prop := match o with
  | some (st', a, e) => am_R z d j pc lo st' (am_up h a e) r h'
  | none => False
def am_KN (z d j pc : Nat) (lo : am_L) (o : Option (List Value × am_E × Nat)) (h : am_H) (r : Option Value) (h' : am_H) : Prop := match o with
  | some (st', e, k) => am_R z d j pc lo (.ref h.2.1 :: st') (am_nw h e k) r h'
  | none => False
def am_X (z d j : Nat) (o : Option am_I) (pc : Nat) (lo : am_L) (st : List Value) (h : am_H) (r : Option Value) (h' : am_H) : Prop := match o with
  | none => False
  | some (i, l, x, y, c, ts) => match am_rt (am_ret j) i st with
    | some v => r = v ∧ h' = h
    | none => match am_ca i x y st h with
      | some (av, st') => am_CL z d j x av (pc + l) lo st' h r h'
      | none => match am_w z i x y st h with
        | some (st', a, e) => am_R z d j (pc + l) lo st' (am_up h a e) r h'
        | none => match am_n i x y st with
          | some (st', e, k) => am_R z d j (pc + l) lo (.ref h.2.1 :: st') (am_nw h e k) r h'
          | none => am_K z d j (am_s i x y c ts (pc + l) lo st h) h r h'
theorem am_R_iff (z d j pc : Nat) (lo : am_L) (st : List Value) (h : am_H) (r : Option Value) (h' : am_H) : am_R z d j pc lo st h r h' ↔ am_X z d j (am_cd j pc) pc lo st h r h' := by
  constructor
  · rintro ⟨n, hn⟩
    cases n with
    | zero => exact hn.elim
    | succ n =>
      unfold am_run at hn
      unfold am_X
      cases hc : am_cd j pc with
      | none => rw [hc] at hn; exact hn.elim
      | some q =>
        obtain ⟨i, l, x, y, c, ts⟩ := q
        rw [hc] at hn
        dsimp only at hn ⊢
        cases hrt : am_rt (am_ret j) i st with
        | some v => rw [hrt] at hn; exact hn
        | none =>
          rw [hrt] at hn
          dsimp only at hn ⊢
          cases hca : am_ca i x y st h with
          | some q =>
            obtain ⟨av, st'⟩ := q
            rw [hca] at hn
            obtain ⟨v, h1, a, b⟩ := hn
            exact ⟨v, h1, a, n, b⟩
          | none =>
            rw [hca] at hn
            dsimp only at hn ⊢
            cases hw : am_w z i x y st h with
            | some q =>
              obtain ⟨st', a, e⟩ := q
              rw [hw] at hn
              exact ⟨n, hn⟩
            | none =>
              rw [hw] at hn
              dsimp only at hn ⊢
              cases hnw : am_n i x y st with
              | some q =>
                obtain ⟨st', e, k⟩ := q
                rw [hnw] at hn
                exact ⟨n, hn⟩
              | none =>
                rw [hnw] at hn
                dsimp only at hn ⊢
                cases hs : am_s i x y c ts (pc + l) lo st h with
                | some q =>
                  rw [hs] at hn
                  exact ⟨n, hn⟩
                | none =>
                  rw [hs] at hn
                  exact hn.elim
  · intro hn
    unfold am_X at hn
    split at hn
    · exact hn.elim
    · rename_i i l x y c ts hc
      split at hn
      · rename_i v hv
        exact ⟨1, by unfold am_run; rw [hc]; dsimp only; rw [hv]; exact hn⟩
      · rename_i hv
        split at hn
        · rename_i av st' hv2
          obtain ⟨v, h1, a, n, b⟩ := hn
          exact ⟨n + 1, by unfold am_run; rw [hc]; dsimp only; rw [hv]; dsimp only; rw [hv2]; exact ⟨v, h1, a, b⟩⟩
        · rename_i hv2
          split at hn
          · rename_i hv3
            obtain ⟨n, b⟩ := hn
            exact ⟨n + 1, by unfold am_run; rw [hc]; dsimp only; rw [hv]; dsimp only; rw [hv2]; dsimp only; rw [hv3]; exact b⟩
          · rename_i hv3
            split at hn
            · rename_i hv4
              obtain ⟨n, b⟩ := hn
              exact ⟨n + 1, by unfold am_run; rw [hc]; dsimp only; rw [hv]; dsimp only; rw [hv2]; dsimp only; rw [hv3]; dsimp only; rw [hv4]; exact b⟩
            · rename_i hv4
              unfold am_K at hn
              split at hn
              · rename_i hv5
                obtain ⟨n, b⟩ := hn
                exact ⟨n + 1, by unfold am_run; rw [hc]; dsimp only; rw [hv]; dsimp only; rw [hv2]; dsimp only; rw [hv3]; dsimp only; rw [hv4]; dsimp only; rw [hv5]; exact b⟩
              · exact hn.elim
theorem am_R_eq (z d j pc : Nat) (lo : am_L) (st : List Value) (h : am_H) (r : Option Value) (h' : am_H) : am_R z d j pc lo st h r h' = am_X z d j (am_cd j pc) pc lo st h r h' := propext (am_R_iff ..)
theorem am_M_eq (z d j : Nat) (av : List Value) (h : am_H) (r : Option Value) (h' : am_H) : am_M z (d + 1) j av h r h' = am_R z d j 0 (am_en j av) [] h r h' := rfl
theorem am_CL_of {z d j x : Nat} {av : List Value} {pc : Nat} {lo : am_L} {st : List Value} {h h1 : am_H} {v r : Option Value} {h' : am_H} (hm : am_M z d x av h v h1) (k : am_R z d j pc lo (v.toList ++ st) h1 r h') : am_CL z d j x av pc lo st h r h' := ⟨v, h1, hm, k⟩
