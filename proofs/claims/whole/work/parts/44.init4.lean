section VIQ
variable {h : am_H}
def vi_o (i : Nat) : Nat := match i with
  | 1 => 0
  | 2 => 117
  | 3 => 122
  | 4 => 5
  | 5 => 19
  | 6 => 45
  | 7 => 6
  | 8 => 20
  | 9 => 46
  | 10 => 1
  | 11 => 3
  | 12 => 113
  | 13 => 115
  | 14 => 2
  | 15 => 4
  | 16 => 114
  | 17 => 116
  | 18 => 123
  | 19 => 118
  | 20 => 119
  | 21 => 120
  | 22 => 121
  | _ => 0
def vi_ad (x a0 i : Nat) : Nat := if i = 0 then x else a0 + vi_o i
def vi_l (l : Nat) : Nat := match l with
  | 0 => 6
  | 1 => 20
  | _ => 46
def vi_E (a0 : Nat) : Nat → Nat → Int32 := fun a j => if j = 0 then -1 else if j = 3 then 1 else 0
theorem am_ftv0 : am_ft 0 0 = 2 ∧ am_ft 0 1 = 2 ∧ am_ft 0 2 = 2 ∧ am_ft 0 3 = 2 ∧ am_ft 0 4 = 2 ∧ am_ft 0 5 = 2 ∧ am_ft 0 6 = 2 ∧ am_ft 0 7 = 2 ∧ am_ft 0 8 = 2 ∧ am_ft 0 9 = 2 := by decide +kernel
theorem am_df0 : am_df 0 = [.null, .null, .null, .null, .null, .null, .null, .null, .null, .null, .int 0, .int 0, .int 0, .int 0] := rfl
theorem nw_row (z d : Nat) {P : am_H} {a s bl n : Nat} {N : Int32} (hN : N = nI n) (hf : am_fr P) (hs : P.2 = (a, s)) (hz : z ≤ a) (hbl : am_ko (P.1 bl) = some 1) (hn : n ≤ 200) : ∃ H, am_M z (d + 1) 2 [.ref a, .int N, .ref bl] (am_nw P (.inr (2, am_df 2)) 3) none H ∧ vs_row H a (a + 1) bl n [] ∧ (∀ q, q < a → H.1 q = P.1 q) ∧ am_fr H ∧ H.2 = (a + 2, s + (3 + n)) := by
  have ha : P.2.1 = a := by rw [hs]
  have hs2 : P.2.2 = s := by rw [hs]
  subst ha hs2 hN
  have hbll : bl < P.2.1 := by
    cases hb : P.1 bl with
    | none => rw [hb] at hbl; exact absurd hbl (by decide)
    | some x => exact hf _ _ hb
  obtain ⟨H, m1, m2, m3, m4, m5⟩ := ro_init z d (h := am_nw P (.inr (2, am_df 2)) 3) (r := P.2.1) (bl := bl) (n := n) (hf.nw _ _) hz (by show z ≤ P.2.1 + 1; omega) (by rw [am_nw_at, am_df2]) (by rw [am_nw_ne _ _ _ (by omega)]; exact hbl) (by omega) hn
  refine ⟨H, m1, m2, ?_, m4, ?_⟩
  · intro q hq
    rw [m3 q (by show q < P.2.1 + 1; omega) (by omega), am_nw_ne _ _ _ (by omega)]
  · rw [m5, am_nw_2]
    refine Prod.ext rfl ?_
    show P.2.2 + 3 + n = P.2.2 + (3 + n)
    omega
theorem nw_lev (z d : Nat) {P : am_H} {a s bl m cap : Nat} {M N : Int32} (hM : M = nI m) (hN : N = nI cap) (hf : am_fr P) (hs : P.2 = (a, s)) (hz : z ≤ a) (hbl : am_ko (P.1 bl) = some 1) (hm : m ≤ 30) (hn : cap ≤ 200) : ∃ H, am_M z (d + 1 + 1 + 1) 3 [.ref a, .int M, .int N, .ref bl] (am_nw P (.inr (4, am_df 4)) 2) none H ∧ vs_lv H a (a + 1) m 0 cap bl (vi_t (a + 1)) (vi_r (a + 1)) (vi_a (a + 1)) (fun _ => []) (fun _ => 0) ∧ (∀ q, q < a → H.1 q = P.1 q) ∧ am_fr H ∧ H.2 = (a + (2 + 3 * m), s + (2 + m + m * (5 + cap))) := by
  have ha : P.2.1 = a := by rw [hs]
  have hs2 : P.2.2 = s := by rw [hs]
  subst ha hs2 hM hN
  have hbll : bl < P.2.1 := by
    cases hb : P.1 bl with
    | none => rw [hb] at hbl; exact absurd hbl (by decide)
    | some x => exact hf _ _ hb
  obtain ⟨H, m1, m2, m3, m4, m5⟩ := le_init z d (h := am_nw P (.inr (4, am_df 4)) 2) (lv := P.2.1) (bl := bl) (m := m) (cap := cap) (hf.nw _ _) hz (by show z ≤ P.2.1 + 1; omega) (by rw [am_nw_at, am_df4]) (by rw [am_nw_ne _ _ _ (by omega)]; exact hbl) hm hn
  refine ⟨H, m1, m2, ?_, m4, ?_⟩
  · intro q hq
    rw [m3 q (by show q < P.2.1 + 1; omega) (by omega), am_nw_ne _ _ _ (by omega)]
  · rw [m5, am_nw_2]
    refine Prod.ext ?_ ?_
    · show P.2.1 + 1 + 1 + 3 * m = P.2.1 + (2 + 3 * m)
      omega
    · show P.2.2 + 2 + m + m * (5 + cap) = P.2.2 + (2 + m + m * (5 + cap))
      omega
theorem nw_log (z d : Nat) {P : am_H} {a s : Nat} (hf : am_fr P) (hs : P.2 = (a, s)) (hz : z ≤ a) : ∃ H, am_M z (d + 1) 6 [.ref a] (am_nw P (.inr (5, am_df 5)) 7) none H ∧ vs_lg H a (fun i => a + 1 + i) (fun _ => 0) (fun _ => 0) (fun _ => 0) (fun _ => 0) 0 1 0 ∧ (∀ q, q < a → H.1 q = P.1 q) ∧ am_fr H ∧ H.2 = (a + 5, s + 39) := by
  have ha : P.2.1 = a := by rw [hs]
  have hs2 : P.2.2 = s := by rw [hs]
  subst ha hs2
  obtain ⟨H, m1, m2, m3, m4, m5⟩ := lg_init z d (h := am_nw P (.inr (5, am_df 5)) 7) (lg := P.2.1) (hf.nw _ _) hz (by rw [am_nw_at, am_df5])
  refine ⟨H, m1, m2, ?_, m4, ?_⟩
  · intro q hq
    rw [m3 q (by show q < P.2.1 + 1; omega) (by omega), am_nw_ne _ _ _ (by omega)]
  · rw [m5, am_nw_2]
theorem nw_snp (z d : Nat) {P : am_H} {a s : Nat} (hf : am_fr P) (hs : P.2 = (a, s)) (hz : z ≤ a) : ∃ H, am_M z (d + 1 + 1) 7 [.ref a] (am_nw P (.inr (6, am_df 6)) 1) none H ∧ vs_sn H a (a + 1) (fun i => if i < 3 then -1 else 0) ∧ (∀ q, q < a → H.1 q = P.1 q) ∧ am_fr H ∧ H.2 = (a + 2, s + 4) := by
  have ha : P.2.1 = a := by rw [hs]
  have hs2 : P.2.2 = s := by rw [hs]
  subst ha hs2
  obtain ⟨H, m1, m2, m3, m4, m5⟩ := sn_init z d (h := am_nw P (.inr (6, am_df 6)) 1) (s := P.2.1) (hf.nw _ _) hz (by show z ≤ P.2.1 + 1; omega) (by rw [am_nw_at, am_df6])
  refine ⟨H, m1, m2, ?_, m4, ?_⟩
  · intro q hq
    rw [m3 q (by show q < P.2.1 + 1; omega) (by omega), am_nw_ne _ _ _ (by omega)]
  · rw [m5, am_nw_2]

theorem vi_D {z x a0 : Nat} (hz : z ≤ x) (hx : x < a0) : vs_D z (vi_ad x a0) (fun l => vi_t (a0 + vi_l l)) (fun l => vi_r (a0 + vi_l l)) (fun l => vi_a (a0 + vi_l l)) := by
  have ho : ∀ i j, i < 23 → j < 23 → i ≠ 0 → j ≠ 0 → i ≠ j → vi_o i ≠ vi_o j := by
    have : ∀ i j : Fin 23, i.1 ≠ 0 → j.1 ≠ 0 → i.1 ≠ j.1 → vi_o i.1 ≠ vi_o j.1 := by decide +kernel
    exact fun i j hi hj => this ⟨i, hi⟩ ⟨j, hj⟩
  have hr : ∀ i, i < 23 → vi_o i ≤ 6 ∨ (19 ≤ vi_o i ∧ vi_o i ≤ 20) ∨ (45 ≤ vi_o i ∧ vi_o i ≤ 46) ∨ 113 ≤ vi_o i := by decide +kernel
  have ha : ∀ i, i ≠ 0 → vi_ad x a0 i = a0 + vi_o i := fun i hi => by unfold vi_ad; rw [if_neg hi]
  have hl : ∀ l, l < 3 → (l = 0 ∧ vi_l l = 6 ∧ vm l = 4) ∨ (l = 1 ∧ vi_l l = 20 ∧ vm l = 8) ∨ (l = 2 ∧ vi_l l = 46 ∧ vm l = 22) := by decide +kernel
  refine ⟨?_, ?_, ?_, ?_, ?_⟩
  · intro i j hi hj hij
    by_cases i0 : i = 0
    · subst i0
      rw [ha j (by omega)]
      show x ≠ _
      omega
    · by_cases j0 : j = 0
      · subst j0
        rw [ha i i0]
        show _ ≠ x
        omega
      · rw [ha i i0, ha j j0]
        have := ho i j hi hj i0 j0 hij
        omega
  · intro i hi
    by_cases i0 : i = 0
    · subst i0; exact hz
    · rw [ha i i0]; omega
  · intro l k h1 h2
    unfold vi_t vi_r vi_a
    dsimp only
    omega
  · intro l k i h1 h2 h3
    have q1 := hl l h1
    unfold vi_t vi_r vi_a
    dsimp only
    by_cases i0 : i = 0
    · subst i0
      show _ ≠ x ∧ _ ≠ x ∧ _ ≠ x
      omega
    · have q2 := hr i h3
      rw [ha i i0]
      omega
  · intro l k l' k' h1 h2 h3 h4 h5
    have q1 := hl l h1
    have q2 := hl l' h3
    unfold vi_t vi_r vi_a
    dsimp only
    omega
theorem vl_init (z d : Nat) {x : Nat} (hf : am_fr h) (hz : z ≤ x) (hx : h.1 x = some (.inr (0, am_df 0))) : ∃ h', am_M z (d + 1 + 1 + 1 + 1) 0 [.ref x] h none h' ∧ vs_V z h' (vi_ad x h.2.1) (fun l => vi_t (h.2.1 + vi_l l)) (fun l => vi_r (h.2.1 + vi_l l)) (fun l => vi_a (h.2.1 + vi_l l)) (fun _ => []) (fun _ _ => []) (fun _ _ => 0) (fun _ => 0) (fun _ => 0) (fun _ => 0) (fun _ => 0) (fun _ => 0) (e_lg 0 1 0) (fun i => if i < 3 then -1 else 0) (fun e => e = h.2.1) (vi_E h.2.1) (fun _ => 0) ∧ (∀ q, q < h.2.1 → q ≠ x → h'.1 q = h.1 q) ∧ h'.2 = (h.2.1 + 124, h.2.2 + 687) := by
  have hxl := hf _ _ hx
  rw [am_df0] at hx
  have i0 := en_init z (d + 1 + 1) (h := am_nw h (.inr (1, am_df 1)) 8) (e := h.2.1) (k := -1) (w := 0) (l := 0) (dl := 1) (by omega) b11 (by rw [am_nw_at, am_df1])
  have f0 : am_fr (am_up (am_nw h (.inr (1, am_df 1)) 8) h.2.1 (.inr (1, [.int (-1), .int 0, .int 0, .int 1, .int 0, .int 0, .int 0, .int 0]))) := (hf.nw _ _).up (w := .inr (1, am_df 1)) _ (am_nw_at _ _ _)
  have s0 : (am_up (am_nw h (.inr (1, am_df 1)) 8) h.2.1 (.inr (1, [.int (-1), .int 0, .int 0, .int 1, .int 0, .int 0, .int 0, .int 0]))).2 = (h.2.1 + 1, h.2.2 + 8) := rfl
  have c0 : (am_up (am_nw h (.inr (1, am_df 1)) 8) h.2.1 (.inr (1, [.int (-1), .int 0, .int 0, .int 1, .int 0, .int 0, .int 0, .int 0]))).1 x = some (.inr (0, [.null, .null, .null, .null, .null, .null, .null, .null, .null, .null, .int 0, .int 0, .int 0, .int 0])) := by
    rw [am_up_ne _ _ (by omega), am_nw_ne _ _ _ (by omega)]
    exact hx
  have b0 : (am_up (am_nw h (.inr (1, am_df 1)) 8) h.2.1 (.inr (1, [.int (-1), .int 0, .int 0, .int 1, .int 0, .int 0, .int 0, .int 0]))).1 h.2.1 = some (.inr (1, [.int (-1), .int 0, .int 0, .int 1, .int 0, .int 0, .int 0, .int 0])) := am_up_at _ _ _
  have u0 : ∀ q, q < h.2.1 → (am_up (am_nw h (.inr (1, am_df 1)) 8) h.2.1 (.inr (1, [.int (-1), .int 0, .int 0, .int 1, .int 0, .int 0, .int 0, .int 0]))).1 q = h.1 q := by
    intro q hq
    rw [am_up_ne _ _ (by omega), am_nw_ne _ _ _ (by omega)]
  generalize hH0 : am_up (am_nw h (.inr (1, am_df 1)) 8) h.2.1 (.inr (1, [.int (-1), .int 0, .int 0, .int 1, .int 0, .int 0, .int 0, .int 0])) = H0 at *
  -- step 1
  have g1 : (am_up H0 x (.inr (0, [.ref h.2.1, .null, .null, .null, .null, .null, .null, .null, .null, .null, .int 0, .int 0, .int 0, .int 0]))).1 x = some (.inr (0, [.ref h.2.1, .null, .null, .null, .null, .null, .null, .null, .null, .null, .int 0, .int 0, .int 0, .int 0])) := am_up_at _ _ _
  have fp1 : am_fr (am_up H0 x (.inr (0, [.ref h.2.1, .null, .null, .null, .null, .null, .null, .null, .null, .null, .int 0, .int 0, .int 0, .int 0]))) := f0.up _ c0
  have bp1 : am_ko ((am_up H0 x (.inr (0, [.ref h.2.1, .null, .null, .null, .null, .null, .null, .null, .null, .null, .int 0, .int 0, .int 0, .int 0]))).1 h.2.1) = some 1 := by rw [am_up_ne _ _ (by omega), b0]; rfl
  obtain ⟨H1, m1, t1, w1, f1, s1⟩ := nw_row z (d + 1 + 1) (P := am_up H0 x (.inr (0, [.ref h.2.1, .null, .null, .null, .null, .null, .null, .null, .null, .null, .int 0, .int 0, .int 0, .int 0]))) (a := h.2.1 + 1) (s := h.2.2 + 8) (bl := h.2.1) (n := 6) (N := 6) rfl fp1 s0 (by omega) bp1 (by omega)
  have s1 : H1.2 = (h.2.1 + 3, h.2.2 + 17) := by rw [s1]
  have c1 : H1.1 x = some (.inr (0, [.ref h.2.1, .null, .null, .null, .null, .null, .null, .null, .null, .null, .int 0, .int 0, .int 0, .int 0])) := by rw [w1 x (by omega)]; exact g1
  have b1 : H1.1 h.2.1 = some (.inr (1, [.int (-1), .int 0, .int 0, .int 1, .int 0, .int 0, .int 0, .int 0])) := by rw [w1 h.2.1 (by omega), am_up_ne _ _ (by omega)]; exact b0
  have n1 : (am_nw (am_up H0 x (.inr (0, [.ref h.2.1, .null, .null, .null, .null, .null, .null, .null, .null, .null, .int 0, .int 0, .int 0, .int 0]))) (.inr (2, am_df 2)) 3).1 x = some (.inr (0, [.ref h.2.1, .null, .null, .null, .null, .null, .null, .null, .null, .null, .int 0, .int 0, .int 0, .int 0])) := by rw [am_nw_ne _ _ _ (by rw [am_up_2, s0]; show x ≠ h.2.1 + 1; omega)]; exact g1
  -- step 2
  have g2 : (am_up H1 x (.inr (0, [.ref h.2.1, .ref (h.2.1 + 1), .null, .null, .null, .null, .null, .null, .null, .null, .int 0, .int 0, .int 0, .int 0]))).1 x = some (.inr (0, [.ref h.2.1, .ref (h.2.1 + 1), .null, .null, .null, .null, .null, .null, .null, .null, .int 0, .int 0, .int 0, .int 0])) := am_up_at _ _ _
  have fp2 : am_fr (am_up H1 x (.inr (0, [.ref h.2.1, .ref (h.2.1 + 1), .null, .null, .null, .null, .null, .null, .null, .null, .int 0, .int 0, .int 0, .int 0]))) := f1.up _ c1
  have bp2 : am_ko ((am_up H1 x (.inr (0, [.ref h.2.1, .ref (h.2.1 + 1), .null, .null, .null, .null, .null, .null, .null, .null, .int 0, .int 0, .int 0, .int 0]))).1 h.2.1) = some 1 := by rw [am_up_ne _ _ (by omega), b1]; rfl
  obtain ⟨H2, m2, t2, w2, f2, s2⟩ := nw_row z (d + 1 + 1) (P := am_up H1 x (.inr (0, [.ref h.2.1, .ref (h.2.1 + 1), .null, .null, .null, .null, .null, .null, .null, .null, .int 0, .int 0, .int 0, .int 0]))) (a := h.2.1 + 3) (s := h.2.2 + 17) (bl := h.2.1) (n := 8) (N := 8) rfl fp2 s1 (by omega) bp2 (by omega)
  have s2 : H2.2 = (h.2.1 + 5, h.2.2 + 28) := by rw [s2]
  have c2 : H2.1 x = some (.inr (0, [.ref h.2.1, .ref (h.2.1 + 1), .null, .null, .null, .null, .null, .null, .null, .null, .int 0, .int 0, .int 0, .int 0])) := by rw [w2 x (by omega)]; exact g2
  have b2 : H2.1 h.2.1 = some (.inr (1, [.int (-1), .int 0, .int 0, .int 1, .int 0, .int 0, .int 0, .int 0])) := by rw [w2 h.2.1 (by omega), am_up_ne _ _ (by omega)]; exact b1
  have n2 : (am_nw (am_up H1 x (.inr (0, [.ref h.2.1, .ref (h.2.1 + 1), .null, .null, .null, .null, .null, .null, .null, .null, .int 0, .int 0, .int 0, .int 0]))) (.inr (2, am_df 2)) 3).1 x = some (.inr (0, [.ref h.2.1, .ref (h.2.1 + 1), .null, .null, .null, .null, .null, .null, .null, .null, .int 0, .int 0, .int 0, .int 0])) := by rw [am_nw_ne _ _ _ (by rw [am_up_2, s1]; show x ≠ h.2.1 + 3; omega)]; exact g2
  -- step 3
  have g3 : (am_up H2 x (.inr (0, [.ref h.2.1, .ref (h.2.1 + 1), .ref (h.2.1 + 3), .null, .null, .null, .null, .null, .null, .null, .int 0, .int 0, .int 0, .int 0]))).1 x = some (.inr (0, [.ref h.2.1, .ref (h.2.1 + 1), .ref (h.2.1 + 3), .null, .null, .null, .null, .null, .null, .null, .int 0, .int 0, .int 0, .int 0])) := am_up_at _ _ _
  have fp3 : am_fr (am_up H2 x (.inr (0, [.ref h.2.1, .ref (h.2.1 + 1), .ref (h.2.1 + 3), .null, .null, .null, .null, .null, .null, .null, .int 0, .int 0, .int 0, .int 0]))) := f2.up _ c2
  have bp3 : am_ko ((am_up H2 x (.inr (0, [.ref h.2.1, .ref (h.2.1 + 1), .ref (h.2.1 + 3), .null, .null, .null, .null, .null, .null, .null, .int 0, .int 0, .int 0, .int 0]))).1 h.2.1) = some 1 := by rw [am_up_ne _ _ (by omega), b2]; rfl
  obtain ⟨H3, m3, t3, w3, f3, s3⟩ := nw_lev z d (P := am_up H2 x (.inr (0, [.ref h.2.1, .ref (h.2.1 + 1), .ref (h.2.1 + 3), .null, .null, .null, .null, .null, .null, .null, .int 0, .int 0, .int 0, .int 0]))) (a := h.2.1 + 5) (s := h.2.2 + 28) (bl := h.2.1) (m := 4) (cap := 8) (M := 4) (N := 8) rfl rfl fp3 s2 (by omega) bp3 (by omega) (by omega)
  have s3 : H3.2 = (h.2.1 + 19, h.2.2 + 86) := by rw [s3]
  have c3 : H3.1 x = some (.inr (0, [.ref h.2.1, .ref (h.2.1 + 1), .ref (h.2.1 + 3), .null, .null, .null, .null, .null, .null, .null, .int 0, .int 0, .int 0, .int 0])) := by rw [w3 x (by omega)]; exact g3
  have b3 : H3.1 h.2.1 = some (.inr (1, [.int (-1), .int 0, .int 0, .int 1, .int 0, .int 0, .int 0, .int 0])) := by rw [w3 h.2.1 (by omega), am_up_ne _ _ (by omega)]; exact b2
  have n3 : (am_nw (am_up H2 x (.inr (0, [.ref h.2.1, .ref (h.2.1 + 1), .ref (h.2.1 + 3), .null, .null, .null, .null, .null, .null, .null, .int 0, .int 0, .int 0, .int 0]))) (.inr (4, am_df 4)) 2).1 x = some (.inr (0, [.ref h.2.1, .ref (h.2.1 + 1), .ref (h.2.1 + 3), .null, .null, .null, .null, .null, .null, .null, .int 0, .int 0, .int 0, .int 0])) := by rw [am_nw_ne _ _ _ (by rw [am_up_2, s2]; show x ≠ h.2.1 + 5; omega)]; exact g3
  -- step 4
  have g4 : (am_up H3 x (.inr (0, [.ref h.2.1, .ref (h.2.1 + 1), .ref (h.2.1 + 3), .ref (h.2.1 + 5), .null, .null, .null, .null, .null, .null, .int 0, .int 0, .int 0, .int 0]))).1 x = some (.inr (0, [.ref h.2.1, .ref (h.2.1 + 1), .ref (h.2.1 + 3), .ref (h.2.1 + 5), .null, .null, .null, .null, .null, .null, .int 0, .int 0, .int 0, .int 0])) := am_up_at _ _ _
  have fp4 : am_fr (am_up H3 x (.inr (0, [.ref h.2.1, .ref (h.2.1 + 1), .ref (h.2.1 + 3), .ref (h.2.1 + 5), .null, .null, .null, .null, .null, .null, .int 0, .int 0, .int 0, .int 0]))) := f3.up _ c3
  have bp4 : am_ko ((am_up H3 x (.inr (0, [.ref h.2.1, .ref (h.2.1 + 1), .ref (h.2.1 + 3), .ref (h.2.1 + 5), .null, .null, .null, .null, .null, .null, .int 0, .int 0, .int 0, .int 0]))).1 h.2.1) = some 1 := by rw [am_up_ne _ _ (by omega), b3]; rfl
  obtain ⟨H4, m4, t4, w4, f4, s4⟩ := nw_lev z d (P := am_up H3 x (.inr (0, [.ref h.2.1, .ref (h.2.1 + 1), .ref (h.2.1 + 3), .ref (h.2.1 + 5), .null, .null, .null, .null, .null, .null, .int 0, .int 0, .int 0, .int 0]))) (a := h.2.1 + 19) (s := h.2.2 + 86) (bl := h.2.1) (m := 8) (cap := 6) (M := (nI 8)) (N := 6) rfl rfl fp4 s3 (by omega) bp4 (by omega) (by omega)
  have s4 : H4.2 = (h.2.1 + 45, h.2.2 + 184) := by rw [s4]
  have c4 : H4.1 x = some (.inr (0, [.ref h.2.1, .ref (h.2.1 + 1), .ref (h.2.1 + 3), .ref (h.2.1 + 5), .null, .null, .null, .null, .null, .null, .int 0, .int 0, .int 0, .int 0])) := by rw [w4 x (by omega)]; exact g4
  have b4 : H4.1 h.2.1 = some (.inr (1, [.int (-1), .int 0, .int 0, .int 1, .int 0, .int 0, .int 0, .int 0])) := by rw [w4 h.2.1 (by omega), am_up_ne _ _ (by omega)]; exact b3
  have n4 : (am_nw (am_up H3 x (.inr (0, [.ref h.2.1, .ref (h.2.1 + 1), .ref (h.2.1 + 3), .ref (h.2.1 + 5), .null, .null, .null, .null, .null, .null, .int 0, .int 0, .int 0, .int 0]))) (.inr (4, am_df 4)) 2).1 x = some (.inr (0, [.ref h.2.1, .ref (h.2.1 + 1), .ref (h.2.1 + 3), .ref (h.2.1 + 5), .null, .null, .null, .null, .null, .null, .int 0, .int 0, .int 0, .int 0])) := by rw [am_nw_ne _ _ _ (by rw [am_up_2, s3]; show x ≠ h.2.1 + 19; omega)]; exact g4
  have tf4 : am_M z (d + 1 + 1 + 1) 5 [.int 44] (am_nw (am_up H3 x (.inr (0, [.ref h.2.1, .ref (h.2.1 + 1), .ref (h.2.1 + 3), .ref (h.2.1 + 5), .null, .null, .null, .null, .null, .null, .int 0, .int 0, .int 0, .int 0]))) (.inr (4, am_df 4)) 2) (some (.int (nI 8))) (am_nw (am_up H3 x (.inr (0, [.ref h.2.1, .ref (h.2.1 + 1), .ref (h.2.1 + 3), .ref (h.2.1 + 5), .null, .null, .null, .null, .null, .null, .int 0, .int 0, .int 0, .int 0]))) (.inr (4, am_df 4)) 2) := lv_tablesFor z (d + 1 + 1) (k := 44) (by omega)
  -- step 5
  have g5 : (am_up H4 x (.inr (0, [.ref h.2.1, .ref (h.2.1 + 1), .ref (h.2.1 + 3), .ref (h.2.1 + 5), .ref (h.2.1 + 19), .null, .null, .null, .null, .null, .int 0, .int 0, .int 0, .int 0]))).1 x = some (.inr (0, [.ref h.2.1, .ref (h.2.1 + 1), .ref (h.2.1 + 3), .ref (h.2.1 + 5), .ref (h.2.1 + 19), .null, .null, .null, .null, .null, .int 0, .int 0, .int 0, .int 0])) := am_up_at _ _ _
  have fp5 : am_fr (am_up H4 x (.inr (0, [.ref h.2.1, .ref (h.2.1 + 1), .ref (h.2.1 + 3), .ref (h.2.1 + 5), .ref (h.2.1 + 19), .null, .null, .null, .null, .null, .int 0, .int 0, .int 0, .int 0]))) := f4.up _ c4
  have bp5 : am_ko ((am_up H4 x (.inr (0, [.ref h.2.1, .ref (h.2.1 + 1), .ref (h.2.1 + 3), .ref (h.2.1 + 5), .ref (h.2.1 + 19), .null, .null, .null, .null, .null, .int 0, .int 0, .int 0, .int 0]))).1 h.2.1) = some 1 := by rw [am_up_ne _ _ (by omega), b4]; rfl
  obtain ⟨H5, m5, t5, w5, f5, s5⟩ := nw_lev z d (P := am_up H4 x (.inr (0, [.ref h.2.1, .ref (h.2.1 + 1), .ref (h.2.1 + 3), .ref (h.2.1 + 5), .ref (h.2.1 + 19), .null, .null, .null, .null, .null, .int 0, .int 0, .int 0, .int 0]))) (a := h.2.1 + 45) (s := h.2.2 + 184) (bl := h.2.1) (m := 22) (cap := 6) (M := (nI 22)) (N := 6) rfl rfl fp5 s4 (by omega) bp5 (by omega) (by omega)
  have s5 : H5.2 = (h.2.1 + 113, h.2.2 + 450) := by rw [s5]
  have c5 : H5.1 x = some (.inr (0, [.ref h.2.1, .ref (h.2.1 + 1), .ref (h.2.1 + 3), .ref (h.2.1 + 5), .ref (h.2.1 + 19), .null, .null, .null, .null, .null, .int 0, .int 0, .int 0, .int 0])) := by rw [w5 x (by omega)]; exact g5
  have b5 : H5.1 h.2.1 = some (.inr (1, [.int (-1), .int 0, .int 0, .int 1, .int 0, .int 0, .int 0, .int 0])) := by rw [w5 h.2.1 (by omega), am_up_ne _ _ (by omega)]; exact b4
  have n5 : (am_nw (am_up H4 x (.inr (0, [.ref h.2.1, .ref (h.2.1 + 1), .ref (h.2.1 + 3), .ref (h.2.1 + 5), .ref (h.2.1 + 19), .null, .null, .null, .null, .null, .int 0, .int 0, .int 0, .int 0]))) (.inr (4, am_df 4)) 2).1 x = some (.inr (0, [.ref h.2.1, .ref (h.2.1 + 1), .ref (h.2.1 + 3), .ref (h.2.1 + 5), .ref (h.2.1 + 19), .null, .null, .null, .null, .null, .int 0, .int 0, .int 0, .int 0])) := by rw [am_nw_ne _ _ _ (by rw [am_up_2, s4]; show x ≠ h.2.1 + 45; omega)]; exact g5
  have tf5 : am_M z (d + 1 + 1 + 1) 5 [.int 128] (am_nw (am_up H4 x (.inr (0, [.ref h.2.1, .ref (h.2.1 + 1), .ref (h.2.1 + 3), .ref (h.2.1 + 5), .ref (h.2.1 + 19), .null, .null, .null, .null, .null, .int 0, .int 0, .int 0, .int 0]))) (.inr (4, am_df 4)) 2) (some (.int (nI 22))) (am_nw (am_up H4 x (.inr (0, [.ref h.2.1, .ref (h.2.1 + 1), .ref (h.2.1 + 3), .ref (h.2.1 + 5), .ref (h.2.1 + 19), .null, .null, .null, .null, .null, .int 0, .int 0, .int 0, .int 0]))) (.inr (4, am_df 4)) 2) := lv_tablesFor z (d + 1 + 1) (k := 128) (by omega)
  -- step 6
  have g6 : (am_up H5 x (.inr (0, [.ref h.2.1, .ref (h.2.1 + 1), .ref (h.2.1 + 3), .ref (h.2.1 + 5), .ref (h.2.1 + 19), .ref (h.2.1 + 45), .null, .null, .null, .null, .int 0, .int 0, .int 0, .int 0]))).1 x = some (.inr (0, [.ref h.2.1, .ref (h.2.1 + 1), .ref (h.2.1 + 3), .ref (h.2.1 + 5), .ref (h.2.1 + 19), .ref (h.2.1 + 45), .null, .null, .null, .null, .int 0, .int 0, .int 0, .int 0])) := am_up_at _ _ _
  have fp6 : am_fr (am_up H5 x (.inr (0, [.ref h.2.1, .ref (h.2.1 + 1), .ref (h.2.1 + 3), .ref (h.2.1 + 5), .ref (h.2.1 + 19), .ref (h.2.1 + 45), .null, .null, .null, .null, .int 0, .int 0, .int 0, .int 0]))) := f5.up _ c5
  have bp6 : am_ko ((am_up H5 x (.inr (0, [.ref h.2.1, .ref (h.2.1 + 1), .ref (h.2.1 + 3), .ref (h.2.1 + 5), .ref (h.2.1 + 19), .ref (h.2.1 + 45), .null, .null, .null, .null, .int 0, .int 0, .int 0, .int 0]))).1 h.2.1) = some 1 := by rw [am_up_ne _ _ (by omega), b5]; rfl
  obtain ⟨H6, m6, t6, w6, f6, s6⟩ := nw_row z (d + 1 + 1) (P := am_up H5 x (.inr (0, [.ref h.2.1, .ref (h.2.1 + 1), .ref (h.2.1 + 3), .ref (h.2.1 + 5), .ref (h.2.1 + 19), .ref (h.2.1 + 45), .null, .null, .null, .null, .int 0, .int 0, .int 0, .int 0]))) (a := h.2.1 + 113) (s := h.2.2 + 450) (bl := h.2.1) (n := 172) (N := 172) rfl fp6 s5 (by omega) bp6 (by omega)
  have s6 : H6.2 = (h.2.1 + 115, h.2.2 + 625) := by rw [s6]
  have c6 : H6.1 x = some (.inr (0, [.ref h.2.1, .ref (h.2.1 + 1), .ref (h.2.1 + 3), .ref (h.2.1 + 5), .ref (h.2.1 + 19), .ref (h.2.1 + 45), .null, .null, .null, .null, .int 0, .int 0, .int 0, .int 0])) := by rw [w6 x (by omega)]; exact g6
  have b6 : H6.1 h.2.1 = some (.inr (1, [.int (-1), .int 0, .int 0, .int 1, .int 0, .int 0, .int 0, .int 0])) := by rw [w6 h.2.1 (by omega), am_up_ne _ _ (by omega)]; exact b5
  have n6 : (am_nw (am_up H5 x (.inr (0, [.ref h.2.1, .ref (h.2.1 + 1), .ref (h.2.1 + 3), .ref (h.2.1 + 5), .ref (h.2.1 + 19), .ref (h.2.1 + 45), .null, .null, .null, .null, .int 0, .int 0, .int 0, .int 0]))) (.inr (2, am_df 2)) 3).1 x = some (.inr (0, [.ref h.2.1, .ref (h.2.1 + 1), .ref (h.2.1 + 3), .ref (h.2.1 + 5), .ref (h.2.1 + 19), .ref (h.2.1 + 45), .null, .null, .null, .null, .int 0, .int 0, .int 0, .int 0])) := by rw [am_nw_ne _ _ _ (by rw [am_up_2, s5]; show x ≠ h.2.1 + 113; omega)]; exact g6
  -- step 7
  have g7 : (am_up H6 x (.inr (0, [.ref h.2.1, .ref (h.2.1 + 1), .ref (h.2.1 + 3), .ref (h.2.1 + 5), .ref (h.2.1 + 19), .ref (h.2.1 + 45), .ref (h.2.1 + 113), .null, .null, .null, .int 0, .int 0, .int 0, .int 0]))).1 x = some (.inr (0, [.ref h.2.1, .ref (h.2.1 + 1), .ref (h.2.1 + 3), .ref (h.2.1 + 5), .ref (h.2.1 + 19), .ref (h.2.1 + 45), .ref (h.2.1 + 113), .null, .null, .null, .int 0, .int 0, .int 0, .int 0])) := am_up_at _ _ _
  have fp7 : am_fr (am_up H6 x (.inr (0, [.ref h.2.1, .ref (h.2.1 + 1), .ref (h.2.1 + 3), .ref (h.2.1 + 5), .ref (h.2.1 + 19), .ref (h.2.1 + 45), .ref (h.2.1 + 113), .null, .null, .null, .int 0, .int 0, .int 0, .int 0]))) := f6.up _ c6
  have bp7 : am_ko ((am_up H6 x (.inr (0, [.ref h.2.1, .ref (h.2.1 + 1), .ref (h.2.1 + 3), .ref (h.2.1 + 5), .ref (h.2.1 + 19), .ref (h.2.1 + 45), .ref (h.2.1 + 113), .null, .null, .null, .int 0, .int 0, .int 0, .int 0]))).1 h.2.1) = some 1 := by rw [am_up_ne _ _ (by omega), b6]; rfl
  obtain ⟨H7, m7, t7, w7, f7, s7⟩ := nw_row z (d + 1 + 1) (P := am_up H6 x (.inr (0, [.ref h.2.1, .ref (h.2.1 + 1), .ref (h.2.1 + 3), .ref (h.2.1 + 5), .ref (h.2.1 + 19), .ref (h.2.1 + 45), .ref (h.2.1 + 113), .null, .null, .null, .int 0, .int 0, .int 0, .int 0]))) (a := h.2.1 + 115) (s := h.2.2 + 625) (bl := h.2.1) (n := 16) (N := 16) rfl fp7 s6 (by omega) bp7 (by omega)
  have s7 : H7.2 = (h.2.1 + 117, h.2.2 + 644) := by rw [s7]
  have c7 : H7.1 x = some (.inr (0, [.ref h.2.1, .ref (h.2.1 + 1), .ref (h.2.1 + 3), .ref (h.2.1 + 5), .ref (h.2.1 + 19), .ref (h.2.1 + 45), .ref (h.2.1 + 113), .null, .null, .null, .int 0, .int 0, .int 0, .int 0])) := by rw [w7 x (by omega)]; exact g7
  have b7 : H7.1 h.2.1 = some (.inr (1, [.int (-1), .int 0, .int 0, .int 1, .int 0, .int 0, .int 0, .int 0])) := by rw [w7 h.2.1 (by omega), am_up_ne _ _ (by omega)]; exact b6
  have n7 : (am_nw (am_up H6 x (.inr (0, [.ref h.2.1, .ref (h.2.1 + 1), .ref (h.2.1 + 3), .ref (h.2.1 + 5), .ref (h.2.1 + 19), .ref (h.2.1 + 45), .ref (h.2.1 + 113), .null, .null, .null, .int 0, .int 0, .int 0, .int 0]))) (.inr (2, am_df 2)) 3).1 x = some (.inr (0, [.ref h.2.1, .ref (h.2.1 + 1), .ref (h.2.1 + 3), .ref (h.2.1 + 5), .ref (h.2.1 + 19), .ref (h.2.1 + 45), .ref (h.2.1 + 113), .null, .null, .null, .int 0, .int 0, .int 0, .int 0])) := by rw [am_nw_ne _ _ _ (by rw [am_up_2, s6]; show x ≠ h.2.1 + 115; omega)]; exact g7
  -- step 8
  have g8 : (am_up H7 x (.inr (0, [.ref h.2.1, .ref (h.2.1 + 1), .ref (h.2.1 + 3), .ref (h.2.1 + 5), .ref (h.2.1 + 19), .ref (h.2.1 + 45), .ref (h.2.1 + 113), .ref (h.2.1 + 115), .null, .null, .int 0, .int 0, .int 0, .int 0]))).1 x = some (.inr (0, [.ref h.2.1, .ref (h.2.1 + 1), .ref (h.2.1 + 3), .ref (h.2.1 + 5), .ref (h.2.1 + 19), .ref (h.2.1 + 45), .ref (h.2.1 + 113), .ref (h.2.1 + 115), .null, .null, .int 0, .int 0, .int 0, .int 0])) := am_up_at _ _ _
  have fp8 : am_fr (am_up H7 x (.inr (0, [.ref h.2.1, .ref (h.2.1 + 1), .ref (h.2.1 + 3), .ref (h.2.1 + 5), .ref (h.2.1 + 19), .ref (h.2.1 + 45), .ref (h.2.1 + 113), .ref (h.2.1 + 115), .null, .null, .int 0, .int 0, .int 0, .int 0]))) := f7.up _ c7
  have bp8 : am_ko ((am_up H7 x (.inr (0, [.ref h.2.1, .ref (h.2.1 + 1), .ref (h.2.1 + 3), .ref (h.2.1 + 5), .ref (h.2.1 + 19), .ref (h.2.1 + 45), .ref (h.2.1 + 113), .ref (h.2.1 + 115), .null, .null, .int 0, .int 0, .int 0, .int 0]))).1 h.2.1) = some 1 := by rw [am_up_ne _ _ (by omega), b7]; rfl
  obtain ⟨H8, m8, t8, w8, f8, s8⟩ := nw_log z (d + 1 + 1) (P := am_up H7 x (.inr (0, [.ref h.2.1, .ref (h.2.1 + 1), .ref (h.2.1 + 3), .ref (h.2.1 + 5), .ref (h.2.1 + 19), .ref (h.2.1 + 45), .ref (h.2.1 + 113), .ref (h.2.1 + 115), .null, .null, .int 0, .int 0, .int 0, .int 0]))) (a := h.2.1 + 117) (s := h.2.2 + 644) fp8 s7 (by omega)
  have s8 : H8.2 = (h.2.1 + 122, h.2.2 + 683) := by rw [s8]
  have c8 : H8.1 x = some (.inr (0, [.ref h.2.1, .ref (h.2.1 + 1), .ref (h.2.1 + 3), .ref (h.2.1 + 5), .ref (h.2.1 + 19), .ref (h.2.1 + 45), .ref (h.2.1 + 113), .ref (h.2.1 + 115), .null, .null, .int 0, .int 0, .int 0, .int 0])) := by rw [w8 x (by omega)]; exact g8
  have b8 : H8.1 h.2.1 = some (.inr (1, [.int (-1), .int 0, .int 0, .int 1, .int 0, .int 0, .int 0, .int 0])) := by rw [w8 h.2.1 (by omega), am_up_ne _ _ (by omega)]; exact b7
  have n8 : (am_nw (am_up H7 x (.inr (0, [.ref h.2.1, .ref (h.2.1 + 1), .ref (h.2.1 + 3), .ref (h.2.1 + 5), .ref (h.2.1 + 19), .ref (h.2.1 + 45), .ref (h.2.1 + 113), .ref (h.2.1 + 115), .null, .null, .int 0, .int 0, .int 0, .int 0]))) (.inr (5, am_df 5)) 7).1 x = some (.inr (0, [.ref h.2.1, .ref (h.2.1 + 1), .ref (h.2.1 + 3), .ref (h.2.1 + 5), .ref (h.2.1 + 19), .ref (h.2.1 + 45), .ref (h.2.1 + 113), .ref (h.2.1 + 115), .null, .null, .int 0, .int 0, .int 0, .int 0])) := by rw [am_nw_ne _ _ _ (by rw [am_up_2, s7]; show x ≠ h.2.1 + 117; omega)]; exact g8
  -- step 9
  have g9 : (am_up H8 x (.inr (0, [.ref h.2.1, .ref (h.2.1 + 1), .ref (h.2.1 + 3), .ref (h.2.1 + 5), .ref (h.2.1 + 19), .ref (h.2.1 + 45), .ref (h.2.1 + 113), .ref (h.2.1 + 115), .ref (h.2.1 + 117), .null, .int 0, .int 0, .int 0, .int 0]))).1 x = some (.inr (0, [.ref h.2.1, .ref (h.2.1 + 1), .ref (h.2.1 + 3), .ref (h.2.1 + 5), .ref (h.2.1 + 19), .ref (h.2.1 + 45), .ref (h.2.1 + 113), .ref (h.2.1 + 115), .ref (h.2.1 + 117), .null, .int 0, .int 0, .int 0, .int 0])) := am_up_at _ _ _
  have fp9 : am_fr (am_up H8 x (.inr (0, [.ref h.2.1, .ref (h.2.1 + 1), .ref (h.2.1 + 3), .ref (h.2.1 + 5), .ref (h.2.1 + 19), .ref (h.2.1 + 45), .ref (h.2.1 + 113), .ref (h.2.1 + 115), .ref (h.2.1 + 117), .null, .int 0, .int 0, .int 0, .int 0]))) := f8.up _ c8
  have bp9 : am_ko ((am_up H8 x (.inr (0, [.ref h.2.1, .ref (h.2.1 + 1), .ref (h.2.1 + 3), .ref (h.2.1 + 5), .ref (h.2.1 + 19), .ref (h.2.1 + 45), .ref (h.2.1 + 113), .ref (h.2.1 + 115), .ref (h.2.1 + 117), .null, .int 0, .int 0, .int 0, .int 0]))).1 h.2.1) = some 1 := by rw [am_up_ne _ _ (by omega), b8]; rfl
  obtain ⟨H9, m9, t9, w9, f9, s9⟩ := nw_snp z (d + 1) (P := am_up H8 x (.inr (0, [.ref h.2.1, .ref (h.2.1 + 1), .ref (h.2.1 + 3), .ref (h.2.1 + 5), .ref (h.2.1 + 19), .ref (h.2.1 + 45), .ref (h.2.1 + 113), .ref (h.2.1 + 115), .ref (h.2.1 + 117), .null, .int 0, .int 0, .int 0, .int 0]))) (a := h.2.1 + 122) (s := h.2.2 + 683) fp9 s8 (by omega)
  have s9 : H9.2 = (h.2.1 + 124, h.2.2 + 687) := by rw [s9]
  have c9 : H9.1 x = some (.inr (0, [.ref h.2.1, .ref (h.2.1 + 1), .ref (h.2.1 + 3), .ref (h.2.1 + 5), .ref (h.2.1 + 19), .ref (h.2.1 + 45), .ref (h.2.1 + 113), .ref (h.2.1 + 115), .ref (h.2.1 + 117), .null, .int 0, .int 0, .int 0, .int 0])) := by rw [w9 x (by omega)]; exact g9
  have b9 : H9.1 h.2.1 = some (.inr (1, [.int (-1), .int 0, .int 0, .int 1, .int 0, .int 0, .int 0, .int 0])) := by rw [w9 h.2.1 (by omega), am_up_ne _ _ (by omega)]; exact b8
  have n9 : (am_nw (am_up H8 x (.inr (0, [.ref h.2.1, .ref (h.2.1 + 1), .ref (h.2.1 + 3), .ref (h.2.1 + 5), .ref (h.2.1 + 19), .ref (h.2.1 + 45), .ref (h.2.1 + 113), .ref (h.2.1 + 115), .ref (h.2.1 + 117), .null, .int 0, .int 0, .int 0, .int 0]))) (.inr (6, am_df 6)) 1).1 x = some (.inr (0, [.ref h.2.1, .ref (h.2.1 + 1), .ref (h.2.1 + 3), .ref (h.2.1 + 5), .ref (h.2.1 + 19), .ref (h.2.1 + 45), .ref (h.2.1 + 113), .ref (h.2.1 + 115), .ref (h.2.1 + 117), .null, .int 0, .int 0, .int 0, .int 0])) := by rw [am_nw_ne _ _ _ (by rw [am_up_2, s8]; show x ≠ h.2.1 + 122; omega)]; exact g9
  have k9 : ∀ q, q < h.2.1 + 124 → q ≠ x → (am_up H9 x (.inr (0, [.ref h.2.1, .ref (h.2.1 + 1), .ref (h.2.1 + 3), .ref (h.2.1 + 5), .ref (h.2.1 + 19), .ref (h.2.1 + 45), .ref (h.2.1 + 113), .ref (h.2.1 + 115), .ref (h.2.1 + 117), .ref (h.2.1 + 122), .int 0, .int 0, .int 0, .int 0]))).1 q = H9.1 q := fun q _ hq => am_up_ne _ _ hq
  have k8 : ∀ q, q < h.2.1 + 122 → q ≠ x → (am_up H9 x (.inr (0, [.ref h.2.1, .ref (h.2.1 + 1), .ref (h.2.1 + 3), .ref (h.2.1 + 5), .ref (h.2.1 + 19), .ref (h.2.1 + 45), .ref (h.2.1 + 113), .ref (h.2.1 + 115), .ref (h.2.1 + 117), .ref (h.2.1 + 122), .int 0, .int 0, .int 0, .int 0]))).1 q = H8.1 q := fun q h1 h2 => by rw [k9 q (by omega) h2, w9 q h1, am_up_ne _ _ h2]
  have k7 : ∀ q, q < h.2.1 + 117 → q ≠ x → (am_up H9 x (.inr (0, [.ref h.2.1, .ref (h.2.1 + 1), .ref (h.2.1 + 3), .ref (h.2.1 + 5), .ref (h.2.1 + 19), .ref (h.2.1 + 45), .ref (h.2.1 + 113), .ref (h.2.1 + 115), .ref (h.2.1 + 117), .ref (h.2.1 + 122), .int 0, .int 0, .int 0, .int 0]))).1 q = H7.1 q := fun q h1 h2 => by rw [k8 q (by omega) h2, w8 q h1, am_up_ne _ _ h2]
  have k6 : ∀ q, q < h.2.1 + 115 → q ≠ x → (am_up H9 x (.inr (0, [.ref h.2.1, .ref (h.2.1 + 1), .ref (h.2.1 + 3), .ref (h.2.1 + 5), .ref (h.2.1 + 19), .ref (h.2.1 + 45), .ref (h.2.1 + 113), .ref (h.2.1 + 115), .ref (h.2.1 + 117), .ref (h.2.1 + 122), .int 0, .int 0, .int 0, .int 0]))).1 q = H6.1 q := fun q h1 h2 => by rw [k7 q (by omega) h2, w7 q h1, am_up_ne _ _ h2]
  have k5 : ∀ q, q < h.2.1 + 113 → q ≠ x → (am_up H9 x (.inr (0, [.ref h.2.1, .ref (h.2.1 + 1), .ref (h.2.1 + 3), .ref (h.2.1 + 5), .ref (h.2.1 + 19), .ref (h.2.1 + 45), .ref (h.2.1 + 113), .ref (h.2.1 + 115), .ref (h.2.1 + 117), .ref (h.2.1 + 122), .int 0, .int 0, .int 0, .int 0]))).1 q = H5.1 q := fun q h1 h2 => by rw [k6 q (by omega) h2, w6 q h1, am_up_ne _ _ h2]
  have k4 : ∀ q, q < h.2.1 + 45 → q ≠ x → (am_up H9 x (.inr (0, [.ref h.2.1, .ref (h.2.1 + 1), .ref (h.2.1 + 3), .ref (h.2.1 + 5), .ref (h.2.1 + 19), .ref (h.2.1 + 45), .ref (h.2.1 + 113), .ref (h.2.1 + 115), .ref (h.2.1 + 117), .ref (h.2.1 + 122), .int 0, .int 0, .int 0, .int 0]))).1 q = H4.1 q := fun q h1 h2 => by rw [k5 q (by omega) h2, w5 q h1, am_up_ne _ _ h2]
  have k3 : ∀ q, q < h.2.1 + 19 → q ≠ x → (am_up H9 x (.inr (0, [.ref h.2.1, .ref (h.2.1 + 1), .ref (h.2.1 + 3), .ref (h.2.1 + 5), .ref (h.2.1 + 19), .ref (h.2.1 + 45), .ref (h.2.1 + 113), .ref (h.2.1 + 115), .ref (h.2.1 + 117), .ref (h.2.1 + 122), .int 0, .int 0, .int 0, .int 0]))).1 q = H3.1 q := fun q h1 h2 => by rw [k4 q (by omega) h2, w4 q h1, am_up_ne _ _ h2]
  have k2 : ∀ q, q < h.2.1 + 5 → q ≠ x → (am_up H9 x (.inr (0, [.ref h.2.1, .ref (h.2.1 + 1), .ref (h.2.1 + 3), .ref (h.2.1 + 5), .ref (h.2.1 + 19), .ref (h.2.1 + 45), .ref (h.2.1 + 113), .ref (h.2.1 + 115), .ref (h.2.1 + 117), .ref (h.2.1 + 122), .int 0, .int 0, .int 0, .int 0]))).1 q = H2.1 q := fun q h1 h2 => by rw [k3 q (by omega) h2, w3 q h1, am_up_ne _ _ h2]
  have k1 : ∀ q, q < h.2.1 + 3 → q ≠ x → (am_up H9 x (.inr (0, [.ref h.2.1, .ref (h.2.1 + 1), .ref (h.2.1 + 3), .ref (h.2.1 + 5), .ref (h.2.1 + 19), .ref (h.2.1 + 45), .ref (h.2.1 + 113), .ref (h.2.1 + 115), .ref (h.2.1 + 117), .ref (h.2.1 + 122), .int 0, .int 0, .int 0, .int 0]))).1 q = H1.1 q := fun q h1 h2 => by rw [k2 q (by omega) h2, w2 q h1, am_up_ne _ _ h2]
  have k0 : ∀ q, q < h.2.1 + 1 → q ≠ x → (am_up H9 x (.inr (0, [.ref h.2.1, .ref (h.2.1 + 1), .ref (h.2.1 + 3), .ref (h.2.1 + 5), .ref (h.2.1 + 19), .ref (h.2.1 + 45), .ref (h.2.1 + 113), .ref (h.2.1 + 115), .ref (h.2.1 + 117), .ref (h.2.1 + 122), .int 0, .int 0, .int 0, .int 0]))).1 q = H0.1 q := fun q h1 h2 => by rw [k1 q (by omega) h2, w1 q h1, am_up_ne _ _ h2]
  refine ⟨am_up H9 x (.inr (0, [.ref h.2.1, .ref (h.2.1 + 1), .ref (h.2.1 + 3), .ref (h.2.1 + 5), .ref (h.2.1 + 19), .ref (h.2.1 + 45), .ref (h.2.1 + 113), .ref (h.2.1 + 115), .ref (h.2.1 + 117), .ref (h.2.1 + 122), .int 0, .int 0, .int 0, .int 0])), ?_, ?_, ?_, ?_⟩
  · rw [am_M_eq]
    simp only [am_R_eq, cx_0, en_0, rt_0, rx_aload_n, rx_bipush, rx_dup_i, rx_dup_r, rx_getfield, ev_gf, rx_iconst, rx_invi, rx_obj2, ev_cs, rx_invs, rx_max2, rx_min2, rx_copy2, rx_new, rx_putfield, ev_pf, ev_w1, ev_KW, am_fok, am_ftv, rx_return, rx_sipush, kl_1, kl_2, kl_3, kl_5, kl_6, kl_7, ev_K, ev_pI, ev_pR, ev_pVi, ev_pVr, ev_sI, ev_sR, ev_KC, ev_k, ev_ko, ev_pop0, ev_pops, am_ld, am_sv, am_at, am_st, am_g, List.length_cons, List.length_nil, Nat.reduceAdd, Nat.reduceLT, Nat.zero_add, if_true, if_false, and_self, true_or, or_true, true_and, and_true, not_true_eq_false, not_false_eq_true, reduceCtorEq, eq_self, Option.toList_some, Option.toList_none, List.cons_append, List.nil_append, Bool.false_eq_true, hx]
    refine am_CL_of i0 ?_
    have v1 := b0
    have vt1 : am_ko (H0.1 (h.2.1)) = some 1 := by rw [b0]; rfl
    simp only [am_R_eq, cx_0, en_0, rt_0, rx_aload_n, rx_bipush, rx_dup_i, rx_dup_r, rx_getfield, ev_gf, rx_iconst, rx_invi, rx_obj2, ev_cs, rx_invs, rx_max2, rx_min2, rx_copy2, rx_new, rx_putfield, ev_pf, ev_w1, ev_KW, am_fok, am_ftv, rx_return, rx_sipush, kl_1, kl_2, kl_3, kl_5, kl_6, kl_7, ev_K, ev_pI, ev_pR, ev_pVi, ev_pVr, ev_sI, ev_sR, ev_KC, ev_k, ev_ko, ev_pop0, ev_pops, am_ld, am_sv, am_at, am_st, am_g, List.length_cons, List.length_nil, Nat.reduceAdd, Nat.reduceLT, Nat.zero_add, if_true, if_false, and_self, true_or, or_true, true_and, and_true, not_true_eq_false, not_false_eq_true, reduceCtorEq, eq_self, Option.toList_some, Option.toList_none, List.cons_append, List.nil_append, Bool.false_eq_true, c0, s0, n1, g1, vt1, am_ftv0, hz, am_up_2, am_nw_2, am_up_at, am_up_up, Nat.reduceLeDiff, beq_self_eq_true]
    refine am_CL_of m1 ?_
    have v2 := b1
    have vt2 : am_ko (H1.1 (h.2.1 + 1)) = some 2 := by rw [t1.1]; rfl
    simp only [am_R_eq, cx_0, en_0, rt_0, rx_aload_n, rx_bipush, rx_dup_i, rx_dup_r, rx_getfield, ev_gf, rx_iconst, rx_invi, rx_obj2, ev_cs, rx_invs, rx_max2, rx_min2, rx_copy2, rx_new, rx_putfield, ev_pf, ev_w1, ev_KW, am_fok, am_ftv, rx_return, rx_sipush, kl_1, kl_2, kl_3, kl_5, kl_6, kl_7, ev_K, ev_pI, ev_pR, ev_pVi, ev_pVr, ev_sI, ev_sR, ev_KC, ev_k, ev_ko, ev_pop0, ev_pops, am_ld, am_sv, am_at, am_st, am_g, List.length_cons, List.length_nil, Nat.reduceAdd, Nat.reduceLT, Nat.zero_add, if_true, if_false, and_self, true_or, or_true, true_and, and_true, not_true_eq_false, not_false_eq_true, reduceCtorEq, eq_self, Option.toList_some, Option.toList_none, List.cons_append, List.nil_append, Bool.false_eq_true, c1, s1, n2, g2, vt2, am_ftv0, hz, am_up_2, am_nw_2, am_up_at, am_up_up, Nat.reduceLeDiff, beq_self_eq_true]
    refine am_CL_of m2 ?_
    have v3 := b2
    have vt3 : am_ko (H2.1 (h.2.1 + 3)) = some 2 := by rw [t2.1]; rfl
    simp only [am_R_eq, cx_0, en_0, rt_0, rx_aload_n, rx_bipush, rx_dup_i, rx_dup_r, rx_getfield, ev_gf, rx_iconst, rx_invi, rx_obj2, ev_cs, rx_invs, rx_max2, rx_min2, rx_copy2, rx_new, rx_putfield, ev_pf, ev_w1, ev_KW, am_fok, am_ftv, rx_return, rx_sipush, kl_1, kl_2, kl_3, kl_5, kl_6, kl_7, ev_K, ev_pI, ev_pR, ev_pVi, ev_pVr, ev_sI, ev_sR, ev_KC, ev_k, ev_ko, ev_pop0, ev_pops, am_ld, am_sv, am_at, am_st, am_g, List.length_cons, List.length_nil, Nat.reduceAdd, Nat.reduceLT, Nat.zero_add, if_true, if_false, and_self, true_or, or_true, true_and, and_true, not_true_eq_false, not_false_eq_true, reduceCtorEq, eq_self, Option.toList_some, Option.toList_none, List.cons_append, List.nil_append, Bool.false_eq_true, c2, s2, n3, g3, vt3, am_ftv0, hz, am_up_2, am_nw_2, am_up_at, am_up_up, Nat.reduceLeDiff, beq_self_eq_true]
    refine am_CL_of m3 ?_
    have v4 := b3
    have vt4 : am_ko (H3.1 (h.2.1 + 5)) = some 4 := by rw [t3.1]; rfl
    simp only [am_R_eq, cx_0, en_0, rt_0, rx_aload_n, rx_bipush, rx_dup_i, rx_dup_r, rx_getfield, ev_gf, rx_iconst, rx_invi, rx_obj2, ev_cs, rx_invs, rx_max2, rx_min2, rx_copy2, rx_new, rx_putfield, ev_pf, ev_w1, ev_KW, am_fok, am_ftv, rx_return, rx_sipush, kl_1, kl_2, kl_3, kl_5, kl_6, kl_7, ev_K, ev_pI, ev_pR, ev_pVi, ev_pVr, ev_sI, ev_sR, ev_KC, ev_k, ev_ko, ev_pop0, ev_pops, am_ld, am_sv, am_at, am_st, am_g, List.length_cons, List.length_nil, Nat.reduceAdd, Nat.reduceLT, Nat.zero_add, if_true, if_false, and_self, true_or, or_true, true_and, and_true, not_true_eq_false, not_false_eq_true, reduceCtorEq, eq_self, Option.toList_some, Option.toList_none, List.cons_append, List.nil_append, Bool.false_eq_true, c3, s3, n4, g4, vt4, am_ftv0, hz, am_up_2, am_nw_2, am_up_at, am_up_up, Nat.reduceLeDiff, beq_self_eq_true]
    refine am_CL_of tf4 ?_
    simp only [am_R_eq, cx_0, en_0, rt_0, rx_aload_n, rx_bipush, rx_dup_i, rx_dup_r, rx_getfield, ev_gf, rx_iconst, rx_invi, rx_obj2, ev_cs, rx_invs, rx_max2, rx_min2, rx_copy2, rx_new, rx_putfield, ev_pf, ev_w1, ev_KW, am_fok, am_ftv, rx_return, rx_sipush, kl_1, kl_2, kl_3, kl_5, kl_6, kl_7, ev_K, ev_pI, ev_pR, ev_pVi, ev_pVr, ev_sI, ev_sR, ev_KC, ev_k, ev_ko, ev_pop0, ev_pops, am_ld, am_sv, am_at, am_st, am_g, List.length_cons, List.length_nil, Nat.reduceAdd, Nat.reduceLT, Nat.zero_add, if_true, if_false, and_self, true_or, or_true, true_and, and_true, not_true_eq_false, not_false_eq_true, reduceCtorEq, eq_self, Option.toList_some, Option.toList_none, List.cons_append, List.nil_append, Bool.false_eq_true, c3, s3, n4, g4, am_ftv0, hz, am_up_2, am_nw_2, am_up_at, am_up_up, Nat.reduceLeDiff, beq_self_eq_true]
    refine am_CL_of m4 ?_
    have v5 := b4
    have vt5 : am_ko (H4.1 (h.2.1 + 19)) = some 4 := by rw [t4.1]; rfl
    simp only [am_R_eq, cx_0, en_0, rt_0, rx_aload_n, rx_bipush, rx_dup_i, rx_dup_r, rx_getfield, ev_gf, rx_iconst, rx_invi, rx_obj2, ev_cs, rx_invs, rx_max2, rx_min2, rx_copy2, rx_new, rx_putfield, ev_pf, ev_w1, ev_KW, am_fok, am_ftv, rx_return, rx_sipush, kl_1, kl_2, kl_3, kl_5, kl_6, kl_7, ev_K, ev_pI, ev_pR, ev_pVi, ev_pVr, ev_sI, ev_sR, ev_KC, ev_k, ev_ko, ev_pop0, ev_pops, am_ld, am_sv, am_at, am_st, am_g, List.length_cons, List.length_nil, Nat.reduceAdd, Nat.reduceLT, Nat.zero_add, if_true, if_false, and_self, true_or, or_true, true_and, and_true, not_true_eq_false, not_false_eq_true, reduceCtorEq, eq_self, Option.toList_some, Option.toList_none, List.cons_append, List.nil_append, Bool.false_eq_true, c4, s4, n5, g5, vt5, am_ftv0, hz, am_up_2, am_nw_2, am_up_at, am_up_up, Nat.reduceLeDiff, beq_self_eq_true]
    refine am_CL_of tf5 ?_
    simp only [am_R_eq, cx_0, en_0, rt_0, rx_aload_n, rx_bipush, rx_dup_i, rx_dup_r, rx_getfield, ev_gf, rx_iconst, rx_invi, rx_obj2, ev_cs, rx_invs, rx_max2, rx_min2, rx_copy2, rx_new, rx_putfield, ev_pf, ev_w1, ev_KW, am_fok, am_ftv, rx_return, rx_sipush, kl_1, kl_2, kl_3, kl_5, kl_6, kl_7, ev_K, ev_pI, ev_pR, ev_pVi, ev_pVr, ev_sI, ev_sR, ev_KC, ev_k, ev_ko, ev_pop0, ev_pops, am_ld, am_sv, am_at, am_st, am_g, List.length_cons, List.length_nil, Nat.reduceAdd, Nat.reduceLT, Nat.zero_add, if_true, if_false, and_self, true_or, or_true, true_and, and_true, not_true_eq_false, not_false_eq_true, reduceCtorEq, eq_self, Option.toList_some, Option.toList_none, List.cons_append, List.nil_append, Bool.false_eq_true, c4, s4, n5, g5, am_ftv0, hz, am_up_2, am_nw_2, am_up_at, am_up_up, Nat.reduceLeDiff, beq_self_eq_true]
    refine am_CL_of m5 ?_
    have v6 := b5
    have vt6 : am_ko (H5.1 (h.2.1 + 45)) = some 4 := by rw [t5.1]; rfl
    simp only [am_R_eq, cx_0, en_0, rt_0, rx_aload_n, rx_bipush, rx_dup_i, rx_dup_r, rx_getfield, ev_gf, rx_iconst, rx_invi, rx_obj2, ev_cs, rx_invs, rx_max2, rx_min2, rx_copy2, rx_new, rx_putfield, ev_pf, ev_w1, ev_KW, am_fok, am_ftv, rx_return, rx_sipush, kl_1, kl_2, kl_3, kl_5, kl_6, kl_7, ev_K, ev_pI, ev_pR, ev_pVi, ev_pVr, ev_sI, ev_sR, ev_KC, ev_k, ev_ko, ev_pop0, ev_pops, am_ld, am_sv, am_at, am_st, am_g, List.length_cons, List.length_nil, Nat.reduceAdd, Nat.reduceLT, Nat.zero_add, if_true, if_false, and_self, true_or, or_true, true_and, and_true, not_true_eq_false, not_false_eq_true, reduceCtorEq, eq_self, Option.toList_some, Option.toList_none, List.cons_append, List.nil_append, Bool.false_eq_true, c5, s5, n6, g6, vt6, am_ftv0, hz, am_up_2, am_nw_2, am_up_at, am_up_up, Nat.reduceLeDiff, beq_self_eq_true]
    refine am_CL_of m6 ?_
    have v7 := b6
    have vt7 : am_ko (H6.1 (h.2.1 + 113)) = some 2 := by rw [t6.1]; rfl
    simp only [am_R_eq, cx_0, en_0, rt_0, rx_aload_n, rx_bipush, rx_dup_i, rx_dup_r, rx_getfield, ev_gf, rx_iconst, rx_invi, rx_obj2, ev_cs, rx_invs, rx_max2, rx_min2, rx_copy2, rx_new, rx_putfield, ev_pf, ev_w1, ev_KW, am_fok, am_ftv, rx_return, rx_sipush, kl_1, kl_2, kl_3, kl_5, kl_6, kl_7, ev_K, ev_pI, ev_pR, ev_pVi, ev_pVr, ev_sI, ev_sR, ev_KC, ev_k, ev_ko, ev_pop0, ev_pops, am_ld, am_sv, am_at, am_st, am_g, List.length_cons, List.length_nil, Nat.reduceAdd, Nat.reduceLT, Nat.zero_add, if_true, if_false, and_self, true_or, or_true, true_and, and_true, not_true_eq_false, not_false_eq_true, reduceCtorEq, eq_self, Option.toList_some, Option.toList_none, List.cons_append, List.nil_append, Bool.false_eq_true, c6, s6, n7, g7, vt7, am_ftv0, hz, am_up_2, am_nw_2, am_up_at, am_up_up, Nat.reduceLeDiff, beq_self_eq_true]
    refine am_CL_of m7 ?_
    have v8 := b7
    have vt8 : am_ko (H7.1 (h.2.1 + 115)) = some 2 := by rw [t7.1]; rfl
    simp only [am_R_eq, cx_0, en_0, rt_0, rx_aload_n, rx_bipush, rx_dup_i, rx_dup_r, rx_getfield, ev_gf, rx_iconst, rx_invi, rx_obj2, ev_cs, rx_invs, rx_max2, rx_min2, rx_copy2, rx_new, rx_putfield, ev_pf, ev_w1, ev_KW, am_fok, am_ftv, rx_return, rx_sipush, kl_1, kl_2, kl_3, kl_5, kl_6, kl_7, ev_K, ev_pI, ev_pR, ev_pVi, ev_pVr, ev_sI, ev_sR, ev_KC, ev_k, ev_ko, ev_pop0, ev_pops, am_ld, am_sv, am_at, am_st, am_g, List.length_cons, List.length_nil, Nat.reduceAdd, Nat.reduceLT, Nat.zero_add, if_true, if_false, and_self, true_or, or_true, true_and, and_true, not_true_eq_false, not_false_eq_true, reduceCtorEq, eq_self, Option.toList_some, Option.toList_none, List.cons_append, List.nil_append, Bool.false_eq_true, c7, s7, n8, g8, vt8, am_ftv0, hz, am_up_2, am_nw_2, am_up_at, am_up_up, Nat.reduceLeDiff, beq_self_eq_true]
    refine am_CL_of m8 ?_
    have v9 := b8
    have vt9 : am_ko (H8.1 (h.2.1 + 117)) = some 5 := by rw [t8.1]; rfl
    simp only [am_R_eq, cx_0, en_0, rt_0, rx_aload_n, rx_bipush, rx_dup_i, rx_dup_r, rx_getfield, ev_gf, rx_iconst, rx_invi, rx_obj2, ev_cs, rx_invs, rx_max2, rx_min2, rx_copy2, rx_new, rx_putfield, ev_pf, ev_w1, ev_KW, am_fok, am_ftv, rx_return, rx_sipush, kl_1, kl_2, kl_3, kl_5, kl_6, kl_7, ev_K, ev_pI, ev_pR, ev_pVi, ev_pVr, ev_sI, ev_sR, ev_KC, ev_k, ev_ko, ev_pop0, ev_pops, am_ld, am_sv, am_at, am_st, am_g, List.length_cons, List.length_nil, Nat.reduceAdd, Nat.reduceLT, Nat.zero_add, if_true, if_false, and_self, true_or, or_true, true_and, and_true, not_true_eq_false, not_false_eq_true, reduceCtorEq, eq_self, Option.toList_some, Option.toList_none, List.cons_append, List.nil_append, Bool.false_eq_true, c8, s8, n9, g9, vt9, am_ftv0, hz, am_up_2, am_nw_2, am_up_at, am_up_up, Nat.reduceLeDiff, beq_self_eq_true]
    refine am_CL_of m9 ?_
    have vt10 : am_ko (H9.1 (h.2.1 + 122)) = some 6 := by rw [t9.1]; rfl
    simp only [am_R_eq, cx_0, en_0, rt_0, rx_aload_n, rx_bipush, rx_dup_i, rx_dup_r, rx_getfield, ev_gf, rx_iconst, rx_invi, rx_obj2, ev_cs, rx_invs, rx_max2, rx_min2, rx_copy2, rx_new, rx_putfield, ev_pf, ev_w1, ev_KW, am_fok, am_ftv, rx_return, rx_sipush, kl_1, kl_2, kl_3, kl_5, kl_6, kl_7, ev_K, ev_pI, ev_pR, ev_pVi, ev_pVr, ev_sI, ev_sR, ev_KC, ev_k, ev_ko, ev_pop0, ev_pops, am_ld, am_sv, am_at, am_st, am_g, List.length_cons, List.length_nil, Nat.reduceAdd, Nat.reduceLT, Nat.zero_add, if_true, if_false, and_self, true_or, or_true, true_and, and_true, not_true_eq_false, not_false_eq_true, reduceCtorEq, eq_self, Option.toList_some, Option.toList_none, List.cons_append, List.nil_append, Bool.false_eq_true, c9, s9, vt10, am_ftv0, hz, am_up_2, am_nw_2, am_up_at, am_up_up, Nat.reduceLeDiff, beq_self_eq_true]
  · refine ⟨am_up_at _ _ _, ?_, rfl, ?_, ?_, ?_, ?_, ?_, f9.up _ c9⟩
    · intro e he
      subst he
      refine ⟨?_, by omega⟩
      rw [k0 _ (by omega) (by omega), b0]
      rfl
    · intro i hi
      refine ⟨?_, fun y hy => by cases hy⟩
      rcases (by omega : i = 0 ∨ i = 1 ∨ i = 2 ∨ i = 3) with q | q | q | q <;> subst q
      · exact t1.fr (k1 _ (by show h.2.1 + 1 < _; omega) (by show h.2.1 + 1 ≠ _; omega)) (k1 _ (by show h.2.1 + 1 + 1 < _; omega) (by show h.2.1 + 1 + 1 ≠ _; omega))
      · exact t2.fr (k2 _ (by show h.2.1 + 3 < _; omega) (by show h.2.1 + 3 ≠ _; omega)) (k2 _ (by show h.2.1 + 3 + 1 < _; omega) (by show h.2.1 + 3 + 1 ≠ _; omega))
      · exact t6.fr (k6 _ (by show h.2.1 + 113 < _; omega) (by show h.2.1 + 113 ≠ _; omega)) (k6 _ (by show h.2.1 + 113 + 1 < _; omega) (by show h.2.1 + 113 + 1 ≠ _; omega))
      · exact t7.fr (k7 _ (by show h.2.1 + 115 < _; omega) (by show h.2.1 + 115 ≠ _; omega)) (k7 _ (by show h.2.1 + 115 + 1 < _; omega) (by show h.2.1 + 115 + 1 ≠ _; omega))
    · intro l hl
      refine ⟨?_, fun k hk y hy => by cases hy⟩
      rcases (by omega : l = 0 ∨ l = 1 ∨ l = 2) with q | q | q <;> subst q
      · refine t3.mv (k3 _ (by show h.2.1 + 5 < _; omega) (by show h.2.1 + 5 ≠ _; omega)) (k3 _ (by show h.2.1 + 5 + 1 < _; omega) (by show h.2.1 + 5 + 1 ≠ _; omega)) (fun k hk => ?_)
        have hk : k < 4 := hk
        exact ⟨k3 _ (by show h.2.1 + 5 + 1 + 1 + 3 * k < _; omega) (by show h.2.1 + 5 + 1 + 1 + 3 * k ≠ _; omega), k3 _ (by show h.2.1 + 5 + 1 + 2 + 3 * k < _; omega) (by show h.2.1 + 5 + 1 + 2 + 3 * k ≠ _; omega), k3 _ (by show h.2.1 + 5 + 1 + 3 + 3 * k < _; omega) (by show h.2.1 + 5 + 1 + 3 + 3 * k ≠ _; omega)⟩
      · refine t4.mv (k4 _ (by show h.2.1 + 19 < _; omega) (by show h.2.1 + 19 ≠ _; omega)) (k4 _ (by show h.2.1 + 19 + 1 < _; omega) (by show h.2.1 + 19 + 1 ≠ _; omega)) (fun k hk => ?_)
        have hk : k < 8 := hk
        exact ⟨k4 _ (by show h.2.1 + 19 + 1 + 1 + 3 * k < _; omega) (by show h.2.1 + 19 + 1 + 1 + 3 * k ≠ _; omega), k4 _ (by show h.2.1 + 19 + 1 + 2 + 3 * k < _; omega) (by show h.2.1 + 19 + 1 + 2 + 3 * k ≠ _; omega), k4 _ (by show h.2.1 + 19 + 1 + 3 + 3 * k < _; omega) (by show h.2.1 + 19 + 1 + 3 + 3 * k ≠ _; omega)⟩
      · refine t5.mv (k5 _ (by show h.2.1 + 45 < _; omega) (by show h.2.1 + 45 ≠ _; omega)) (k5 _ (by show h.2.1 + 45 + 1 < _; omega) (by show h.2.1 + 45 + 1 ≠ _; omega)) (fun k hk => ?_)
        have hk : k < 22 := hk
        exact ⟨k5 _ (by show h.2.1 + 45 + 1 + 1 + 3 * k < _; omega) (by show h.2.1 + 45 + 1 + 1 + 3 * k ≠ _; omega), k5 _ (by show h.2.1 + 45 + 1 + 2 + 3 * k < _; omega) (by show h.2.1 + 45 + 1 + 2 + 3 * k ≠ _; omega), k5 _ (by show h.2.1 + 45 + 1 + 3 + 3 * k < _; omega) (by show h.2.1 + 45 + 1 + 3 + 3 * k ≠ _; omega)⟩
    · have t8' : vs_lg H8 (h.2.1 + 117) (fun i => vi_ad x h.2.1 (19 + i)) (fun _ => 0) (fun _ => 0) (fun _ => 0) (fun _ => 0) 0 1 0 := by
        obtain ⟨q0, q1, q2, q3, q4, q5, q6, q7⟩ := t8
        refine ⟨q0, q1, q2, q3, q4, q5, q6, fun i j hi hj hij => ?_⟩
        rcases (by omega : i = 0 ∨ i = 1 ∨ i = 2 ∨ i = 3) with w | w | w | w <;> subst w <;> rcases (by omega : j = 0 ∨ j = 1 ∨ j = 2 ∨ j = 3) with w | w | w | w <;> subst w <;> first | exact absurd rfl hij | (show h.2.1 + _ ≠ h.2.1 + _; simp [vi_o])
      refine t8'.mv (k8 _ (by show h.2.1 + 117 < _; omega) (by show h.2.1 + 117 ≠ _; omega)) (fun i hi => ?_)
      rcases (by omega : i = 0 ∨ i = 1 ∨ i = 2 ∨ i = 3) with w | w | w | w <;> subst w
      · exact k8 _ (by show h.2.1 + 118 < _; omega) (by show h.2.1 + 118 ≠ _; omega)
      · exact k8 _ (by show h.2.1 + 119 < _; omega) (by show h.2.1 + 119 ≠ _; omega)
      · exact k8 _ (by show h.2.1 + 120 < _; omega) (by show h.2.1 + 120 ≠ _; omega)
      · exact k8 _ (by show h.2.1 + 121 < _; omega) (by show h.2.1 + 121 ≠ _; omega)
    · exact t9.mv (k9 _ (by show h.2.1 + 122 < _; omega) (by show h.2.1 + 122 ≠ _; omega)) (k9 _ (by show h.2.1 + 122 + 1 < _; omega) (by show h.2.1 + 122 + 1 ≠ _; omega))
    · exact vi_D hz hxl
  · intro q h1 h2
    rw [k0 q (by omega) h2]
    exact u0 q h1
  · rw [am_up_2, s9]
end VIQ