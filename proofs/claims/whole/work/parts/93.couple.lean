section KKK
def k_D (n r x : Nat) : Prop := x < n + r ∨ x = 600
def k_P (b : Nat) (p : Nat → Nat) (En : Nat → Prop) (E : Nat → Nat → Int32) (n r : Nat) : Prop := p 600 = b ∧ (∀ x y, k_D n r x → k_D n r y → p x = p y → x = y) ∧ (∀ x, k_D n r x → En (p x)) ∧ E b 0 = -1 ∧ E b 3 = 1 ∧ E b 4 = 0
def k_I (p : Nat → Nat) (R : Nat → List Nat) (C : Nat → Nat → List Nat) (fl : Nat → Nat → Int32) (c : Nat → Nat) (E : Nat → Nat → Int32) (M : List Nat) (T0 : Nat → List Nat) (L1 L2 : List Nat) (n r : Nat) : Prop :=
  R 0 = (List.range' n r).map p ∧ R 1 = M.map p ∧ (∀ l, l < 3 → c l = k_ct (c 0) L1 L2 l) ∧ ∀ l k, l < 3 → k < c l → C l k = (k_tb T0 L1 L2 l k).map p ∧ fl l k = (C l k).foldl (e_ff E) 0
def k_G (F : Nat → Nat → Int32) (tk cb tb sb g : Nat → Nat) (n last : Nat) (M : List Nat) : Prop := k_C F tk n (g 0) (g 1) ∧ k_lgF F tk (g 0) (g 1) ∧ k_U F cb tb sb tk (g 2) (g 1) (g 0) last n M.length
def k_W (v w : Nat → Int32) (c g : Nat → Nat) (n r last t nw : Nat) : Prop := (v 0 = nI t ∧ w 0 = nI t) ∧ (v 1 = nI last ∧ w 4 = nI last) ∧ v 3 = w 9 ∧ w 1 = nI n ∧ w 2 = nI nw ∧ w 3 = nI (c 0) ∧ w 5 = nI r ∧ w 6 = nI (g 0) ∧ w 7 = nI (g 0 + (g 1 - 1)) ∧ w 8 = nI (g 2)
def k_N (g : Nat → Nat) (n r last t nw st : Nat) : Prop := (n + r ≤ st ∧ r ≤ 6) ∧ last ≤ n ∧ t ≤ 1000 * st ∧ nw ≤ st ∧ g 0 + g 1 ≤ 8 * st + 1 ∧ st ≤ 512
def k_K (b : Nat) (p : Nat → Nat) (R : Nat → List Nat) (C : Nat → Nat → List Nat) (fl : Nat → Nat → Int32) (c : Nat → Nat) (tk cb tb sb g : Nat → Nat) (S : Nat → Int32) (En : Nat → Prop) (E : Nat → Nat → Int32) (v w : Nat → Int32) (F : Nat → Nat → Int32) (n r last t nw st : Nat) (M : List Nat) (T0 : Nat → List Nat) (L1 L2 : List Nat) : Prop :=
  k_P b p En E n r ∧ k_I p R C fl c E M T0 L1 L2 n r ∧ (k_dc (k_ep E p) F n ∧ k_B (k_ep E p) F n r) ∧ (k_V (k_ep E p) F n last nw (c 0) M T0 L1 L2 ∧ k_Mc F M last ∧ M.length ≤ 8) ∧ k_S S F last ∧ k_G F tk cb tb sb g n last M ∧ k_W v w c g n r last t nw ∧ k_N g n r last t nw st
def k_J (z st xv xm : Nat) (hv hm : am_H) : Prop := ∃ (ad : Nat → Nat) (tt rr aa : Nat → Nat → Nat) (R : Nat → List Nat) (C : Nat → Nat → List Nat) (fl : Nat → Nat → Int32) (c : Nat → Nat) (tk cb tb sb g : Nat → Nat) (S : Nat → Int32) (En : Nat → Prop) (E : Nat → Nat → Int32) (v : Nat → Int32) (A : Nat → Nat) (w : Nat → Int32) (F : Nat → Nat → Int32) (p : Nat → Nat) (n r last t nw : Nat) (M : List Nat) (T0 : Nat → List Nat) (L1 L2 : List Nat), ad 0 = xv ∧ vs_V z hv ad tt rr aa R C fl c tk cb tb sb g S En E v ∧ vs_M z hm xm A w F ∧ k_K (ad 1) p R C fl c tk cb tb sb g S En E v w F n r last t nw st M T0 L1 L2
def k_O (z st xv xm : Nat) (hv hm : am_H) (jv jm : Nat) (av : List Value) : Prop := ∃ (r : Int32) (hv' hm' : am_H), am_M z 7 jv (.ref xv :: av) hv (some (.int r)) hv' ∧ am_M z 7 jm (.ref xm :: av) hm (some (.int r)) hm' ∧ k_J z (st + 1) xv xm hv' hm' ∧ (hv'.2 = hv.2 ∨ hv'.2 = (hv.2.1 + 1, hv.2.2 + 8)) ∧ hm'.2 = hm.2
variable {F F' G : Nat → Nat → Int32} {n r last t nw st c0 : Nat} {M L1 L2 : List Nat} {T0 : Nat → List Nat} {tk cb tb sb g : Nat → Nat}
theorem k_N_up (h : k_N g n r last t nw st) (hs : st < 512) : k_N g n r last t nw (st + 1) := by
  obtain ⟨⟨h1, h2⟩, h3, h4, h5, h6, h7⟩ := h
  exact ⟨⟨by omega, h2⟩, by omega, by omega, by omega, by omega, by omega⟩
theorem k_al_cg (h5 : F' 5 = F 5) {i : Nat} : k_al F' n i ↔ k_al F n i := by unfold k_al; rw [h5]
theorem k_A_cg (h : k_A F n last) (h0 : F' 0 = F 0) (h1 : F' 1 = F 1) (h5 : F' 5 = F 5) : k_A F' n last := by
  unfold k_A
  simp only [k_al_cg h5, h0, h1, h5]
  exact h
theorem k_V_cg (h : k_V G F n last nw c0 M T0 L1 L2) (h0 : F' 0 = F 0) (h1 : F' 1 = F 1) (h5 : F' 5 = F 5) (h6 : F' 6 = F 6) : k_V G F' n last nw c0 M T0 L1 L2 := by
  obtain ⟨hA, hZ, ⟨a1, a2⟩, ⟨b1, b2⟩, c1, c2, d1, d2, f1, f2⟩ := h
  have e5 : ∀ (b : Int32) i, i < n → (F' 5 i = b ↔ F 5 i = b) := fun b i _ => by rw [h5]
  exact ⟨k_A_cg hA h0 h1 h5, k_Z_cg hZ (e5 0) (fun i _ _ => by rw [h6]) (fun i _ => by rw [h1]), ⟨a1, k_at_cg a2 (e5 1)⟩, ⟨b1, k_at_cg b2 (e5 2)⟩, c1, c2, fun r x hx => by rw [h6]; exact d1 r x hx, fun r x hx => by rw [h6]; exact d2 r x hx, f1, k_at_cg f2 (e5 (-1))⟩
theorem k_Mc_cg (h : k_Mc F M last) (h1 : F' 1 = F 1) : k_Mc F' M last := fun j x hx => by rw [h1]; exact h j x hx
theorem k_B_cg (h : k_B G F n r) (h1 : F' 11 = F 11) (h2 : F' 12 = F 12) (h3 : F' 13 = F 13) : k_B G F' n r := fun j hj => by rw [h1, h2, h3]; exact h j hj
theorem k_G_cg (h : k_G F tk cb tb sb g n last M) (h1 : F' 1 = F 1) (h3 : F' 3 = F 3) (h5 : F' 5 = F 5) (h7 : F' 7 = F 7) (h8 : F' 8 = F 8) (h16 : F' 16 = F 16) (h17 : F' 17 = F 17) (h18 : F' 18 = F 18) (h19 : F' 19 = F 19) : k_G F' tk cb tb sb g n last M :=
  ⟨k_C_cg h.1 (fun i hi => (k_al_cg h5).mp hi) h3 h7 h8, fun k hk => by rw [h16]; exact h.2.1 k hk, k_U_cg h.2.2 (fun i hi => (k_al_cg h5).mp hi) h1 h3 h7 h8 h17 h18 h19⟩
theorem k_G_sync (h : k_G F tk cb tb sb g n last M) : k_G F tk cb tb sb (va_up g 2 0) n last M := ⟨h.1, h.2.1, k_U_0 F cb tb sb tk (g 1) (g 0) last n M.length⟩
theorem k_size (h : k_V G F n last nw c0 M T0 L1 L2) : m_cn (fun e => decide (F 5 e = -1)) n = M.length := m_cn_len h.2.2.2.2.2.2.2.2.1 (fun i => by rw [h.2.2.2.2.2.2.2.2.2 i, decide_eq_true_eq])
end KKK
section KOP
variable {z st xv xm : Nat} {hv hm : am_H}
theorem jo_tick (hJ : k_J z st xv xm hv hm) (hs : st < 512) (k : Int32) : k_O z st xv xm hv hm 61 123 [.int k] := by
  obtain ⟨ad, tt, rr, aa, R, C, fl, c, tk, cb, tb, sb, g, S, En, E, v, A, w, F, p, n, r, last, t, nw, M, T0, L1, L2, hx, hV, hM, hP, hI, hD, hVV, hS, hG, hW, hN⟩ := hJ
  subst hx
  by_cases h1 : k < 0
  · exact ⟨_, hv, hm, am_M_up (by omega) (vl_tickNo 0 hv (.inl h1)), am_M_up (by omega) (mo_tickNo 0 (.inl h1)), ⟨ad, tt, rr, aa, R, C, fl, c, tk, cb, tb, sb, g, S, En, E, v, A, w, F, p, n, r, last, t, nw, M, T0, L1, L2, rfl, hV, hM, hP, hI, hD, hVV, hS, hG, hW, k_N_up hN hs⟩, .inl rfl, rfl⟩
  · by_cases h2 : k ≤ 1000
    · obtain ⟨hv', a1, a2, a3⟩ := vl_tick 0 h1 h2 hV
      obtain ⟨hm', b1, b2, b3⟩ := mo_tick 0 h1 h2 hM
      obtain ⟨kk, k1, k2⟩ := nI_of2 (M := 1000) (n := 1000) (by decide) h1 h2
      obtain ⟨⟨w1, w2⟩, w3⟩ := hW
      obtain ⟨n1, n2, n3, n4⟩ := hN
      have ew : w 0 + k = v 0 + k := by rw [w1, w2]
      rw [ew] at b1 b2
      refine ⟨_, hv', hm', am_M_up (by omega) a1, am_M_up (by omega) b1, ⟨ad, tt, rr, aa, R, C, fl, c, tk, cb, tb, sb, g, S, En, E, _, A, _, F, p, n, r, last, t + kk, nw, M, T0, L1, L2, rfl, a2, b2, hP, hI, hD, hVV, hS, hG, ⟨⟨?_, ?_⟩, w3⟩, ⟨by omega, n1.2⟩, by omega, by omega, by omega, by omega, by omega⟩, .inl a3, b3⟩
      · rw [va_up_self, w1, k2, nI_add]
      · rw [va_up_self, w1, k2, nI_add]
    · exact ⟨_, hv, hm, am_M_up (by omega) (vl_tickNo 0 hv (.inr h2)), am_M_up (by omega) (mo_tickNo 0 (.inr h2)), ⟨ad, tt, rr, aa, R, C, fl, c, tk, cb, tb, sb, g, S, En, E, v, A, w, F, p, n, r, last, t, nw, M, T0, L1, L2, rfl, hV, hM, hP, hI, hD, hVV, hS, hG, hW, k_N_up hN hs⟩, .inl rfl, rfl⟩
theorem jo_probes (hJ : k_J z st xv xm hv hm) (hs : st < 512) : k_O z st xv xm hv hm 82 139 [] := by
  obtain ⟨ad, tt, rr, aa, R, C, fl, c, tk, cb, tb, sb, g, S, En, E, v, A, w, F, p, n, r, last, t, nw, M, T0, L1, L2, hx, hV, hM, hP, hI, hD, hVV, hS, hG, hW, hN⟩ := hJ
  subst hx
  have a1 := vl_probes 0 hV
  have b1 := mo_probes 0 hM
  rw [← hW.2.2.1] at b1
  exact ⟨_, hv, hm, am_M_up (by omega) a1, am_M_up (by omega) b1, ⟨ad, tt, rr, aa, R, C, fl, c, tk, cb, tb, sb, g, S, En, E, v, A, w, F, p, n, r, last, t, nw, M, T0, L1, L2, rfl, hV, hM, hP, hI, hD, hVV, hS, hG, hW, k_N_up hN hs⟩, .inl rfl, rfl⟩
theorem jo_sync (hJ : k_J z st xv xm hv hm) (hs : st < 512) : k_O z st xv xm hv hm 42 113 [] := by
  obtain ⟨ad, tt, rr, aa, R, C, fl, c, tk, cb, tb, sb, g, S, En, E, v, A, w, F, p, n, r, last, t, nw, M, T0, L1, L2, hx, hV, hM, hP, hI, hD, hVV, hS, hG, hW, hN⟩ := hJ
  subst hx
  obtain ⟨hv', a1, a2, a3⟩ := vl_sync 0 hV
  obtain ⟨hm', b1, b2, b3⟩ := mo_sync 0 hM
  obtain ⟨w1, w2, w3, w4, w5, w6, w7, w8, w9, w10⟩ := hW
  rw [w10] at b1
  exact ⟨_, hv', hm', am_M_up (by omega) a1, am_M_up (by omega) b1, ⟨ad, tt, rr, aa, R, C, fl, c, tk, cb, tb, sb, _, S, En, E, v, A, _, F, p, n, r, last, t, nw, M, T0, L1, L2, rfl, a2, b2, hP, hI, hD, hVV, hS, k_G_sync hG, ⟨w1, w2, w3, w4, w5, w6, w7, w8, w9, rfl⟩, k_N_up hN hs⟩, .inl a3, b3⟩
theorem k_ct_eq {S : Nat → Int32} {F : Nat → Nat → Int32} {last : Nat} (hS : k_S S F last) {s : Nat} (hs : s < 3) : S s = -1 ↔ F 14 s = 0 := by
  obtain ⟨h1, h2, h3⟩ := hS s hs
  rw [h1]
  by_cases h : F 14 s = 0
  · rw [if_pos h]; exact ⟨fun _ => h, fun _ => rfl⟩
  · rw [if_neg h]
    refine ⟨fun q => ?_, fun q => absurd q h⟩
    have := (h3 h).1
    rw [q] at this
    exact absurd this (by decide)
theorem k_op_eq {S : Nat → Int32} {F : Nat → Nat → Int32} {last : Nat} (hS : k_S S F last) : ∀ m, m ≤ 3 → e_op S m = m_op F m ∧ ∀ i, m_op F m = some i → i < 3
  | 0, _ => ⟨rfl, fun i h => by cases h⟩
  | m + 1, hm => by
    obtain ⟨h1, h2⟩ := k_op_eq hS m (by omega)
    have h3 := k_ct_eq hS (s := 2 - m) (by omega)
    unfold e_op m_op
    by_cases h : F 14 (2 - m) = 0
    · rw [if_pos h, if_pos (h3.mpr h)]
      exact ⟨rfl, fun i hi => by cases hi; omega⟩
    · rw [if_neg h, if_neg (fun q => h (h3.mp q)), h1]
      exact ⟨rfl, h2⟩
theorem jo_look (hJ : k_J z st xv xm hv hm) (hs : st < 512) (k : Int32) : k_O z st xv xm hv hm 91 142 [.int k] := by
  obtain ⟨ad, tt, rr, aa, R, C, fl, c, tk, cb, tb, sb, g, S, En, E, v, A, w, F, p, n, r, last, t, nw, M, T0, L1, L2, hx, hV, hM, hP, hI, hD, hVV, hS, hG, hW, hN⟩ := hJ
  subst hx
  have hJ' : k_J z (st + 1) (ad 0) xm hv hm := ⟨ad, tt, rr, aa, R, C, fl, c, tk, cb, tb, sb, g, S, En, E, v, A, w, F, p, n, r, last, t, nw, M, T0, L1, L2, rfl, hV, hM, hP, hI, hD, hVV, hS, hG, hW, k_N_up hN hs⟩
  obtain ⟨w1, w2, w3, w4, w5, w6, w7, w8, w9, w10⟩ := hW
  obtain ⟨a0, a1, a2, a3, a4⟩ := vl_look 0 hV
  obtain ⟨b0, b1, b2, b3, b4, b5⟩ := mo_look 0 w4 (by have := hN.1.1; have := hN.2.2.2.2.2; omega) hM
  by_cases hk : k < 0 ∨ 5 ≤ k.toNatClampNeg
  · exact ⟨_, hv, hm, am_M_up (by omega) (vl_lookNo 0 hk), am_M_up (by omega) (b5 k hk), hJ', .inl rfl, rfl⟩
  · have hk1 : ¬ k < 0 := fun h => hk (.inl h)
    obtain ⟨j, j1, j2⟩ := nI_of hk1
    have hj : j < 5 := by
      rw [j2, nI_clamp j1] at hk
      omega
    subst j2
    have : j = 0 ∨ j = 1 ∨ j = 2 ∨ j = 3 ∨ j = 4 := by omega
    rcases this with h | h | h | h | h
    · subst h
      rw [k_size hVV.1] at b0
      rw [hI.2.1, List.length_map] at a0
      exact ⟨_, hv, hm, am_M_up (by omega) a0, am_M_up (by omega) b0, hJ', .inl rfl, rfl⟩
    · subst h
      rw [w2.2, ← w2.1] at b1
      exact ⟨_, hv, hm, am_M_up (by omega) a1, am_M_up (by omega) b1, hJ', .inl rfl, rfl⟩
    · subst h
      rw [w10] at b2
      exact ⟨_, hv, hm, am_M_up (by omega) a2, am_M_up (by omega) b2, hJ', .inl rfl, rfl⟩
    · subst h
      rw [w7] at b3
      rw [hI.1, List.length_map, List.length_range'] at a3
      exact ⟨_, hv, hm, am_M_up (by omega) a3, am_M_up (by omega) b3, hJ', .inl rfl, rfl⟩
    · subst h
      have he : e_ct S 3 = m_ct F := by
        have h0 := k_ct_eq hS (s := 0) (by omega)
        have h1 := k_ct_eq hS (s := 1) (by omega)
        have h2 := k_ct_eq hS (s := 2) (by omega)
        unfold m_ct
        simp only [e_ct, Nat.reduceSub, Nat.sub_zero, h0, h1, h2]
        omega
      rw [← he] at b4
      exact ⟨_, hv, hm, am_M_up (by omega) a4, am_M_up (by omega) b4, hJ', .inl rfl, rfl⟩
theorem jo_take (hJ : k_J z st xv xm hv hm) (hs : st < 512) : k_O z st xv xm hv hm 56 121 [] := by
  obtain ⟨ad, tt, rr, aa, R, C, fl, c, tk, cb, tb, sb, g, S, En, E, v, A, w, F, p, n, r, last, t, nw, M, T0, L1, L2, hx, hV, hM, hP, hI, hD, hVV, hS, hG, hW, hN⟩ := hJ
  subst hx
  obtain ⟨hv', a1, a2, a3⟩ := vl_take 0 hV
  obtain ⟨hm', b1, b2, b3⟩ := mo_take 0 hM
  obtain ⟨o1, o2⟩ := k_op_eq hS 3 (by omega)
  rw [o1] at a1 a2
  have hlast := hN.2.1
  cases ho : m_op F 3 with
  | none =>
    rw [ho] at a1 a2 b1 b2
    exact ⟨_, hv', hm', am_M_up (by omega) a1, am_M_up (by omega) b1, ⟨ad, tt, rr, aa, R, C, fl, c, tk, cb, tb, sb, g, _, En, E, v, A, w, _, p, n, r, last, t, nw, M, T0, L1, L2, rfl, a2, b2, hP, hI, hD, hVV, hS, hG, hW, k_N_up hN hs⟩, .inl a3, b3⟩
  | some i =>
    rw [ho] at a1 a2 b1 b2
    dsimp only at a1 a2 b1 b2
    have hi := o2 i ho
    have hne : ∀ j, j ≠ 14 → j ≠ 15 → m_tk F i (w 4) j = F j := fun j h14 h15 => by
      unfold m_tk
      rw [va_up_ne _ _ h15, va_up_ne _ _ h14]
    refine ⟨_, hv', hm', am_M_up (by omega) a1, am_M_up (by omega) b1, ⟨ad, tt, rr, aa, R, C, fl, c, tk, cb, tb, sb, g, _, En, E, v, A, w, _, p, n, r, last, t, nw, M, T0, L1, L2, rfl, a2, b2, hP, hI, ⟨k_dc_cg hD.1 (hne 0 (by omega) (by omega)) (hne 1 (by omega) (by omega)) (hne 2 (by omega) (by omega)) (hne 3 (by omega) (by omega)) (hne 4 (by omega) (by omega)) (hne 7 (by omega) (by omega)) (hne 8 (by omega) (by omega)), k_B_cg hD.2 (hne 11 (by omega) (by omega)) (hne 12 (by omega) (by omega)) (hne 13 (by omega) (by omega))⟩, ⟨k_V_cg hVV.1 (hne 0 (by omega) (by omega)) (hne 1 (by omega) (by omega)) (hne 5 (by omega) (by omega)) (hne 6 (by omega) (by omega)), k_Mc_cg hVV.2.1 (hne 1 (by omega) (by omega)), hVV.2.2⟩, ?_, k_G_cg hG (hne 1 (by omega) (by omega)) (hne 3 (by omega) (by omega)) (hne 5 (by omega) (by omega)) (hne 7 (by omega) (by omega)) (hne 8 (by omega) (by omega)) (hne 16 (by omega) (by omega)) (hne 17 (by omega) (by omega)) (hne 18 (by omega) (by omega)) (hne 19 (by omega) (by omega)), hW, k_N_up hN hs⟩, .inl a3, b3⟩
    intro s hss
    have e14 : m_tk F i (w 4) 14 s = upd (F 14) i 1 s := rfl
    have e15 : m_tk F i (w 4) 15 s = upd (F 15) i (w 4) s := rfl
    rw [e14, e15]
    unfold upd
    by_cases hsi : s = i
    · have hst := hN.2.2.2.2.2
      have hnr := hN.1.1
      rw [if_pos hsi, if_pos hsi, if_pos hsi, if_neg (by decide), hW.2.1.1, hW.2.1.2]
      exact ⟨rfl, .inr rfl, fun _ => by rw [nI_toInt (by omega)]; omega⟩
    · rw [if_neg hsi, if_neg hsi, if_neg hsi]
      exact hS s hss
theorem jo_release (hJ : k_J z st xv xm hv hm) (hs : st < 512) (k : Int32) : k_O z st xv xm hv hm 58 122 [.int k] := by
  obtain ⟨ad, tt, rr, aa, R, C, fl, c, tk, cb, tb, sb, g, S, En, E, v, A, w, F, p, n, r, last, t, nw, M, T0, L1, L2, hx, hV, hM, hP, hI, hD, hVV, hS, hG, hW, hN⟩ := hJ
  subst hx
  have hJ' : k_J z (st + 1) (ad 0) xm hv hm := ⟨ad, tt, rr, aa, R, C, fl, c, tk, cb, tb, sb, g, S, En, E, v, A, w, F, p, n, r, last, t, nw, M, T0, L1, L2, rfl, hV, hM, hP, hI, hD, hVV, hS, hG, hW, k_N_up hN hs⟩
  by_cases h1 : k < 0
  · exact ⟨_, hv, hm, am_M_up (by omega) (vl_releaseNo 0 (.inl (.inl h1)) hV), am_M_up (by omega) (mo_releaseNo 0 (.inl h1)), hJ', .inl rfl, rfl⟩
  · by_cases h2 : k ≤ 2
    · obtain ⟨i, i1, i2⟩ := nI_of2 (M := 2) (n := 2) (by decide) h1 h2
      subst i2
      have hi : i < 3 := by omega
      have hbit : F 14 i &&& 1 = F 14 i := by
        rcases (hS i hi).2.1 with h | h <;> rw [h] <;> decide
      obtain ⟨hm', b1, b2, b3⟩ := mo_release 0 hi hbit hM
      have hne : ∀ j, j ≠ 14 → va_up F 14 (upd (F 14) i 0) j = F j := fun j h14 => va_up_ne _ _ h14
      have hKr : ∀ S', (∀ s, s < 3 → S' s = if s = i then -1 else S s) → k_S S' (va_up F 14 (upd (F 14) i 0)) last := by
        intro S' hS' s hss
        have e14 : va_up F 14 (upd (F 14) i 0) 14 s = upd (F 14) i 0 s := rfl
        have e15 : va_up F 14 (upd (F 14) i 0) 15 s = F 15 s := rfl
        rw [e14, e15, hS' s hss]
        unfold upd
        by_cases hsi : s = i
        · rw [if_pos hsi, if_pos hsi, if_pos rfl]
          exact ⟨rfl, .inl rfl, fun h => absurd rfl h⟩
        · rw [if_neg hsi, if_neg hsi]
          exact hS s hss
      have hD' : k_dc (k_ep E p) (va_up F 14 (upd (F 14) i 0)) n ∧ k_B (k_ep E p) (va_up F 14 (upd (F 14) i 0)) n r := ⟨k_dc_cg hD.1 (hne 0 (by omega)) (hne 1 (by omega)) (hne 2 (by omega)) (hne 3 (by omega)) (hne 4 (by omega)) (hne 7 (by omega)) (hne 8 (by omega)), k_B_cg hD.2 (hne 11 (by omega)) (hne 12 (by omega)) (hne 13 (by omega))⟩
      have hVV' : k_V (k_ep E p) (va_up F 14 (upd (F 14) i 0)) n last nw (c 0) M T0 L1 L2 ∧ k_Mc (va_up F 14 (upd (F 14) i 0)) M last ∧ M.length ≤ 8 := ⟨k_V_cg hVV.1 (hne 0 (by omega)) (hne 1 (by omega)) (hne 5 (by omega)) (hne 6 (by omega)), k_Mc_cg hVV.2.1 (hne 1 (by omega)), hVV.2.2⟩
      have hG' : k_G (va_up F 14 (upd (F 14) i 0)) tk cb tb sb g n last M := k_G_cg hG (hne 1 (by omega)) (hne 3 (by omega)) (hne 5 (by omega)) (hne 7 (by omega)) (hne 8 (by omega)) (hne 16 (by omega)) (hne 17 (by omega)) (hne 18 (by omega)) (hne 19 (by omega))
      have hc := k_ct_eq hS hi
      by_cases h0 : F 14 i = 0
      · have a1 := vl_releaseNo 0 (.inr ⟨i, hi, rfl, hc.mpr h0⟩) hV
        rw [h0] at b1
        refine ⟨_, hv, hm', am_M_up (by omega) a1, am_M_up (by omega) b1, ⟨ad, tt, rr, aa, R, C, fl, c, tk, cb, tb, sb, g, S, En, E, v, A, w, _, p, n, r, last, t, nw, M, T0, L1, L2, rfl, hV, b2, hP, hI, hD', hVV', hKr S (fun s hss => ?_), hG', hW, k_N_up hN hs⟩, .inl rfl, b3⟩
        by_cases hsi : s = i
        · rw [if_pos hsi, hsi]; exact hc.mpr h0
        · rw [if_neg hsi]
      · obtain ⟨hv', a1, a2, a3⟩ := vl_releaseYes 0 hi (fun q => h0 (hc.mp q)) hV
        have h1 : F 14 i = 1 := (hS i hi).2.1.resolve_left h0
        rw [h1] at b1
        exact ⟨_, hv', hm', am_M_up (by omega) a1, am_M_up (by omega) b1, ⟨ad, tt, rr, aa, R, C, fl, c, tk, cb, tb, sb, g, _, En, E, v, A, w, _, p, n, r, last, t, nw, M, T0, L1, L2, rfl, a2, b2, hP, hI, hD', hVV', hKr _ (fun s hss => rfl), hG', hW, k_N_up hN hs⟩, .inl a3, b3⟩
    · refine ⟨_, hv, hm, am_M_up (by omega) (vl_releaseNo 0 (.inl (.inr ?_)) hV), am_M_up (by omega) (mo_releaseNo 0 (.inr h2)), hJ', .inl rfl, rfl⟩
      rw [Int32.le_iff_toInt_le] at *
      have e2 : (2 : Int32).toInt = 2 := by decide
      have e3 : (3 : Int32).toInt = 3 := by decide
      omega
end KOP
