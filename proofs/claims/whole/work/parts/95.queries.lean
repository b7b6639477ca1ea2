section KQU
variable {G F : Nat → Nat → Int32} {S : Nat → Int32} {n last nw c0 : Nat} {M L1 L2 : List Nat} {T0 : Nat → List Nat}
theorem k_sg_eq (hS : k_S S F last) (hl : last < 2 ^ 30) (s : Int32) : e_sg S (nI last) s = -1 ↔ ¬ m_vw F s = true := by
  have em : (-1 : Int32).toInt = -1 := by decide
  have hl1 : ¬ nI last = -1 := fun h => by
    have := congrArg Int32.toInt h
    rw [nI_toInt (by omega), em] at this
    omega
  unfold e_sg m_vw
  by_cases h1 : s = -1
  · rw [if_pos h1]
    simp [h1, hl1]
  · rw [if_neg h1]
    by_cases h2 : s < 0 ∨ 3 ≤ s
    · rw [if_pos h2]
      rcases h2 with h | h
      · simp [h1, h]
      · simp [h1, h]
    · rw [if_neg h2, not_or] at *
      have h3 : ¬ s < 0 := h2.1
      have h4 : ¬ (3 : Int32) ≤ s := h2.2
      obtain ⟨j, j1, j2⟩ := nI_of h3
      have hj : j < 3 := by
        rw [Int32.le_iff_toInt_le, j2, nI_toInt j1] at h4
        have e3 : (3 : Int32).toInt = 3 := by decide
        omega
      have hc := k_ct_eq hS hj
      subst j2
      rw [nI_clamp j1, hc]
      simp [h1, h3, h4]
theorem k_sg_sn (hS : k_S S F last) (hl : last < 2 ^ 30) (hA : k_A F n last) {s : Int32} (hv : m_vw F s = true) : k_sn F n s (e_sg S (nI last) s) ∧ (s < 0 ∨ ∃ j, j < 3 ∧ s = nI j) := by
  unfold m_vw at hv
  simp only [Bool.or_eq_true, Bool.and_eq_true, Bool.not_eq_true', decide_eq_true_eq, decide_eq_false_iff_not] at hv
  rcases hv with h | ⟨h1, h2, h3⟩
  · subst h
    refine ⟨fun x hx => ?_, .inl (by decide)⟩
    unfold m_sn e_sg
    rw [if_pos rfl, nI_toInt (by omega)]
    have := (hA.1 x hx).2.2
    have h0 : (-1 : Int32) < 0 := by decide
    simp [h0, this]
  · obtain ⟨j, j1, j2⟩ := nI_of h1
    have hj : j < 3 := by
      rw [Int32.le_iff_toInt_le, j2, nI_toInt j1] at h2
      have e3 : (3 : Int32).toInt = 3 := by decide
      omega
    have hm1 : ¬ nI j = -1 := fun h => by
      have := congrArg Int32.toInt h
      have em : (-1 : Int32).toInt = -1 := by decide
      rw [nI_toInt (by omega), em] at this
      omega
    rw [j2, nI_clamp j1] at h3
    rw [j2] at h1 h2
    refine ⟨fun x hx => ?_, .inr ⟨j, hj, j2⟩⟩
    unfold m_sn e_sg
    rw [j2, if_neg hm1, if_neg (fun q => q.elim h1 h2), nI_clamp j1, (hS j hj).1, if_neg h3]
    simp only [Bool.or_eq_true, Bool.not_eq_true', decide_eq_true_eq, decide_eq_false_iff_not, Int32.lt_iff_toInt_lt, h1, false_or]
    rw [Int32.lt_iff_toInt_lt] at h1
    have e0 : (0 : Int32).toInt = 0 := by decide
    constructor <;> intro h <;> omega
theorem e_sk_c (E : Nat → Nat → Int32) (key sight : Int32) (b : Nat) (C : Nat → Nat → List Nat) (fl : Nat → Nat → Int32) {c c' : Nat → Nat} : ∀ m l f q, (∀ l', l ≤ l' → l' < l + m → c l' = c' l') → e_sk E key sight b C fl c m l f q = e_sk E key sight b C fl c' m l f q
  | 0, _, _, _, _ => rfl
  | m + 1, l, f, q, h => by
    unfold e_sk
    rw [h l (by omega) (by omega), e_sk_c E key sight b C fl m (l + 1) _ _ (fun l' a b => h l' (by omega) (by omega))]
theorem e_sc_cg {P Q : Nat → Bool} {k : Int32} : ∀ m i x, m + i ≤ 32 → (∀ q, q < 32 → P q = Q q) → e_sc P k m i x = e_sc Q k m i x
  | 0, _, _, _, _ => rfl
  | m + 1, i, x, h, hq => by
    unfold e_sc
    rw [hq i (by omega), e_sc_cg m (i + 1) _ (by omega) hq, e_sc_cg m (i + 1) _ (by omega) hq]
theorem k_se_full {b : Nat} {p : Nat → Nat} {R : Nat → List Nat} {C : Nat → Nat → List Nat} {fl : Nat → Nat → Int32} {c : Nat → Nat} {En : Nat → Prop} {E : Nat → Nat → Int32} {r : Nat} {s sight : Int32} (hP : k_P b p En E n r) (hI : k_I p R C fl c E M T0 L1 L2 n r) (hd : k_dc (k_ep E p) F n) (hV : k_V (k_ep E p) F n last nw (c 0) M T0 L1 L2) (hsn : k_sn F n s sight) {q : Nat} (hq : q < 32) :
    e_se E (nI q) sight b (R 1) C fl c = (p ((m_fn F (nI nw) (c 0) n s (nI q)).1.getD 600), (m_fn F (nI nw) (c 0) n s (nI q)).2) := by
  obtain ⟨p1, p2, p3, p4, p5, p6⟩ := hP
  obtain ⟨i0, i1, i2, i3⟩ := hI
  have hb : k_ep E p 600 0 = -1 := by show E (p 600) 0 = -1; rw [p1]; exact p4
  have h4 : k_ep E p 600 4 = 0 := by show E (p 600) 4 = 0; rw [p1]; exact p6
  have hne : ∀ l j, l < 3 → j < c l → C l j = (k_tb T0 L1 L2 l j).map p ∧ k_tb T0 L1 L2 l j ≠ [] := by
    intro l j hl hj
    exact ⟨(i3 l j hl hj).1, (k_li hV hl (by rw [← i2 l hl]; exact hj)).2.2.1⟩
  rw [i1, ← p1, k_se_map p E (nI q) sight 600 M hne]
  have hc : e_se (k_ep E p) (nI q) sight 600 M (k_tb T0 L1 L2) fl c = e_se (k_ep E p) (nI q) sight 600 M (k_tb T0 L1 L2) fl (k_ct (c 0) L1 L2) := by
    unfold e_se
    exact e_sk_c _ _ _ _ _ _ 3 0 _ _ (fun l' _ h => i2 l' (by omega))
  rw [hc, k_se_eq hd hV hb h4 hsn hq (fun l k hl hk => by
    obtain ⟨j1, j2⟩ := i3 l k hl (by rw [i2 l hl]; exact hk)
    rw [j2, j1, k_ff_map])]
def k_go (F : Nat → Nat → Int32) (t : Int32) (o : Option Nat) : Bool := match o with
  | none => true
  | some e => m_gone F t e
theorem k_gone_o {b : Nat} {p : Nat → Nat} {En : Nat → Prop} {E : Nat → Nat → Int32} {r : Nat} (hP : k_P b p En E n r) (hd : k_dc (k_ep E p) F n) (t : Int32) (o : Option Nat) (ho : ∀ e, o = some e → e < n) : e_gone E (p (o.getD 600)) t = k_go F t o := by
  obtain ⟨p1, p2, p3, p4, p5, p6⟩ := hP
  cases o with
  | none =>
    show e_gone E (p 600) t = true
    rw [p1]
    unfold e_gone
    rw [p5]
    rfl
  | some e => exact k_dc_gone hd (ho e rfl) t
theorem k_fn_lt (hd : k_dc G F n) (hV : k_V G F n last nw c0 M T0 L1 L2) {s sight : Int32} (hsn : k_sn F n s sight) {q : Nat} (hq : q < 32) : ∀ e, (m_fn F (nI nw) c0 n s (nI q)).1 = some e → e < n := by
  intro e he
  rw [k_fn_th hd hV hsn hq] at he
  have := m_arg_spec (P := m_thP F s (nI q)) (k_hi_iff F) n
  rw [he] at this
  exact this.1
end KQU
section KQV
variable {z st xv xm : Nat} {hv hm : am_H}
theorem k_key {key : Int32} (hk : ¬ (key < 0 ∨ 32 ≤ key)) : ∃ q, q < 32 ∧ key = nI q := by
  rw [not_or] at hk
  obtain ⟨j, j1, j2⟩ := nI_of hk.1
  refine ⟨j, ?_, j2⟩
  have h := hk.2
  rw [Int32.le_iff_toInt_le, j2, nI_toInt j1] at h
  have e3 : (32 : Int32).toInt = 32 := by decide
  omega
theorem jo_hasget (hJ : k_J z st xv xm hv hm) (hs : st < 512) (s key : Int32) : k_O z st xv xm hv hm 69 125 [.int s, .int key] ∧ k_O z st xv xm hv hm 80 136 [.int s, .int key] := by
  obtain ⟨ad, tt, rr, aa, R, C, fl, c, tk, cb, tb, sb, g, S, En, E, v, A, w, F, p, n, r, last, t, nw, M, T0, L1, L2, hx, hV, hM, hP, hI, hD, hVV, hS, hG, hW, hN⟩ := hJ
  subst hx
  have hJ' : k_J z (st + 1) (ad 0) xm hv hm := ⟨ad, tt, rr, aa, R, C, fl, c, tk, cb, tb, sb, g, S, En, E, v, A, w, F, p, n, r, last, t, nw, M, T0, L1, L2, rfl, hV, hM, hP, hI, hD, hVV, hS, hG, hW, k_N_up hN hs⟩
  obtain ⟨w1, w2, w3, w4, w5, w6, w7, w8, w9, w10⟩ := id hW
  obtain ⟨⟨n1, n2⟩, n3, n4, n5, n6, n7⟩ := id hN
  have hsg := k_sg_eq hS (by omega) s
  by_cases hbad : ¬ m_vw F s = true ∨ key < 0 ∨ 32 ≤ key
  · have hbv : e_sg S (v 1) s = -1 ∨ key < 0 ∨ 32 ≤ key := by
      rw [w2.1]
      rcases hbad with h | h
      · exact .inl (hsg.mpr h)
      · exact .inr h
    have a1 := vl_getNo 0 hbv hV
    have hg1 : e_gone E (ad 1) (v 0) = true := by
      unfold e_gone
      rw [hP.2.2.2.2.1]; rfl
    have a2 := vl_has 2 rfl a1 hV.2.2.1 hV hV
    have a3 := vl_get 2 rfl a1 hV.2.2.1 hV hV
    rw [hg1, if_pos rfl] at a2 a3
    obtain ⟨b1, b2⟩ := mo_hasNo 0 hbad hM
    exact ⟨⟨_, hv, hm, am_M_up (by omega) a2, am_M_up (by omega) b1, hJ', .inl rfl, rfl⟩, ⟨_, hv, hm, am_M_up (by omega) a3, am_M_up (by omega) b2, hJ', .inl rfl, rfl⟩⟩
  · rw [not_or, Classical.not_not] at hbad
    obtain ⟨hvw, hk⟩ := hbad
    obtain ⟨q, hq, rfl⟩ := k_key hk
    obtain ⟨hsn, hsj⟩ := k_sg_sn hS (by omega) hVV.1.1 hvw
    have hC : ∀ l k, l < 3 → k < c l → C l k ≠ [] := by
      intro l k hl hk
      rw [(hI.2.2.2 l k hl hk).1]
      intro h
      exact (k_li hVV.1 hl (by rw [← hI.2.2.1 l hl]; exact hk)).2.2.1 (List.map_eq_nil_iff.mp h)
    have hns : ¬ e_sg S (v 1) s = -1 := by rw [w2.1, hsg]; exact fun h => h hvw
    obtain ⟨hv', a1, a2, a3, a4⟩ := vl_getEntry 0 hns hk hC hV
    have hse := k_se_full hP hI hD.1 hVV.1 hsn hq
    rw [← w2.1] at hse
    rw [hse] at a1 a2 a3
    obtain ⟨hm', b1, b2, b3, b4⟩ := mo_find 0 (key := nI q) w4 (by omega) w6 (by have := hVV.1.2.1.1.1; omega) hsj hM
    rw [w5] at b1 b2 b4
    have hlt := k_fn_lt hD.1 hVV.1 hsn hq
    have hgo := k_gone_o hP hD.1 (v 0) (m_fn F (nI nw) (c 0) n s (nI q)).1 hlt
    dsimp only at a1 a2 a3
    have hv0 : ∀ x y, (va_up (va_up v 2 x) 3 y) 0 = v 0 := fun _ _ => rfl
    have a5 := vl_has 5 (v := v) (hv0 _ _) a1 a3 hV a2
    have a6 := vl_get 5 (v := v) (hv0 _ _) a1 a3 hV a2
    have et : w 0 = v 0 := by rw [w1.1, w1.2]
    have hJ2 : k_J z (st + 1) (ad 0) xm hv' hm' := ⟨ad, tt, rr, aa, R, C, fl, c, tk, cb, tb, sb, g, S, En, E, _, A, _, F, p, n, r, last, t, nw, M, T0, L1, L2, rfl, a2, b2, hP, hI, hD, hVV, hS, hG, ⟨w1, w2, rfl, w4, w5, w6, w7, w8, w9, w10⟩, k_N_up hN hs⟩
    rw [hgo] at a5 a6
    cases ho : (m_fn F (nI nw) (c 0) n s (nI q)).1 with
    | none =>
      rw [ho] at a5 a6 b1 b4
      obtain ⟨b5, b6⟩ := mo_has 4 hvw hk hM b1 b4 b2
      exact ⟨⟨_, hv', hm', am_M_up (by omega) a5, am_M_up (by omega) b5, hJ2, .inl a4, b3⟩, ⟨_, hv', hm', am_M_up (by omega) a6, am_M_up (by omega) b6, hJ2, .inl a4, b3⟩⟩
    | some e =>
      rw [ho] at a5 a6 b1 b4
      obtain ⟨b5, b6⟩ := mo_has 4 hvw hk hM b1 b4 b2
      dsimp only at b5 b6
      rw [et] at b5 b6
      have he := hlt e ho
      have hv2 : E (p ((some e).getD 600)) 1 = F 2 e := (hD.1 e he).2.1
      rw [hv2] at a6
      exact ⟨⟨_, hv', hm', am_M_up (by omega) a5, am_M_up (by omega) b5, hJ2, .inl a4, b3⟩, ⟨_, hv', hm', am_M_up (by omega) a6, am_M_up (by omega) b6, hJ2, .inl a4, b3⟩⟩
theorem jo_scan (hJ : k_J z st xv xm hv hm) (hs : st < 512) (s fr k : Int32) : k_O z st xv xm hv hm 81 137 [.int s, .int fr, .int k] := by
  obtain ⟨ad, tt, rr, aa, R, C, fl, c, tk, cb, tb, sb, g, S, En, E, v, A, w, F, p, n, r, last, t, nw, M, T0, L1, L2, hx, hV, hM, hP, hI, hD, hVV, hS, hG, hW, hN⟩ := hJ
  subst hx
  have hJ' : k_J z (st + 1) (ad 0) xm hv hm := ⟨ad, tt, rr, aa, R, C, fl, c, tk, cb, tb, sb, g, S, En, E, v, A, w, F, p, n, r, last, t, nw, M, T0, L1, L2, rfl, hV, hM, hP, hI, hD, hVV, hS, hG, hW, k_N_up hN hs⟩
  obtain ⟨w1, w2, w3, w4, w5, w6, w7, w8, w9, w10⟩ := id hW
  obtain ⟨⟨n1, n2⟩, n3, n4, n5, n6, n7⟩ := id hN
  have hsg := k_sg_eq hS (by omega) s
  by_cases hbad : ¬ m_vw F s = true ∨ k < 0
  · have hbv : e_sg S (v 1) s = -1 ∨ k < 0 := by
      rw [w2.1]
      rcases hbad with h | h
      · exact .inl (hsg.mpr h)
      · exact .inr h
    exact ⟨_, hv, hm, am_M_up (by omega) (vl_scanBad 0 hbv hV), am_M_up (by omega) (mo_scanBad 0 hbad hM), hJ', .inl rfl, rfl⟩
  · rw [not_or, Classical.not_not] at hbad
    obtain ⟨hvw, hk⟩ := hbad
    obtain ⟨hsn, hsj⟩ := k_sg_sn hS (by omega) hVV.1.1 hvw
    have hC : ∀ l k, l < 3 → k < c l → C l k ≠ [] := by
      intro l k hl hk
      rw [(hI.2.2.2 l k hl hk).1]
      intro h
      exact (k_li hVV.1 hl (by rw [← hI.2.2.1 l hl]; exact hk)).2.2.1 (List.map_eq_nil_iff.mp h)
    have hns : ¬ e_sg S (v 1) s = -1 := by rw [w2.1, hsg]; exact fun h => h hvw
    obtain ⟨hv', x, a1, a2, a3⟩ := vl_scan 0 (fr := fr) hns hk hC hV
    have b1 := mo_scan 0 (fr := fr) w4 (by omega) hvw hk hM
    have heq : ∀ q, q < 32 → e_gone E (e_se E (nI q) (e_sg S (v 1) s) (ad 1) (R 1) C fl c).1 (v 0) = !m_th F (w 0) n s (nI q) := by
      intro q hq
      have hse := k_se_full hP hI hD.1 hVV.1 hsn hq
      rw [← w2.1] at hse
      rw [hse]
      show e_gone E (p ((m_fn F (nI nw) (c 0) n s (nI q)).1.getD 600)) (v 0) = _
      rw [k_gone_o hP hD.1 (v 0) _ (k_fn_lt hD.1 hVV.1 hsn hq), k_fn_th hD.1 hVV.1 hsn hq]
      have et : w 0 = v 0 := by rw [w1.1, w1.2]
      unfold m_th
      rw [et]
      cases m_arg (m_thP F s (nI q)) (m_hi F) n with
      | none => rfl
      | some e => simp [k_go]
    have hs0 : e_s0 fr ≤ 32 := by unfold e_s0; by_cases h : fr < 0 <;> simp [h] <;> omega
    rw [e_sc_cg _ _ _ (by omega) heq] at a1
    exact ⟨_, hv', hm, am_M_up (by omega) a1, am_M_up (by omega) b1, ⟨ad, tt, rr, aa, R, C, fl, c, tk, cb, tb, sb, g, S, En, E, _, A, w, F, p, n, r, last, t, nw, M, T0, L1, L2, rfl, a2, hM, hP, hI, hD, hVV, hS, hG, hW, k_N_up hN hs⟩, .inl a3, rfl⟩
end KQV
