section VCP
variable {z : Nat} {h : am_H} {ad : Nat → Nat} {tt rr aa : Nat → Nat → Nat} {R : Nat → List Nat} {C : Nat → Nat → List Nat} {fl : Nat → Nat → Int32} {c : Nat → Nat} {tk cb tb sb g : Nat → Nat} {S : Nat → Int32} {En : Nat → Prop} {E : Nat → Nat → Int32} {v : Nat → Int32}
def e_t1 (i : Nat) (tk : Nat → Nat) (cn m : Nat) : Nat → Nat := if i % 6 = 0 then e_bt tk cn (min 6 m) else tk
def e_c1 (i : Nat) (tk : Nat → Nat) (cn m : Nat) : Nat := if i % 6 = 0 then e_bc tk cn (min 6 m) else cn
def e_wm (tl : Nat) : List Nat → Nat → (Nat → Nat → Int32) → (Nat → Nat) → Nat → (Nat → Nat → Int32) × (Nat → Nat) × Nat
  | [], _, E, tk, cn => (E, tk, cn)
  | e :: t, i, E, tk, cn => e_wm tl t (i + 1) (e_plc E e (nI (tl + (e_c1 i tk cn (t.length + 1) - 1))) (nI (e_t1 i tk cn (t.length + 1) (e_c1 i tk cn (t.length + 1) - 1)))) (va_up (e_t1 i tk cn (t.length + 1)) (e_c1 i tk cn (t.length + 1) - 1) (e_t1 i tk cn (t.length + 1) (e_c1 i tk cn (t.length + 1) - 1) + 1)) (e_c1 i tk cn (t.length + 1))
def e_wi (i : Nat) (tk : Nat → Nat) (cn m : Nat) : Prop := ∃ q, 1 ≤ cn ∧ tk (cn - 1) + min ((6 - i % 6) % 6) m ≤ 16 ∧ m - min ((6 - i % 6) % 6) m < q ∧ e_sw q cn (16 - (tk (cn - 1) + min ((6 - i % 6) % 6) m)) (m - min ((6 - i % 6) % 6) m) ≤ 8
theorem e_sw_ge : ∀ q s r l, s ≤ e_sw q s r l
  | 0, s, r, l => Nat.le_refl _
  | q + 1, s, r, l => by
    unfold e_sw
    split
    · exact Nat.le_refl _
    · split
      · exact Nat.le_trans (Nat.le_succ s) (e_sw_ge q _ _ _)
      · exact e_sw_ge q _ _ _
theorem e_wi.st {i : Nat} {tk : Nat → Nat} {cn m : Nat} (hI : e_wi i tk cn (m + 1)) : 1 ≤ e_c1 i tk cn (m + 1) ∧ e_c1 i tk cn (m + 1) ≤ 8 ∧ cn ≤ e_c1 i tk cn (m + 1) ∧ tk (cn - 1) ≤ 16 ∧ (i % 6 = 0 → 16 < tk (cn - 1) + 1 + min 6 (m + 1) → cn < 8) ∧ e_t1 i tk cn (m + 1) (e_c1 i tk cn (m + 1) - 1) < 90 ∧ e_wi (i + 1) (va_up (e_t1 i tk cn (m + 1)) (e_c1 i tk cn (m + 1) - 1) (e_t1 i tk cn (m + 1) (e_c1 i tk cn (m + 1) - 1) + 1)) (e_c1 i tk cn (m + 1)) m := by
  obtain ⟨q, h1, h2, h3, h4⟩ := hI
  by_cases hi : i % 6 = 0
  · have e0 : min ((6 - i % 6) % 6) (m + 1) = 0 := by rw [hi]; simp
    rw [e0] at h2 h3 h4
    rw [Nat.add_zero] at h2 h4
    rw [Nat.sub_zero] at h3 h4
    cases q with
    | zero => omega
    | succ q =>
      have hat := e_bt_at tk (n := min 6 (m + 1)) h1
      have e1 : e_c1 i tk cn (m + 1) = e_bc tk cn (min 6 (m + 1)) := by unfold e_c1; rw [if_pos hi]
      have e2 : e_t1 i tk cn (m + 1) = e_bt tk cn (min 6 (m + 1)) := by unfold e_t1; rw [if_pos hi]
      rw [e1, e2]
      rw [e_sw, if_neg (by omega)] at h4
      have e3 : min ((6 - (i + 1) % 6) % 6) m = min 5 m := by
        rw [show (6 - (i + 1) % 6) % 6 = 5 by omega]
      by_cases hc : 16 - tk (cn - 1) < 1 + min (m + 1) 6
      · rw [if_pos hc] at h4
        have hge := e_sw_ge q (cn + 1) (16 - (1 + min (m + 1) 6)) (m + 1 - 6)
        have hc2 : 16 < tk (cn - 1) + 1 + min 6 (m + 1) := by omega
        rw [if_pos hc2] at hat
        have e4 : e_bc tk cn (min 6 (m + 1)) = cn + 1 := by unfold e_bc; rw [if_pos hc2]
        refine ⟨by omega, by omega, by omega, by omega, by omega, by rw [hat]; omega, q, by omega, ?_, ?_, ?_⟩
        · rw [va_up_self, hat, e3]; omega
        · rw [e3]; omega
        · rw [va_up_self, hat, e3, e4, show 16 - (1 + 1 + min 5 m) = 16 - (1 + min (m + 1) 6) by omega, show m - min 5 m = m + 1 - 6 by omega]
          exact h4
      · rw [if_neg hc] at h4
        have hge := e_sw_ge q cn (16 - tk (cn - 1) - (1 + min (m + 1) 6)) (m + 1 - 6)
        have hc2 : ¬ 16 < tk (cn - 1) + 1 + min 6 (m + 1) := by omega
        rw [if_neg hc2] at hat
        have e4 : e_bc tk cn (min 6 (m + 1)) = cn := by unfold e_bc; rw [if_neg hc2]
        refine ⟨by omega, by omega, by omega, by omega, by omega, by rw [hat]; omega, q, by omega, ?_, ?_, ?_⟩
        · rw [va_up_self, hat, e3]; omega
        · rw [e3]; omega
        · rw [va_up_self, hat, e3, e4, show 16 - (tk (cn - 1) + 1 + 1 + min 5 m) = 16 - tk (cn - 1) - (1 + min (m + 1) 6) by omega, show m - min 5 m = m + 1 - 6 by omega]
          exact h4
  · have hge := e_sw_ge q cn (16 - (tk (cn - 1) + min ((6 - i % 6) % 6) (m + 1))) (m + 1 - min ((6 - i % 6) % 6) (m + 1))
    have e1 : e_c1 i tk cn (m + 1) = cn := by unfold e_c1; rw [if_neg hi]
    have e2 : e_t1 i tk cn (m + 1) = tk := by unfold e_t1; rw [if_neg hi]
    rw [e1, e2]
    have e3 : min ((6 - (i + 1) % 6) % 6) m + 1 = min ((6 - i % 6) % 6) (m + 1) := by omega
    refine ⟨by omega, by omega, by omega, by omega, by omega, by omega, q, by omega, ?_, ?_, ?_⟩
    · rw [va_up_self]; omega
    · omega
    · rw [va_up_self, show tk (cn - 1) + 1 + min ((6 - (i + 1) % 6) % 6) m = tk (cn - 1) + min ((6 - i % 6) % 6) (m + 1) by omega, show m - min ((6 - (i + 1) % 6) % 6) m = m + 1 - min ((6 - i % 6) % 6) (m + 1) by omega]
      exact h4
theorem e_wm_c (tl : Nat) : ∀ (L : List Nat) (i : Nat) (E : Nat → Nat → Int32) (tk : Nat → Nat) (cn : Nat), e_wi i tk cn L.length → cn ≤ (e_wm tl L i E tk cn).2.2 ∧ (e_wm tl L i E tk cn).2.2 ≤ 8 ∧ (e_wm tl L i E tk cn).2.1 ((e_wm tl L i E tk cn).2.2 - 1) ≤ 16
  | [], i, E, tk, cn, hI => by
    obtain ⟨q, h1, h2, h3, h4⟩ := hI
    rw [List.length_nil, Nat.min_zero] at h2 h3 h4
    have := e_sw_ge q cn (16 - (tk (cn - 1) + 0)) (0 - 0)
    exact ⟨Nat.le_refl _, Nat.le_trans this h4, h2⟩
  | e :: t, i, E, tk, cn, hI => by
    rw [List.length_cons] at hI
    obtain ⟨s1, s2, s3, s4, s5, s6, s7⟩ := hI.st
    have ih := e_wm_c tl t (i + 1) (e_plc E e (nI (tl + (e_c1 i tk cn (t.length + 1) - 1))) (nI (e_t1 i tk cn (t.length + 1) (e_c1 i tk cn (t.length + 1) - 1)))) _ _ s7
    exact ⟨Nat.le_trans s3 ih.1, ih.2⟩
theorem vl_writeMoved (d : Nat) : ∀ (m k : Nat) (hh : am_H) (E2 : Nat → Nat → Int32) (tk2 : Nat → Nat) (cn : Nat), m = (R 3).length - k → k ≤ (R 3).length → e_wi k tk2 cn ((R 3).length - k) → (∀ x ∈ R 3, x ≠ ad 1) → vs_V z hh ad tt rr aa R C fl c tk2 cb tb sb (e_lg (g 0) cn (g 2)) S En E2 v →
    ∃ h', am_R z (d + 1 + 1) 54 2 [some (.ref (ad 0)), some (.int (nI k))] [] hh none h' ∧ vs_V z h' ad tt rr aa R C fl c (e_wm (g 0) ((R 3).drop k) k E2 tk2 cn).2.1 cb tb sb (e_lg (g 0) (e_wm (g 0) ((R 3).drop k) k E2 tk2 cn).2.2 (g 2)) S En (e_wm (g 0) ((R 3).drop k) k E2 tk2 cn).1 v ∧ h'.2 = hh.2 := by
  intro m
  induction m with
  | zero =>
    intro k hh E2 tk2 cn hm hk hI hb hV
    have hkl : k = (R 3).length := by omega
    have hV0 := hV
    obtain ⟨v0, v1, v2, v3, v4, v5, v6, v7, v8⟩ := hV
    have r3 := (v3 3 (by omega)).1
    have hn : (R 3).length ≤ 16 := r3.2.1
    have p3 := r3.1
    have q1 := ro_size z (d + 1) r3
    subst hkl
    rw [List.drop_length]
    refine ⟨hh, ?_, hV0, rfl⟩
    have e1 : nI (R 3).length ≤ nI (R 3).length := nI_le (Nat.le_refl _) (by omega)
    rw [am_R_eq, cxh_54_2]
    simp only [am_R_eq, cx_54, en_54, rt_54, rx_aload_n, rx_bipush, rx_getfield, ev_gf, rx_goto, rx_iconst, rx_icmp_ge, rx_if_ne, rx_iinc, ev_inc, rx_iload_n, rx_invs, rx_max2, rx_min2, rx_copy2, rx_invv, ev_cv, rx_irem, rx_istore_n, rx_isub, rx_return, kl_12, kl_24, kl_39, kl_40, ev_K, ev_pI, ev_pR, ev_pVi, ev_pVr, ev_sI, ev_sR, ev_KC, ev_k, ev_ko, ev_pop0, ev_pops, am_ld, am_sv, am_at, am_st, am_g, List.length_cons, List.length_nil, Nat.reduceAdd, Nat.reduceLT, Nat.zero_add, if_true, if_false, and_self, true_or, or_true, true_and, and_true, not_true_eq_false, not_false_eq_true, reduceCtorEq, eq_self, Option.toList_some, Option.toList_none, List.cons_append, List.nil_append, Bool.false_eq_true, v0, p3]
    refine am_CL_of q1 ?_
    simp only [am_R_eq, cx_54, en_54, rt_54, rx_aload_n, rx_bipush, rx_getfield, ev_gf, rx_goto, rx_iconst, rx_icmp_ge, rx_if_ne, rx_iinc, ev_inc, rx_iload_n, rx_invs, rx_max2, rx_min2, rx_copy2, rx_invv, ev_cv, rx_irem, rx_istore_n, rx_isub, rx_return, kl_12, kl_24, kl_39, kl_40, ev_K, ev_pI, ev_pR, ev_pVi, ev_pVr, ev_sI, ev_sR, ev_KC, ev_k, ev_ko, ev_pop0, ev_pops, am_ld, am_sv, am_at, am_st, am_g, List.length_cons, List.length_nil, Nat.reduceAdd, Nat.reduceLT, Nat.zero_add, if_true, if_false, and_self, true_or, or_true, true_and, and_true, not_true_eq_false, not_false_eq_true, reduceCtorEq, eq_self, Option.toList_some, Option.toList_none, List.cons_append, List.nil_append, Bool.false_eq_true, e1]
  | succ m ih =>
    intro k hh E2 tk2 cn hm hk hI hb hV
    have hlt : k < (R 3).length := by omega
    have hV0 := hV
    obtain ⟨v0, v1, v2, v3, v4, v5, v6, v7, v8⟩ := hV
    have r3 := (v3 3 (by omega)).1
    have hn : (R 3).length ≤ 16 := r3.2.1
    have p3 := r3.1
    have q1 := ro_size z (d + 1) r3
    obtain ⟨x, hx⟩ : ∃ x, (R 3)[k]? = some x := ⟨(R 3)[k]'(by omega), List.getElem?_eq_getElem (by omega)⟩
    have hd : (R 3).drop k = x :: (R 3).drop (k + 1) := by
      rw [List.drop_eq_getElem_cons hlt]
      congr 1
      exact (List.getElem?_eq_some_iff.mp hx).2
    have hdl : ((R 3).drop (k + 1)).length + 1 = (R 3).length - k := by rw [List.length_drop]; omega
    have hxE : En x := (v3 3 (by omega)).2 x (List.mem_of_getElem? hx)
    have hxb := hb x (List.mem_of_getElem? hx)
    rw [hd, e_wm, hdl]
    rw [show (R 3).length - k = (R 3).length - (k + 1) + 1 by omega] at hI ⊢
    obtain ⟨s1, s2, s3, s4, s5, s6, s7⟩ := hI.st
    -- from the placing on
    have after : ∀ h2, vs_V z h2 ad tt rr aa R C fl c (e_t1 k tk2 cn ((R 3).length - (k + 1) + 1)) cb tb sb (e_lg (g 0) (e_c1 k tk2 cn ((R 3).length - (k + 1) + 1)) (g 2)) S En E2 v → h2.2 = hh.2 → ∃ h', am_R z (d + 1 + 1) 54 41 [some (.ref (ad 0)), some (.int (nI k))] [] h2 none h' ∧ vs_V z h' ad tt rr aa R C fl c (e_wm (g 0) ((R 3).drop (k + 1)) (k + 1) (e_plc E2 x (nI (g 0 + (e_c1 k tk2 cn ((R 3).length - (k + 1) + 1) - 1))) (nI (e_t1 k tk2 cn ((R 3).length - (k + 1) + 1) (e_c1 k tk2 cn ((R 3).length - (k + 1) + 1) - 1)))) (va_up (e_t1 k tk2 cn ((R 3).length - (k + 1) + 1)) (e_c1 k tk2 cn ((R 3).length - (k + 1) + 1) - 1) (e_t1 k tk2 cn ((R 3).length - (k + 1) + 1) (e_c1 k tk2 cn ((R 3).length - (k + 1) + 1) - 1) + 1)) (e_c1 k tk2 cn ((R 3).length - (k + 1) + 1))).2.1 cb tb sb (e_lg (g 0) (e_wm (g 0) ((R 3).drop (k + 1)) (k + 1) (e_plc E2 x (nI (g 0 + (e_c1 k tk2 cn ((R 3).length - (k + 1) + 1) - 1))) (nI (e_t1 k tk2 cn ((R 3).length - (k + 1) + 1) (e_c1 k tk2 cn ((R 3).length - (k + 1) + 1) - 1)))) (va_up (e_t1 k tk2 cn ((R 3).length - (k + 1) + 1)) (e_c1 k tk2 cn ((R 3).length - (k + 1) + 1) - 1) (e_t1 k tk2 cn ((R 3).length - (k + 1) + 1) (e_c1 k tk2 cn ((R 3).length - (k + 1) + 1) - 1) + 1)) (e_c1 k tk2 cn ((R 3).length - (k + 1) + 1))).2.2 (g 2)) S En (e_wm (g 0) ((R 3).drop (k + 1)) (k + 1) (e_plc E2 x (nI (g 0 + (e_c1 k tk2 cn ((R 3).length - (k + 1) + 1) - 1))) (nI (e_t1 k tk2 cn ((R 3).length - (k + 1) + 1) (e_c1 k tk2 cn ((R 3).length - (k + 1) + 1) - 1)))) (va_up (e_t1 k tk2 cn ((R 3).length - (k + 1) + 1)) (e_c1 k tk2 cn ((R 3).length - (k + 1) + 1) - 1) (e_t1 k tk2 cn ((R 3).length - (k + 1) + 1) (e_c1 k tk2 cn ((R 3).length - (k + 1) + 1) - 1) + 1)) (e_c1 k tk2 cn ((R 3).length - (k + 1) + 1))).1 v ∧ h'.2 = hh.2 := by
      intro h2 hW hs
      generalize e_t1 k tk2 cn ((R 3).length - (k + 1) + 1) = t1 at *
      generalize e_c1 k tk2 cn ((R 3).length - (k + 1) + 1) = c1 at *
      have hW0 := hW
      obtain ⟨w0, w1, w2, w3, w4, w5, w6, w7, w8⟩ := hW
      have lg0 := w5.1
      have r3' := (w3 3 (by omega)).1
      have p3' := r3'.1
      have q2 := ro_at z (d + 1) r3' hx
      obtain ⟨h4, b1, b2, b3⟩ := lg_place z d (E := E2) (v1 x hxE).2 (v7.2.1 19 (by omega)) w5 s6 (w1 x hxE).1
      have hV4 := hW0.upe hxE hxb (E' := e_plc E2 x (nI (g 0 + (c1 - 1))) (nI (t1 (c1 - 1)))) (fun b j hbx => e_plc_ne _ _ _ _ hbx)
      have hV5 : vs_V z h4 ad tt rr aa R C fl c (va_up t1 (c1 - 1) (t1 (c1 - 1) + 1)) cb tb sb (e_lg (g 0) c1 (g 2)) S En (e_plc E2 x (nI (g 0 + (c1 - 1))) (nI (t1 (c1 - 1)))) v := by
        refine hV4.log (hh := h4) ?_ b3
        rw [b2]
        refine ⟨fun q e1 e2 => ?_, rfl⟩
        exact am_up_ne _ _ (e2 0 (by omega))
      obtain ⟨h', i1, i2, i3⟩ := ih (k + 1) h4 _ _ _ (by omega) (by omega) s7 hb hV5
      rw [am_R_eq] at i1
      refine ⟨h', ?_, i2, by rw [i3, b2]; exact hs⟩
      simp only [am_R_eq, cx_54, en_54, rt_54, rx_aload_n, rx_bipush, rx_getfield, ev_gf, rx_goto, rx_iconst, rx_icmp_ge, rx_if_ne, rx_iinc, ev_inc, rx_iload_n, rx_invs, rx_max2, rx_min2, rx_copy2, rx_invv, ev_cv, rx_irem, rx_istore_n, rx_isub, rx_return, kl_12, kl_24, kl_39, kl_40, ev_K, ev_pI, ev_pR, ev_pVi, ev_pVr, ev_sI, ev_sR, ev_KC, ev_k, ev_ko, ev_pop0, ev_pops, am_ld, am_sv, am_at, am_st, am_g, List.length_cons, List.length_nil, Nat.reduceAdd, Nat.reduceLT, Nat.zero_add, if_true, if_false, and_self, true_or, or_true, true_and, and_true, not_true_eq_false, not_false_eq_true, reduceCtorEq, eq_self, Option.toList_some, Option.toList_none, List.cons_append, List.nil_append, Bool.false_eq_true, w0, lg0, p3']
      refine am_CL_of q2 ?_
      simp only [am_R_eq, cx_54, en_54, rt_54, rx_aload_n, rx_bipush, rx_getfield, ev_gf, rx_goto, rx_iconst, rx_icmp_ge, rx_if_ne, rx_iinc, ev_inc, rx_iload_n, rx_invs, rx_max2, rx_min2, rx_copy2, rx_invv, ev_cv, rx_irem, rx_istore_n, rx_isub, rx_return, kl_12, kl_24, kl_39, kl_40, ev_K, ev_pI, ev_pR, ev_pVi, ev_pVr, ev_sI, ev_sR, ev_KC, ev_k, ev_ko, ev_pop0, ev_pops, am_ld, am_sv, am_at, am_st, am_g, List.length_cons, List.length_nil, Nat.reduceAdd, Nat.reduceLT, Nat.zero_add, if_true, if_false, and_self, true_or, or_true, true_and, and_true, not_true_eq_false, not_false_eq_true, reduceCtorEq, eq_self, Option.toList_some, Option.toList_none, List.cons_append, List.nil_append, Bool.false_eq_true, lg0]
      refine am_CL_of b1 ?_
      simp only [am_R_eq, cx_54, en_54, rt_54, rx_aload_n, rx_bipush, rx_getfield, ev_gf, rx_goto, rx_iconst, rx_icmp_ge, rx_if_ne, rx_iinc, ev_inc, rx_iload_n, rx_invs, rx_max2, rx_min2, rx_copy2, rx_invv, ev_cv, rx_irem, rx_istore_n, rx_isub, rx_return, kl_12, kl_24, kl_39, kl_40, ev_K, ev_pI, ev_pR, ev_pVi, ev_pVr, ev_sI, ev_sR, ev_KC, ev_k, ev_ko, ev_pop0, ev_pops, am_ld, am_sv, am_at, am_st, am_g, List.length_cons, List.length_nil, Nat.reduceAdd, Nat.reduceLT, Nat.zero_add, if_true, if_false, and_self, true_or, or_true, true_and, and_true, not_true_eq_false, not_false_eq_true, reduceCtorEq, eq_self, Option.toList_some, Option.toList_none, List.cons_append, List.nil_append, Bool.false_eq_true, nI_ofs]
      exact i1
    have e1 : ¬ nI (R 3).length ≤ nI k := nI_ge hlt (by omega)
    have er : nI k - nI k / 6 * 6 = nI (k % 6) := pk_rem (a := k) (d := 6) (by omega) (by omega) (by omega)
    by_cases hi : k % 6 = 0
    · have er2 : nI k - nI k / 6 * 6 = 0 := by rw [er, hi]; rfl
      have e4 : nI (R 3).length - nI k = nI ((R 3).length - (k + 1) + 1) := by rw [pk_sub (by omega)]; congr 1; omega
      have e5 : (if nI ((R 3).length - (k + 1) + 1) < 6 then nI ((R 3).length - (k + 1) + 1) else 6) = nI (min 6 ((R 3).length - (k + 1) + 1)) := by
        by_cases q : (R 3).length - (k + 1) + 1 < 6
        · rw [if_pos (show nI ((R 3).length - (k + 1) + 1) < 6 from nI_lt (b := 6) q (by omega)), Nat.min_eq_right (by omega)]
        · rw [if_neg (show ¬ nI ((R 3).length - (k + 1) + 1) < 6 from nI_nlt (b := 6) (by omega) (by omega)), Nat.min_eq_left (by omega)]
          rfl
      have lg0 := v5.1
      obtain ⟨h2, b1, b2, b3⟩ := lg_beginRecord z d (v := min 6 ((R 3).length - (k + 1) + 1)) (by omega) (v7.2.1 2 (by omega)) (v7.2.1 19 (by omega)) v5 (by show tk2 (cn - 1) < 90; omega) (s5 hi)
      have et : e_t1 k tk2 cn ((R 3).length - (k + 1) + 1) = if 16 < tk2 (cn - 1) + 1 + min 6 ((R 3).length - (k + 1) + 1) then va_up tk2 cn 1 else va_up tk2 (cn - 1) (tk2 (cn - 1) + 1) := by unfold e_t1 e_bt; rw [if_pos hi]
      have ec : e_c1 k tk2 cn ((R 3).length - (k + 1) + 1) = if 16 < tk2 (cn - 1) + 1 + min 6 ((R 3).length - (k + 1) + 1) then cn + 1 else cn := by unfold e_c1 e_bc; rw [if_pos hi]
      obtain ⟨h', f1, f2, f3⟩ := after h2 (by rw [et, ec]; exact hV0.log (g' := e_lg (g 0) (if 16 < tk2 (cn - 1) + 1 + min 6 ((R 3).length - (k + 1) + 1) then cn + 1 else cn) (g 2)) b3 b2) b3.2
      refine ⟨h', ?_, f2, f3⟩
      rw [am_R_eq, cxh_54_2]
      simp only [am_R_eq, cx_54, en_54, rt_54, rx_aload_n, rx_bipush, rx_getfield, ev_gf, rx_goto, rx_iconst, rx_icmp_ge, rx_if_ne, rx_iinc, ev_inc, rx_iload_n, rx_invs, rx_max2, rx_min2, rx_copy2, rx_invv, ev_cv, rx_irem, rx_istore_n, rx_isub, rx_return, kl_12, kl_24, kl_39, kl_40, ev_K, ev_pI, ev_pR, ev_pVi, ev_pVr, ev_sI, ev_sR, ev_KC, ev_k, ev_ko, ev_pop0, ev_pops, am_ld, am_sv, am_at, am_st, am_g, List.length_cons, List.length_nil, Nat.reduceAdd, Nat.reduceLT, Nat.zero_add, if_true, if_false, and_self, true_or, or_true, true_and, and_true, not_true_eq_false, not_false_eq_true, reduceCtorEq, eq_self, Option.toList_some, Option.toList_none, List.cons_append, List.nil_append, Bool.false_eq_true, v0, p3]
      refine am_CL_of q1 ?_
      simp only [am_R_eq, cx_54, en_54, rt_54, rx_aload_n, rx_bipush, rx_getfield, ev_gf, rx_goto, rx_iconst, rx_icmp_ge, rx_if_ne, rx_iinc, ev_inc, rx_iload_n, rx_invs, rx_max2, rx_min2, rx_copy2, rx_invv, ev_cv, rx_irem, rx_istore_n, rx_isub, rx_return, kl_12, kl_24, kl_39, kl_40, ev_K, ev_pI, ev_pR, ev_pVi, ev_pVr, ev_sI, ev_sR, ev_KC, ev_k, ev_ko, ev_pop0, ev_pops, am_ld, am_sv, am_at, am_st, am_g, List.length_cons, List.length_nil, Nat.reduceAdd, Nat.reduceLT, Nat.zero_add, if_true, if_false, and_self, true_or, or_true, true_and, and_true, not_true_eq_false, not_false_eq_true, reduceCtorEq, eq_self, Option.toList_some, Option.toList_none, List.cons_append, List.nil_append, Bool.false_eq_true, e1, er2, i_6, v0, p3]
      refine am_CL_of q1 ?_
      simp only [am_R_eq, cx_54, en_54, rt_54, rx_aload_n, rx_bipush, rx_getfield, ev_gf, rx_goto, rx_iconst, rx_icmp_ge, rx_if_ne, rx_iinc, ev_inc, rx_iload_n, rx_invs, rx_max2, rx_min2, rx_copy2, rx_invv, ev_cv, rx_irem, rx_istore_n, rx_isub, rx_return, kl_12, kl_24, kl_39, kl_40, ev_K, ev_pI, ev_pR, ev_pVi, ev_pVr, ev_sI, ev_sR, ev_KC, ev_k, ev_ko, ev_pop0, ev_pops, am_ld, am_sv, am_at, am_st, am_g, List.length_cons, List.length_nil, Nat.reduceAdd, Nat.reduceLT, Nat.zero_add, if_true, if_false, and_self, true_or, or_true, true_and, and_true, not_true_eq_false, not_false_eq_true, reduceCtorEq, eq_self, Option.toList_some, Option.toList_none, List.cons_append, List.nil_append, Bool.false_eq_true, e4, e5, lg0]
      refine am_CL_of b1 ?_
      revert f1
      simp only [am_R_eq, cx_54, en_54, rt_54, rx_aload_n, rx_bipush, rx_getfield, ev_gf, rx_goto, rx_iconst, rx_icmp_ge, rx_if_ne, rx_iinc, ev_inc, rx_iload_n, rx_invs, rx_max2, rx_min2, rx_copy2, rx_invv, ev_cv, rx_irem, rx_istore_n, rx_isub, rx_return, kl_12, kl_24, kl_39, kl_40, ev_K, ev_pI, ev_pR, ev_pVi, ev_pVr, ev_sI, ev_sR, ev_KC, ev_k, ev_ko, ev_pop0, ev_pops, am_ld, am_sv, am_at, am_st, am_g, List.length_cons, List.length_nil, Nat.reduceAdd, Nat.reduceLT, Nat.zero_add, if_true, if_false, and_self, true_or, or_true, true_and, and_true, not_true_eq_false, not_false_eq_true, reduceCtorEq, eq_self, Option.toList_some, Option.toList_none, List.cons_append, List.nil_append, Bool.false_eq_true]
      exact fun q => q
    · have er2 : ¬ nI k - nI k / 6 * 6 = 0 := by rw [er]; exact nI_ne0 (by omega) (by omega)
      have et : e_t1 k tk2 cn ((R 3).length - (k + 1) + 1) = tk2 := by unfold e_t1; rw [if_neg hi]
      have ec : e_c1 k tk2 cn ((R 3).length - (k + 1) + 1) = cn := by unfold e_c1; rw [if_neg hi]
      obtain ⟨h', f1, f2, f3⟩ := after hh (by rw [et, ec]; exact hV0) rfl
      refine ⟨h', ?_, f2, f3⟩
      rw [am_R_eq, cxh_54_2]
      simp only [am_R_eq, cx_54, en_54, rt_54, rx_aload_n, rx_bipush, rx_getfield, ev_gf, rx_goto, rx_iconst, rx_icmp_ge, rx_if_ne, rx_iinc, ev_inc, rx_iload_n, rx_invs, rx_max2, rx_min2, rx_copy2, rx_invv, ev_cv, rx_irem, rx_istore_n, rx_isub, rx_return, kl_12, kl_24, kl_39, kl_40, ev_K, ev_pI, ev_pR, ev_pVi, ev_pVr, ev_sI, ev_sR, ev_KC, ev_k, ev_ko, ev_pop0, ev_pops, am_ld, am_sv, am_at, am_st, am_g, List.length_cons, List.length_nil, Nat.reduceAdd, Nat.reduceLT, Nat.zero_add, if_true, if_false, and_self, true_or, or_true, true_and, and_true, not_true_eq_false, not_false_eq_true, reduceCtorEq, eq_self, Option.toList_some, Option.toList_none, List.cons_append, List.nil_append, Bool.false_eq_true, v0, p3]
      refine am_CL_of q1 ?_
      revert f1
      simp only [am_R_eq, cx_54, en_54, rt_54, rx_aload_n, rx_bipush, rx_getfield, ev_gf, rx_goto, rx_iconst, rx_icmp_ge, rx_if_ne, rx_iinc, ev_inc, rx_iload_n, rx_invs, rx_max2, rx_min2, rx_copy2, rx_invv, ev_cv, rx_irem, rx_istore_n, rx_isub, rx_return, kl_12, kl_24, kl_39, kl_40, ev_K, ev_pI, ev_pR, ev_pVi, ev_pVr, ev_sI, ev_sR, ev_KC, ev_k, ev_ko, ev_pop0, ev_pops, am_ld, am_sv, am_at, am_st, am_g, List.length_cons, List.length_nil, Nat.reduceAdd, Nat.reduceLT, Nat.zero_add, if_true, if_false, and_self, true_or, or_true, true_and, and_true, not_true_eq_false, not_false_eq_true, reduceCtorEq, eq_self, Option.toList_some, Option.toList_none, List.cons_append, List.nil_append, Bool.false_eq_true, e1, er2, i_6]
      exact fun q => q
end VCP
