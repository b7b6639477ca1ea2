section LEV2
variable {h : am_H} {lv ta m c cap bl : Nat} {tt rr aa : Nat → Nat} {C : Nat → List Nat} {fl : Nat → Int32} {E : Nat → Nat → Int32}
theorem le_listLive (z d : Nat) {s : Int32} {r a blr n : Nat} {T0 : List Nat} (hz : z ≤ r) (hza : z ≤ a) (hl : vs_lv h lv ta m c cap bl tt rr aa C fl) (hr : vs_row h r a blr n T0) (hn : ∀ k, k < m → rr k ≠ r ∧ aa k ≠ a) (hL : ∀ k, k < c → ∀ x ∈ C k, h.1 x = some (vs_e E x)) (hT : ∀ x ∈ T0, h.1 x = some (vs_e E x)) (hroom : T0.length + (e_fl C 0 c).countP (e_live E s) ≤ n) :
    ∃ h', am_M z (d + 1 + 1 + 1 + 1) 49 [.ref lv, .int s, .ref r] h none h' ∧ vs_row h' r a blr n ((e_fl C 0 c).foldl (e_ll E s) T0) ∧ vs_ch h h' r a := by
  have hlen : ∀ (M T : List Nat), (M.foldl (e_ll E s) T).length = T.length + M.countP (e_live E s) := by
    intro M
    induction M with
    | nil => intro T; rfl
    | cons e M ih =>
      intro T
      rw [List.foldl_cons, ih, List.countP_cons]
      cases hb : e_live E s e with
      | true => simp [e_ll, hb, e_ins_len]; omega
      | false => simp [e_ll, hb]
  have hmem : ∀ (x : Nat) (M T : List Nat), x ∈ M.foldl (e_ll E s) T → x ∈ M ∨ x ∈ T := by
    intro x M
    induction M with
    | nil => intro T hx; exact Or.inr hx
    | cons e M ih =>
      intro T hx
      rw [List.foldl_cons] at hx
      rcases ih _ hx with q | q
      · exact Or.inl (List.mem_cons_of_mem _ q)
      · unfold e_ll at q
        split at q
        · rcases (e_ins_mem _ _ _ _).mp q with q | q
          · rw [q]; exact Or.inl List.mem_cons_self
          · exact Or.inr q
        · exact Or.inr q
  have outer : ∀ q k T hh, q = c - k → k ≤ c → vs_ch h hh r a → vs_row hh r a blr n T → T.length + (e_fl C k q).countP (e_live E s) ≤ n → (∀ x ∈ T, h.1 x = some (vs_e E x)) →
      ∃ h', am_R z (d + 1 + 1 + 1) 49 2 [some (.ref lv), some (.int s), some (.ref r), some (.int (nI k))] [] hh none h' ∧ vs_row h' r a blr n ((e_fl C k q).foldl (e_ll E s) T) ∧ vs_ch h h' r a := by
    intro q
    induction q with
    | zero =>
      intro k T hh hq hk hc hrT hTn hTe
      have hl2 := hl.fr hr hc hn
      obtain ⟨l1, l2, l3, ⟨G, l4, l5⟩, l6, l7, l8⟩ := hl2
      have hkc : k = c := by omega
      subst hkc
      have e1 : nI k ≤ nI k := nI_le (Nat.le_refl _) (by omega)
      refine ⟨hh, ?_, hrT, hc⟩
      rw [am_R_eq, cxh_49_2]
      simp only [am_R_eq, cx_49, en_49, rt_49, rx_aaload, rx_aload_n, rx_getfield, ev_gf, rx_goto, rx_iconst, rx_icmp_ge, rx_iinc, ev_inc, rx_iload_n, rx_invv, ev_cv, rx_istore_n, rx_return, kl_50, ev_K, ev_pI, ev_pR, ev_pVi, ev_pVr, ev_sI, ev_sR, ev_KC, ev_k, ev_ko, ev_pop0, ev_pops, am_ld, am_sv, am_at, am_st, am_g, List.length_cons, List.length_nil, Nat.reduceAdd, Nat.reduceLT, Nat.zero_add, if_true, if_false, and_self, true_or, or_true, true_and, and_true, not_true_eq_false, not_false_eq_true, reduceCtorEq, eq_self, Option.toList_some, Option.toList_none, List.cons_append, List.nil_append, Bool.false_eq_true, l1, e1]
    | succ q ih =>
      intro k T hh hq hk hc hrT hTn hTe
      have hl2 := hl.fr hr hc hn
      obtain ⟨l1, l2, l3, ⟨G, l4, l5⟩, l6, l7, l8⟩ := hl2
      have e1 : ¬ nI c ≤ nI k := nI_ge (by omega) (by omega)
      have e5 : am_ix (nI k) m = some k := ev_ix (by omega) (by omega)
      have e7 := ev_rq 3 m k (tt k) G (nI k) (by omega) e5 (l5 k (by omega))
      have t1 := l6 k (by omega)
      have r1 := l7 k (by omega)
      obtain ⟨g, h1, h2, h3, h4, h5, hne⟩ := r1.g
      have hfl : e_fl C k (q + 1) = C k ++ e_fl C (k + 1) q := rfl
      rw [hfl, List.countP_append] at hTn
      rw [hfl, List.foldl_append]
      obtain ⟨h1', m1, m2, m3⟩ := ro_listLive z d (s := s) hz hza r1 hrT (hn k (by omega)).1 (hn k (by omega)).2 (fun x hx => hc.obj hr (hL k (by omega) x hx) (by decide)) (fun x hx => hc.obj hr (hTe x hx) (by decide)) (by omega)
      obtain ⟨h', i1, i2, i3⟩ := ih (k + 1) _ h1' (by omega) (by omega) (hc.tr m3) m2 (by rw [hlen]; omega) (by
        intro x hx
        rcases hmem x _ _ hx with q | q
        · exact hL k (by omega) x q
        · exact hTe x q)
      rw [am_R_eq] at i1
      refine ⟨h', ?_, i2, i3⟩
      rw [am_R_eq, cxh_49_2]
      simp only [am_R_eq, cx_49, en_49, rt_49, rx_aaload, rx_aload_n, rx_getfield, ev_gf, rx_goto, rx_iconst, rx_icmp_ge, rx_iinc, ev_inc, rx_iload_n, rx_invv, ev_cv, rx_istore_n, rx_return, kl_50, ev_K, ev_pI, ev_pR, ev_pVi, ev_pVr, ev_sI, ev_sR, ev_KC, ev_k, ev_ko, ev_pop0, ev_pops, am_ld, am_sv, am_at, am_st, am_g, List.length_cons, List.length_nil, Nat.reduceAdd, Nat.reduceLT, Nat.zero_add, if_true, if_false, and_self, true_or, or_true, true_and, and_true, not_true_eq_false, not_false_eq_true, reduceCtorEq, eq_self, Option.toList_some, Option.toList_none, List.cons_append, List.nil_append, Bool.false_eq_true, l1, l4, e1, e7, t1, h1]
      refine am_CL_of m1 ?_
      simp only [am_R_eq, cx_49, en_49, rt_49, rx_aaload, rx_aload_n, rx_getfield, ev_gf, rx_goto, rx_iconst, rx_icmp_ge, rx_iinc, ev_inc, rx_iload_n, rx_invv, ev_cv, rx_istore_n, rx_return, kl_50, ev_K, ev_pI, ev_pR, ev_pVi, ev_pVr, ev_sI, ev_sR, ev_KC, ev_k, ev_ko, ev_pop0, ev_pops, am_ld, am_sv, am_at, am_st, am_g, List.length_cons, List.length_nil, Nat.reduceAdd, Nat.reduceLT, Nat.zero_add, if_true, if_false, and_self, true_or, or_true, true_and, and_true, not_true_eq_false, not_false_eq_true, reduceCtorEq, eq_self, Option.toList_some, Option.toList_none, List.cons_append, List.nil_append, Bool.false_eq_true, nI_ofs]
      exact i1
  obtain ⟨h', l0, l1⟩ := outer c 0 T0 h (by omega) (Nat.zero_le _) (vs_ch.rf ..) hr hroom hT
  rw [am_R_eq] at l0
  refine ⟨h', ?_, l1⟩
  rw [am_M_eq]
  simp only [am_R_eq, cx_49, en_49, rt_49, rx_aaload, rx_aload_n, rx_getfield, ev_gf, rx_goto, rx_iconst, rx_icmp_ge, rx_iinc, ev_inc, rx_iload_n, rx_invv, ev_cv, rx_istore_n, rx_return, kl_50, ev_K, ev_pI, ev_pR, ev_pVi, ev_pVr, ev_sI, ev_sR, ev_KC, ev_k, ev_ko, ev_pop0, ev_pops, am_ld, am_sv, am_at, am_st, am_g, List.length_cons, List.length_nil, Nat.reduceAdd, Nat.reduceLT, Nat.zero_add, if_true, if_false, and_self, true_or, or_true, true_and, and_true, not_true_eq_false, not_false_eq_true, reduceCtorEq, eq_self, Option.toList_some, Option.toList_none, List.cons_append, List.nil_append, Bool.false_eq_true]
  exact l0
theorem i_6 : ¬ (6 : Int32) = 0 := by decide
theorem lv_tablesFor (z d : Nat) {k : Nat} (hk : k < 1000) : am_M z (d + 1) 5 [.int (nI k)] h (some (.int (nI ((k + 5) / 6)))) h := by
  have e1 : nI k + 6 - 1 = nI (k + 5) := by
    rw [show (6 : Int32) = nI 6 from rfl, nI_add]
    exact nI_pred (k + 5)
  have e2 : nI (k + 5) / 6 = nI ((k + 5) / 6) := pk_div (a := k + 5) (d := 6) (by omega) (by omega) (by omega)
  rw [am_M_eq]
  simp only [am_R_eq, cx_5, en_5, rt_5, rx_bipush, rx_iadd, rx_iconst, rx_idiv, rx_iload_n, rx_ireturn, rx_isub, ev_K, ev_pI, ev_pR, ev_pVi, ev_pVr, ev_sI, ev_sR, ev_KC, ev_k, ev_ko, ev_pop0, ev_pops, am_ld, am_sv, am_at, am_st, am_g, List.length_cons, List.length_nil, Nat.reduceAdd, Nat.reduceLT, Nat.zero_add, if_true, if_false, and_self, true_or, or_true, true_and, and_true, not_true_eq_false, not_false_eq_true, reduceCtorEq, eq_self, Option.toList_some, Option.toList_none, List.cons_append, List.nil_append, Bool.false_eq_true, i_6, e1, e2]
def vs_chl (h h' : am_H) (lv ta m : Nat) (tt rr aa : Nat → Nat) : Prop := (∀ q, q ≠ lv → q ≠ ta → (∀ k, k < m → q ≠ tt k ∧ q ≠ rr k ∧ q ≠ aa k) → h'.1 q = h.1 q) ∧ h'.2 = h.2
theorem vs_chl.tr {h1 h2 : am_H} (p : vs_chl h h1 lv ta m tt rr aa) (q : vs_chl h1 h2 lv ta m tt rr aa) : vs_chl h h2 lv ta m tt rr aa := ⟨fun x e1 e2 e3 => by rw [q.1 x e1 e2 e3, p.1 x e1 e2 e3], by rw [q.2, p.2]⟩
theorem vs_chl.of3 {h' : am_H} {k : Nat} (hk : k < m) (p : vs_ch3 h h' (tt k) (rr k) (aa k)) : vs_chl h h' lv ta m tt rr aa := ⟨fun x _ _ e3 => p.1 x (e3 k hk).1 (e3 k hk).2.1 (e3 k hk).2.2, p.2⟩
theorem vs_chl.upl (x : am_E) : vs_chl h (am_up h lv x) lv ta m tt rr aa := ⟨fun q e1 _ _ => am_up_ne _ _ e1, rfl⟩
theorem vs_chl.obj {h' : am_H} {x k : Nat} {w : List Value} (hc : vs_chl h h' lv ta m tt rr aa) (hl : vs_lv h lv ta m c cap bl tt rr aa C fl) (hx : h.1 x = some (.inr (k, w))) (n2 : k ≠ 2) (n3 : k ≠ 3) (n4 : k ≠ 4) : h'.1 x = some (.inr (k, w)) := by
  obtain ⟨l1, l2, l3, ⟨G, l4, l5⟩, l6, l7, l8⟩ := hl
  rw [hc.1 x (am_ne hx l1 (by intro q; exact n4 (congrArg (fun e : am_E => match e with | .inr p => p.1 | .inl _ => k) q))) (am_ne hx l4 (by simp)) (fun i hi => ⟨am_ne hx (l6 i hi) (by intro q; exact n3 (congrArg (fun e : am_E => match e with | .inr p => p.1 | .inl _ => k) q)), ((l7 i hi).nex hx n2).1, ((l7 i hi).nex hx n2).2⟩)]
  exact hx
theorem vs_chl.row {h' : am_H} {r a blr n : Nat} {T : List Nat} (hc : vs_chl h h' lv ta m tt rr aa) (hl : vs_lv h lv ta m c cap bl tt rr aa C fl) (hr : vs_row h r a blr n T) (hn : ∀ k, k < m → rr k ≠ r ∧ aa k ≠ a) : vs_row h' r a blr n T := by
  obtain ⟨l1, l2, l3, ⟨G, l4, l5⟩, l6, l7, l8⟩ := hl
  obtain ⟨g, h1, h2, h3, h4, h5, hne⟩ := hr.g
  refine hr.fr (hc.1 r (am_ne h1 l1 (by simp)) (am_ne h1 l4 (by simp)) (fun i hi => ⟨am_ne h1 (l6 i hi) (by simp), (hn i hi).1.symm, ?_⟩)) (hc.1 a (am_ne h2 l1 (by simp)) (am_ne h2 l4 (by simp)) (fun i hi => ⟨am_ne h2 (l6 i hi) (by simp), ?_, (hn i hi).2.symm⟩))
  · obtain ⟨g2, k1, k2, k3, k4, k5, kne⟩ := (l7 i hi).g
    exact am_ne h1 k2 (by simp)
  · obtain ⟨g2, k1, k2, k3, k4, k5, kne⟩ := (l7 i hi).g
    exact am_ne h2 k1 (by simp)
theorem vs_lv.set {h' : am_H} {k : Nat} {L' : List Nat} {F' : Int32} (hk : k < m) (hl : vs_lv h lv ta m c cap bl tt rr aa C fl) (hc : vs_ch3 h h' (tt k) (rr k) (aa k)) (h1 : h'.1 (tt k) = some (vs_tb (rr k) F')) (h2 : vs_row h' (rr k) (aa k) bl cap L') : vs_lv h' lv ta m c cap bl tt rr aa (va_up C k L') (va_up fl k F') := by
  obtain ⟨l1, l2, l3, ⟨G, l4, l5⟩, l6, l7, l8⟩ := hl
  obtain ⟨g2, k1, k2, k3, k4, k5, kne⟩ := (l7 k hk).g
  have t1 := l6 k hk
  refine ⟨?_, l2, l3, ⟨G, ?_, l5⟩, fun i hi => ?_, fun i hi => ?_, l8⟩
  · rw [hc.1 lv (am_ne l1 t1 (by simp)) (am_ne l1 k1 (by simp)) (am_ne l1 k2 (by simp))]; exact l1
  · rw [hc.1 ta (am_ne l4 t1 (by simp)) (am_ne l4 k1 (by simp)) (am_ne l4 k2 (by simp))]; exact l4
  · by_cases hik : i = k
    · subst hik; rw [va_up_self]; exact h1
    · rw [va_up_ne _ _ hik, hc.1 _ (l8 i k hi hk hik).1 (am_ne (l6 i hi) k1 (by simp)) (am_ne (l6 i hi) k2 (by simp))]
      exact l6 i hi
  · by_cases hik : i = k
    · subst hik; rw [va_up_self]; exact h2
    · rw [va_up_ne _ _ hik]
      obtain ⟨g3, p1, p2, p3, p4, p5, pne⟩ := (l7 i hi).g
      exact (l7 i hi).fr (hc.1 _ (am_ne p1 t1 (by simp)) (l8 i k hi hk hik).2.1 (am_ne p1 k2 (by simp))) (hc.1 _ (am_ne p2 t1 (by simp)) (am_ne p2 k1 (by simp)) (l8 i k hi hk hik).2.2)
def e_ck (L : List Nat) (k : Nat) : List Nat := (L.take (min (6 * k + 6) L.length)).drop (6 * k)
theorem le_cutFrom (z d : Nat) {r a blr n : Nat} {L : List Nat} (hzl : z ≤ lv) (hzt : ∀ k, k < m → z ≤ tt k ∧ z ≤ rr k ∧ z ≤ aa k) (hl : vs_lv h lv ta m c cap bl tt rr aa C fl) (hr : vs_row h r a blr n L) (hn : ∀ k, k < m → rr k ≠ r ∧ aa k ≠ a) (hL : ∀ x ∈ L, h.1 x = some (vs_e E x)) (hcap : 6 ≤ cap) (hroom : (L.length + 5) / 6 ≤ m) :
    ∃ h' C' fl', am_M z (d + 1 + 1 + 1) 32 [.ref lv, .ref r] h none h' ∧ vs_lv h' lv ta m ((L.length + 5) / 6) cap bl tt rr aa C' fl' ∧ (∀ k, k < (L.length + 5) / 6 → C' k = e_ck L k ∧ fl' k = (e_ck L k).foldl (e_ff E) 0) ∧ vs_chl h h' lv ta m tt rr aa ∧ ∀ k, C' k = e_ck L k ∨ C' k = C k := by
  obtain ⟨gr, r1, r2, r3, r4, r5, rne⟩ := hr.g
  have loop : ∀ q k hh C1 fl1, q = (L.length + 5) / 6 - k → k ≤ (L.length + 5) / 6 → vs_chl h hh lv ta m tt rr aa → vs_lv hh lv ta m ((L.length + 5) / 6) cap bl tt rr aa C1 fl1 → (∀ i, i < k → C1 i = e_ck L i ∧ fl1 i = (e_ck L i).foldl (e_ff E) 0) → (∀ i, C1 i = e_ck L i ∨ C1 i = C i) →
      ∃ h' C' fl', am_R z (d + 1 + 1) 32 21 [some (.ref lv), some (.ref r), some (.int (nI k))] [] hh none h' ∧ vs_lv h' lv ta m ((L.length + 5) / 6) cap bl tt rr aa C' fl' ∧ (∀ k, k < (L.length + 5) / 6 → C' k = e_ck L k ∧ fl' k = (e_ck L k).foldl (e_ff E) 0) ∧ vs_chl h h' lv ta m tt rr aa ∧ ∀ k, C' k = e_ck L k ∨ C' k = C k := by
    intro q
    induction q with
    | zero =>
      intro k hh C1 fl1 hq hk hc hl1 hC hCd
      have hkc : k = (L.length + 5) / 6 := by omega
      subst hkc
      have hl2 := hl1
      obtain ⟨l1, l2, l3, ⟨G, l4, l5⟩, l6, l7, l8⟩ := hl1
      have e1 : nI ((L.length + 5) / 6) ≤ nI ((L.length + 5) / 6) := nI_le (Nat.le_refl _) (by omega)
      refine ⟨hh, C1, fl1, ?_, hl2, hC, hc, hCd⟩
      rw [am_R_eq, cxh_32_21]
      simp only [am_R_eq, cx_32, en_32, rt_32, rx_aaload, rx_aload_n, rx_arraylength, ev_ln, ev_pN, rx_bipush, rx_getfield, ev_gf, rx_goto, rx_iadd, rx_iconst, rx_icmp_ge, rx_iinc, ev_inc, rx_iload_n, rx_imul, rx_invs, rx_max2, rx_min2, rx_copy2, rx_invv, ev_cv, rx_istore_n, rx_putfield, ev_pf, ev_w1, ev_KW, am_fok, am_ftv, rx_return, kl_5, kl_12, kl_33, ev_K, ev_pI, ev_pR, ev_pVi, ev_pVr, ev_sI, ev_sR, ev_KC, ev_k, ev_ko, ev_pop0, ev_pops, am_ld, am_sv, am_at, am_st, am_g, List.length_cons, List.length_nil, Nat.reduceAdd, Nat.reduceLT, Nat.zero_add, if_true, if_false, and_self, true_or, or_true, true_and, and_true, not_true_eq_false, not_false_eq_true, reduceCtorEq, eq_self, Option.toList_some, Option.toList_none, List.cons_append, List.nil_append, Bool.false_eq_true, l1, e1]
    | succ q ih =>
      intro k hh C1 fl1 hq hk hc hl1 hC hCd
      have hl2 := hl1
      obtain ⟨l1, l2, l3, ⟨G, l4, l5⟩, l6, l7, l8⟩ := hl1
      have hkm : k < m := by omega
      have e1 : ¬ nI ((L.length + 5) / 6) ≤ nI k := nI_ge (by omega) (by omega)
      have e5 : am_ix (nI k) m = some k := ev_ix (by omega) (by omega)
      have e7 := ev_rq 3 m k (tt k) G (nI k) (by omega) e5 (l5 k (by omega))
      have e2 : nI k * 6 = nI (6 * k) := by
        rw [show (6 : Int32) = nI 6 from rfl, pk_mul, Nat.mul_comm]
      have e3 : nI (6 * k) + 6 = nI (6 * k + 6) := by rw [show (6 : Int32) = nI 6 from rfl, nI_add]
      have e4 : (if nI L.length < nI (6 * k + 6) then nI L.length else nI (6 * k + 6)) = nI (min (6 * k + 6) L.length) := by
        by_cases hq : L.length < 6 * k + 6
        · rw [if_pos (nI_lt hq (by omega)), Nat.min_eq_right (by omega)]
        · rw [if_neg (nI_nlt (by omega) (by omega)), Nat.min_eq_left (by omega)]
      have hr1 := hc.row hl hr hn
      obtain ⟨gr1, s1, s2, s3, s4, s5, sne⟩ := hr1.g
      obtain ⟨h1', m1, m2, m3, m4⟩ := ta_fillFrom z d (p := 6 * k) (u := min (6 * k + 6) L.length) (E := E) (hzt k hkm).1 (hzt k hkm).2.1 (hzt k hkm).2.2 (l6 k hkm) (l7 k hkm) hr1 (hn k hkm).1.symm (hn k hkm).2.symm (fun x hx => hc.obj hl (hL x hx) (by decide) (by decide) (by decide)) (by omega) (by omega) (by omega)
      obtain ⟨h', C', fl', i1, i2, i3, i4⟩ := ih (k + 1) h1' _ _ (by omega) (by omega) (hc.tr (vs_chl.of3 hkm m4)) (hl2.set hkm m4 m3 m2) (by
        intro i hi
        by_cases hik : i = k
        · subst hik
          rw [va_up_self, va_up_self]
          exact ⟨rfl, rfl⟩
        · rw [va_up_ne _ _ hik, va_up_ne _ _ hik]
          exact hC i (by omega)) (by
        intro i
        by_cases hik : i = k
        · subst hik
          rw [va_up_self]
          exact Or.inl rfl
        · rw [va_up_ne _ _ hik]
          exact hCd i)
      rw [am_R_eq] at i1
      refine ⟨h', C', fl', ?_, i2, i3, i4⟩
      have t1 := l6 k hkm
      rw [am_R_eq, cxh_32_21]
      simp only [am_R_eq, cx_32, en_32, rt_32, rx_aaload, rx_aload_n, rx_arraylength, ev_ln, ev_pN, rx_bipush, rx_getfield, ev_gf, rx_goto, rx_iadd, rx_iconst, rx_icmp_ge, rx_iinc, ev_inc, rx_iload_n, rx_imul, rx_invs, rx_max2, rx_min2, rx_copy2, rx_invv, ev_cv, rx_istore_n, rx_putfield, ev_pf, ev_w1, ev_KW, am_fok, am_ftv, rx_return, kl_5, kl_12, kl_33, ev_K, ev_pI, ev_pR, ev_pVi, ev_pVr, ev_sI, ev_sR, ev_KC, ev_k, ev_ko, ev_pop0, ev_pops, am_ld, am_sv, am_at, am_st, am_g, List.length_cons, List.length_nil, Nat.reduceAdd, Nat.reduceLT, Nat.zero_add, if_true, if_false, and_self, true_or, or_true, true_and, and_true, not_true_eq_false, not_false_eq_true, reduceCtorEq, eq_self, Option.toList_some, Option.toList_none, List.cons_append, List.nil_append, Bool.false_eq_true, l1, l4, e1, e7, e2, e3, s1]
      refine am_CL_of (ro_size z (d + 1) hr1) ?_
      simp only [am_R_eq, cx_32, en_32, rt_32, rx_aaload, rx_aload_n, rx_arraylength, ev_ln, ev_pN, rx_bipush, rx_getfield, ev_gf, rx_goto, rx_iadd, rx_iconst, rx_icmp_ge, rx_iinc, ev_inc, rx_iload_n, rx_imul, rx_invs, rx_max2, rx_min2, rx_copy2, rx_invv, ev_cv, rx_istore_n, rx_putfield, ev_pf, ev_w1, ev_KW, am_fok, am_ftv, rx_return, kl_5, kl_12, kl_33, ev_K, ev_pI, ev_pR, ev_pVi, ev_pVr, ev_sI, ev_sR, ev_KC, ev_k, ev_ko, ev_pop0, ev_pops, am_ld, am_sv, am_at, am_st, am_g, List.length_cons, List.length_nil, Nat.reduceAdd, Nat.reduceLT, Nat.zero_add, if_true, if_false, and_self, true_or, or_true, true_and, and_true, not_true_eq_false, not_false_eq_true, reduceCtorEq, eq_self, Option.toList_some, Option.toList_none, List.cons_append, List.nil_append, Bool.false_eq_true, e4, t1]
      refine am_CL_of m1 ?_
      simp only [am_R_eq, cx_32, en_32, rt_32, rx_aaload, rx_aload_n, rx_arraylength, ev_ln, ev_pN, rx_bipush, rx_getfield, ev_gf, rx_goto, rx_iadd, rx_iconst, rx_icmp_ge, rx_iinc, ev_inc, rx_iload_n, rx_imul, rx_invs, rx_max2, rx_min2, rx_copy2, rx_invv, ev_cv, rx_istore_n, rx_putfield, ev_pf, ev_w1, ev_KW, am_fok, am_ftv, rx_return, kl_5, kl_12, kl_33, ev_K, ev_pI, ev_pR, ev_pVi, ev_pVr, ev_sI, ev_sR, ev_KC, ev_k, ev_ko, ev_pop0, ev_pops, am_ld, am_sv, am_at, am_st, am_g, List.length_cons, List.length_nil, Nat.reduceAdd, Nat.reduceLT, Nat.zero_add, if_true, if_false, and_self, true_or, or_true, true_and, and_true, not_true_eq_false, not_false_eq_true, reduceCtorEq, eq_self, Option.toList_some, Option.toList_none, List.cons_append, List.nil_append, Bool.false_eq_true, nI_ofs]
      exact i1
  have hl0 := hl
  obtain ⟨l1, l2, l3, ⟨G, l4, l5⟩, l6, l7, l8⟩ := hl
  have e4 : (if nI m < nI ((L.length + 5) / 6) then nI m else nI ((L.length + 5) / 6)) = nI ((L.length + 5) / 6) := by
    rw [if_neg (nI_nlt (by omega) (by omega))]
  have hl1 : vs_lv (am_up h lv (vs_lo ta ((L.length + 5) / 6))) lv ta m ((L.length + 5) / 6) cap bl tt rr aa C fl := by
    refine ⟨am_up_at _ _ _, hroom, l3, ⟨G, ?_, l5⟩, fun k hk => ?_, fun k hk => (l7 k hk).up _ l1 (by decide), l8⟩
    · rw [am_up_ne _ _ (am_ne l4 l1 (by simp))]; exact l4
    · rw [am_up_ne _ _ (am_ne (l6 k hk) l1 (by simp))]; exact l6 k hk
  obtain ⟨h', C', fl', i1, i2⟩ := loop ((L.length + 5) / 6) 0 _ C fl (by omega) (Nat.zero_le _) (vs_chl.upl _) hl1 (fun i hi => absurd hi (Nat.not_lt_zero _)) (fun i => Or.inr rfl)
  rw [am_R_eq] at i1
  refine ⟨h', C', fl', ?_, i2⟩
  rw [am_M_eq]
  simp only [am_R_eq, cx_32, en_32, rt_32, rx_aaload, rx_aload_n, rx_arraylength, ev_ln, ev_pN, rx_bipush, rx_getfield, ev_gf, rx_goto, rx_iadd, rx_iconst, rx_icmp_ge, rx_iinc, ev_inc, rx_iload_n, rx_imul, rx_invs, rx_max2, rx_min2, rx_copy2, rx_invv, ev_cv, rx_istore_n, rx_putfield, ev_pf, ev_w1, ev_KW, am_fok, am_ftv, rx_return, kl_5, kl_12, kl_33, ev_K, ev_pI, ev_pR, ev_pVi, ev_pVr, ev_sI, ev_sR, ev_KC, ev_k, ev_ko, ev_pop0, ev_pops, am_ld, am_sv, am_at, am_st, am_g, List.length_cons, List.length_nil, Nat.reduceAdd, Nat.reduceLT, Nat.zero_add, if_true, if_false, and_self, true_or, or_true, true_and, and_true, not_true_eq_false, not_false_eq_true, reduceCtorEq, eq_self, Option.toList_some, Option.toList_none, List.cons_append, List.nil_append, Bool.false_eq_true, l1, r1]
  refine am_CL_of (ro_size z (d + 1) hr) ?_
  simp only [am_R_eq, cx_32, en_32, rt_32, rx_aaload, rx_aload_n, rx_arraylength, ev_ln, ev_pN, rx_bipush, rx_getfield, ev_gf, rx_goto, rx_iadd, rx_iconst, rx_icmp_ge, rx_iinc, ev_inc, rx_iload_n, rx_imul, rx_invs, rx_max2, rx_min2, rx_copy2, rx_invv, ev_cv, rx_istore_n, rx_putfield, ev_pf, ev_w1, ev_KW, am_fok, am_ftv, rx_return, kl_5, kl_12, kl_33, ev_K, ev_pI, ev_pR, ev_pVi, ev_pVr, ev_sI, ev_sR, ev_KC, ev_k, ev_ko, ev_pop0, ev_pops, am_ld, am_sv, am_at, am_st, am_g, List.length_cons, List.length_nil, Nat.reduceAdd, Nat.reduceLT, Nat.zero_add, if_true, if_false, and_self, true_or, or_true, true_and, and_true, not_true_eq_false, not_false_eq_true, reduceCtorEq, eq_self, Option.toList_some, Option.toList_none, List.cons_append, List.nil_append, Bool.false_eq_true, l1]
  refine am_CL_of (lv_tablesFor z (d + 1) (by omega)) ?_
  simp only [am_R_eq, cx_32, en_32, rt_32, rx_aaload, rx_aload_n, rx_arraylength, ev_ln, ev_pN, rx_bipush, rx_getfield, ev_gf, rx_goto, rx_iadd, rx_iconst, rx_icmp_ge, rx_iinc, ev_inc, rx_iload_n, rx_imul, rx_invs, rx_max2, rx_min2, rx_copy2, rx_invv, ev_cv, rx_istore_n, rx_putfield, ev_pf, ev_w1, ev_KW, am_fok, am_ftv, rx_return, kl_5, kl_12, kl_33, ev_K, ev_pI, ev_pR, ev_pVi, ev_pVr, ev_sI, ev_sR, ev_KC, ev_k, ev_ko, ev_pop0, ev_pops, am_ld, am_sv, am_at, am_st, am_g, List.length_cons, List.length_nil, Nat.reduceAdd, Nat.reduceLT, Nat.zero_add, if_true, if_false, and_self, true_or, or_true, true_and, and_true, not_true_eq_false, not_false_eq_true, reduceCtorEq, eq_self, Option.toList_some, Option.toList_none, List.cons_append, List.nil_append, Bool.false_eq_true, l1, l4, ev_ln, ev_pN, e4, hzl, Nat.reduceLeDiff, beq_self_eq_true]
  exact i1
end LEV2
