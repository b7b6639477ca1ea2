section MIN
variable {h : am_H}
def vi_ma (i : Nat) : am_E := .inl (mt i, mn i, .inl (fun _ => 0))
def vi_mh (h : am_H) : Nat → am_H
  | 0 => h
  | i + 1 => am_nw (vi_mh h i) (vi_ma i) (mn i)
theorem vi_mh_1 (h : am_H) : ∀ i, (vi_mh h i).2.1 = h.2.1 + i
  | 0 => rfl
  | i + 1 => by
    show (vi_mh h i).2.1 + 1 = _
    rw [vi_mh_1 h i]; omega
theorem vi_mh_lo (h : am_H) {q : Nat} (hq : q < h.2.1) : ∀ i, (vi_mh h i).1 q = h.1 q
  | 0 => rfl
  | i + 1 => by
    show (am_nw (vi_mh h i) (vi_ma i) (mn i)).1 q = _
    rw [am_nw_ne _ _ _ (by rw [vi_mh_1]; omega), vi_mh_lo h hq i]
theorem vi_mh_at (h : am_H) {k : Nat} : ∀ i, k < i → (vi_mh h i).1 (h.2.1 + k) = some (vi_ma k)
  | 0, hk => absurd hk (Nat.not_lt_zero k)
  | i + 1, hk => by
    show (am_nw (vi_mh h i) (vi_ma i) (mn i)).1 (h.2.1 + k) = _
    by_cases hki : k = i
    · subst hki
      have := am_nw_at (vi_mh h k) (vi_ma k) (mn k)
      rw [vi_mh_1] at this
      exact this
    · rw [am_nw_ne _ _ _ (by rw [vi_mh_1]; omega), vi_mh_at h i (by omega)]
theorem vi_mh_fr (hf : am_fr h) : ∀ i, am_fr (vi_mh h i)
  | 0 => hf
  | i + 1 => (vi_mh_fr hf i).nw _ _
theorem vi_mh_2 (h : am_H) : (vi_mh h 20).2 = (h.2.1 + 20, h.2.2 + 5800) := by
  refine Prod.ext (vi_mh_1 h 20) ?_
  show h.2.2 + 520 + 520 + 520 + 520 + 520 + 520 + 520 + 520 + 520 + 520 + 520 + 6 + 6 + 6 + 3 + 3 + 8 + 16 + 16 + 16 = h.2.2 + 5800
  omega
theorem am_ftr : am_ft 7 2 = 2 ∧ am_ft 7 3 = 2 ∧ am_ft 7 4 = 2 ∧ am_ft 7 5 = 2 ∧ am_ft 7 6 = 2 ∧ am_ft 7 7 = 2 ∧ am_ft 7 8 = 2 ∧ am_ft 7 9 = 2 ∧ am_ft 7 10 = 2 ∧ am_ft 7 11 = 2 ∧ am_ft 7 12 = 2 ∧ am_ft 7 17 = 2 ∧ am_ft 7 18 = 2 ∧ am_ft 7 19 = 2 ∧ am_ft 7 20 = 2 ∧ am_ft 7 21 = 2 ∧ am_ft 7 24 = 2 ∧ am_ft 7 26 = 2 ∧ am_ft 7 27 = 2 ∧ am_ft 7 28 = 2 := by decide +kernel
theorem mo_init (z d : Nat) {x : Nat} (hf : am_fr h) (hz : z ≤ x) (hz2 : z ≤ h.2.1) (hx : h.1 x = some (.inr (7, am_df 7))) : ∃ h', am_M z (d + 1) 93 [.ref x] h none h' ∧ vs_M z h' x (fun i => h.2.1 + i) (fun _ => 0) (fun _ _ => 0) ∧ (∀ q, q < h.2.1 → q ≠ x → h'.1 q = h.1 q) ∧ h'.2 = (h.2.1 + 20, h.2.2 + 5800) := by
  have hll := hf _ _ hx
  refine ⟨am_up (vi_mh h 20) x (vm_o (fun i => h.2.1 + i) (fun _ => 0)), ?_, ⟨am_up_at _ _ _, fun i hi => ?_, fun i j hi hj hij => ?_, fun i hi => ?_, hz, (vi_mh_fr hf 20).up (w := .inr (7, am_df 7)) _ (by rw [vi_mh_lo h hll]; exact hx)⟩, fun q hq hne => ?_, vi_mh_2 h⟩
  · have cs : ∀ k : Int32, k = 520 ∨ k = 6 ∨ k = 3 ∨ k = 8 ∨ k = 16 → ¬ k < 0 := by
      rintro k (r | r | r | r | r) <;> subst r <;> decide
    have c520 : ¬ (520 : Int32) < 0 := by decide
    have d520 : (520 : Int32).toNatClampNeg = 520 := by decide
    have c6 : ¬ (6 : Int32) < 0 := by decide
    have d6 : (6 : Int32).toNatClampNeg = 6 := by decide
    have c3 : ¬ (3 : Int32) < 0 := by decide
    have d3 : (3 : Int32).toNatClampNeg = 3 := by decide
    have c8 : ¬ (8 : Int32) < 0 := by decide
    have d8 : (8 : Int32).toNatClampNeg = 8 := by decide
    have c16 : ¬ (16 : Int32) < 0 := by decide
    have d16 : (16 : Int32).toNatClampNeg = 16 := by decide
    have df : am_df 7 = [.int 0, .int 0, .null, .null, .null, .null, .null, .null, .null, .null, .null, .null, .null, .int 0, .int 0, .int 0, .int 0, .null, .null, .null, .null, .null, .int 0, .int 0, .null, .int 0, .null, .null, .null, .int 0] := rfl
    rw [df] at hx
    have s0 : am_nw h (.inl (0, 520, .inl (fun _ => 0))) 520 = vi_mh h 1 := rfl
    have x1 : (vi_mh h 1).1 x = some (.inr (7, [.int 0, .int 0, .null, .null, .null, .null, .null, .null, .null, .null, .null, .null, .null, .int 0, .int 0, .int 0, .int 0, .null, .null, .null, .null, .null, .int 0, .int 0, .null, .int 0, .null, .null, .null, .int 0])) := by rw [vi_mh_lo h hll]; exact hx
    have s1 : ∀ e : am_E, am_nw (am_up (vi_mh h 1) x e) (.inl (0, 520, .inl (fun _ => 0))) 520 = am_up (vi_mh h 2) x e := fun e => am_nw_up (vi_mh h 1) (a := x) e _ _ (by rw [vi_mh_1]; omega)
    have s2 : ∀ e : am_E, am_nw (am_up (vi_mh h 2) x e) (.inl (0, 520, .inl (fun _ => 0))) 520 = am_up (vi_mh h 3) x e := fun e => am_nw_up (vi_mh h 2) (a := x) e _ _ (by rw [vi_mh_1]; omega)
    have s3 : ∀ e : am_E, am_nw (am_up (vi_mh h 3) x e) (.inl (1, 520, .inl (fun _ => 0))) 520 = am_up (vi_mh h 4) x e := fun e => am_nw_up (vi_mh h 3) (a := x) e _ _ (by rw [vi_mh_1]; omega)
    have s4 : ∀ e : am_E, am_nw (am_up (vi_mh h 4) x e) (.inl (0, 520, .inl (fun _ => 0))) 520 = am_up (vi_mh h 5) x e := fun e => am_nw_up (vi_mh h 4) (a := x) e _ _ (by rw [vi_mh_1]; omega)
    have s5 : ∀ e : am_E, am_nw (am_up (vi_mh h 5) x e) (.inl (0, 520, .inl (fun _ => 0))) 520 = am_up (vi_mh h 6) x e := fun e => am_nw_up (vi_mh h 5) (a := x) e _ _ (by rw [vi_mh_1]; omega)
    have s6 : ∀ e : am_E, am_nw (am_up (vi_mh h 6) x e) (.inl (0, 520, .inl (fun _ => 0))) 520 = am_up (vi_mh h 7) x e := fun e => am_nw_up (vi_mh h 6) (a := x) e _ _ (by rw [vi_mh_1]; omega)
    have s7 : ∀ e : am_E, am_nw (am_up (vi_mh h 7) x e) (.inl (0, 520, .inl (fun _ => 0))) 520 = am_up (vi_mh h 8) x e := fun e => am_nw_up (vi_mh h 7) (a := x) e _ _ (by rw [vi_mh_1]; omega)
    have s8 : ∀ e : am_E, am_nw (am_up (vi_mh h 8) x e) (.inl (0, 520, .inl (fun _ => 0))) 520 = am_up (vi_mh h 9) x e := fun e => am_nw_up (vi_mh h 8) (a := x) e _ _ (by rw [vi_mh_1]; omega)
    have s9 : ∀ e : am_E, am_nw (am_up (vi_mh h 9) x e) (.inl (1, 520, .inl (fun _ => 0))) 520 = am_up (vi_mh h 10) x e := fun e => am_nw_up (vi_mh h 9) (a := x) e _ _ (by rw [vi_mh_1]; omega)
    have s10 : ∀ e : am_E, am_nw (am_up (vi_mh h 10) x e) (.inl (1, 520, .inl (fun _ => 0))) 520 = am_up (vi_mh h 11) x e := fun e => am_nw_up (vi_mh h 10) (a := x) e _ _ (by rw [vi_mh_1]; omega)
    have s11 : ∀ e : am_E, am_nw (am_up (vi_mh h 11) x e) (.inl (0, 6, .inl (fun _ => 0))) 6 = am_up (vi_mh h 12) x e := fun e => am_nw_up (vi_mh h 11) (a := x) e _ _ (by rw [vi_mh_1]; omega)
    have s12 : ∀ e : am_E, am_nw (am_up (vi_mh h 12) x e) (.inl (0, 6, .inl (fun _ => 0))) 6 = am_up (vi_mh h 13) x e := fun e => am_nw_up (vi_mh h 12) (a := x) e _ _ (by rw [vi_mh_1]; omega)
    have s13 : ∀ e : am_E, am_nw (am_up (vi_mh h 13) x e) (.inl (0, 6, .inl (fun _ => 0))) 6 = am_up (vi_mh h 14) x e := fun e => am_nw_up (vi_mh h 13) (a := x) e _ _ (by rw [vi_mh_1]; omega)
    have s14 : ∀ e : am_E, am_nw (am_up (vi_mh h 14) x e) (.inl (1, 3, .inl (fun _ => 0))) 3 = am_up (vi_mh h 15) x e := fun e => am_nw_up (vi_mh h 14) (a := x) e _ _ (by rw [vi_mh_1]; omega)
    have s15 : ∀ e : am_E, am_nw (am_up (vi_mh h 15) x e) (.inl (0, 3, .inl (fun _ => 0))) 3 = am_up (vi_mh h 16) x e := fun e => am_nw_up (vi_mh h 15) (a := x) e _ _ (by rw [vi_mh_1]; omega)
    have s16 : ∀ e : am_E, am_nw (am_up (vi_mh h 16) x e) (.inl (0, 8, .inl (fun _ => 0))) 8 = am_up (vi_mh h 17) x e := fun e => am_nw_up (vi_mh h 16) (a := x) e _ _ (by rw [vi_mh_1]; omega)
    have s17 : ∀ e : am_E, am_nw (am_up (vi_mh h 17) x e) (.inl (0, 16, .inl (fun _ => 0))) 16 = am_up (vi_mh h 18) x e := fun e => am_nw_up (vi_mh h 17) (a := x) e _ _ (by rw [vi_mh_1]; omega)
    have s18 : ∀ e : am_E, am_nw (am_up (vi_mh h 18) x e) (.inl (0, 16, .inl (fun _ => 0))) 16 = am_up (vi_mh h 19) x e := fun e => am_nw_up (vi_mh h 18) (a := x) e _ _ (by rw [vi_mh_1]; omega)
    have s19 : ∀ e : am_E, am_nw (am_up (vi_mh h 19) x e) (.inl (1, 16, .inl (fun _ => 0))) 16 = am_up (vi_mh h 20) x e := fun e => am_nw_up (vi_mh h 19) (a := x) e _ _ (by rw [vi_mh_1]; omega)
    have p1 : (vi_mh h 1).2.1 = h.2.1 + 1 := vi_mh_1 h 1
    have p2 : (vi_mh h 2).2.1 = h.2.1 + 2 := vi_mh_1 h 2
    have p3 : (vi_mh h 3).2.1 = h.2.1 + 3 := vi_mh_1 h 3
    have p4 : (vi_mh h 4).2.1 = h.2.1 + 4 := vi_mh_1 h 4
    have p5 : (vi_mh h 5).2.1 = h.2.1 + 5 := vi_mh_1 h 5
    have p6 : (vi_mh h 6).2.1 = h.2.1 + 6 := vi_mh_1 h 6
    have p7 : (vi_mh h 7).2.1 = h.2.1 + 7 := vi_mh_1 h 7
    have p8 : (vi_mh h 8).2.1 = h.2.1 + 8 := vi_mh_1 h 8
    have p9 : (vi_mh h 9).2.1 = h.2.1 + 9 := vi_mh_1 h 9
    have p10 : (vi_mh h 10).2.1 = h.2.1 + 10 := vi_mh_1 h 10
    have p11 : (vi_mh h 11).2.1 = h.2.1 + 11 := vi_mh_1 h 11
    have p12 : (vi_mh h 12).2.1 = h.2.1 + 12 := vi_mh_1 h 12
    have p13 : (vi_mh h 13).2.1 = h.2.1 + 13 := vi_mh_1 h 13
    have p14 : (vi_mh h 14).2.1 = h.2.1 + 14 := vi_mh_1 h 14
    have p15 : (vi_mh h 15).2.1 = h.2.1 + 15 := vi_mh_1 h 15
    have p16 : (vi_mh h 16).2.1 = h.2.1 + 16 := vi_mh_1 h 16
    have p17 : (vi_mh h 17).2.1 = h.2.1 + 17 := vi_mh_1 h 17
    have p18 : (vi_mh h 18).2.1 = h.2.1 + 18 := vi_mh_1 h 18
    have p19 : (vi_mh h 19).2.1 = h.2.1 + 19 := vi_mh_1 h 19
    rw [am_M_eq]
    simp only [am_R_eq, cx_93, en_93, rt_93, rx_aload_n, rx_bipush, rx_iconst, rx_invi, rx_obj2, ev_cs, rx_newarray, rx_putfield, ev_pf, ev_w1, ev_KW, am_fok, am_ftv, rx_return, rx_sipush, ev_K, ev_pI, ev_pR, ev_pVi, ev_pVr, ev_sI, ev_sR, ev_KC, ev_k, ev_ko, ev_pop0, ev_pops, am_ld, am_sv, am_at, am_st, am_g, List.length_cons, List.length_nil, Nat.reduceAdd, Nat.reduceLT, Nat.zero_add, if_true, if_false, and_self, true_or, or_true, true_and, and_true, not_true_eq_false, not_false_eq_true, reduceCtorEq, eq_self, Option.toList_some, Option.toList_none, List.cons_append, List.nil_append, Bool.false_eq_true, c520, d520, c6, d6, c3, d3, c8, d8, c16, d16, hz, s0, x1, s1, s2, s3, s4, s5, s6, s7, s8, s9, s10, s11, s12, s13, s14, s15, s16, s17, s18, s19, p1, p2, p3, p4, p5, p6, p7, p8, p9, p10, p11, p12, p13, p14, p15, p16, p17, p18, p19, am_ftr, am_up_2, am_up_at, am_up_up, Nat.reduceLeDiff, beq_self_eq_true]
    rfl
  · rw [am_up_ne _ _ (by show h.2.1 + i ≠ x; omega)]
    exact vi_mh_at h 20 hi
  · show h.2.1 + i ≠ h.2.1 + j; omega
  · show z ≤ h.2.1 + i; omega
  · rw [am_up_ne _ _ hne]; exact vi_mh_lo h hq 20
end MIN
