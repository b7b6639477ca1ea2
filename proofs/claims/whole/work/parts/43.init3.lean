section VIP
variable {h : am_H}
abbrev vi_z : am_E := .inl (0, 8, .inl (fun _ => 0))
def vi_lh (h : am_H) : am_H := am_nw (am_nw (am_nw (am_nw h vi_z 8) vi_z 8) vi_z 8) vi_z 8
theorem lg_init (z d : Nat) {lg : Nat} (hf : am_fr h) (hz : z ≤ lg) (hl : h.1 lg = some (.inr (5, [.null, .int 0, .int 0, .null, .null, .null, .int 0]))) :
    ∃ h', am_M z (d + 1) 6 [.ref lg] h none h' ∧ vs_lg h' lg (fun i => h.2.1 + i) (fun _ => 0) (fun _ => 0) (fun _ => 0) (fun _ => 0) 0 1 0 ∧ (∀ q, q < h.2.1 → q ≠ lg → h'.1 q = h.1 q) ∧ am_fr h' ∧ h'.2 = (h.2.1 + 4, h.2.2 + 32) := by
  have hll := hf _ _ hl
  have c8 : ¬ (8 : Int32) < 0 := by decide
  have d8 : (8 : Int32).toNatClampNeg = 8 := by decide
  have x0 : ∀ q, q < h.2.1 → (vi_lh h).1 q = h.1 q := by
    intro q hq
    unfold vi_lh
    rw [am_nw_ne _ _ _ (by show q ≠ h.2.1 + 1 + 1 + 1; omega), am_nw_ne _ _ _ (by show q ≠ h.2.1 + 1 + 1; omega), am_nw_ne _ _ _ (by show q ≠ h.2.1 + 1; omega), am_nw_ne _ _ _ (by omega)]
  have x1 : ∀ i, i < 4 → (vi_lh h).1 (h.2.1 + i) = some vi_z := by
    intro i hi
    unfold vi_lh
    rcases (by omega : i = 0 ∨ i = 1 ∨ i = 2 ∨ i = 3) with w | w | w | w <;> subst w
    · rw [am_nw_ne _ _ _ (by show h.2.1 + 0 ≠ h.2.1 + 1 + 1 + 1; omega), am_nw_ne _ _ _ (by show h.2.1 + 0 ≠ h.2.1 + 1 + 1; omega), am_nw_ne _ _ _ (by show h.2.1 + 0 ≠ h.2.1 + 1; omega)]
      exact am_nw_at _ _ _
    · rw [am_nw_ne _ _ _ (by show h.2.1 + 1 ≠ h.2.1 + 1 + 1 + 1; omega), am_nw_ne _ _ _ (by show h.2.1 + 1 ≠ h.2.1 + 1 + 1; omega)]
      exact am_nw_at _ _ _
    · rw [am_nw_ne _ _ _ (by show h.2.1 + 2 ≠ h.2.1 + 1 + 1 + 1; omega)]
      exact am_nw_at _ _ _
    · exact am_nw_at _ _ _
  refine ⟨am_up (vi_lh h) lg (vs_lgo (fun i => h.2.1 + i) 0 1 0), ?_, ⟨am_up_at _ _ _, ?_, ?_, ?_, ?_, by omega, fun i => Nat.zero_le _, fun i j hi hj hij => by show h.2.1 + i ≠ h.2.1 + j; omega⟩, ?_, ?_, rfl⟩
  · have n0 := fun (x e : am_E) (n : Nat) => am_nw_up h (a := lg) x e n (by omega)
    have n1 := fun (x e : am_E) (n : Nat) => am_nw_up (am_nw h vi_z 8) (a := lg) x e n (by show lg ≠ h.2.1 + 1; omega)
    have n2 := fun (x e : am_E) (n : Nat) => am_nw_up (am_nw (am_nw h vi_z 8) vi_z 8) (a := lg) x e n (by show lg ≠ h.2.1 + 1 + 1; omega)
    have n3 := fun (x e : am_E) (n : Nat) => am_nw_up (am_nw (am_nw (am_nw h vi_z 8) vi_z 8) vi_z 8) (a := lg) x e n (by show lg ≠ h.2.1 + 1 + 1 + 1; omega)
    have l1 : (am_nw h vi_z 8).1 lg = some (.inr (5, [.null, .int 0, .int 0, .null, .null, .null, .int 0])) := by rw [am_nw_ne _ _ _ (by omega)]; exact hl
    rw [am_M_eq]
    simp only [am_R_eq, cx_6, en_6, rt_6, rx_aload_n, rx_bipush, rx_iconst, rx_invi, rx_obj2, ev_cs, rx_newarray, rx_putfield, ev_pf, ev_w1, ev_KW, am_fok, am_ftv, rx_return, ev_K, ev_pI, ev_pR, ev_pVi, ev_pVr, ev_sI, ev_sR, ev_KC, ev_k, ev_ko, ev_pop0, ev_pops, am_ld, am_sv, am_at, am_st, am_g, List.length_cons, List.length_nil, Nat.reduceAdd, Nat.reduceLT, Nat.zero_add, if_true, if_false, and_self, true_or, or_true, true_and, and_true, not_true_eq_false, not_false_eq_true, reduceCtorEq, eq_self, Option.toList_some, Option.toList_none, List.cons_append, List.nil_append, Bool.false_eq_true, c8, d8, l1, hz, n0, n1, n2, n3, am_up_2, am_nw_2, am_up_at, am_up_up, Nat.reduceLeDiff, beq_self_eq_true]
    rfl
  · rw [am_up_ne _ _ (by show h.2.1 + 0 ≠ lg; omega)]; exact x1 0 (by omega)
  · rw [am_up_ne _ _ (by show h.2.1 + 1 ≠ lg; omega)]; exact x1 1 (by omega)
  · rw [am_up_ne _ _ (by show h.2.1 + 2 ≠ lg; omega)]; exact x1 2 (by omega)
  · rw [am_up_ne _ _ (by show h.2.1 + 3 ≠ lg; omega)]; exact x1 3 (by omega)
  · intro q h1 h2
    rw [am_up_ne _ _ h2]; exact x0 q h1
  · exact ((((hf.nw _ _).nw _ _).nw _ _).nw _ _).up (w := .inr (5, [.null, .int 0, .int 0, .null, .null, .null, .int 0])) _ (by have := x0 lg hll; unfold vi_lh at this; rw [this]; exact hl)
theorem sn_init (z d : Nat) {s : Nat} (hf : am_fr h) (hz : z ≤ s) (hz2 : z ≤ h.2.1) (hl : h.1 s = some (.inr (6, [.null]))) :
    ∃ h', am_M z (d + 1 + 1) 7 [.ref s] h none h' ∧ vs_sn h' s h.2.1 (fun i => if i < 3 then -1 else 0) ∧ (∀ q, q < h.2.1 → q ≠ s → h'.1 q = h.1 q) ∧ am_fr h' ∧ h'.2 = (h.2.1 + 1, h.2.2 + 3) := by
  have hll := hf _ _ hl
  have c8 : ¬ (3 : Int32) < 0 := by decide
  have d8 : (3 : Int32).toNatClampNeg = 3 := by decide
  have m1 := ar_fill z d (h := am_up (am_nw h (.inl (0, 3, .inl (fun _ => 0))) 3) s (.inr (6, [.ref h.2.1]))) (x := h.2.1) (n := 3) (g := fun _ => 0) (v := -1) hz2 (by rw [am_up_ne _ _ (by omega), am_nw_at]) (by omega)
  have hs1 : (am_nw h (.inl (0, 3, .inl (fun _ => 0))) 3).1 s = some (.inr (6, [.null])) := by rw [am_nw_ne _ _ _ (by omega)]; exact hl
  refine ⟨am_up (am_up (am_nw h (.inl (0, 3, .inl (fun _ => 0))) 3) s (.inr (6, [.ref h.2.1]))) h.2.1 (.inl (0, 3, .inl (fun i => if i < 3 then -1 else 0))), ?_, ⟨?_, am_up_at _ _ _⟩, ?_, ((hf.nw _ _).up (w := .inr (6, [.null])) _ hs1).up (w := .inl (0, 3, .inl (fun _ => 0))) _ (by rw [am_up_ne _ _ (by omega), am_nw_at]), rfl⟩
  · have a1 : (am_nw h (.inl (0, 3, .inl (fun _ => 0))) 3).1 h.2.1 = some (.inl (0, 3, .inl (fun _ => 0))) := am_nw_at _ _ _
    have a2 : (am_up (am_nw h (.inl (0, 3, .inl (fun _ => 0))) 3) s (.inr (6, [.ref h.2.1]))).1 h.2.1 = some (.inl (0, 3, .inl (fun _ => 0))) := by rw [am_up_ne _ _ (by omega), am_nw_at]
    rw [am_M_eq]
    simp only [am_R_eq, cx_7, en_7, rt_7, rx_aload_n, rx_getfield, ev_gf, rx_iconst, rx_invi, rx_obj2, ev_cs, rx_invs, rx_max2, rx_min2, rx_copy2, rx_newarray, rx_putfield, ev_pf, ev_w1, ev_KW, am_fok, am_ftv, rx_return, ev_K, ev_pI, ev_pR, ev_pVi, ev_pVr, ev_sI, ev_sR, ev_KC, ev_k, ev_ko, ev_pop0, ev_pops, am_ld, am_sv, am_at, am_st, am_g, List.length_cons, List.length_nil, Nat.reduceAdd, Nat.reduceLT, Nat.zero_add, if_true, if_false, and_self, true_or, or_true, true_and, and_true, not_true_eq_false, not_false_eq_true, reduceCtorEq, eq_self, Option.toList_some, Option.toList_none, List.cons_append, List.nil_append, Bool.false_eq_true, c8, d8, hs1, hz, a2, am_up_2, am_nw_2, am_up_at, am_up_up, Nat.reduceLeDiff, beq_self_eq_true]
    refine am_CL_of m1 ?_
    simp only [am_R_eq, cx_7, en_7, rt_7, rx_aload_n, rx_getfield, ev_gf, rx_iconst, rx_invi, rx_obj2, ev_cs, rx_invs, rx_max2, rx_min2, rx_copy2, rx_newarray, rx_putfield, ev_pf, ev_w1, ev_KW, am_fok, am_ftv, rx_return, ev_K, ev_pI, ev_pR, ev_pVi, ev_pVr, ev_sI, ev_sR, ev_KC, ev_k, ev_ko, ev_pop0, ev_pops, am_ld, am_sv, am_at, am_st, am_g, List.length_cons, List.length_nil, Nat.reduceAdd, Nat.reduceLT, Nat.zero_add, if_true, if_false, and_self, true_or, or_true, true_and, and_true, not_true_eq_false, not_false_eq_true, reduceCtorEq, eq_self, Option.toList_some, Option.toList_none, List.cons_append, List.nil_append, Bool.false_eq_true]
  · rw [am_up_ne _ _ (by omega), am_up_at]
  · intro q h1 h2
    rw [am_up_ne _ _ (by omega), am_up_ne _ _ h2, am_nw_ne _ _ _ (by omega)]
end VIP
