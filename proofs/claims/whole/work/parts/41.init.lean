section VIN
variable {h : am_H}
theorem am_df2 : am_df 2 = [.null, .null, .int 0] := rfl
theorem am_df3 : am_df 3 = [.null, .int 0] := rfl
theorem am_df4 : am_df 4 = [.null, .int 0] := rfl
theorem am_df5 : am_df 5 = [.null, .int 0, .int 0, .null, .null, .null, .int 0] := rfl
theorem am_df6 : am_df 6 = [.null] := rfl
theorem am_nw_up (h : am_H) {a : Nat} (x e : am_E) (n : Nat) (ha : a ≠ h.2.1) : am_nw (am_up h a x) e n = am_up (am_nw h e n) a x := by
  unfold am_nw am_up
  refine Prod.ext ?_ rfl
  funext q
  show (if q = h.2.1 then some e else if q = a then some x else h.1 q) = (if q = a then some x else if q = h.2.1 then some e else h.1 q)
  by_cases h1 : q = h.2.1
  · have h2 : ¬ q = a := by omega
    simp [h1, Ne.symm ha]
  · simp [h1]
def am_fr (h : am_H) : Prop := ∀ a e, h.1 a = some e → a < h.2.1
theorem am_fr.nw (hf : am_fr h) (e : am_E) (n : Nat) : am_fr (am_nw h e n) := by
  intro a x ha
  show a < h.2.1 + 1
  by_cases q : a = h.2.1
  · omega
  · rw [am_nw_ne _ _ _ q] at ha
    have := hf a x ha
    omega
theorem am_fr.up {x : Nat} {w : am_E} (hf : am_fr h) (e : am_E) (hx : h.1 x = some w) : am_fr (am_up h x e) := by
  intro a y ha
  show a < h.2.1
  by_cases q : a = x
  · rw [q]; exact hf _ _ hx
  · rw [am_up_ne _ _ q] at ha
    exact hf _ _ ha
theorem ro_init (z d : Nat) {r bl n : Nat} (hf : am_fr h) (hz : z ≤ r) (hz2 : z ≤ h.2.1) (hr : h.1 r = some (.inr (2, [.null, .null, .int 0]))) (hbl : am_ko (h.1 bl) = some 1) (hne : bl ≠ r) (hn : n ≤ 200) :
    ∃ h', am_M z (d + 1) 2 [.ref r, .int (nI n), .ref bl] h none h' ∧ vs_row h' r h.2.1 bl n [] ∧ (∀ q, q < h.2.1 → q ≠ r → h'.1 q = h.1 q) ∧ am_fr h' ∧ h'.2 = (h.2.1 + 1, h.2.2 + n) := by
  have hrl := hf _ _ hr
  have hbll : bl < h.2.1 := by
    cases hb : h.1 bl with
    | none => rw [hb] at hbl; exact absurd hbl (by decide)
    | some x => exact hf _ _ hb
  have loop : ∀ m k hh (G : Nat → Option Nat), m = n - k → k ≤ n → hh.1 r = some (vs_ro bl h.2.1 0) → hh.1 h.2.1 = some (vs_q n G) → am_ko (hh.1 bl) = some 1 → ∃ G2, am_R z d 2 19 [some (.ref r), some (.int (nI n)), some (.ref bl), some (.int (nI k))] [] hh none (am_up hh h.2.1 (vs_q n G2)) := by
    intro m
    induction m with
    | zero =>
      intro k hh G hm hk h1 h2 h3
      have e1 : nI n ≤ nI k := nI_le (by omega) (by omega)
      refine ⟨G, ?_⟩
      rw [am_up_self h2]
      rw [am_R_eq, cxh_2_19]
      simp only [am_R_eq, cx_2, en_2, rt_2, rx_aastore, ev_w1, ev_KW, rx_aload_n, rx_anewarray, rx_getfield, ev_gf, rx_goto, rx_iconst, rx_icmp_ge, rx_iinc, ev_inc, rx_iload_n, rx_invi, rx_obj2, ev_cs, rx_istore_n, rx_putfield, ev_pf, am_fok, am_ftv, rx_return, ev_K, ev_pI, ev_pR, ev_pVi, ev_pVr, ev_sI, ev_sR, ev_KC, ev_k, ev_ko, ev_pop0, ev_pops, am_ld, am_sv, am_at, am_st, am_g, List.length_cons, List.length_nil, Nat.reduceAdd, Nat.reduceLT, Nat.zero_add, if_true, if_false, and_self, true_or, or_true, true_and, and_true, not_true_eq_false, not_false_eq_true, reduceCtorEq, eq_self, Option.toList_some, Option.toList_none, List.cons_append, List.nil_append, Bool.false_eq_true, e1]
    | succ m ih =>
      intro k hh G hm hk h1 h2 h3
      have hlt : k < n := by omega
      have e1 : ¬ nI n ≤ nI k := nI_ge hlt (by omega)
      have e3 : am_ix (nI k) n = some k := ev_ix hlt (by omega)
      have e4 : am_wq (some (vs_q n G)) (nI k) bl (hh.1 bl) = some (vs_q n (va_up G k (some bl))) := ev_wq 2 n k bl G (nI k) (hh.1 bl) (by omega) e3 h3
      have hbn : bl ≠ h.2.1 := by omega
      obtain ⟨G2, i1⟩ := ih (k + 1) (am_up hh h.2.1 (vs_q n (va_up G k (some bl)))) (va_up G k (some bl)) (by omega) (by omega) (by rw [am_up_ne _ _ (by omega)]; exact h1) (am_up_at _ _ _) (by rw [am_up_ne _ _ hbn]; exact h3)
      rw [am_up_up] at i1
      refine ⟨G2, ?_⟩
      rw [am_R_eq] at i1
      rw [am_R_eq, cxh_2_19]
      simp only [am_R_eq, cx_2, en_2, rt_2, rx_aastore, ev_w1, ev_KW, rx_aload_n, rx_anewarray, rx_getfield, ev_gf, rx_goto, rx_iconst, rx_icmp_ge, rx_iinc, ev_inc, rx_iload_n, rx_invi, rx_obj2, ev_cs, rx_istore_n, rx_putfield, ev_pf, am_fok, am_ftv, rx_return, ev_K, ev_pI, ev_pR, ev_pVi, ev_pVr, ev_sI, ev_sR, ev_KC, ev_k, ev_ko, ev_pop0, ev_pops, am_ld, am_sv, am_at, am_st, am_g, List.length_cons, List.length_nil, Nat.reduceAdd, Nat.reduceLT, Nat.zero_add, if_true, if_false, and_self, true_or, or_true, true_and, and_true, not_true_eq_false, not_false_eq_true, reduceCtorEq, eq_self, Option.toList_some, Option.toList_none, List.cons_append, List.nil_append, Bool.false_eq_true, e1, e4, h1, h2, hz2, nI_ofs, Nat.reduceLeDiff, beq_self_eq_true]
      exact i1
  have hnn : ¬ nI n < 0 := nI_pos (by omega)
  have hnc : (nI n).toNatClampNeg = n := nI_clamp (by omega)
  have hnm : n ≤ 1000000 := by omega
  have hh1 : (am_up (am_nw h (vs_q n (fun _ => none)) n) r (vs_ro bl h.2.1 0)).1 r = some (vs_ro bl h.2.1 0) := am_up_at _ _ _
  obtain ⟨G2, i1⟩ := loop n 0 (am_up (am_nw h (vs_q n (fun _ => none)) n) r (vs_ro bl h.2.1 0)) (fun _ => none) (by omega) (Nat.zero_le _) hh1 (by rw [am_up_ne _ _ (by omega), am_nw_at]) (by rw [am_up_ne _ _ hne, am_nw_ne _ _ _ (by omega)]; exact hbl)
  refine ⟨am_up (am_up (am_nw h (vs_q n (fun _ => none)) n) r (vs_ro bl h.2.1 0)) h.2.1 (vs_q n G2), ?_, ⟨?_, Nat.zero_le _, hn, G2, am_up_at _ _ _, fun k hk => absurd hk (Nat.not_lt_zero _)⟩, ?_, ?_, rfl⟩
  rotate_left
  · rw [am_up_ne _ _ (by omega)]; exact hh1
  · intro q h1 h2
    rw [am_up_ne _ _ (by omega), am_up_ne _ _ h2, am_nw_ne _ _ _ (by omega)]
  · refine ((hf.nw _ _).up (x := r) (w := .inr (2, [.null, .null, .int 0])) _ ?_).up (x := h.2.1) (w := vs_q n (fun _ => none)) _ ?_
    · rw [am_nw_ne _ _ _ (by omega)]; exact hr
    · rw [am_up_ne _ _ (by omega), am_nw_at]
  · have z0 : nI 0 = 0 := rfl
    rw [z0] at i1
    rw [am_R_eq] at i1
    have hnu := fun (x e : am_E) (n : Nat) => am_nw_up h (a := r) x e n (by omega)
    rw [am_M_eq]
    simp only [am_R_eq, cx_2, en_2, rt_2, rx_aastore, ev_w1, ev_KW, rx_aload_n, rx_anewarray, rx_getfield, ev_gf, rx_goto, rx_iconst, rx_icmp_ge, rx_iinc, ev_inc, rx_iload_n, rx_invi, rx_obj2, ev_cs, rx_istore_n, rx_putfield, ev_pf, am_fok, am_ftv, rx_return, ev_K, ev_pI, ev_pR, ev_pVi, ev_pVr, ev_sI, ev_sR, ev_KC, ev_k, ev_ko, ev_pop0, ev_pops, am_ld, am_sv, am_at, am_st, am_g, List.length_cons, List.length_nil, Nat.reduceAdd, Nat.reduceLT, Nat.zero_add, if_true, if_false, and_self, true_or, or_true, true_and, and_true, not_true_eq_false, not_false_eq_true, reduceCtorEq, eq_self, Option.toList_some, Option.toList_none, List.cons_append, List.nil_append, Bool.false_eq_true, hr, hz, hnn, hnc, hnm, hnu, am_up_2, am_up_at, am_up_up, Nat.reduceLeDiff, beq_self_eq_true]
    exact i1
end VIN
