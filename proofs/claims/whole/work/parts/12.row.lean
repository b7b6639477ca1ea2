theorem am_ftv : am_ft 0 10 = 0 ∧ am_ft 0 11 = 0 ∧ am_ft 0 12 = 0 ∧ am_ft 0 13 = 0 ∧ am_ft 1 0 = 0 ∧ am_ft 1 1 = 0 ∧ am_ft 1 2 = 0 ∧ am_ft 1 3 = 1 ∧ am_ft 1 4 = 0 ∧ am_ft 1 5 = 0 ∧ am_ft 1 6 = 0 ∧ am_ft 1 7 = 0 ∧ am_ft 2 0 = 2 ∧ am_ft 2 1 = 2 ∧ am_ft 2 2 = 0 ∧ am_ft 3 0 = 2 ∧ am_ft 3 1 = 0 ∧ am_ft 4 0 = 2 ∧ am_ft 4 1 = 0 ∧ am_ft 5 0 = 2 ∧ am_ft 5 1 = 0 ∧ am_ft 5 2 = 0 ∧ am_ft 5 3 = 2 ∧ am_ft 5 4 = 2 ∧ am_ft 5 5 = 2 ∧ am_ft 5 6 = 0 ∧ am_ft 6 0 = 2 := by decide +kernel
def vs_row (h : am_H) (r a bl n : Nat) (L : List Nat) : Prop := h.1 r = some (.inr (2, [.ref bl, .ref a, .int (nI L.length)])) ∧ L.length ≤ n ∧ n ≤ 200 ∧ ∃ g, h.1 a = some (.inl (2, n, .inr (.inr (.inr (.inr g))))) ∧ ∀ k, k < L.length → g k = L[k]?
section ROW
variable {z d : Nat} {h : am_H} {r a bl n : Nat} {L : List Nat}
theorem ro_size (z d : Nat) (hr : vs_row h r a bl n L) : am_M z (d + 1) 12 [.ref r] h (some (.int (nI L.length))) h := by
  obtain ⟨h1, -⟩ := hr
  rw [am_M_eq]
  simp only [am_R_eq, cx_12, en_12, rt_12, rx_aload_n, rx_getfield, ev_gf, rx_ireturn, ev_K, ev_pI, ev_pR, ev_pVi, ev_pVr, ev_sI, ev_sR, ev_KC, ev_k, ev_ko, ev_pop0, ev_pops, am_ld, am_sv, am_at, am_st, am_g, List.length_cons, List.length_nil, Nat.reduceAdd, Nat.reduceLT, Nat.zero_add, if_true, if_false, and_self, true_or, or_true, true_and, and_true, not_true_eq_false, not_false_eq_true, reduceCtorEq, eq_self, h1]
theorem ro_at (z d : Nat) (hr : vs_row h r a bl n L) {k e : Nat} (hk : L[k]? = some e) : am_M z (d + 1) 24 [.ref r, .int (nI k)] h (some (.ref e)) h := by
  obtain ⟨h1, h2, h3, g, h4, h5⟩ := hr
  have hlt : k < L.length := (List.getElem?_eq_some_iff.mp hk).1
  have e1 : ¬ nI k < 0 := nI_pos (by omega)
  have e2 : ¬ nI L.length ≤ nI k := nI_ge hlt (by omega)
  have e3 : am_ix (nI k) n = some k := ev_ix (by omega) (by omega)
  have e4 : am_rq (some (.inl (2, n, .inr (.inr (.inr (.inr g)))))) (nI k) = some (.ref e) := ev_rq 2 n k e g (nI k) (by omega) e3 (by rw [h5 k hlt]; exact hk)
  rw [am_M_eq]
  simp only [am_R_eq, cx_24, en_24, rt_24, rx_aaload, rx_aload_n, rx_areturn, rx_getfield, ev_gf, rx_goto, rx_icmp_ge, rx_if_lt, rx_iload_n, ev_K, ev_pI, ev_pR, ev_pVi, ev_pVr, ev_sI, ev_sR, ev_KC, ev_k, ev_ko, ev_pop0, ev_pops, am_ld, am_sv, am_at, am_st, am_g, List.length_cons, List.length_nil, Nat.reduceAdd, Nat.reduceLT, Nat.zero_add, if_true, if_false, and_self, true_or, or_true, true_and, and_true, not_true_eq_false, not_false_eq_true, reduceCtorEq, eq_self, h1, h4, e1, e2, e4]
theorem ro_clear (z d : Nat) (hz : z ≤ r) (hr : vs_row h r a bl n L) : ∃ h', am_M z (d + 1) 22 [.ref r] h none h' ∧ h' = am_up h r (.inr (2, [.ref bl, .ref a, .int 0])) := by
  obtain ⟨h1, h2, h3, g, h4, h5⟩ := hr
  refine ⟨_, ?_, rfl⟩
  rw [am_M_eq]
  simp only [am_R_eq, cx_22, en_22, rt_22, rx_aload_n, rx_iconst, rx_putfield, ev_pf, ev_w1, ev_KW, am_fok, am_ftv, rx_return, ev_K, ev_pI, ev_pR, ev_pVi, ev_pVr, ev_sI, ev_sR, ev_KC, ev_k, ev_ko, ev_pop0, ev_pops, am_ld, am_sv, am_at, am_st, am_g, List.length_cons, List.length_nil, Nat.reduceAdd, Nat.reduceLT, Nat.zero_add, if_true, if_false, and_self, true_or, or_true, true_and, and_true, not_true_eq_false, not_false_eq_true, reduceCtorEq, eq_self, h1, hz]
end ROW
