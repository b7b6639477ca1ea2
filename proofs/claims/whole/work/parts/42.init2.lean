section VIO
variable {h : am_H}
theorem ta_init (z d : Nat) {t bl n : Nat} (hf : am_fr h) (hz : z ≤ t) (hz2 : z ≤ h.2.1) (ht : h.1 t = some (.inr (3, [.null, .int 0]))) (hbl : am_ko (h.1 bl) = some 1) (hn : n ≤ 200) :
    ∃ h', am_M z (d + 1 + 1) 4 [.ref t, .int (nI n), .ref bl] h none h' ∧ h'.1 t = some (vs_tb h.2.1 0) ∧ vs_row h' h.2.1 (h.2.1 + 1) bl n [] ∧ (∀ q, q < h.2.1 → q ≠ t → h'.1 q = h.1 q) ∧ am_fr h' ∧ h'.2 = (h.2.1 + 2, h.2.2 + 3 + n) := by
  have htl := hf _ _ ht
  have hbll : bl < h.2.1 := by
    cases hb : h.1 bl with
    | none => rw [hb] at hbl; exact absurd hbl (by decide)
    | some x => exact hf _ _ hb
  obtain ⟨h2, m1, m2, m3, m4, m5⟩ := ro_init z d (h := am_nw h (.inr (2, am_df 2)) 3) (r := h.2.1) (bl := bl) (n := n) (hf.nw _ _) hz2 (by show z ≤ h.2.1 + 1; omega) (by rw [am_nw_at, am_df2]) (by rw [am_nw_ne _ _ _ (by omega)]; exact hbl) (by omega) hn
  have t2 : h2.1 t = some (.inr (3, [.null, .int 0])) := by
    rw [m3 t (by show t < h.2.1 + 1; omega) (by omega), am_nw_ne _ _ _ (by omega)]
    exact ht
  refine ⟨am_up h2 t (vs_tb h.2.1 0), ?_, am_up_at _ _ _, m2.up _ t2 (by decide), ?_, m4.up _ t2, by rw [am_up_2, m5]; rfl⟩
  · have p2 := m2.1
    rw [am_M_eq]
    simp only [am_R_eq, cx_4, en_4, rt_4, rx_aload_n, rx_dup_i, rx_dup_r, rx_iload_n, rx_invi, rx_obj2, ev_cs, rx_new, rx_putfield, ev_pf, ev_w1, ev_KW, am_fok, am_ftv, rx_return, kl_2, ev_K, ev_pI, ev_pR, ev_pVi, ev_pVr, ev_sI, ev_sR, ev_KC, ev_k, ev_ko, ev_pop0, ev_pops, am_ld, am_sv, am_at, am_st, am_g, List.length_cons, List.length_nil, Nat.reduceAdd, Nat.reduceLT, Nat.zero_add, if_true, if_false, and_self, true_or, or_true, true_and, and_true, not_true_eq_false, not_false_eq_true, reduceCtorEq, eq_self, Option.toList_some, Option.toList_none, List.cons_append, List.nil_append, Bool.false_eq_true]
    refine am_CL_of m1 ?_
    simp only [am_R_eq, cx_4, en_4, rt_4, rx_aload_n, rx_dup_i, rx_dup_r, rx_iload_n, rx_invi, rx_obj2, ev_cs, rx_new, rx_putfield, ev_pf, ev_w1, ev_KW, am_fok, am_ftv, rx_return, kl_2, ev_K, ev_pI, ev_pR, ev_pVi, ev_pVr, ev_sI, ev_sR, ev_KC, ev_k, ev_ko, ev_pop0, ev_pops, am_ld, am_sv, am_at, am_st, am_g, List.length_cons, List.length_nil, Nat.reduceAdd, Nat.reduceLT, Nat.zero_add, if_true, if_false, and_self, true_or, or_true, true_and, and_true, not_true_eq_false, not_false_eq_true, reduceCtorEq, eq_self, Option.toList_some, Option.toList_none, List.cons_append, List.nil_append, Bool.false_eq_true, t2, hz, am_up_2, p2, Nat.reduceLeDiff, beq_self_eq_true]
  · intro q h1 h2'
    rw [am_up_ne _ _ h2', m3 q (by show q < h.2.1 + 1; omega) (by omega), am_nw_ne _ _ _ (by omega)]
def vi_t (a0 k : Nat) : Nat := a0 + 1 + 3 * k
def vi_r (a0 k : Nat) : Nat := a0 + 2 + 3 * k
def vi_a (a0 k : Nat) : Nat := a0 + 3 + 3 * k
theorem le_init (z d : Nat) {lv bl m cap : Nat} (hf : am_fr h) (hz : z ≤ lv) (hz2 : z ≤ h.2.1) (hl : h.1 lv = some (.inr (4, [.null, .int 0]))) (hbl : am_ko (h.1 bl) = some 1) (hm : m ≤ 30) (hcap : cap ≤ 200) :
    ∃ h', am_M z (d + 1 + 1 + 1) 3 [.ref lv, .int (nI m), .int (nI cap), .ref bl] h none h' ∧ vs_lv h' lv h.2.1 m 0 cap bl (vi_t h.2.1) (vi_r h.2.1) (vi_a h.2.1) (fun _ => []) (fun _ => 0) ∧ (∀ q, q < h.2.1 → q ≠ lv → h'.1 q = h.1 q) ∧ am_fr h' ∧ h'.2 = (h.2.1 + 1 + 3 * m, h.2.2 + m + m * (5 + cap)) := by
  have hll := hf _ _ hl
  have hbll : bl < h.2.1 := by
    cases hb : h.1 bl with
    | none => rw [hb] at hbl; exact absurd hbl (by decide)
    | some x => exact hf _ _ hb
  have hbv : bl ≠ lv := by
    intro q
    rw [q, hl] at hbl
    exact absurd hbl (by decide)
  have loop : ∀ i k hh (G : Nat → Option Nat), i = m - k → k ≤ m → hh.1 lv = some (vs_lo h.2.1 0) → hh.1 h.2.1 = some (vs_qt m G) → (∀ q, q < k → G q = some (vi_t h.2.1 q) ∧ hh.1 (vi_t h.2.1 q) = some (vs_tb (vi_r h.2.1 q) 0) ∧ vs_row hh (vi_r h.2.1 q) (vi_a h.2.1 q) bl cap []) → (∀ q, q < h.2.1 → q ≠ lv → hh.1 q = h.1 q) → am_fr hh → hh.2 = (h.2.1 + 1 + 3 * k, h.2.2 + m + k * (5 + cap)) →
      ∃ h' G', am_R z (d + 1 + 1) 3 15 [some (.ref lv), some (.int (nI m)), some (.int (nI cap)), some (.ref bl), some (.int (nI k))] [] hh none h' ∧ h'.1 lv = some (vs_lo h.2.1 0) ∧ h'.1 h.2.1 = some (vs_qt m G') ∧ (∀ q, q < m → G' q = some (vi_t h.2.1 q) ∧ h'.1 (vi_t h.2.1 q) = some (vs_tb (vi_r h.2.1 q) 0) ∧ vs_row h' (vi_r h.2.1 q) (vi_a h.2.1 q) bl cap []) ∧ (∀ q, q < h.2.1 → q ≠ lv → h'.1 q = h.1 q) ∧ am_fr h' ∧ h'.2 = (h.2.1 + 1 + 3 * m, h.2.2 + m + m * (5 + cap)) := by
    intro i
    induction i with
    | zero =>
      intro k hh G hi hk h1 h2 h3 h4 h5 h6
      have hkm : k = m := by omega
      subst hkm
      have e1 : nI k ≤ nI k := nI_le (by omega) (by omega)
      refine ⟨hh, G, ?_, h1, h2, h3, h4, h5, h6⟩
      rw [am_R_eq, cxh_3_15]
      simp only [am_R_eq, cx_3, en_3, rt_3, rx_aastore, ev_w1, ev_KW, rx_aload_n, rx_anewarray, rx_dup_i, rx_dup_r, rx_getfield, ev_gf, rx_goto, rx_iconst, rx_icmp_ge, rx_iinc, ev_inc, rx_iload, rx_iload_n, rx_invi, rx_obj2, ev_cs, rx_istore, rx_new, rx_putfield, ev_pf, am_fok, am_ftv, rx_return, kl_4, ev_K, ev_pI, ev_pR, ev_pVi, ev_pVr, ev_sI, ev_sR, ev_KC, ev_k, ev_ko, ev_pop0, ev_pops, am_ld, am_sv, am_at, am_st, am_g, List.length_cons, List.length_nil, Nat.reduceAdd, Nat.reduceLT, Nat.zero_add, if_true, if_false, and_self, true_or, or_true, true_and, and_true, not_true_eq_false, not_false_eq_true, reduceCtorEq, eq_self, Option.toList_some, Option.toList_none, List.cons_append, List.nil_append, Bool.false_eq_true, e1]
    | succ i ih =>
      intro k hh G hi hk h1 h2 h3 h4 h5 h6
      have hlt : k < m := by omega
      have e1 : ¬ nI m ≤ nI k := nI_ge hlt (by omega)
      have hnx : hh.2.1 = vi_t h.2.1 k := by rw [h6]; rfl
      have hb2 : am_ko (hh.1 bl) = some 1 := by rw [h4 bl hbll hbv]; exact hbl
      have et : vi_t h.2.1 k = h.2.1 + 1 + 3 * k := rfl
      have er : vi_r h.2.1 k = h.2.1 + 2 + 3 * k := rfl
      have ea : vi_a h.2.1 k = h.2.1 + 3 + 3 * k := rfl
      obtain ⟨h8, m1, m2, m3, m4, m5, m6⟩ := ta_init z d (h := am_nw hh (.inr (3, am_df 3)) 2) (t := hh.2.1) (bl := bl) (n := cap) (h5.nw _ _) (by rw [hnx, et]; omega) (by show z ≤ hh.2.1 + 1; rw [hnx, et]; omega) (by rw [am_nw_at, am_df3]) (by rw [am_nw_ne _ _ _ (by rw [hnx, et]; omega)]; exact hb2) hcap
      rw [am_nw_2] at m2 m3 m4 m6
      have m4' : ∀ q, q < hh.2.1 → h8.1 q = hh.1 q := by
        intro q hq
        rw [m4 q (by show q < hh.2.1 + 1; omega) (by omega), am_nw_ne _ _ _ (by omega)]
      have h7 : h8.1 h.2.1 = some (vs_qt m G) := by rw [m4' _ (by rw [hnx, et]; omega)]; exact h2
      have h9 : h8.1 lv = some (vs_lo h.2.1 0) := by rw [m4' _ (by rw [hnx, et]; omega)]; exact h1
      have e3 : am_ix (nI k) m = some k := ev_ix hlt (by omega)
      have e4 : am_wq (some (vs_qt m G)) (nI k) hh.2.1 (h8.1 hh.2.1) = some (vs_qt m (va_up G k (some hh.2.1))) := ev_wq 3 m k hh.2.1 G (nI k) (h8.1 hh.2.1) (by omega) e3 (by rw [m2]; rfl)
      have rest := ih (k + 1) (am_up h8 h.2.1 (vs_qt m (va_up G k (some hh.2.1)))) (va_up G k (some hh.2.1)) (by omega) (by omega) (by rw [am_up_ne _ _ (by omega)]; exact h9) (am_up_at _ _ _) (by
        intro q hq
        by_cases hqk : q = k
        · subst hqk
          refine ⟨by rw [va_up_self, hnx], ?_, ?_⟩
          · rw [am_up_ne _ _ (by rw [et]; omega), ← hnx, m2, hnx]
            show some (vs_tb (vi_t h.2.1 q + 1) 0) = _
            rw [et, er, show h.2.1 + 1 + 3 * q + 1 = h.2.1 + 2 + 3 * q by omega]
          · have m3' : vs_row h8 (vi_r h.2.1 q) (vi_a h.2.1 q) bl cap [] := by
              have e5 : vi_r h.2.1 q = hh.2.1 + 1 := by rw [hnx, et, er]; omega
              have e6 : vi_a h.2.1 q = hh.2.1 + 1 + 1 := by rw [hnx, et, ea]; omega
              rw [e5, e6]
              exact m3
            refine m3'.fr ?_ ?_
            · rw [am_up_ne _ _ (by rw [er]; omega)]
            · rw [am_up_ne _ _ (by rw [ea]; omega)]
        · obtain ⟨g1, g2, g3⟩ := h3 q (by omega)
          have et' : vi_t h.2.1 q = h.2.1 + 1 + 3 * q := rfl
          have er' : vi_r h.2.1 q = h.2.1 + 2 + 3 * q := rfl
          have ea' : vi_a h.2.1 q = h.2.1 + 3 + 3 * q := rfl
          refine ⟨by rw [va_up_ne _ _ hqk]; exact g1, ?_, g3.fr ?_ ?_⟩
          · rw [am_up_ne _ _ (by rw [et']; omega), m4' _ (by rw [hnx, et, et']; omega)]; exact g2
          · rw [am_up_ne _ _ (by rw [er']; omega), m4' _ (by rw [hnx, et, er']; omega)]
          · rw [am_up_ne _ _ (by rw [ea']; omega), m4' _ (by rw [hnx, et, ea']; omega)]) (by
        intro q h1' h2'
        rw [am_up_ne _ _ (by omega), m4' _ (by rw [hnx, et]; omega)]
        exact h4 q h1' h2') (m5.up _ h7) (by
        rw [am_up_2, m6, h6]
        refine Prod.ext ?_ ?_
        · show h.2.1 + 1 + 3 * k + 1 + 2 = _
          show _ = h.2.1 + 1 + 3 * (k + 1)
          omega
        · show h.2.2 + m + k * (5 + cap) + 2 + 3 + cap = h.2.2 + m + (k + 1) * (5 + cap)
          rw [Nat.succ_mul]; omega)
      obtain ⟨h', G', i1, i2⟩ := rest
      refine ⟨h', G', ?_, i2⟩
      rw [am_R_eq] at i1
      have zz : z ≤ h.2.1 := hz2
      rw [am_R_eq, cxh_3_15]
      simp only [am_R_eq, cx_3, en_3, rt_3, rx_aastore, ev_w1, ev_KW, rx_aload_n, rx_anewarray, rx_dup_i, rx_dup_r, rx_getfield, ev_gf, rx_goto, rx_iconst, rx_icmp_ge, rx_iinc, ev_inc, rx_iload, rx_iload_n, rx_invi, rx_obj2, ev_cs, rx_istore, rx_new, rx_putfield, ev_pf, am_fok, am_ftv, rx_return, kl_4, ev_K, ev_pI, ev_pR, ev_pVi, ev_pVr, ev_sI, ev_sR, ev_KC, ev_k, ev_ko, ev_pop0, ev_pops, am_ld, am_sv, am_at, am_st, am_g, List.length_cons, List.length_nil, Nat.reduceAdd, Nat.reduceLT, Nat.zero_add, if_true, if_false, and_self, true_or, or_true, true_and, and_true, not_true_eq_false, not_false_eq_true, reduceCtorEq, eq_self, Option.toList_some, Option.toList_none, List.cons_append, List.nil_append, Bool.false_eq_true, e1, h1]
      refine am_CL_of m1 ?_
      simp only [am_R_eq, cx_3, en_3, rt_3, rx_aastore, ev_w1, ev_KW, rx_aload_n, rx_anewarray, rx_dup_i, rx_dup_r, rx_getfield, ev_gf, rx_goto, rx_iconst, rx_icmp_ge, rx_iinc, ev_inc, rx_iload, rx_iload_n, rx_invi, rx_obj2, ev_cs, rx_istore, rx_new, rx_putfield, ev_pf, am_fok, am_ftv, rx_return, kl_4, ev_K, ev_pI, ev_pR, ev_pVi, ev_pVr, ev_sI, ev_sR, ev_KC, ev_k, ev_ko, ev_pop0, ev_pops, am_ld, am_sv, am_at, am_st, am_g, List.length_cons, List.length_nil, Nat.reduceAdd, Nat.reduceLT, Nat.zero_add, if_true, if_false, and_self, true_or, or_true, true_and, and_true, not_true_eq_false, not_false_eq_true, reduceCtorEq, eq_self, Option.toList_some, Option.toList_none, List.cons_append, List.nil_append, Bool.false_eq_true, h7, e4, zz, nI_ofs, Nat.reduceLeDiff, beq_self_eq_true]
      exact i1
  have hnn : ¬ nI m < 0 := nI_pos (by omega)
  have hnc : (nI m).toNatClampNeg = m := nI_clamp (by omega)
  have hnm : m ≤ 1000000 := by omega
  obtain ⟨h', G', i1, i2, i3, i4, i5, i6, i7⟩ := loop m 0 (am_up (am_nw h (vs_qt m (fun _ => none)) m) lv (vs_lo h.2.1 0)) (fun _ => none) (by omega) (Nat.zero_le _) (am_up_at _ _ _) (by rw [am_up_ne _ _ (by omega), am_nw_at]) (fun q hq => absurd hq (Nat.not_lt_zero _)) (by
    intro q h1 h2
    rw [am_up_ne _ _ h2, am_nw_ne _ _ _ (by omega)]) ((hf.nw _ _).up (w := .inr (4, [.null, .int 0])) _ (by rw [am_nw_ne _ _ _ (by omega)]; exact hl)) (by
    rw [am_up_2, am_nw_2]
    simp)
  refine ⟨h', ?_, ?_, i5, i6, i7⟩
  · have z0 : nI 0 = 0 := rfl
    rw [z0] at i1
    rw [am_R_eq] at i1
    have hl2 : (am_nw h (vs_qt m (fun _ => none)) m).1 lv = some (.inr (4, [.null, .int 0])) := by rw [am_nw_ne _ _ _ (by omega)]; exact hl
    rw [am_M_eq]
    simp only [am_R_eq, cx_3, en_3, rt_3, rx_aastore, ev_w1, ev_KW, rx_aload_n, rx_anewarray, rx_dup_i, rx_dup_r, rx_getfield, ev_gf, rx_goto, rx_iconst, rx_icmp_ge, rx_iinc, ev_inc, rx_iload, rx_iload_n, rx_invi, rx_obj2, ev_cs, rx_istore, rx_new, rx_putfield, ev_pf, am_fok, am_ftv, rx_return, kl_4, ev_K, ev_pI, ev_pR, ev_pVi, ev_pVr, ev_sI, ev_sR, ev_KC, ev_k, ev_ko, ev_pop0, ev_pops, am_ld, am_sv, am_at, am_st, am_g, List.length_cons, List.length_nil, Nat.reduceAdd, Nat.reduceLT, Nat.zero_add, if_true, if_false, and_self, true_or, or_true, true_and, and_true, not_true_eq_false, not_false_eq_true, reduceCtorEq, eq_self, Option.toList_some, Option.toList_none, List.cons_append, List.nil_append, Bool.false_eq_true, hl2, hz, hnn, hnc, hnm, am_up_2, am_up_at, am_up_up, Nat.reduceLeDiff, beq_self_eq_true]
    exact i1
  · refine ⟨i2, Nat.zero_le _, hm, ⟨G', i3, fun k hk => (i4 k hk).1⟩, fun k hk => (i4 k hk).2.1, fun k hk => (i4 k hk).2.2, ?_⟩
    intro i j hi hj hij
    unfold vi_t vi_r vi_a
    omega
end VIO
