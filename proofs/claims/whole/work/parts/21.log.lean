section LOG
variable {h : am_H} {lg : Nat} {A : Nat → Nat} {tk cb tb sb : Nat → Nat} {tl c un : Nat} {E : Nat → Nat → Int32}
abbrev vs_i (n : Nat) (f : Nat → Nat) : am_E := .inl (0, n, .inl (fun i => nI (f i)))
abbrev vs_lgo (A : Nat → Nat) (tl c un : Nat) : am_E := .inr (5, [.ref (A 0), .int (nI tl), .int (nI c), .ref (A 1), .ref (A 2), .ref (A 3), .int (nI un)])
theorem nI_upd (f : Nat → Nat) (k v : Nat) : upd (fun i => nI (f i)) k (nI v) = fun i => nI (va_up f k v i) := by
  funext i
  unfold upd va_up
  split <;> rfl
def vs_lg (h : am_H) (lg : Nat) (A : Nat → Nat) (tk cb tb sb : Nat → Nat) (tl c un : Nat) : Prop :=
  h.1 lg = some (vs_lgo A tl c un) ∧ h.1 (A 0) = some (vs_i 8 tk) ∧ h.1 (A 1) = some (vs_i 8 cb) ∧ h.1 (A 2) = some (vs_i 8 tb) ∧ h.1 (A 3) = some (vs_i 8 sb) ∧ (1 ≤ c ∧ c ≤ 8 ∧ un ≤ 8 ∧ tl ≤ 10000) ∧ (∀ i, tk i ≤ 100) ∧ ∀ i j, i < 4 → j < 4 → i ≠ j → A i ≠ A j
def vs_chg (h h' : am_H) (lg : Nat) (A : Nat → Nat) : Prop := (∀ q, q ≠ lg → (∀ i, i < 4 → q ≠ A i) → h'.1 q = h.1 q) ∧ h'.2 = h.2
theorem vs_lg.ne (hl : vs_lg h lg A tk cb tb sb tl c un) : ∀ i, i < 4 → lg ≠ A i := by
  obtain ⟨h0, h1, h2, h3, h4, -⟩ := hl
  intro i hi
  rcases (by omega : i = 0 ∨ i = 1 ∨ i = 2 ∨ i = 3) with rfl | rfl | rfl | rfl
  · exact am_ne h0 h1 (by simp)
  · exact am_ne h0 h2 (by simp)
  · exact am_ne h0 h3 (by simp)
  · exact am_ne h0 h4 (by simp)
theorem lg_segmentCount (z d : Nat) (hl : vs_lg h lg A tk cb tb sb tl c un) : am_M z (d + 1) 47 [.ref lg] h (some (.int (nI c))) h := by
  obtain ⟨h0, -⟩ := hl
  rw [am_M_eq]
  simp only [am_R_eq, cx_47, en_47, rt_47, rx_aload_n, rx_getfield, ev_gf, rx_ireturn, ev_K, ev_pI, ev_pR, ev_pVi, ev_pVr, ev_sI, ev_sR, ev_KC, ev_k, ev_ko, ev_pop0, ev_pops, am_ld, am_sv, am_at, am_st, am_g, List.length_cons, List.length_nil, Nat.reduceAdd, Nat.reduceLT, Nat.zero_add, if_true, if_false, and_self, true_or, or_true, true_and, and_true, not_true_eq_false, not_false_eq_true, reduceCtorEq, eq_self, Option.toList_some, Option.toList_none, List.cons_append, List.nil_append, Bool.false_eq_true, h0]
theorem lg_unsyncedCount (z d : Nat) (hl : vs_lg h lg A tk cb tb sb tl c un) : am_M z (d + 1) 64 [.ref lg] h (some (.int (nI un))) h := by
  obtain ⟨h0, -⟩ := hl
  rw [am_M_eq]
  simp only [am_R_eq, cx_64, en_64, rt_64, rx_aload_n, rx_getfield, ev_gf, rx_ireturn, ev_K, ev_pI, ev_pR, ev_pVi, ev_pVr, ev_sI, ev_sR, ev_KC, ev_k, ev_ko, ev_pop0, ev_pops, am_ld, am_sv, am_at, am_st, am_g, List.length_cons, List.length_nil, Nat.reduceAdd, Nat.reduceLT, Nat.zero_add, if_true, if_false, and_self, true_or, or_true, true_and, and_true, not_true_eq_false, not_false_eq_true, reduceCtorEq, eq_self, Option.toList_some, Option.toList_none, List.cons_append, List.nil_append, Bool.false_eq_true, h0]
theorem lg_numberOf (z d : Nat) {k : Nat} (hl : vs_lg h lg A tk cb tb sb tl c un) : am_M z (d + 1) 41 [.ref lg, .int (nI k)] h (some (.int (nI (tl + k)))) h := by
  obtain ⟨h0, -⟩ := hl
  have e1 : nI tl + nI k = nI (tl + k) := nI_add _ _
  rw [am_M_eq]
  simp only [am_R_eq, cx_41, en_41, rt_41, rx_aload_n, rx_getfield, ev_gf, rx_iadd, rx_iload_n, rx_ireturn, ev_K, ev_pI, ev_pR, ev_pVi, ev_pVr, ev_sI, ev_sR, ev_KC, ev_k, ev_ko, ev_pop0, ev_pops, am_ld, am_sv, am_at, am_st, am_g, List.length_cons, List.length_nil, Nat.reduceAdd, Nat.reduceLT, Nat.zero_add, if_true, if_false, and_self, true_or, or_true, true_and, and_true, not_true_eq_false, not_false_eq_true, reduceCtorEq, eq_self, Option.toList_some, Option.toList_none, List.cons_append, List.nil_append, Bool.false_eq_true, h0, e1]
theorem lg_cellsTakenOf (z d : Nat) {k : Nat} (hk : k < c) (hl : vs_lg h lg A tk cb tb sb tl c un) : am_M z (d + 1) 87 [.ref lg, .int (nI k)] h (some (.int (nI (tk k)))) h := by
  obtain ⟨h0, h1, h2, h3, h4, hb, hk2, hA⟩ := hl
  have e1 : ¬ nI k < 0 := nI_pos (by omega)
  have e2 : ¬ nI c ≤ nI k := nI_ge hk (by omega)
  have e3 := ev_ri 0 8 k (fun i => nI (tk i)) (nI k) (ev_ix (by omega) (by omega))
  rw [am_M_eq]
  simp only [am_R_eq, cx_87, en_87, rt_87, rx_aload_n, rx_getfield, ev_gf, rx_goto, rx_iaload, rx_iconst, rx_icmp_ge, rx_if_lt, rx_iload_n, rx_ireturn, ev_K, ev_pI, ev_pR, ev_pVi, ev_pVr, ev_sI, ev_sR, ev_KC, ev_k, ev_ko, ev_pop0, ev_pops, am_ld, am_sv, am_at, am_st, am_g, List.length_cons, List.length_nil, Nat.reduceAdd, Nat.reduceLT, Nat.zero_add, if_true, if_false, and_self, true_or, or_true, true_and, and_true, not_true_eq_false, not_false_eq_true, reduceCtorEq, eq_self, Option.toList_some, Option.toList_none, List.cons_append, List.nil_append, Bool.false_eq_true, h0, h1, e1, e2, e3]
theorem lg_needsNewHead (z d : Nat) {v : Nat} (hv : v ≤ 100) (hl : vs_lg h lg A tk cb tb sb tl c un) : am_M z (d + 1) 17 [.ref lg, .int (nI v)] h (some (.int (if 16 < tk (c - 1) + 1 + v then 1 else 0))) h := by
  obtain ⟨h0, h1, h2, h3, h4, hb, hk2, hA⟩ := hl
  have e0 : nI c - 1 = nI (c - 1) := by
    rw [show c = (c - 1) + 1 by omega, nI_pred]; congr 1
  have e3 := ev_ri 0 8 (c - 1) (fun i => nI (tk i)) (nI (c - 1)) (ev_ix (by omega) (by omega))
  have e4 : nI (tk (c - 1)) + 1 + nI v = nI (tk (c - 1) + 1 + v) := by rw [nI_1, nI_add]
  have hb2 := hk2 (c - 1)
  rw [am_M_eq]
  by_cases c1 : 16 < tk (c - 1) + 1 + v
  · have e5 : ¬ nI (tk (c - 1) + 1 + v) ≤ 16 := nI_ge (a := 16) c1 (by omega)
    simp only [am_R_eq, cx_17, en_17, rt_17, rx_aload_n, rx_bipush, rx_getfield, ev_gf, rx_goto, rx_iadd, rx_iaload, rx_iconst, rx_icmp_le, rx_iload_n, rx_ireturn, rx_isub, ev_K, ev_pI, ev_pR, ev_pVi, ev_pVr, ev_sI, ev_sR, ev_KC, ev_k, ev_ko, ev_pop0, ev_pops, am_ld, am_sv, am_at, am_st, am_g, List.length_cons, List.length_nil, Nat.reduceAdd, Nat.reduceLT, Nat.zero_add, if_true, if_false, and_self, true_or, or_true, true_and, and_true, not_true_eq_false, not_false_eq_true, reduceCtorEq, eq_self, Option.toList_some, Option.toList_none, List.cons_append, List.nil_append, Bool.false_eq_true, h0, h1, e0, e3, e4, e5, b11, c1]
  · have e5 : nI (tk (c - 1) + 1 + v) ≤ 16 := nI_le (b := 16) (by omega) (by omega)
    simp only [am_R_eq, cx_17, en_17, rt_17, rx_aload_n, rx_bipush, rx_getfield, ev_gf, rx_goto, rx_iadd, rx_iaload, rx_iconst, rx_icmp_le, rx_iload_n, rx_ireturn, rx_isub, ev_K, ev_pI, ev_pR, ev_pVi, ev_pVr, ev_sI, ev_sR, ev_KC, ev_k, ev_ko, ev_pop0, ev_pops, am_ld, am_sv, am_at, am_st, am_g, List.length_cons, List.length_nil, Nat.reduceAdd, Nat.reduceLT, Nat.zero_add, if_true, if_false, and_self, true_or, or_true, true_and, and_true, not_true_eq_false, not_false_eq_true, reduceCtorEq, eq_self, Option.toList_some, Option.toList_none, List.cons_append, List.nil_append, Bool.false_eq_true, h0, h1, e0, e3, e4, e5, b00, c1]
theorem lg_isFullFor (z d : Nat) {v : Nat} (hv : v ≤ 100) (hl : vs_lg h lg A tk cb tb sb tl c un) : am_M z (d + 1 + 1) 16 [.ref lg, .int (nI v)] h (some (.int (if 16 < tk (c - 1) + 1 + v ∧ 8 ≤ c then 1 else 0))) h := by
  have q1 := lg_needsNewHead z d hv hl
  obtain ⟨h0, h1, h2, h3, h4, hb, hk2, hA⟩ := hl
  rw [am_M_eq]
  simp only [am_R_eq, cx_16, en_16, rt_16, rx_aload_n, rx_bipush, rx_getfield, ev_gf, rx_goto, rx_iconst, rx_icmp_lt, rx_if_eq, rx_iload_n, rx_invv, ev_cv, rx_ireturn, kl_17, ev_K, ev_pI, ev_pR, ev_pVi, ev_pVr, ev_sI, ev_sR, ev_KC, ev_k, ev_ko, ev_pop0, ev_pops, am_ld, am_sv, am_at, am_st, am_g, List.length_cons, List.length_nil, Nat.reduceAdd, Nat.reduceLT, Nat.zero_add, if_true, if_false, and_self, true_or, or_true, true_and, and_true, not_true_eq_false, not_false_eq_true, reduceCtorEq, eq_self, Option.toList_some, Option.toList_none, List.cons_append, List.nil_append, Bool.false_eq_true, h0]
  refine am_CL_of q1 ?_
  by_cases c1 : 16 < tk (c - 1) + 1 + v
  · by_cases c2 : 8 ≤ c
    · have e5 : ¬ nI c < 8 := nI_nlt (b := 8) c2 (by omega)
      simp only [am_R_eq, cx_16, en_16, rt_16, rx_aload_n, rx_bipush, rx_getfield, ev_gf, rx_goto, rx_iconst, rx_icmp_lt, rx_if_eq, rx_iload_n, rx_invv, ev_cv, rx_ireturn, kl_17, ev_K, ev_pI, ev_pR, ev_pVi, ev_pVr, ev_sI, ev_sR, ev_KC, ev_k, ev_ko, ev_pop0, ev_pops, am_ld, am_sv, am_at, am_st, am_g, List.length_cons, List.length_nil, Nat.reduceAdd, Nat.reduceLT, Nat.zero_add, if_true, if_false, and_self, true_or, or_true, true_and, and_true, not_true_eq_false, not_false_eq_true, reduceCtorEq, eq_self, Option.toList_some, Option.toList_none, List.cons_append, List.nil_append, Bool.false_eq_true, h0, c1, c2, e5, i_10, b11]
    · have e5 : nI c < 8 := nI_lt (b := 8) (by omega) (by omega)
      simp only [am_R_eq, cx_16, en_16, rt_16, rx_aload_n, rx_bipush, rx_getfield, ev_gf, rx_goto, rx_iconst, rx_icmp_lt, rx_if_eq, rx_iload_n, rx_invv, ev_cv, rx_ireturn, kl_17, ev_K, ev_pI, ev_pR, ev_pVi, ev_pVr, ev_sI, ev_sR, ev_KC, ev_k, ev_ko, ev_pop0, ev_pops, am_ld, am_sv, am_at, am_st, am_g, List.length_cons, List.length_nil, Nat.reduceAdd, Nat.reduceLT, Nat.zero_add, if_true, if_false, and_self, true_or, or_true, true_and, and_true, not_true_eq_false, not_false_eq_true, reduceCtorEq, eq_self, Option.toList_some, Option.toList_none, List.cons_append, List.nil_append, Bool.false_eq_true, h0, c1, c2, e5, i_10, b00, and_false]
  · simp only [am_R_eq, cx_16, en_16, rt_16, rx_aload_n, rx_bipush, rx_getfield, ev_gf, rx_goto, rx_iconst, rx_icmp_lt, rx_if_eq, rx_iload_n, rx_invv, ev_cv, rx_ireturn, kl_17, ev_K, ev_pI, ev_pR, ev_pVi, ev_pVr, ev_sI, ev_sR, ev_KC, ev_k, ev_ko, ev_pop0, ev_pops, am_ld, am_sv, am_at, am_st, am_g, List.length_cons, List.length_nil, Nat.reduceAdd, Nat.reduceLT, Nat.zero_add, if_true, if_false, and_self, true_or, or_true, true_and, and_true, not_true_eq_false, not_false_eq_true, reduceCtorEq, eq_self, Option.toList_some, Option.toList_none, List.cons_append, List.nil_append, Bool.false_eq_true, h0, c1, b00, false_and]
theorem lg_syncAll (z d : Nat) (hz : z ≤ lg) (hl : vs_lg h lg A tk cb tb sb tl c un) : ∃ h', am_M z (d + 1) 36 [.ref lg] h (some (.int (nI un))) h' ∧ vs_lg h' lg A tk cb tb sb tl c 0 ∧ vs_chg h h' lg A := by
  have hne := hl.ne
  obtain ⟨h0, h1, h2, h3, h4, hb, hk2, hA⟩ := hl
  refine ⟨am_up h lg (vs_lgo A tl c 0), ?_, ⟨am_up_at _ _ _, ?_, ?_, ?_, ?_, ⟨hb.1, hb.2.1, Nat.zero_le _, hb.2.2.2⟩, hk2, hA⟩, ⟨fun q e1 _ => am_up_ne _ _ e1, rfl⟩⟩
  · rw [am_M_eq]
    simp only [am_R_eq, cx_36, en_36, rt_36, rx_aload_n, rx_getfield, ev_gf, rx_iconst, rx_iload_n, rx_ireturn, rx_istore_n, rx_putfield, ev_pf, ev_w1, ev_KW, am_fok, am_ftv, ev_K, ev_pI, ev_pR, ev_pVi, ev_pVr, ev_sI, ev_sR, ev_KC, ev_k, ev_ko, ev_pop0, ev_pops, am_ld, am_sv, am_at, am_st, am_g, List.length_cons, List.length_nil, Nat.reduceAdd, Nat.reduceLT, Nat.zero_add, if_true, if_false, and_self, true_or, or_true, true_and, and_true, not_true_eq_false, not_false_eq_true, reduceCtorEq, eq_self, Option.toList_some, Option.toList_none, List.cons_append, List.nil_append, Bool.false_eq_true, h0, hz, Nat.reduceLeDiff, beq_self_eq_true]
    rfl
  · rw [am_up_ne _ _ (hne 0 (by omega)).symm]; exact h1
  · rw [am_up_ne _ _ (hne 1 (by omega)).symm]; exact h2
  · rw [am_up_ne _ _ (hne 2 (by omega)).symm]; exact h3
  · rw [am_up_ne _ _ (hne 3 (by omega)).symm]; exact h4
theorem lg_latestSerialBefore (z d : Nat) {k : Nat} (hk : k < un) (hl : vs_lg h lg A tk cb tb sb tl c un) : am_M z (d + 1) 66 [.ref lg, .int (nI k)] h (some (.int (nI (sb k)))) h := by
  obtain ⟨h0, h1, h2, h3, h4, hb, hk2, hA⟩ := hl
  have e1 : ¬ nI k < 0 := nI_pos (by omega)
  have e2 : ¬ nI un ≤ nI k := nI_ge hk (by omega)
  have e3 := ev_ri 0 8 k (fun i => nI (sb i)) (nI k) (ev_ix (by omega) (by omega))
  rw [am_M_eq]
  simp only [am_R_eq, cx_66, en_66, rt_66, rx_aload_n, rx_getfield, ev_gf, rx_goto, rx_iaload, rx_iconst, rx_icmp_ge, rx_if_lt, rx_iload_n, rx_ireturn, ev_K, ev_pI, ev_pR, ev_pVi, ev_pVr, ev_sI, ev_sR, ev_KC, ev_k, ev_ko, ev_pop0, ev_pops, am_ld, am_sv, am_at, am_st, am_g, List.length_cons, List.length_nil, Nat.reduceAdd, Nat.reduceLT, Nat.zero_add, if_true, if_false, and_self, true_or, or_true, true_and, and_true, not_true_eq_false, not_false_eq_true, reduceCtorEq, eq_self, Option.toList_some, Option.toList_none, List.cons_append, List.nil_append, Bool.false_eq_true, h0, h4, e1, e2, e3]
theorem vs_lg.set0 {tk' : Nat → Nat} {c' un' tl' : Nat} (hl : vs_lg h lg A tk cb tb sb tl c un) (hb : 1 ≤ c' ∧ c' ≤ 8 ∧ un' ≤ 8 ∧ tl' ≤ 10000) (hk : ∀ i, tk' i ≤ 100) : vs_lg (am_up (am_up h (A 0) (vs_i 8 tk')) lg (vs_lgo A tl' c' un')) lg A tk' cb tb sb tl' c' un' ∧ vs_chg h (am_up (am_up h (A 0) (vs_i 8 tk')) lg (vs_lgo A tl' c' un')) lg A := by
  have hne := hl.ne
  obtain ⟨h0, h1, h2, h3, h4, hb0, hk2, hA⟩ := hl
  refine ⟨⟨am_up_at _ _ _, ?_, ?_, ?_, ?_, hb, hk, hA⟩, ⟨fun q e1 e2 => ?_, rfl⟩⟩
  · rw [am_up_ne _ _ (hne 0 (by omega)).symm, am_up_at]
  · rw [am_up_ne _ _ (hne 1 (by omega)).symm, am_up_ne _ _ (hA 1 0 (by omega) (by omega) (by omega))]; exact h2
  · rw [am_up_ne _ _ (hne 2 (by omega)).symm, am_up_ne _ _ (hA 2 0 (by omega) (by omega) (by omega))]; exact h3
  · rw [am_up_ne _ _ (hne 3 (by omega)).symm, am_up_ne _ _ (hA 3 0 (by omega) (by omega) (by omega))]; exact h4
  · rw [am_up_ne _ _ e1, am_up_ne _ _ (e2 0 (by omega))]
theorem lg_beginRecord (z d : Nat) {v : Nat} (hv : v ≤ 100) (hz : z ≤ lg) (hz0 : z ≤ A 0) (hl : vs_lg h lg A tk cb tb sb tl c un) (ht : tk (c - 1) < 90) (hf : 16 < tk (c - 1) + 1 + v → c < 8) :
    ∃ h', am_M z (d + 1 + 1) 39 [.ref lg, .int (nI v)] h none h' ∧ vs_lg h' lg A (if 16 < tk (c - 1) + 1 + v then va_up tk c 1 else va_up tk (c - 1) (tk (c - 1) + 1)) cb tb sb tl (if 16 < tk (c - 1) + 1 + v then c + 1 else c) un ∧ vs_chg h h' lg A := by
  have q1 := lg_needsNewHead z d hv hl
  have hl0 := hl
  have hne := hl.ne
  obtain ⟨h0, h1, h2, h3, h4, hb, hk2, hA⟩ := hl
  have n0 := hne 0 (by omega)
  by_cases c1 : 16 < tk (c - 1) + 1 + v
  · have hc8 := hf c1
    rw [if_pos c1, if_pos c1]
    obtain ⟨p1, p2⟩ := hl0.set0 (tk' := va_up tk c 1) (c' := c + 1) (un' := un) (tl' := tl) ⟨by omega, by omega, hb.2.2.1, hb.2.2.2⟩ (by intro i; unfold va_up; split; omega; exact hk2 i)
    refine ⟨_, ?_, p1, p2⟩
    have e5 : ¬ (8 : Int32) ≤ nI c := nI_ge (b := 8) hc8 (by omega)
    have e3 := ev_wi 0 8 c (fun i => nI (tk i)) (nI c) 0 (ev_ix (by omega) (by omega))
    have e6 : nI (c + 1) - 1 = nI c := nI_pred c
    have e7 := ev_ri 0 8 c (upd (fun i => nI (tk i)) c 0) (nI c) (ev_ix (by omega) (by omega))
    have e8 : upd (fun i => nI (tk i)) c 0 c + 1 = nI 1 := by rw [pk_us]; rfl
    have e9 := ev_wi 0 8 c (upd (fun i => nI (tk i)) c 0) (nI c) (nI 1) (ev_ix (by omega) (by omega))
    have e10 : upd (upd (fun i => nI (tk i)) c 0) c (nI 1) = fun i => nI (va_up tk c 1 i) := by
      rw [← nI_upd]
      funext i
      unfold upd
      split <;> rfl
    have e11 : ∀ x y w, am_up (am_up (am_up h (A 0) x) lg w) (A 0) y = am_up (am_up h (A 0) y) lg w := by
      intro x y w
      rw [am_up_cm _ _ _ n0, am_up_up]
    rw [am_M_eq]
    simp only [am_R_eq, cx_39, en_39, rt_39, rx_aload_n, rx_bipush, rx_dup_i, rx_dup_r, rx_dup2, rx_getfield, ev_gf, rx_iadd, rx_iaload, rx_iastore, ev_w1, ev_KW, rx_iconst, rx_icmp_ge, rx_if_eq, rx_iload_n, rx_invv, ev_cv, rx_isub, rx_putfield, ev_pf, am_fok, am_ftv, rx_return, kl_17, ev_K, ev_pI, ev_pR, ev_pVi, ev_pVr, ev_sI, ev_sR, ev_KC, ev_k, ev_ko, ev_pop0, ev_pops, am_ld, am_sv, am_at, am_st, am_g, List.length_cons, List.length_nil, Nat.reduceAdd, Nat.reduceLT, Nat.zero_add, if_true, if_false, and_self, true_or, or_true, true_and, and_true, not_true_eq_false, not_false_eq_true, reduceCtorEq, eq_self, Option.toList_some, Option.toList_none, List.cons_append, List.nil_append, Bool.false_eq_true, h0]
    refine am_CL_of q1 ?_
    simp only [am_R_eq, cx_39, en_39, rt_39, rx_aload_n, rx_bipush, rx_dup_i, rx_dup_r, rx_dup2, rx_getfield, ev_gf, rx_iadd, rx_iaload, rx_iastore, ev_w1, ev_KW, rx_iconst, rx_icmp_ge, rx_if_eq, rx_iload_n, rx_invv, ev_cv, rx_isub, rx_putfield, ev_pf, am_fok, am_ftv, rx_return, kl_17, ev_K, ev_pI, ev_pR, ev_pVi, ev_pVr, ev_sI, ev_sR, ev_KC, ev_k, ev_ko, ev_pop0, ev_pops, am_ld, am_sv, am_at, am_st, am_g, List.length_cons, List.length_nil, Nat.reduceAdd, Nat.reduceLT, Nat.zero_add, if_true, if_false, and_self, true_or, or_true, true_and, and_true, not_true_eq_false, not_false_eq_true, reduceCtorEq, eq_self, Option.toList_some, Option.toList_none, List.cons_append, List.nil_append, Bool.false_eq_true, h0, h1, c1, i_10, e5, e3, hz, hz0, n0, n0.symm, am_up_at, am_up_ne, ne_eq, nI_ofs, Nat.reduceLeDiff, beq_self_eq_true, e6, e7, e8, e9, e10, e11]
  · rw [if_neg c1, if_neg c1]
    obtain ⟨p1, p2⟩ := hl0.set0 (tk' := va_up tk (c - 1) (tk (c - 1) + 1)) (c' := c) (un' := un) (tl' := tl) ⟨by omega, by omega, hb.2.2.1, hb.2.2.2⟩ (by intro i; unfold va_up; split; omega; exact hk2 i)
    refine ⟨_, ?_, p1, p2⟩
    have e0 : nI c - 1 = nI (c - 1) := by
      rw [show c = (c - 1) + 1 by omega, nI_pred]; congr 1
    have e7 := ev_ri 0 8 (c - 1) (fun i => nI (tk i)) (nI (c - 1)) (ev_ix (by omega) (by omega))
    have e9 := ev_wi 0 8 (c - 1) (fun i => nI (tk i)) (nI (c - 1)) (nI (tk (c - 1) + 1)) (ev_ix (by omega) (by omega))
    have e11 : am_up (am_up h (A 0) (vs_i 8 (va_up tk (c - 1) (tk (c - 1) + 1)))) lg (vs_lgo A tl c un) = am_up h (A 0) (vs_i 8 (va_up tk (c - 1) (tk (c - 1) + 1))) := am_up_self (by rw [am_up_ne _ _ n0]; exact h0)
    rw [e11, am_M_eq]
    simp only [am_R_eq, cx_39, en_39, rt_39, rx_aload_n, rx_bipush, rx_dup_i, rx_dup_r, rx_dup2, rx_getfield, ev_gf, rx_iadd, rx_iaload, rx_iastore, ev_w1, ev_KW, rx_iconst, rx_icmp_ge, rx_if_eq, rx_iload_n, rx_invv, ev_cv, rx_isub, rx_putfield, ev_pf, am_fok, am_ftv, rx_return, kl_17, ev_K, ev_pI, ev_pR, ev_pVi, ev_pVr, ev_sI, ev_sR, ev_KC, ev_k, ev_ko, ev_pop0, ev_pops, am_ld, am_sv, am_at, am_st, am_g, List.length_cons, List.length_nil, Nat.reduceAdd, Nat.reduceLT, Nat.zero_add, if_true, if_false, and_self, true_or, or_true, true_and, and_true, not_true_eq_false, not_false_eq_true, reduceCtorEq, eq_self, Option.toList_some, Option.toList_none, List.cons_append, List.nil_append, Bool.false_eq_true, h0]
    refine am_CL_of q1 ?_
    simp only [am_R_eq, cx_39, en_39, rt_39, rx_aload_n, rx_bipush, rx_dup_i, rx_dup_r, rx_dup2, rx_getfield, ev_gf, rx_iadd, rx_iaload, rx_iastore, ev_w1, ev_KW, rx_iconst, rx_icmp_ge, rx_if_eq, rx_iload_n, rx_invv, ev_cv, rx_isub, rx_putfield, ev_pf, am_fok, am_ftv, rx_return, kl_17, ev_K, ev_pI, ev_pR, ev_pVi, ev_pVr, ev_sI, ev_sR, ev_KC, ev_k, ev_ko, ev_pop0, ev_pops, am_ld, am_sv, am_at, am_st, am_g, List.length_cons, List.length_nil, Nat.reduceAdd, Nat.reduceLT, Nat.zero_add, if_true, if_false, and_self, true_or, or_true, true_and, and_true, not_true_eq_false, not_false_eq_true, reduceCtorEq, eq_self, Option.toList_some, Option.toList_none, List.cons_append, List.nil_append, Bool.false_eq_true, h0, h1, c1, hz0, nI_ofs, e0, e7, e9, nI_upd]
end LOG
