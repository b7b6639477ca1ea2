section VD2
variable {z : Nat} {h : am_H} {ad : Nat → Nat} {tt rr aa : Nat → Nat → Nat} {R : Nat → List Nat} {C : Nat → Nat → List Nat} {fl : Nat → Nat → Int32} {c : Nat → Nat} {tk cb tb sb g : Nat → Nat} {S : Nat → Int32} {En : Nat → Prop} {E : Nat → Nat → Int32} {v : Nat → Int32}
def e_bt (tk : Nat → Nat) (cn n : Nat) : Nat → Nat := if 16 < tk (cn - 1) + 1 + n then va_up tk cn 1 else va_up tk (cn - 1) (tk (cn - 1) + 1)
def e_bc (tk : Nat → Nat) (cn n : Nat) : Nat := if 16 < tk (cn - 1) + 1 + n then cn + 1 else cn
def e_lg (tl cn un : Nat) : Nat → Nat := fun i => match i with
  | 0 => tl
  | 1 => cn
  | _ => un
theorem e_bt_at (tk : Nat → Nat) {cn n : Nat} (hc : 1 ≤ cn) : e_bt tk cn n (e_bc tk cn n - 1) = if 16 < tk (cn - 1) + 1 + n then 1 else tk (cn - 1) + 1 := by
  unfold e_bt e_bc
  by_cases q : 16 < tk (cn - 1) + 1 + n
  · rw [if_pos q, if_pos q, if_pos q, Nat.add_sub_cancel, va_up_self]
  · rw [if_neg q, if_neg q, if_neg q, va_up_self]
theorem vl_writeBatch (d : Nat) {last : Nat} (hl : last ≤ 5000) (hv : v 1 = nI last) (hM : (R 1).length + (R 0).length ≤ 8) (hu : g 2 < 8) (hf : 16 < tk (g 1 - 1) + 1 + (R 0).length → g 1 < 8) (ht : tk (g 1 - 1) ≤ 16) (hb : ∀ x ∈ R 0, x ≠ ad 1) (hV : vs_V z h ad tt rr aa R C fl c tk cb tb sb g S En E v) :
    ∃ h', am_M z (d + 1 + 1 + 1) 37 [.ref (ad 0)] h none h' ∧ vs_V z h' ad tt rr aa (va_up (va_up R 1 (R 1 ++ R 0)) 0 []) C fl c (va_up (e_bt tk (g 1) (R 0).length) (e_bc tk (g 1) (R 0).length - 1) (e_bt tk (g 1) (R 0).length (e_bc tk (g 1) (R 0).length - 1) + (R 0).length)) (va_up cb (g 2) (g 1)) (va_up tb (g 2) (tk (g 1 - 1))) (va_up sb (g 2) last) (e_lg (g 0) (e_bc tk (g 1) (R 0).length) (g 2 + 1)) S En (e_wrs (v 0) (R 0) E last (g 0 + (e_bc tk (g 1) (R 0).length - 1)) (e_bt tk (g 1) (R 0).length (e_bc tk (g 1) (R 0).length - 1))) (va_up v 1 (nI (last + (R 0).length))) ∧ h'.2 = h.2 := by
  have hV0 := hV
  obtain ⟨v0, v1, v2, v3, v4, v5, v6, v7, v8⟩ := hV
  have lg0 := v5.1
  have hg1 := v5.2.2.2.2.2.1
  have r0 := (v3 0 (by omega)).1
  have hb6 : (R 0).length ≤ 6 := r0.2.1
  obtain ⟨h1, a1, a2, a3⟩ := lg_markUnsynced z (d + 1) (v := last) (v7.2.1 2 (by omega)) (fun i hi => v7.2.1 (19 + i) (by omega)) v5 hu
  have hV1 := hV0.log (g' := e_lg (g 0) (g 1) (g 2 + 1)) a3 a2
  have hV1' := hV1
  obtain ⟨w0, w1, w2, w3, w4, w5, w6, w7, w8⟩ := hV1
  have lg1 := w5.1
  have r1 := (w3 0 (by omega)).1
  have p1 := r1.1
  obtain ⟨h2, b1, b2, b3⟩ := lg_beginRecord z d (v := (R 0).length) (by omega) (v7.2.1 2 (by omega)) (v7.2.1 19 (by omega)) w5 (by show tk (g 1 - 1) < 90; omega) hf
  have hV2 := hV1'.log (g' := e_lg (g 0) (e_bc tk (g 1) (R 0).length) (g 2 + 1)) b3 b2
  have hat := e_bt_at tk (n := (R 0).length) hg1.1
  obtain ⟨h3, c1, c2, c3⟩ := vl_writeLoop (R := R) (ad := ad) (z := z) d (last := last) (R 0).length 0 h2 E (e_bt tk (g 1) (R 0).length) R v none (by omega) (Nat.zero_le _) rfl (by omega) hv (by omega) (by
    show e_bt tk (g 1) (R 0).length (e_bc tk (g 1) (R 0).length - 1) + _ < 90
    rw [hat]
    split <;> omega) hb hV2
  rw [List.drop_zero, Nat.sub_zero] at c2
  refine ⟨h3, ?_, c2, by rw [c3, b3.2, a3.2]⟩
  rw [am_R_eq] at c1
  have q1 := ro_size z (d + 1) r1
  rw [am_M_eq]
  simp only [am_R_eq, cx_37, en_37, rt_37, rx_aload_n, rx_astore_n, rx_dup_i, rx_dup_r, rx_getfield, ev_gf, rx_goto, rx_iadd, rx_iconst, rx_icmp_ge, rx_iinc, ev_inc, rx_iload_n, rx_invv, ev_cv, rx_istore_n, rx_putfield, ev_pf, ev_w1, ev_KW, am_fok, am_ftv, rx_return, kl_12, kl_13, kl_22, kl_24, kl_38, kl_39, kl_40, ev_K, ev_pI, ev_pR, ev_pVi, ev_pVr, ev_sI, ev_sR, ev_KC, ev_k, ev_ko, ev_pop0, ev_pops, am_ld, am_sv, am_at, am_st, am_g, List.length_cons, List.length_nil, Nat.reduceAdd, Nat.reduceLT, Nat.zero_add, if_true, if_false, and_self, true_or, or_true, true_and, and_true, not_true_eq_false, not_false_eq_true, reduceCtorEq, eq_self, Option.toList_some, Option.toList_none, List.cons_append, List.nil_append, Bool.false_eq_true, v0, lg0, hv]
  refine am_CL_of a1 ?_
  simp only [am_R_eq, cx_37, en_37, rt_37, rx_aload_n, rx_astore_n, rx_dup_i, rx_dup_r, rx_getfield, ev_gf, rx_goto, rx_iadd, rx_iconst, rx_icmp_ge, rx_iinc, ev_inc, rx_iload_n, rx_invv, ev_cv, rx_istore_n, rx_putfield, ev_pf, ev_w1, ev_KW, am_fok, am_ftv, rx_return, kl_12, kl_13, kl_22, kl_24, kl_38, kl_39, kl_40, ev_K, ev_pI, ev_pR, ev_pVi, ev_pVr, ev_sI, ev_sR, ev_KC, ev_k, ev_ko, ev_pop0, ev_pops, am_ld, am_sv, am_at, am_st, am_g, List.length_cons, List.length_nil, Nat.reduceAdd, Nat.reduceLT, Nat.zero_add, if_true, if_false, and_self, true_or, or_true, true_and, and_true, not_true_eq_false, not_false_eq_true, reduceCtorEq, eq_self, Option.toList_some, Option.toList_none, List.cons_append, List.nil_append, Bool.false_eq_true, w0, p1]
  refine am_CL_of q1 ?_
  simp only [am_R_eq, cx_37, en_37, rt_37, rx_aload_n, rx_astore_n, rx_dup_i, rx_dup_r, rx_getfield, ev_gf, rx_goto, rx_iadd, rx_iconst, rx_icmp_ge, rx_iinc, ev_inc, rx_iload_n, rx_invv, ev_cv, rx_istore_n, rx_putfield, ev_pf, ev_w1, ev_KW, am_fok, am_ftv, rx_return, kl_12, kl_13, kl_22, kl_24, kl_38, kl_39, kl_40, ev_K, ev_pI, ev_pR, ev_pVi, ev_pVr, ev_sI, ev_sR, ev_KC, ev_k, ev_ko, ev_pop0, ev_pops, am_ld, am_sv, am_at, am_st, am_g, List.length_cons, List.length_nil, Nat.reduceAdd, Nat.reduceLT, Nat.zero_add, if_true, if_false, and_self, true_or, or_true, true_and, and_true, not_true_eq_false, not_false_eq_true, reduceCtorEq, eq_self, Option.toList_some, Option.toList_none, List.cons_append, List.nil_append, Bool.false_eq_true, lg1]
  refine am_CL_of b1 ?_
  simp only [am_R_eq, cx_37, en_37, rt_37, rx_aload_n, rx_astore_n, rx_dup_i, rx_dup_r, rx_getfield, ev_gf, rx_goto, rx_iadd, rx_iconst, rx_icmp_ge, rx_iinc, ev_inc, rx_iload_n, rx_invv, ev_cv, rx_istore_n, rx_putfield, ev_pf, ev_w1, ev_KW, am_fok, am_ftv, rx_return, kl_12, kl_13, kl_22, kl_24, kl_38, kl_39, kl_40, ev_K, ev_pI, ev_pR, ev_pVi, ev_pVr, ev_sI, ev_sR, ev_KC, ev_k, ev_ko, ev_pop0, ev_pops, am_ld, am_sv, am_at, am_st, am_g, List.length_cons, List.length_nil, Nat.reduceAdd, Nat.reduceLT, Nat.zero_add, if_true, if_false, and_self, true_or, or_true, true_and, and_true, not_true_eq_false, not_false_eq_true, reduceCtorEq, eq_self, Option.toList_some, Option.toList_none, List.cons_append, List.nil_append, Bool.false_eq_true]
  exact c1
theorem vl_commitNone (d : Nat) (hB : R 0 = []) (hV : vs_V z h ad tt rr aa R C fl c tk cb tb sb g S En E v) : am_M z (d + 1 + 1) 15 [.ref (ad 0)] h (some (.int (-2))) h := by
  obtain ⟨v0, v1, v2, v3, v4, v5, v6, v7, v8⟩ := hV
  have r0 := (v3 0 (by omega)).1
  have p0 := r0.1
  have q0 := ro_size z d r0
  rw [hB] at q0
  have e1 : nI ([] : List Nat).length = 0 := rfl
  have e2 : nI 0 = 0 := rfl
  rw [am_M_eq]
  simp only [am_R_eq, cx_15, en_15, rt_15, rx_aload_n, rx_bipush, rx_getfield, ev_gf, rx_iadd, rx_icmp_le, rx_if_eq, rx_if_ne, rx_iload_n, rx_invv, ev_cv, rx_ireturn, rx_istore_n, rx_pop_i, rx_pop_r, kl_12, kl_16, kl_18, kl_37, ev_K, ev_pI, ev_pR, ev_pVi, ev_pVr, ev_sI, ev_sR, ev_KC, ev_k, ev_ko, ev_pop0, ev_pops, am_ld, am_sv, am_at, am_st, am_g, List.length_cons, List.length_nil, Nat.reduceAdd, Nat.reduceLT, Nat.zero_add, if_true, if_false, and_self, true_or, or_true, true_and, and_true, not_true_eq_false, not_false_eq_true, reduceCtorEq, eq_self, Option.toList_some, Option.toList_none, List.cons_append, List.nil_append, Bool.false_eq_true, v0, p0]
  refine am_CL_of q0 ?_
  simp only [am_R_eq, cx_15, en_15, rt_15, rx_aload_n, rx_bipush, rx_getfield, ev_gf, rx_iadd, rx_icmp_le, rx_if_eq, rx_if_ne, rx_iload_n, rx_invv, ev_cv, rx_ireturn, rx_istore_n, rx_pop_i, rx_pop_r, kl_12, kl_16, kl_18, kl_37, ev_K, ev_pI, ev_pR, ev_pVi, ev_pVr, ev_sI, ev_sR, ev_KC, ev_k, ev_ko, ev_pop0, ev_pops, am_ld, am_sv, am_at, am_st, am_g, List.length_cons, List.length_nil, Nat.reduceAdd, Nat.reduceLT, Nat.zero_add, if_true, if_false, and_self, true_or, or_true, true_and, and_true, not_true_eq_false, not_false_eq_true, reduceCtorEq, eq_self, Option.toList_some, Option.toList_none, List.cons_append, List.nil_append, Bool.false_eq_true, e2]
theorem vl_commitFull (d : Nat) (hB : R 0 ≠ []) (hf : 16 < tk (g 1 - 1) + 1 + (R 0).length ∧ 8 ≤ g 1) (hV : vs_V z h ad tt rr aa R C fl c tk cb tb sb g S En E v) : am_M z (d + 1 + 1 + 1) 15 [.ref (ad 0)] h (some (.int (-3))) h := by
  obtain ⟨v0, v1, v2, v3, v4, v5, v6, v7, v8⟩ := hV
  have r0 := (v3 0 (by omega)).1
  have hb6 : (R 0).length ≤ 6 := r0.2.1
  have p0 := r0.1
  have lg0 := v5.1
  have q0 := ro_size z (d + 1) r0
  have q1 := lg_isFullFor z d (v := (R 0).length) (by omega) v5
  rw [if_pos hf] at q1
  have hpos : 0 < (R 0).length := by
    cases hR : R 0 with
    | nil => exact absurd hR hB
    | cons x t => simp
  have e1 : ¬ nI (R 0).length = 0 := nI_ne0 hpos (by omega)
  rw [am_M_eq]
  simp only [am_R_eq, cx_15, en_15, rt_15, rx_aload_n, rx_bipush, rx_getfield, ev_gf, rx_iadd, rx_icmp_le, rx_if_eq, rx_if_ne, rx_iload_n, rx_invv, ev_cv, rx_ireturn, rx_istore_n, rx_pop_i, rx_pop_r, kl_12, kl_16, kl_18, kl_37, ev_K, ev_pI, ev_pR, ev_pVi, ev_pVr, ev_sI, ev_sR, ev_KC, ev_k, ev_ko, ev_pop0, ev_pops, am_ld, am_sv, am_at, am_st, am_g, List.length_cons, List.length_nil, Nat.reduceAdd, Nat.reduceLT, Nat.zero_add, if_true, if_false, and_self, true_or, or_true, true_and, and_true, not_true_eq_false, not_false_eq_true, reduceCtorEq, eq_self, Option.toList_some, Option.toList_none, List.cons_append, List.nil_append, Bool.false_eq_true, v0, p0]
  refine am_CL_of q0 ?_
  simp only [am_R_eq, cx_15, en_15, rt_15, rx_aload_n, rx_bipush, rx_getfield, ev_gf, rx_iadd, rx_icmp_le, rx_if_eq, rx_if_ne, rx_iload_n, rx_invv, ev_cv, rx_ireturn, rx_istore_n, rx_pop_i, rx_pop_r, kl_12, kl_16, kl_18, kl_37, ev_K, ev_pI, ev_pR, ev_pVi, ev_pVr, ev_sI, ev_sR, ev_KC, ev_k, ev_ko, ev_pop0, ev_pops, am_ld, am_sv, am_at, am_st, am_g, List.length_cons, List.length_nil, Nat.reduceAdd, Nat.reduceLT, Nat.zero_add, if_true, if_false, and_self, true_or, or_true, true_and, and_true, not_true_eq_false, not_false_eq_true, reduceCtorEq, eq_self, Option.toList_some, Option.toList_none, List.cons_append, List.nil_append, Bool.false_eq_true, e1, v0, lg0]
  refine am_CL_of q1 ?_
  simp only [am_R_eq, cx_15, en_15, rt_15, rx_aload_n, rx_bipush, rx_getfield, ev_gf, rx_iadd, rx_icmp_le, rx_if_eq, rx_if_ne, rx_iload_n, rx_invv, ev_cv, rx_ireturn, rx_istore_n, rx_pop_i, rx_pop_r, kl_12, kl_16, kl_18, kl_37, ev_K, ev_pI, ev_pR, ev_pVi, ev_pVr, ev_sI, ev_sR, ev_KC, ev_k, ev_ko, ev_pop0, ev_pops, am_ld, am_sv, am_at, am_st, am_g, List.length_cons, List.length_nil, Nat.reduceAdd, Nat.reduceLT, Nat.zero_add, if_true, if_false, and_self, true_or, or_true, true_and, and_true, not_true_eq_false, not_false_eq_true, reduceCtorEq, eq_self, Option.toList_some, Option.toList_none, List.cons_append, List.nil_append, Bool.false_eq_true, i_10]
theorem vl_commitA (d : Nat) {last : Nat} (hB : R 0 ≠ []) (hl : last ≤ 5000) (hv : v 1 = nI last) (hM : (R 1).length + (R 0).length ≤ 8) (hu : g 2 < 8) (hf : ¬ (16 < tk (g 1 - 1) + 1 + (R 0).length ∧ 8 ≤ g 1)) (ht : tk (g 1 - 1) ≤ 16) (hb : ∀ x ∈ R 0, x ≠ ad 1) (hV : vs_V z h ad tt rr aa R C fl c tk cb tb sb g S En E v) :
    ∃ h', am_M z (d + 1 + 1 + 1 + 1) 15 [.ref (ad 0)] h (some (.int (nI (R 0).length))) h' ∧ vs_V z h' ad tt rr aa (va_up (va_up R 1 (R 1 ++ R 0)) 0 []) C fl c (va_up (e_bt tk (g 1) (R 0).length) (e_bc tk (g 1) (R 0).length - 1) (e_bt tk (g 1) (R 0).length (e_bc tk (g 1) (R 0).length - 1) + (R 0).length)) (va_up cb (g 2) (g 1)) (va_up tb (g 2) (tk (g 1 - 1))) (va_up sb (g 2) last) (e_lg (g 0) (e_bc tk (g 1) (R 0).length) (g 2 + 1)) S En (e_wrs (v 0) (R 0) E last (g 0 + (e_bc tk (g 1) (R 0).length - 1)) (e_bt tk (g 1) (R 0).length (e_bc tk (g 1) (R 0).length - 1))) (va_up v 1 (nI (last + (R 0).length))) ∧ h'.2 = h.2 := by
  obtain ⟨h', a1, a2, a3⟩ := vl_writeBatch d hl hv hM hu (fun q => by omega) ht hb hV
  refine ⟨h', ?_, a2, a3⟩
  obtain ⟨v0, v1, v2, v3, v4, v5, v6, v7, v8⟩ := hV
  have r0 := (v3 0 (by omega)).1
  have r1 := (v3 1 (by omega)).1
  have hb6 : (R 0).length ≤ 6 := r0.2.1
  have p0 := r0.1
  have p1 := r1.1
  have lg0 := v5.1
  have q0 := ro_size z (d + 1 + 1) r0
  have q2 := ro_size z (d + 1 + 1) r1
  have q1 := lg_isFullFor z (d + 1) (v := (R 0).length) (by omega) v5
  rw [if_neg hf] at q1
  have hpos : 0 < (R 0).length := by
    cases hR : R 0 with
    | nil => exact absurd hR hB
    | cons x t => simp
  have e1 : ¬ nI (R 0).length = 0 := nI_ne0 hpos (by omega)
  have e2 : nI (R 1).length + nI (R 0).length ≤ 8 := by rw [nI_add]; exact nI_le (b := 8) hM (by omega)
  rw [am_M_eq]
  simp only [am_R_eq, cx_15, en_15, rt_15, rx_aload_n, rx_bipush, rx_getfield, ev_gf, rx_iadd, rx_icmp_le, rx_if_eq, rx_if_ne, rx_iload_n, rx_invv, ev_cv, rx_ireturn, rx_istore_n, rx_pop_i, rx_pop_r, kl_12, kl_16, kl_18, kl_37, ev_K, ev_pI, ev_pR, ev_pVi, ev_pVr, ev_sI, ev_sR, ev_KC, ev_k, ev_ko, ev_pop0, ev_pops, am_ld, am_sv, am_at, am_st, am_g, List.length_cons, List.length_nil, Nat.reduceAdd, Nat.reduceLT, Nat.zero_add, if_true, if_false, and_self, true_or, or_true, true_and, and_true, not_true_eq_false, not_false_eq_true, reduceCtorEq, eq_self, Option.toList_some, Option.toList_none, List.cons_append, List.nil_append, Bool.false_eq_true, v0, p0]
  refine am_CL_of q0 ?_
  simp only [am_R_eq, cx_15, en_15, rt_15, rx_aload_n, rx_bipush, rx_getfield, ev_gf, rx_iadd, rx_icmp_le, rx_if_eq, rx_if_ne, rx_iload_n, rx_invv, ev_cv, rx_ireturn, rx_istore_n, rx_pop_i, rx_pop_r, kl_12, kl_16, kl_18, kl_37, ev_K, ev_pI, ev_pR, ev_pVi, ev_pVr, ev_sI, ev_sR, ev_KC, ev_k, ev_ko, ev_pop0, ev_pops, am_ld, am_sv, am_at, am_st, am_g, List.length_cons, List.length_nil, Nat.reduceAdd, Nat.reduceLT, Nat.zero_add, if_true, if_false, and_self, true_or, or_true, true_and, and_true, not_true_eq_false, not_false_eq_true, reduceCtorEq, eq_self, Option.toList_some, Option.toList_none, List.cons_append, List.nil_append, Bool.false_eq_true, e1, v0, lg0]
  refine am_CL_of q1 ?_
  simp only [am_R_eq, cx_15, en_15, rt_15, rx_aload_n, rx_bipush, rx_getfield, ev_gf, rx_iadd, rx_icmp_le, rx_if_eq, rx_if_ne, rx_iload_n, rx_invv, ev_cv, rx_ireturn, rx_istore_n, rx_pop_i, rx_pop_r, kl_12, kl_16, kl_18, kl_37, ev_K, ev_pI, ev_pR, ev_pVi, ev_pVr, ev_sI, ev_sR, ev_KC, ev_k, ev_ko, ev_pop0, ev_pops, am_ld, am_sv, am_at, am_st, am_g, List.length_cons, List.length_nil, Nat.reduceAdd, Nat.reduceLT, Nat.zero_add, if_true, if_false, and_self, true_or, or_true, true_and, and_true, not_true_eq_false, not_false_eq_true, reduceCtorEq, eq_self, Option.toList_some, Option.toList_none, List.cons_append, List.nil_append, Bool.false_eq_true, v0, p1]
  refine am_CL_of q2 ?_
  simp only [am_R_eq, cx_15, en_15, rt_15, rx_aload_n, rx_bipush, rx_getfield, ev_gf, rx_iadd, rx_icmp_le, rx_if_eq, rx_if_ne, rx_iload_n, rx_invv, ev_cv, rx_ireturn, rx_istore_n, rx_pop_i, rx_pop_r, kl_12, kl_16, kl_18, kl_37, ev_K, ev_pI, ev_pR, ev_pVi, ev_pVr, ev_sI, ev_sR, ev_KC, ev_k, ev_ko, ev_pop0, ev_pops, am_ld, am_sv, am_at, am_st, am_g, List.length_cons, List.length_nil, Nat.reduceAdd, Nat.reduceLT, Nat.zero_add, if_true, if_false, and_self, true_or, or_true, true_and, and_true, not_true_eq_false, not_false_eq_true, reduceCtorEq, eq_self, Option.toList_some, Option.toList_none, List.cons_append, List.nil_append, Bool.false_eq_true, e2, v0]
  refine am_CL_of a1 ?_
  simp only [am_R_eq, cx_15, en_15, rt_15, rx_aload_n, rx_bipush, rx_getfield, ev_gf, rx_iadd, rx_icmp_le, rx_if_eq, rx_if_ne, rx_iload_n, rx_invv, ev_cv, rx_ireturn, rx_istore_n, rx_pop_i, rx_pop_r, kl_12, kl_16, kl_18, kl_37, ev_K, ev_pI, ev_pR, ev_pVi, ev_pVr, ev_sI, ev_sR, ev_KC, ev_k, ev_ko, ev_pop0, ev_pops, am_ld, am_sv, am_at, am_st, am_g, List.length_cons, List.length_nil, Nat.reduceAdd, Nat.reduceLT, Nat.zero_add, if_true, if_false, and_self, true_or, or_true, true_and, and_true, not_true_eq_false, not_false_eq_true, reduceCtorEq, eq_self, Option.toList_some, Option.toList_none, List.cons_append, List.nil_append, Bool.false_eq_true]
theorem vl_putBad (d : Nat) {x : Nat} {k w l : Int32} (hk : (k < 0 ∨ 32 ≤ k) ∨ l < 0 ∨ ¬ l ≤ 1000) : am_M z (d + 1 + 1) 9 [.ref x, .int k, .int w, .int l] h (some (.int (-1))) h := by
  have q1 := vl_isKey z d h k
  rw [am_M_eq]
  simp only [am_R_eq, cx_9, en_9, rt_9, rx_aload_n, rx_iconst, rx_icmp_le, rx_if_eq, rx_if_lt, rx_iload_n, rx_invs, rx_max2, rx_min2, rx_copy2, rx_invv, ev_cv, rx_ireturn, rx_sipush, kl_10, kl_11, ev_K, ev_pI, ev_pR, ev_pVi, ev_pVr, ev_sI, ev_sR, ev_KC, ev_k, ev_ko, ev_pop0, ev_pops, am_ld, am_sv, am_at, am_st, am_g, List.length_cons, List.length_nil, Nat.reduceAdd, Nat.reduceLT, Nat.zero_add, if_true, if_false, and_self, true_or, or_true, true_and, and_true, not_true_eq_false, not_false_eq_true, reduceCtorEq, eq_self, Option.toList_some, Option.toList_none, List.cons_append, List.nil_append, Bool.false_eq_true]
  refine am_CL_of q1 ?_
  by_cases c1 : k < 0 ∨ 32 ≤ k
  · simp only [am_R_eq, cx_9, en_9, rt_9, rx_aload_n, rx_iconst, rx_icmp_le, rx_if_eq, rx_if_lt, rx_iload_n, rx_invs, rx_max2, rx_min2, rx_copy2, rx_invv, ev_cv, rx_ireturn, rx_sipush, kl_10, kl_11, ev_K, ev_pI, ev_pR, ev_pVi, ev_pVr, ev_sI, ev_sR, ev_KC, ev_k, ev_ko, ev_pop0, ev_pops, am_ld, am_sv, am_at, am_st, am_g, List.length_cons, List.length_nil, Nat.reduceAdd, Nat.reduceLT, Nat.zero_add, if_true, if_false, and_self, true_or, or_true, true_and, and_true, not_true_eq_false, not_false_eq_true, reduceCtorEq, eq_self, Option.toList_some, Option.toList_none, List.cons_append, List.nil_append, Bool.false_eq_true, c1]
  · have h2 := hk.resolve_left c1
    by_cases c2 : l < 0
    · simp only [am_R_eq, cx_9, en_9, rt_9, rx_aload_n, rx_iconst, rx_icmp_le, rx_if_eq, rx_if_lt, rx_iload_n, rx_invs, rx_max2, rx_min2, rx_copy2, rx_invv, ev_cv, rx_ireturn, rx_sipush, kl_10, kl_11, ev_K, ev_pI, ev_pR, ev_pVi, ev_pVr, ev_sI, ev_sR, ev_KC, ev_k, ev_ko, ev_pop0, ev_pops, am_ld, am_sv, am_at, am_st, am_g, List.length_cons, List.length_nil, Nat.reduceAdd, Nat.reduceLT, Nat.zero_add, if_true, if_false, and_self, true_or, or_true, true_and, and_true, not_true_eq_false, not_false_eq_true, reduceCtorEq, eq_self, Option.toList_some, Option.toList_none, List.cons_append, List.nil_append, Bool.false_eq_true, c1, c2, i_10]
    · have c3 := h2.resolve_left c2
      simp only [am_R_eq, cx_9, en_9, rt_9, rx_aload_n, rx_iconst, rx_icmp_le, rx_if_eq, rx_if_lt, rx_iload_n, rx_invs, rx_max2, rx_min2, rx_copy2, rx_invv, ev_cv, rx_ireturn, rx_sipush, kl_10, kl_11, ev_K, ev_pI, ev_pR, ev_pVi, ev_pVr, ev_sI, ev_sR, ev_KC, ev_k, ev_ko, ev_pop0, ev_pops, am_ld, am_sv, am_at, am_st, am_g, List.length_cons, List.length_nil, Nat.reduceAdd, Nat.reduceLT, Nat.zero_add, if_true, if_false, and_self, true_or, or_true, true_and, and_true, not_true_eq_false, not_false_eq_true, reduceCtorEq, eq_self, Option.toList_some, Option.toList_none, List.cons_append, List.nil_append, Bool.false_eq_true, c1, c2, c3, i_10]
theorem vl_putFull (d : Nat) {k w l : Int32} (hk : ¬ (k < 0 ∨ 32 ≤ k)) (h1 : ¬ l < 0) (h2 : l ≤ 1000) (hb : 6 ≤ (R 0).length) (hV : vs_V z h ad tt rr aa R C fl c tk cb tb sb g S En E v) : am_M z (d + 1 + 1 + 1) 9 [.ref (ad 0), .int k, .int w, .int l] h (some (.int (-3))) h := by
  have q1 := vl_isKey z (d + 1) h k
  have q2 := vl_makeReadyNo d (k := k) (w := w) (l := l) (dl := 0) hb hV
  obtain ⟨v0, -⟩ := hV
  rw [am_M_eq]
  simp only [am_R_eq, cx_9, en_9, rt_9, rx_aload_n, rx_iconst, rx_icmp_le, rx_if_eq, rx_if_lt, rx_iload_n, rx_invs, rx_max2, rx_min2, rx_copy2, rx_invv, ev_cv, rx_ireturn, rx_sipush, kl_10, kl_11, ev_K, ev_pI, ev_pR, ev_pVi, ev_pVr, ev_sI, ev_sR, ev_KC, ev_k, ev_ko, ev_pop0, ev_pops, am_ld, am_sv, am_at, am_st, am_g, List.length_cons, List.length_nil, Nat.reduceAdd, Nat.reduceLT, Nat.zero_add, if_true, if_false, and_self, true_or, or_true, true_and, and_true, not_true_eq_false, not_false_eq_true, reduceCtorEq, eq_self, Option.toList_some, Option.toList_none, List.cons_append, List.nil_append, Bool.false_eq_true]
  refine am_CL_of q1 ?_
  simp only [am_R_eq, cx_9, en_9, rt_9, rx_aload_n, rx_iconst, rx_icmp_le, rx_if_eq, rx_if_lt, rx_iload_n, rx_invs, rx_max2, rx_min2, rx_copy2, rx_invv, ev_cv, rx_ireturn, rx_sipush, kl_10, kl_11, ev_K, ev_pI, ev_pR, ev_pVi, ev_pVr, ev_sI, ev_sR, ev_KC, ev_k, ev_ko, ev_pop0, ev_pops, am_ld, am_sv, am_at, am_st, am_g, List.length_cons, List.length_nil, Nat.reduceAdd, Nat.reduceLT, Nat.zero_add, if_true, if_false, and_self, true_or, or_true, true_and, and_true, not_true_eq_false, not_false_eq_true, reduceCtorEq, eq_self, Option.toList_some, Option.toList_none, List.cons_append, List.nil_append, Bool.false_eq_true, hk, h1, h2, i_10, v0]
  refine am_CL_of q2 ?_
  simp only [am_R_eq, cx_9, en_9, rt_9, rx_aload_n, rx_iconst, rx_icmp_le, rx_if_eq, rx_if_lt, rx_iload_n, rx_invs, rx_max2, rx_min2, rx_copy2, rx_invv, ev_cv, rx_ireturn, rx_sipush, kl_10, kl_11, ev_K, ev_pI, ev_pR, ev_pVi, ev_pVr, ev_sI, ev_sR, ev_KC, ev_k, ev_ko, ev_pop0, ev_pops, am_ld, am_sv, am_at, am_st, am_g, List.length_cons, List.length_nil, Nat.reduceAdd, Nat.reduceLT, Nat.zero_add, if_true, if_false, and_self, true_or, or_true, true_and, and_true, not_true_eq_false, not_false_eq_true, reduceCtorEq, eq_self, Option.toList_some, Option.toList_none, List.cons_append, List.nil_append, Bool.false_eq_true]
theorem vl_put (d : Nat) {k w l : Int32} (hk : ¬ (k < 0 ∨ 32 ≤ k)) (h1 : ¬ l < 0) (h2 : l ≤ 1000) (hb : (R 0).length < 6) (hV : vs_V z h ad tt rr aa R C fl c tk cb tb sb g S En E v) : ∃ h', am_M z (d + 1 + 1 + 1) 9 [.ref (ad 0), .int k, .int w, .int l] h (some (.int (nI ((R 0).length + 1)))) h' ∧ vs_V z h' ad tt rr aa (va_up R 0 (R 0 ++ [h.2.1])) C fl c tk cb tb sb g S (fun a => En a ∨ a = h.2.1) (e_nw E h.2.1 k w l 0) v ∧ h'.2 = (h.2.1 + 1, h.2.2 + 8) := by
  have q1 := vl_isKey z (d + 1) h k
  obtain ⟨h', q2, q3, q4⟩ := vl_makeReady d (k := k) (w := w) (l := l) (dl := 0) b00 hb hV
  obtain ⟨v0, -⟩ := hV
  refine ⟨h', ?_, q3, q4⟩
  rw [am_M_eq]
  simp only [am_R_eq, cx_9, en_9, rt_9, rx_aload_n, rx_iconst, rx_icmp_le, rx_if_eq, rx_if_lt, rx_iload_n, rx_invs, rx_max2, rx_min2, rx_copy2, rx_invv, ev_cv, rx_ireturn, rx_sipush, kl_10, kl_11, ev_K, ev_pI, ev_pR, ev_pVi, ev_pVr, ev_sI, ev_sR, ev_KC, ev_k, ev_ko, ev_pop0, ev_pops, am_ld, am_sv, am_at, am_st, am_g, List.length_cons, List.length_nil, Nat.reduceAdd, Nat.reduceLT, Nat.zero_add, if_true, if_false, and_self, true_or, or_true, true_and, and_true, not_true_eq_false, not_false_eq_true, reduceCtorEq, eq_self, Option.toList_some, Option.toList_none, List.cons_append, List.nil_append, Bool.false_eq_true]
  refine am_CL_of q1 ?_
  simp only [am_R_eq, cx_9, en_9, rt_9, rx_aload_n, rx_iconst, rx_icmp_le, rx_if_eq, rx_if_lt, rx_iload_n, rx_invs, rx_max2, rx_min2, rx_copy2, rx_invv, ev_cv, rx_ireturn, rx_sipush, kl_10, kl_11, ev_K, ev_pI, ev_pR, ev_pVi, ev_pVr, ev_sI, ev_sR, ev_KC, ev_k, ev_ko, ev_pop0, ev_pops, am_ld, am_sv, am_at, am_st, am_g, List.length_cons, List.length_nil, Nat.reduceAdd, Nat.reduceLT, Nat.zero_add, if_true, if_false, and_self, true_or, or_true, true_and, and_true, not_true_eq_false, not_false_eq_true, reduceCtorEq, eq_self, Option.toList_some, Option.toList_none, List.cons_append, List.nil_append, Bool.false_eq_true, hk, h1, h2, i_10, v0]
  refine am_CL_of q2 ?_
  simp only [am_R_eq, cx_9, en_9, rt_9, rx_aload_n, rx_iconst, rx_icmp_le, rx_if_eq, rx_if_lt, rx_iload_n, rx_invs, rx_max2, rx_min2, rx_copy2, rx_invv, ev_cv, rx_ireturn, rx_sipush, kl_10, kl_11, ev_K, ev_pI, ev_pR, ev_pVi, ev_pVr, ev_sI, ev_sR, ev_KC, ev_k, ev_ko, ev_pop0, ev_pops, am_ld, am_sv, am_at, am_st, am_g, List.length_cons, List.length_nil, Nat.reduceAdd, Nat.reduceLT, Nat.zero_add, if_true, if_false, and_self, true_or, or_true, true_and, and_true, not_true_eq_false, not_false_eq_true, reduceCtorEq, eq_self, Option.toList_some, Option.toList_none, List.cons_append, List.nil_append, Bool.false_eq_true]
theorem vl_deleteBad (d : Nat) {x : Nat} {k : Int32} (hk : k < 0 ∨ 32 ≤ k) : am_M z (d + 1 + 1) 14 [.ref x, .int k] h (some (.int (-1))) h := by
  have q1 := vl_isKey z d h k
  rw [am_M_eq]
  simp only [am_R_eq, cx_14, en_14, rt_14, rx_aload_n, rx_iconst, rx_if_ne, rx_iload_n, rx_invs, rx_max2, rx_min2, rx_copy2, rx_invv, ev_cv, rx_ireturn, kl_10, kl_11, ev_K, ev_pI, ev_pR, ev_pVi, ev_pVr, ev_sI, ev_sR, ev_KC, ev_k, ev_ko, ev_pop0, ev_pops, am_ld, am_sv, am_at, am_st, am_g, List.length_cons, List.length_nil, Nat.reduceAdd, Nat.reduceLT, Nat.zero_add, if_true, if_false, and_self, true_or, or_true, true_and, and_true, not_true_eq_false, not_false_eq_true, reduceCtorEq, eq_self, Option.toList_some, Option.toList_none, List.cons_append, List.nil_append, Bool.false_eq_true]
  refine am_CL_of q1 ?_
  simp only [am_R_eq, cx_14, en_14, rt_14, rx_aload_n, rx_iconst, rx_if_ne, rx_iload_n, rx_invs, rx_max2, rx_min2, rx_copy2, rx_invv, ev_cv, rx_ireturn, kl_10, kl_11, ev_K, ev_pI, ev_pR, ev_pVi, ev_pVr, ev_sI, ev_sR, ev_KC, ev_k, ev_ko, ev_pop0, ev_pops, am_ld, am_sv, am_at, am_st, am_g, List.length_cons, List.length_nil, Nat.reduceAdd, Nat.reduceLT, Nat.zero_add, if_true, if_false, and_self, true_or, or_true, true_and, and_true, not_true_eq_false, not_false_eq_true, reduceCtorEq, eq_self, Option.toList_some, Option.toList_none, List.cons_append, List.nil_append, Bool.false_eq_true, hk]
theorem vl_deleteFull (d : Nat) {k : Int32} (hk : ¬ (k < 0 ∨ 32 ≤ k)) (hb : 6 ≤ (R 0).length) (hV : vs_V z h ad tt rr aa R C fl c tk cb tb sb g S En E v) : am_M z (d + 1 + 1 + 1) 14 [.ref (ad 0), .int k] h (some (.int (-3))) h := by
  have q1 := vl_isKey z (d + 1) h k
  have q2 := vl_makeReadyNo d (k := k) (w := 0) (l := 0) (dl := 1) hb hV
  obtain ⟨v0, -⟩ := hV
  rw [am_M_eq]
  simp only [am_R_eq, cx_14, en_14, rt_14, rx_aload_n, rx_iconst, rx_if_ne, rx_iload_n, rx_invs, rx_max2, rx_min2, rx_copy2, rx_invv, ev_cv, rx_ireturn, kl_10, kl_11, ev_K, ev_pI, ev_pR, ev_pVi, ev_pVr, ev_sI, ev_sR, ev_KC, ev_k, ev_ko, ev_pop0, ev_pops, am_ld, am_sv, am_at, am_st, am_g, List.length_cons, List.length_nil, Nat.reduceAdd, Nat.reduceLT, Nat.zero_add, if_true, if_false, and_self, true_or, or_true, true_and, and_true, not_true_eq_false, not_false_eq_true, reduceCtorEq, eq_self, Option.toList_some, Option.toList_none, List.cons_append, List.nil_append, Bool.false_eq_true]
  refine am_CL_of q1 ?_
  simp only [am_R_eq, cx_14, en_14, rt_14, rx_aload_n, rx_iconst, rx_if_ne, rx_iload_n, rx_invs, rx_max2, rx_min2, rx_copy2, rx_invv, ev_cv, rx_ireturn, kl_10, kl_11, ev_K, ev_pI, ev_pR, ev_pVi, ev_pVr, ev_sI, ev_sR, ev_KC, ev_k, ev_ko, ev_pop0, ev_pops, am_ld, am_sv, am_at, am_st, am_g, List.length_cons, List.length_nil, Nat.reduceAdd, Nat.reduceLT, Nat.zero_add, if_true, if_false, and_self, true_or, or_true, true_and, and_true, not_true_eq_false, not_false_eq_true, reduceCtorEq, eq_self, Option.toList_some, Option.toList_none, List.cons_append, List.nil_append, Bool.false_eq_true, hk, i_10, v0]
  refine am_CL_of q2 ?_
  simp only [am_R_eq, cx_14, en_14, rt_14, rx_aload_n, rx_iconst, rx_if_ne, rx_iload_n, rx_invs, rx_max2, rx_min2, rx_copy2, rx_invv, ev_cv, rx_ireturn, kl_10, kl_11, ev_K, ev_pI, ev_pR, ev_pVi, ev_pVr, ev_sI, ev_sR, ev_KC, ev_k, ev_ko, ev_pop0, ev_pops, am_ld, am_sv, am_at, am_st, am_g, List.length_cons, List.length_nil, Nat.reduceAdd, Nat.reduceLT, Nat.zero_add, if_true, if_false, and_self, true_or, or_true, true_and, and_true, not_true_eq_false, not_false_eq_true, reduceCtorEq, eq_self, Option.toList_some, Option.toList_none, List.cons_append, List.nil_append, Bool.false_eq_true]
theorem vl_delete (d : Nat) {k : Int32} (hk : ¬ (k < 0 ∨ 32 ≤ k)) (hb : (R 0).length < 6) (hV : vs_V z h ad tt rr aa R C fl c tk cb tb sb g S En E v) : ∃ h', am_M z (d + 1 + 1 + 1) 14 [.ref (ad 0), .int k] h (some (.int (nI ((R 0).length + 1)))) h' ∧ vs_V z h' ad tt rr aa (va_up R 0 (R 0 ++ [h.2.1])) C fl c tk cb tb sb g S (fun a => En a ∨ a = h.2.1) (e_nw E h.2.1 k 0 0 1) v ∧ h'.2 = (h.2.1 + 1, h.2.2 + 8) := by
  have q1 := vl_isKey z (d + 1) h k
  obtain ⟨h', q2, q3, q4⟩ := vl_makeReady d (k := k) (w := 0) (l := 0) (dl := 1) b11 hb hV
  obtain ⟨v0, -⟩ := hV
  refine ⟨h', ?_, q3, q4⟩
  rw [am_M_eq]
  simp only [am_R_eq, cx_14, en_14, rt_14, rx_aload_n, rx_iconst, rx_if_ne, rx_iload_n, rx_invs, rx_max2, rx_min2, rx_copy2, rx_invv, ev_cv, rx_ireturn, kl_10, kl_11, ev_K, ev_pI, ev_pR, ev_pVi, ev_pVr, ev_sI, ev_sR, ev_KC, ev_k, ev_ko, ev_pop0, ev_pops, am_ld, am_sv, am_at, am_st, am_g, List.length_cons, List.length_nil, Nat.reduceAdd, Nat.reduceLT, Nat.zero_add, if_true, if_false, and_self, true_or, or_true, true_and, and_true, not_true_eq_false, not_false_eq_true, reduceCtorEq, eq_self, Option.toList_some, Option.toList_none, List.cons_append, List.nil_append, Bool.false_eq_true]
  refine am_CL_of q1 ?_
  simp only [am_R_eq, cx_14, en_14, rt_14, rx_aload_n, rx_iconst, rx_if_ne, rx_iload_n, rx_invs, rx_max2, rx_min2, rx_copy2, rx_invv, ev_cv, rx_ireturn, kl_10, kl_11, ev_K, ev_pI, ev_pR, ev_pVi, ev_pVr, ev_sI, ev_sR, ev_KC, ev_k, ev_ko, ev_pop0, ev_pops, am_ld, am_sv, am_at, am_st, am_g, List.length_cons, List.length_nil, Nat.reduceAdd, Nat.reduceLT, Nat.zero_add, if_true, if_false, and_self, true_or, or_true, true_and, and_true, not_true_eq_false, not_false_eq_true, reduceCtorEq, eq_self, Option.toList_some, Option.toList_none, List.cons_append, List.nil_append, Bool.false_eq_true, hk, i_10, v0]
  refine am_CL_of q2 ?_
  simp only [am_R_eq, cx_14, en_14, rt_14, rx_aload_n, rx_iconst, rx_if_ne, rx_iload_n, rx_invs, rx_max2, rx_min2, rx_copy2, rx_invv, ev_cv, rx_ireturn, kl_10, kl_11, ev_K, ev_pI, ev_pR, ev_pVi, ev_pVr, ev_sI, ev_sR, ev_KC, ev_k, ev_ko, ev_pop0, ev_pops, am_ld, am_sv, am_at, am_st, am_g, List.length_cons, List.length_nil, Nat.reduceAdd, Nat.reduceLT, Nat.zero_add, if_true, if_false, and_self, true_or, or_true, true_and, and_true, not_true_eq_false, not_false_eq_true, reduceCtorEq, eq_self, Option.toList_some, Option.toList_none, List.cons_append, List.nil_append, Bool.false_eq_true]
end VD2
