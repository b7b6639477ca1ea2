section VD3
variable {z : Nat} {h : am_H} {ad : Nat → Nat} {tt rr aa : Nat → Nat → Nat} {R : Nat → List Nat} {C : Nat → Nat → List Nat} {fl : Nat → Nat → Int32} {c : Nat → Nat} {tk cb tb sb g : Nat → Nat} {S : Nat → Int32} {En : Nat → Prop} {E : Nat → Nat → Int32} {v : Nat → Int32}
theorem vl_flush0 (d : Nat) (hV : vs_V z h ad tt rr aa R C fl c tk cb tb sb g S En E v) (hM : R 1 = []) : am_M z (d + 1 + 1 + 1) 43 [.ref (ad 0)] h (some (.int (nI 0))) h := by
  have q1 := vl_empty0 d hV hM
  obtain ⟨v0, -⟩ := hV
  rw [am_M_eq]
  simp only [am_R_eq, cx_43, en_43, rt_43, rx_aload_n, rx_invv, ev_cv, rx_ireturn, kl_18, ev_K, ev_pI, ev_pR, ev_pVi, ev_pVr, ev_sI, ev_sR, ev_KC, ev_k, ev_ko, ev_pop0, ev_pops, am_ld, am_sv, am_at, am_st, am_g, List.length_cons, List.length_nil, Nat.reduceAdd, Nat.reduceLT, Nat.zero_add, if_true, if_false, and_self, true_or, or_true, true_and, and_true, not_true_eq_false, not_false_eq_true, reduceCtorEq, eq_self, Option.toList_some, Option.toList_none, List.cons_append, List.nil_append, Bool.false_eq_true, v0]
  refine am_CL_of q1 ?_
  simp only [am_R_eq, cx_43, en_43, rt_43, rx_aload_n, rx_invv, ev_cv, rx_ireturn, kl_18, ev_K, ev_pI, ev_pR, ev_pVi, ev_pVr, ev_sI, ev_sR, ev_KC, ev_k, ev_ko, ev_pop0, ev_pops, am_ld, am_sv, am_at, am_st, am_g, List.length_cons, List.length_nil, Nat.reduceAdd, Nat.reduceLT, Nat.zero_add, if_true, if_false, and_self, true_or, or_true, true_and, and_true, not_true_eq_false, not_false_eq_true, reduceCtorEq, eq_self, Option.toList_some, Option.toList_none, List.cons_append, List.nil_append, Bool.false_eq_true]
theorem vl_flush (d : Nat) {f0 f1 f2 : List Nat} (h0 : e_fl (C 0) 0 (c 0) = f0) (h1 : e_fl (C 1) 0 (c 1) = f1) (h2 : e_fl (C 2) 0 (c 2) = f2) (hV : vs_V z h ad tt rr aa R C fl c tk cb tb sb g S En E v) (hM : R 1 ≠ []) (r1 : c 0 = 4 → f0.length + f1.length ≤ 44) (r2 : c 0 = 4 → f2.length ≤ 128) (r3 : c 0 = 4 → 12 < (e_rs E S (v 0) (ad 1) 1 f0 f1).length → (e_rs E S (v 0) (ad 1) 2 (e_rs E S (v 0) (ad 1) 1 f0 f1) f2).length ≤ 132) :
    ∃ h' C1 fl1 c1, am_M z (d + 1 + 1 + 1 + 1 + 1 + 1 + 1) 43 [.ref (ad 0)] h (some (.int (nI (R 1).length))) h' ∧
      vs_V z h' ad (va_up tt 0 (e_rot (c1 0) (tt 0))) (va_up rr 0 (e_rot (c1 0) (rr 0))) (va_up aa 0 (e_rot (c1 0) (aa 0))) (va_up (va_up R 1 []) 2 (e_du E (e_ta S E) (ad 1) ((R 1).foldl (e_ik E) []))) (va_up C1 0 (va_up (e_rot (c1 0) (C1 0)) 0 (e_du E (e_ta S E) (ad 1) ((R 1).foldl (e_ik E) [])))) (va_up fl1 0 (va_up (e_rot (c1 0) (fl1 0)) 0 ((e_du E (e_ta S E) (ad 1) ((R 1).foldl (e_ik E) [])).foldl (e_ff E) 0))) (va_up c1 0 (c1 0 + 1)) tk cb tb sb (va_up g 2 0) S En E v ∧ h'.2 = h.2 ∧ vs_em E S (v 0) (ad 1) f0 f1 f2 C C1 fl fl1 c c1 := by
  obtain ⟨h', C1, fl1, c1, a1, a2, a3, a4⟩ := vl_empty d h0 h1 h2 hV hM r1 r2 r3
  refine ⟨h', C1, fl1, c1, ?_, a2, a3, a4⟩
  obtain ⟨v0, -⟩ := hV
  rw [am_M_eq]
  simp only [am_R_eq, cx_43, en_43, rt_43, rx_aload_n, rx_invv, ev_cv, rx_ireturn, kl_18, ev_K, ev_pI, ev_pR, ev_pVi, ev_pVr, ev_sI, ev_sR, ev_KC, ev_k, ev_ko, ev_pop0, ev_pops, am_ld, am_sv, am_at, am_st, am_g, List.length_cons, List.length_nil, Nat.reduceAdd, Nat.reduceLT, Nat.zero_add, if_true, if_false, and_self, true_or, or_true, true_and, and_true, not_true_eq_false, not_false_eq_true, reduceCtorEq, eq_self, Option.toList_some, Option.toList_none, List.cons_append, List.nil_append, Bool.false_eq_true, v0]
  refine am_CL_of a1 ?_
  simp only [am_R_eq, cx_43, en_43, rt_43, rx_aload_n, rx_invv, ev_cv, rx_ireturn, kl_18, ev_K, ev_pI, ev_pR, ev_pVi, ev_pVr, ev_sI, ev_sR, ev_KC, ev_k, ev_ko, ev_pop0, ev_pops, am_ld, am_sv, am_at, am_st, am_g, List.length_cons, List.length_nil, Nat.reduceAdd, Nat.reduceLT, Nat.zero_add, if_true, if_false, and_self, true_or, or_true, true_and, and_true, not_true_eq_false, not_false_eq_true, reduceCtorEq, eq_self, Option.toList_some, Option.toList_none, List.cons_append, List.nil_append, Bool.false_eq_true]
theorem vl_commitB (d : Nat) {f0 f1 f2 : List Nat} {last : Nat} (h0 : e_fl (C 0) 0 (c 0) = f0) (h1 : e_fl (C 1) 0 (c 1) = f1) (h2 : e_fl (C 2) 0 (c 2) = f2) (hV : vs_V z h ad tt rr aa R C fl c tk cb tb sb g S En E v) (r1 : c 0 = 4 → f0.length + f1.length ≤ 44) (r2 : c 0 = 4 → f2.length ≤ 128) (r3 : c 0 = 4 → 12 < (e_rs E S (v 0) (ad 1) 1 f0 f1).length → (e_rs E S (v 0) (ad 1) 2 (e_rs E S (v 0) (ad 1) 1 f0 f1) f2).length ≤ 132)
    (hB : R 0 ≠ []) (hl : last ≤ 5000) (hv : v 1 = nI last) (hM : 8 < (R 1).length + (R 0).length) (hf : ¬ (16 < tk (g 1 - 1) + 1 + (R 0).length ∧ 8 ≤ g 1)) (ht : tk (g 1 - 1) ≤ 16) (hb : ∀ x ∈ R 0, x ≠ ad 1) :
    ∃ h' h1 tt' rr' aa' R2 C1 fl1 c1, am_M z (d + 1 + 1 + 1 + 1 + 1 + 1 + 1) 15 [.ref (ad 0)] h (some (.int (nI (R 0).length))) h' ∧
      am_M z (d + 1 + 1 + 1 + 1 + 1 + 1) 18 [.ref (ad 0)] h (some (.int (nI (R 1).length))) h1 ∧
      vs_V z h1 ad tt' rr' aa' (va_up (va_up R 1 []) 2 R2) (va_up C1 0 (va_up (e_rot (c1 0) (C1 0)) 0 (e_du E (e_ta S E) (ad 1) ((R 1).foldl (e_ik E) [])))) (va_up fl1 0 (va_up (e_rot (c1 0) (fl1 0)) 0 ((e_du E (e_ta S E) (ad 1) ((R 1).foldl (e_ik E) [])).foldl (e_ff E) 0))) (va_up c1 0 (c1 0 + 1)) tk cb tb sb (va_up g 2 0) S En E v ∧
      vs_V z h' ad tt' rr' aa' (va_up (va_up (va_up (va_up R 1 []) 2 R2) 1 (R 0)) 0 []) (va_up C1 0 (va_up (e_rot (c1 0) (C1 0)) 0 (e_du E (e_ta S E) (ad 1) ((R 1).foldl (e_ik E) [])))) (va_up fl1 0 (va_up (e_rot (c1 0) (fl1 0)) 0 ((e_du E (e_ta S E) (ad 1) ((R 1).foldl (e_ik E) [])).foldl (e_ff E) 0))) (va_up c1 0 (c1 0 + 1)) (va_up (e_bt tk (g 1) (R 0).length) (e_bc tk (g 1) (R 0).length - 1) (e_bt tk (g 1) (R 0).length (e_bc tk (g 1) (R 0).length - 1) + (R 0).length)) (va_up cb 0 (g 1)) (va_up tb 0 (tk (g 1 - 1))) (va_up sb 0 last) (e_lg (g 0) (e_bc tk (g 1) (R 0).length) 1) S En (e_wrs (v 0) (R 0) E last (g 0 + (e_bc tk (g 1) (R 0).length - 1)) (e_bt tk (g 1) (R 0).length (e_bc tk (g 1) (R 0).length - 1))) (va_up v 1 (nI (last + (R 0).length))) ∧ h1.2 = h.2 ∧ h'.2 = h.2 ∧ vs_em E S (v 0) (ad 1) f0 f1 f2 C C1 fl fl1 c c1 := by
  have r0 := (hV.2.2.2.1 0 (by omega)).1
  have r1' := (hV.2.2.2.1 1 (by omega)).1
  have hb6 : (R 0).length ≤ 6 := r0.2.1
  have hM8 : (R 1).length ≤ 8 := r1'.2.1
  have hM1 : R 1 ≠ [] := by
    intro q
    rw [q, List.length_nil] at hM
    omega
  have hpos : 0 < (R 0).length := by
    cases hR : R 0 with
    | nil => exact absurd hR hB
    | cons x t => simp
  obtain ⟨ha, C1, fl1, c1, a1, a2, a3, a4⟩ := vl_empty d h0 h1 h2 hV hM1 r1 r2 r3
  generalize hR2 : e_du E (e_ta S E) (ad 1) ((R 1).foldl (e_ik E) []) = R2 at *
  have e0 : va_up (va_up R 1 []) 2 R2 0 = R 0 := by rw [va_up_ne _ _ (by decide), va_up_ne _ _ (by decide)]
  have e1 : va_up (va_up R 1 []) 2 R2 1 = [] := by rw [va_up_ne _ _ (by decide), va_up_self]
  obtain ⟨hb', b1, b2, b3⟩ := vl_writeBatch (d + 1 + 1 + 1) (R := va_up (va_up R 1 []) 2 R2) (g := va_up g 2 0) hl hv (by rw [e0, e1, List.length_nil]; omega) (by show 0 < 8; omega) (by rw [e0]; intro q; show g 1 < 8; have q' : 16 < tk (g 1 - 1) + 1 + (R 0).length := q; omega) ht (by rw [e0]; exact hb) a2
  rw [e0, e1, List.nil_append] at b2
  refine ⟨hb', ha, _, _, _, R2, C1, fl1, c1, ?_, a1, a2, b2, a3, by rw [b3, a3], a4⟩
  obtain ⟨v0, v1, v2, v3, v4, v5, v6, v7, v8⟩ := hV
  obtain ⟨w0, -⟩ := a2
  have p0 := r0.1
  have p1 := r1'.1
  have lg0 := v5.1
  have q0 := ro_size z (d + 1 + 1 + 1 + 1 + 1) r0
  have q2 := ro_size z (d + 1 + 1 + 1 + 1 + 1) r1'
  have q1 := lg_isFullFor z (d + 1 + 1 + 1 + 1) (v := (R 0).length) (by omega) v5
  rw [if_neg hf] at q1
  have e1 : ¬ nI (R 0).length = 0 := nI_ne0 hpos (by omega)
  have e2 : ¬ nI (R 1).length + nI (R 0).length ≤ 8 := by rw [nI_add]; exact nI_ge (a := 8) hM (by omega)
  rw [am_M_eq]
  simp only [am_R_eq, cx_15, en_15, rt_15, rx_aload_n, rx_bipush, rx_getfield, ev_gf, rx_iadd, rx_icmp_le, rx_if_eq, rx_if_ne, rx_iload_n, rx_invv, ev_cv, rx_ireturn, rx_istore_n, rx_pop_i, rx_pop_r, kl_12, kl_16, kl_18, kl_37, ev_K, ev_pI, ev_pR, ev_pVi, ev_pVr, ev_sI, ev_sR, ev_KC, ev_k, ev_ko, ev_pop0, ev_pops, am_ld, am_sv, am_at, am_st, am_g, List.length_cons, List.length_nil, Nat.reduceAdd, Nat.reduceLT, Nat.zero_add, if_true, if_false, and_self, true_or, or_true, true_and, and_true, not_true_eq_false, not_false_eq_true, reduceCtorEq, eq_self, Option.toList_some, Option.toList_none, List.cons_append, List.nil_append, Bool.false_eq_true, v0, p0]
  refine am_CL_of q0 ?_
  simp only [am_R_eq, cx_15, en_15, rt_15, rx_aload_n, rx_bipush, rx_getfield, ev_gf, rx_iadd, rx_icmp_le, rx_if_eq, rx_if_ne, rx_iload_n, rx_invv, ev_cv, rx_ireturn, rx_istore_n, rx_pop_i, rx_pop_r, kl_12, kl_16, kl_18, kl_37, ev_K, ev_pI, ev_pR, ev_pVi, ev_pVr, ev_sI, ev_sR, ev_KC, ev_k, ev_ko, ev_pop0, ev_pops, am_ld, am_sv, am_at, am_st, am_g, List.length_cons, List.length_nil, Nat.reduceAdd, Nat.reduceLT, Nat.zero_add, if_true, if_false, and_self, true_or, or_true, true_and, and_true, not_true_eq_false, not_false_eq_true, reduceCtorEq, eq_self, Option.toList_some, Option.toList_none, List.cons_append, List.nil_append, Bool.false_eq_true, e1, v0, lg0]
  refine am_CL_of q1 ?_
  simp only [am_R_eq, cx_15, en_15, rt_15, rx_aload_n, rx_bipush, rx_getfield, ev_gf, rx_iadd, rx_icmp_le, rx_if_eq, rx_if_ne, rx_iload_n, rx_invv, ev_cv, rx_ireturn, rx_istore_n, rx_pop_i, rx_pop_r, kl_12, kl_16, kl_18, kl_37, ev_K, ev_pI, ev_pR, ev_pVi, ev_pVr, ev_sI, ev_sR, ev_KC, ev_k, ev_ko, ev_pop0, ev_pops, am_ld, am_sv, am_at, am_st, am_g, List.length_cons, List.length_nil, Nat.reduceAdd, Nat.reduceLT, Nat.zero_add, if_true, if_false, and_self, true_or, or_true, true_and, and_true, not_true_eq_false, not_false_eq_true, reduceCtorEq, eq_self, Option.toList_some, Option.toList_none, List.cons_append, List.nil_append, Bool.false_eq_true, v0, p1]
  refine am_CL_of q2 ?_
  simp only [am_R_eq, cx_15, en_15, rt_15, rx_aload_n, rx_bipush, rx_getfield, ev_gf, rx_iadd, rx_icmp_le, rx_if_eq, rx_if_ne, rx_iload_n, rx_invv, ev_cv, rx_ireturn, rx_istore_n, rx_pop_i, rx_pop_r, kl_12, kl_16, kl_18, kl_37, ev_K, ev_pI, ev_pR, ev_pVi, ev_pVr, ev_sI, ev_sR, ev_KC, ev_k, ev_ko, ev_pop0, ev_pops, am_ld, am_sv, am_at, am_st, am_g, List.length_cons, List.length_nil, Nat.reduceAdd, Nat.reduceLT, Nat.zero_add, if_true, if_false, and_self, true_or, or_true, true_and, and_true, not_true_eq_false, not_false_eq_true, reduceCtorEq, eq_self, Option.toList_some, Option.toList_none, List.cons_append, List.nil_append, Bool.false_eq_true, e2, v0]
  refine am_CL_of a1 ?_
  simp only [am_R_eq, cx_15, en_15, rt_15, rx_aload_n, rx_bipush, rx_getfield, ev_gf, rx_iadd, rx_icmp_le, rx_if_eq, rx_if_ne, rx_iload_n, rx_invv, ev_cv, rx_ireturn, rx_istore_n, rx_pop_i, rx_pop_r, kl_12, kl_16, kl_18, kl_37, ev_K, ev_pI, ev_pR, ev_pVi, ev_pVr, ev_sI, ev_sR, ev_KC, ev_k, ev_ko, ev_pop0, ev_pops, am_ld, am_sv, am_at, am_st, am_g, List.length_cons, List.length_nil, Nat.reduceAdd, Nat.reduceLT, Nat.zero_add, if_true, if_false, and_self, true_or, or_true, true_and, and_true, not_true_eq_false, not_false_eq_true, reduceCtorEq, eq_self, Option.toList_some, Option.toList_none, List.cons_append, List.nil_append, Bool.false_eq_true, w0]
  refine am_CL_of b1 ?_
  simp only [am_R_eq, cx_15, en_15, rt_15, rx_aload_n, rx_bipush, rx_getfield, ev_gf, rx_iadd, rx_icmp_le, rx_if_eq, rx_if_ne, rx_iload_n, rx_invv, ev_cv, rx_ireturn, rx_istore_n, rx_pop_i, rx_pop_r, kl_12, kl_16, kl_18, kl_37, ev_K, ev_pI, ev_pR, ev_pVi, ev_pVr, ev_sI, ev_sR, ev_KC, ev_k, ev_ko, ev_pop0, ev_pops, am_ld, am_sv, am_at, am_st, am_g, List.length_cons, List.length_nil, Nat.reduceAdd, Nat.reduceLT, Nat.zero_add, if_true, if_false, and_self, true_or, or_true, true_and, and_true, not_true_eq_false, not_false_eq_true, reduceCtorEq, eq_self, Option.toList_some, Option.toList_none, List.cons_append, List.nil_append, Bool.false_eq_true]
theorem vl_mergeBad (d : Nat) {x : Nat} {k : Int32} (h0 : ¬ k = 0) (h1 : ¬ k = 1) : am_M z (d + 1) 44 [.ref x, .int k] h (some (.int (-1))) h := by
  rw [am_M_eq]
  simp only [am_R_eq, cx_44, en_44, rt_44, rx_aload_n, rx_bipush, rx_getfield, ev_gf, rx_goto, rx_iconst, rx_icmp_eq, rx_if_eq, rx_if_ne, rx_iload_n, rx_invv, ev_cv, rx_ireturn, kl_19, kl_20, kl_21, kl_45, ev_K, ev_pI, ev_pR, ev_pVi, ev_pVr, ev_sI, ev_sR, ev_KC, ev_k, ev_ko, ev_pop0, ev_pops, am_ld, am_sv, am_at, am_st, am_g, List.length_cons, List.length_nil, Nat.reduceAdd, Nat.reduceLT, Nat.zero_add, if_true, if_false, and_self, true_or, or_true, true_and, and_true, not_true_eq_false, not_false_eq_true, reduceCtorEq, eq_self, Option.toList_some, Option.toList_none, List.cons_append, List.nil_append, Bool.false_eq_true, h0, h1]
theorem vl_mergeNone (d : Nat) {u : Nat} (hu : u < 2) (hc : c u = 0) (hV : vs_V z h ad tt rr aa R C fl c tk cb tb sb g S En E v) : am_M z (d + 1 + 1) 44 [.ref (ad 0), .int (nI u)] h (some (.int (-2))) h := by
  have q1 := vl_levelAt d (l := u) (by omega) hV
  obtain ⟨v0, v1, v2, v3, v4, v5, v6, v7, v8⟩ := hV
  have hl := (v4 u (by omega)).1
  have l0 := hl.1
  have q2 := le_tableCount z d hl
  rw [hc] at q2
  have e2 : nI 0 = 0 := rfl
  rw [am_M_eq]
  rcases (by omega : u = 0 ∨ u = 1) with q | q <;> subst q
  · simp only [am_R_eq, cx_44, en_44, rt_44, rx_aload_n, rx_bipush, rx_getfield, ev_gf, rx_goto, rx_iconst, rx_icmp_eq, rx_if_eq, rx_if_ne, rx_iload_n, rx_invv, ev_cv, rx_ireturn, kl_19, kl_20, kl_21, kl_45, ev_K, ev_pI, ev_pR, ev_pVi, ev_pVr, ev_sI, ev_sR, ev_KC, ev_k, ev_ko, ev_pop0, ev_pops, am_ld, am_sv, am_at, am_st, am_g, List.length_cons, List.length_nil, Nat.reduceAdd, Nat.reduceLT, Nat.zero_add, if_true, if_false, and_self, true_or, or_true, true_and, and_true, not_true_eq_false, not_false_eq_true, reduceCtorEq, eq_self, Option.toList_some, Option.toList_none, List.cons_append, List.nil_append, Bool.false_eq_true, e2, v0]
    refine am_CL_of q1 ?_
    simp only [am_R_eq, cx_44, en_44, rt_44, rx_aload_n, rx_bipush, rx_getfield, ev_gf, rx_goto, rx_iconst, rx_icmp_eq, rx_if_eq, rx_if_ne, rx_iload_n, rx_invv, ev_cv, rx_ireturn, kl_19, kl_20, kl_21, kl_45, ev_K, ev_pI, ev_pR, ev_pVi, ev_pVr, ev_sI, ev_sR, ev_KC, ev_k, ev_ko, ev_pop0, ev_pops, am_ld, am_sv, am_at, am_st, am_g, List.length_cons, List.length_nil, Nat.reduceAdd, Nat.reduceLT, Nat.zero_add, if_true, if_false, and_self, true_or, or_true, true_and, and_true, not_true_eq_false, not_false_eq_true, reduceCtorEq, eq_self, Option.toList_some, Option.toList_none, List.cons_append, List.nil_append, Bool.false_eq_true, l0]
    refine am_CL_of q2 ?_
    simp only [am_R_eq, cx_44, en_44, rt_44, rx_aload_n, rx_bipush, rx_getfield, ev_gf, rx_goto, rx_iconst, rx_icmp_eq, rx_if_eq, rx_if_ne, rx_iload_n, rx_invv, ev_cv, rx_ireturn, kl_19, kl_20, kl_21, kl_45, ev_K, ev_pI, ev_pR, ev_pVi, ev_pVr, ev_sI, ev_sR, ev_KC, ev_k, ev_ko, ev_pop0, ev_pops, am_ld, am_sv, am_at, am_st, am_g, List.length_cons, List.length_nil, Nat.reduceAdd, Nat.reduceLT, Nat.zero_add, if_true, if_false, and_self, true_or, or_true, true_and, and_true, not_true_eq_false, not_false_eq_true, reduceCtorEq, eq_self, Option.toList_some, Option.toList_none, List.cons_append, List.nil_append, Bool.false_eq_true, e2]
  · have e3 : nI 1 = 1 := rfl
    simp only [am_R_eq, cx_44, en_44, rt_44, rx_aload_n, rx_bipush, rx_getfield, ev_gf, rx_goto, rx_iconst, rx_icmp_eq, rx_if_eq, rx_if_ne, rx_iload_n, rx_invv, ev_cv, rx_ireturn, kl_19, kl_20, kl_21, kl_45, ev_K, ev_pI, ev_pR, ev_pVi, ev_pVr, ev_sI, ev_sR, ev_KC, ev_k, ev_ko, ev_pop0, ev_pops, am_ld, am_sv, am_at, am_st, am_g, List.length_cons, List.length_nil, Nat.reduceAdd, Nat.reduceLT, Nat.zero_add, if_true, if_false, and_self, true_or, or_true, true_and, and_true, not_true_eq_false, not_false_eq_true, reduceCtorEq, eq_self, Option.toList_some, Option.toList_none, List.cons_append, List.nil_append, Bool.false_eq_true, e3, i_10, v0]
    refine am_CL_of q1 ?_
    simp only [am_R_eq, cx_44, en_44, rt_44, rx_aload_n, rx_bipush, rx_getfield, ev_gf, rx_goto, rx_iconst, rx_icmp_eq, rx_if_eq, rx_if_ne, rx_iload_n, rx_invv, ev_cv, rx_ireturn, kl_19, kl_20, kl_21, kl_45, ev_K, ev_pI, ev_pR, ev_pVi, ev_pVr, ev_sI, ev_sR, ev_KC, ev_k, ev_ko, ev_pop0, ev_pops, am_ld, am_sv, am_at, am_st, am_g, List.length_cons, List.length_nil, Nat.reduceAdd, Nat.reduceLT, Nat.zero_add, if_true, if_false, and_self, true_or, or_true, true_and, and_true, not_true_eq_false, not_false_eq_true, reduceCtorEq, eq_self, Option.toList_some, Option.toList_none, List.cons_append, List.nil_append, Bool.false_eq_true, l0]
    refine am_CL_of q2 ?_
    simp only [am_R_eq, cx_44, en_44, rt_44, rx_aload_n, rx_bipush, rx_getfield, ev_gf, rx_goto, rx_iconst, rx_icmp_eq, rx_if_eq, rx_if_ne, rx_iload_n, rx_invv, ev_cv, rx_ireturn, kl_19, kl_20, kl_21, kl_45, ev_K, ev_pI, ev_pR, ev_pVi, ev_pVr, ev_sI, ev_sR, ev_KC, ev_k, ev_ko, ev_pop0, ev_pops, am_ld, am_sv, am_at, am_st, am_g, List.length_cons, List.length_nil, Nat.reduceAdd, Nat.reduceLT, Nat.zero_add, if_true, if_false, and_self, true_or, or_true, true_and, and_true, not_true_eq_false, not_false_eq_true, reduceCtorEq, eq_self, Option.toList_some, Option.toList_none, List.cons_append, List.nil_append, Bool.false_eq_true, e2]
theorem vl_merge0 (d : Nat) {f0 f1 f2 : List Nat} (h0 : e_fl (C 0) 0 (c 0) = f0) (h1 : e_fl (C 1) 0 (c 1) = f1) (h2 : e_fl (C 2) 0 (c 2) = f2) (hV : vs_V z h ad tt rr aa R C fl c tk cb tb sb g S En E v) (hc : 0 < c 0) (r1 : f0.length + f1.length ≤ 44) (r2 : f2.length ≤ 128) (r3 : 12 < (e_rs E S (v 0) (ad 1) 1 f0 f1).length → (e_rs E S (v 0) (ad 1) 2 (e_rs E S (v 0) (ad 1) 1 f0 f1) f2).length ≤ 132) :
    ∃ h' R2 C' fl' c' r, am_M z (d + 1 + 1 + 1 + 1 + 1 + 1) 44 [.ref (ad 0), .int (nI 0)] h (some (.int (nI r))) h' ∧ vs_V z h' ad tt rr aa (va_up R 2 R2) C' fl' c' tk cb tb sb g S En E v ∧ h'.2 = h.2 ∧ vs_mt E S (v 0) (ad 1) f0 f1 f2 C C' fl fl' c c' r := by
  obtain ⟨h', R2, C', fl', c', r, a1, a2, a3, a4⟩ := vl_mergeTop d h0 h1 h2 hV r1 r2 r3
  refine ⟨h', R2, C', fl', c', r, ?_, a2, a3, a4⟩
  have q1 := vl_levelAt (d + 1 + 1 + 1 + 1) (l := 0) (by omega) hV
  obtain ⟨v0, v1, v2, v3, v4, v5, v6, v7, v8⟩ := hV
  have hl := (v4 0 (by omega)).1
  have l0 := hl.1
  have hc4 : c 0 ≤ 4 := hl.2.1
  have q2 := le_tableCount z (d + 1 + 1 + 1 + 1) hl
  have e2 : nI 0 = 0 := rfl
  have e1 : ¬ nI (c 0) = 0 := nI_ne0 hc (by omega)
  rw [am_M_eq]
  simp only [am_R_eq, cx_44, en_44, rt_44, rx_aload_n, rx_bipush, rx_getfield, ev_gf, rx_goto, rx_iconst, rx_icmp_eq, rx_if_eq, rx_if_ne, rx_iload_n, rx_invv, ev_cv, rx_ireturn, kl_19, kl_20, kl_21, kl_45, ev_K, ev_pI, ev_pR, ev_pVi, ev_pVr, ev_sI, ev_sR, ev_KC, ev_k, ev_ko, ev_pop0, ev_pops, am_ld, am_sv, am_at, am_st, am_g, List.length_cons, List.length_nil, Nat.reduceAdd, Nat.reduceLT, Nat.zero_add, if_true, if_false, and_self, true_or, or_true, true_and, and_true, not_true_eq_false, not_false_eq_true, reduceCtorEq, eq_self, Option.toList_some, Option.toList_none, List.cons_append, List.nil_append, Bool.false_eq_true, e2, v0]
  refine am_CL_of q1 ?_
  simp only [am_R_eq, cx_44, en_44, rt_44, rx_aload_n, rx_bipush, rx_getfield, ev_gf, rx_goto, rx_iconst, rx_icmp_eq, rx_if_eq, rx_if_ne, rx_iload_n, rx_invv, ev_cv, rx_ireturn, kl_19, kl_20, kl_21, kl_45, ev_K, ev_pI, ev_pR, ev_pVi, ev_pVr, ev_sI, ev_sR, ev_KC, ev_k, ev_ko, ev_pop0, ev_pops, am_ld, am_sv, am_at, am_st, am_g, List.length_cons, List.length_nil, Nat.reduceAdd, Nat.reduceLT, Nat.zero_add, if_true, if_false, and_self, true_or, or_true, true_and, and_true, not_true_eq_false, not_false_eq_true, reduceCtorEq, eq_self, Option.toList_some, Option.toList_none, List.cons_append, List.nil_append, Bool.false_eq_true, l0]
  refine am_CL_of q2 ?_
  simp only [am_R_eq, cx_44, en_44, rt_44, rx_aload_n, rx_bipush, rx_getfield, ev_gf, rx_goto, rx_iconst, rx_icmp_eq, rx_if_eq, rx_if_ne, rx_iload_n, rx_invv, ev_cv, rx_ireturn, kl_19, kl_20, kl_21, kl_45, ev_K, ev_pI, ev_pR, ev_pVi, ev_pVr, ev_sI, ev_sR, ev_KC, ev_k, ev_ko, ev_pop0, ev_pops, am_ld, am_sv, am_at, am_st, am_g, List.length_cons, List.length_nil, Nat.reduceAdd, Nat.reduceLT, Nat.zero_add, if_true, if_false, and_self, true_or, or_true, true_and, and_true, not_true_eq_false, not_false_eq_true, reduceCtorEq, eq_self, Option.toList_some, Option.toList_none, List.cons_append, List.nil_append, Bool.false_eq_true, e1, e2, v0]
  refine am_CL_of a1 ?_
  simp only [am_R_eq, cx_44, en_44, rt_44, rx_aload_n, rx_bipush, rx_getfield, ev_gf, rx_goto, rx_iconst, rx_icmp_eq, rx_if_eq, rx_if_ne, rx_iload_n, rx_invv, ev_cv, rx_ireturn, kl_19, kl_20, kl_21, kl_45, ev_K, ev_pI, ev_pR, ev_pVi, ev_pVr, ev_sI, ev_sR, ev_KC, ev_k, ev_ko, ev_pop0, ev_pops, am_ld, am_sv, am_at, am_st, am_g, List.length_cons, List.length_nil, Nat.reduceAdd, Nat.reduceLT, Nat.zero_add, if_true, if_false, and_self, true_or, or_true, true_and, and_true, not_true_eq_false, not_false_eq_true, reduceCtorEq, eq_self, Option.toList_some, Option.toList_none, List.cons_append, List.nil_append, Bool.false_eq_true]
theorem vl_merge1 (d : Nat) {f1 f2 : List Nat} (h1 : e_fl (C 1) 0 (c 1) = f1) (h2 : e_fl (C 2) 0 (c 2) = f2) (hV : vs_V z h ad tt rr aa R C fl c tk cb tb sb g S En E v) (hc : 0 < c 1) (r1 : f1.length + f2.length ≤ 172) (r3 : (e_rs E S (v 0) (ad 1) 2 f1 f2).length ≤ 132) :
    ∃ h' C2 fl2, am_M z (d + 1 + 1 + 1 + 1 + 1) 44 [.ref (ad 0), .int (nI 1)] h (some (.int (nI (f1.length + f2.length - (e_rs E S (v 0) (ad 1) 2 f1 f2).length)))) h' ∧
      vs_V z h' ad tt rr aa (va_up R 2 (e_rs E S (v 0) (ad 1) 2 f1 f2)) (va_up C 2 C2) (va_up fl 2 fl2) (va_up (va_up c 1 0) 2 (((e_rs E S (v 0) (ad 1) 2 f1 f2).length + 5) / 6)) tk cb tb sb g S En E v ∧ h'.2 = h.2 ∧ vs_cut E C2 fl2 (e_rs E S (v 0) (ad 1) 2 f1 f2) := by
  obtain ⟨h', C2, fl2, a1, a2, a3, a4⟩ := vl_mergePair' d (u := 1) (w := 2) (by omega) rfl h1 h2 hV r1 (by show _ ≤ 22; omega)
  refine ⟨h', C2, fl2, ?_, a2, a3, a4⟩
  have q1 := vl_levelAt (d + 1 + 1 + 1) (l := 1) (by omega) hV
  obtain ⟨v0, v1, v2, v3, v4, v5, v6, v7, v8⟩ := hV
  have hl := (v4 1 (by omega)).1
  have l0 := hl.1
  have l5 := (v4 1 (by omega)).1.1
  have hc4 : c 1 ≤ 8 := hl.2.1
  have q2 := le_tableCount z (d + 1 + 1 + 1) hl
  have e2 : nI 1 = 1 := rfl
  have e1 : ¬ nI (c 1) = 0 := nI_ne0 hc (by omega)
  rw [am_M_eq]
  simp only [am_R_eq, cx_44, en_44, rt_44, rx_aload_n, rx_bipush, rx_getfield, ev_gf, rx_goto, rx_iconst, rx_icmp_eq, rx_if_eq, rx_if_ne, rx_iload_n, rx_invv, ev_cv, rx_ireturn, kl_19, kl_20, kl_21, kl_45, ev_K, ev_pI, ev_pR, ev_pVi, ev_pVr, ev_sI, ev_sR, ev_KC, ev_k, ev_ko, ev_pop0, ev_pops, am_ld, am_sv, am_at, am_st, am_g, List.length_cons, List.length_nil, Nat.reduceAdd, Nat.reduceLT, Nat.zero_add, if_true, if_false, and_self, true_or, or_true, true_and, and_true, not_true_eq_false, not_false_eq_true, reduceCtorEq, eq_self, Option.toList_some, Option.toList_none, List.cons_append, List.nil_append, Bool.false_eq_true, e2, i_10, v0]
  refine am_CL_of q1 ?_
  simp only [am_R_eq, cx_44, en_44, rt_44, rx_aload_n, rx_bipush, rx_getfield, ev_gf, rx_goto, rx_iconst, rx_icmp_eq, rx_if_eq, rx_if_ne, rx_iload_n, rx_invv, ev_cv, rx_ireturn, kl_19, kl_20, kl_21, kl_45, ev_K, ev_pI, ev_pR, ev_pVi, ev_pVr, ev_sI, ev_sR, ev_KC, ev_k, ev_ko, ev_pop0, ev_pops, am_ld, am_sv, am_at, am_st, am_g, List.length_cons, List.length_nil, Nat.reduceAdd, Nat.reduceLT, Nat.zero_add, if_true, if_false, and_self, true_or, or_true, true_and, and_true, not_true_eq_false, not_false_eq_true, reduceCtorEq, eq_self, Option.toList_some, Option.toList_none, List.cons_append, List.nil_append, Bool.false_eq_true, l0]
  refine am_CL_of q2 ?_
  simp only [am_R_eq, cx_44, en_44, rt_44, rx_aload_n, rx_bipush, rx_getfield, ev_gf, rx_goto, rx_iconst, rx_icmp_eq, rx_if_eq, rx_if_ne, rx_iload_n, rx_invv, ev_cv, rx_ireturn, kl_19, kl_20, kl_21, kl_45, ev_K, ev_pI, ev_pR, ev_pVi, ev_pVr, ev_sI, ev_sR, ev_KC, ev_k, ev_ko, ev_pop0, ev_pops, am_ld, am_sv, am_at, am_st, am_g, List.length_cons, List.length_nil, Nat.reduceAdd, Nat.reduceLT, Nat.zero_add, if_true, if_false, and_self, true_or, or_true, true_and, and_true, not_true_eq_false, not_false_eq_true, reduceCtorEq, eq_self, Option.toList_some, Option.toList_none, List.cons_append, List.nil_append, Bool.false_eq_true, e1, e2, i_10, v0]
  refine am_CL_of a1 ?_
  simp only [am_R_eq, cx_44, en_44, rt_44, rx_aload_n, rx_bipush, rx_getfield, ev_gf, rx_goto, rx_iconst, rx_icmp_eq, rx_if_eq, rx_if_ne, rx_iload_n, rx_invv, ev_cv, rx_ireturn, kl_19, kl_20, kl_21, kl_45, ev_K, ev_pI, ev_pR, ev_pVi, ev_pVr, ev_sI, ev_sR, ev_KC, ev_k, ev_ko, ev_pop0, ev_pops, am_ld, am_sv, am_at, am_st, am_g, List.length_cons, List.length_nil, Nat.reduceAdd, Nat.reduceLT, Nat.zero_add, if_true, if_false, and_self, true_or, or_true, true_and, and_true, not_true_eq_false, not_false_eq_true, reduceCtorEq, eq_self, Option.toList_some, Option.toList_none, List.cons_append, List.nil_append, Bool.false_eq_true]
end VD3
