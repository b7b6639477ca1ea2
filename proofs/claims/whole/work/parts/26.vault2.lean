section VH
variable {z : Nat} {h : am_H} {ad : Nat → Nat} {tt rr aa : Nat → Nat → Nat} {R : Nat → List Nat} {C : Nat → Nat → List Nat} {fl : Nat → Nat → Int32} {c : Nat → Nat} {tk cb tb sb g : Nat → Nat} {S : Nat → Int32} {En : Nat → Prop} {E : Nat → Nat → Int32} {v : Nat → Int32}
theorem va_up_id {α : Type} (f : Nat → α) (k : Nat) : va_up f k (f k) = f := by
  funext i
  unfold va_up
  split
  · subst_vars; rfl
  · rfl
theorem vl_isKey (z d : Nat) (h : am_H) (k : Int32) : am_M z (d + 1) 10 [.int k] h (some (.int (if k < 0 ∨ 32 ≤ k then 0 else 1))) h := by
  rw [am_M_eq]
  by_cases c1 : k < 0
  · simp only [am_R_eq, cx_10, en_10, rt_10, rx_bipush, rx_goto, rx_iconst, rx_icmp_ge, rx_if_lt, rx_iload_n, rx_ireturn, ev_K, ev_pI, ev_pR, ev_pVi, ev_pVr, ev_sI, ev_sR, ev_KC, ev_k, ev_ko, ev_pop0, ev_pops, am_ld, am_sv, am_at, am_st, am_g, List.length_cons, List.length_nil, Nat.reduceAdd, Nat.reduceLT, Nat.zero_add, if_true, if_false, and_self, true_or, or_true, true_and, and_true, not_true_eq_false, not_false_eq_true, reduceCtorEq, eq_self, Option.toList_some, Option.toList_none, List.cons_append, List.nil_append, Bool.false_eq_true, c1, b00]
  · by_cases c2 : 32 ≤ k
    · simp only [am_R_eq, cx_10, en_10, rt_10, rx_bipush, rx_goto, rx_iconst, rx_icmp_ge, rx_if_lt, rx_iload_n, rx_ireturn, ev_K, ev_pI, ev_pR, ev_pVi, ev_pVr, ev_sI, ev_sR, ev_KC, ev_k, ev_ko, ev_pop0, ev_pops, am_ld, am_sv, am_at, am_st, am_g, List.length_cons, List.length_nil, Nat.reduceAdd, Nat.reduceLT, Nat.zero_add, if_true, if_false, and_self, true_or, or_true, true_and, and_true, not_true_eq_false, not_false_eq_true, reduceCtorEq, eq_self, Option.toList_some, Option.toList_none, List.cons_append, List.nil_append, Bool.false_eq_true, c1, c2, b00]
    · simp only [am_R_eq, cx_10, en_10, rt_10, rx_bipush, rx_goto, rx_iconst, rx_icmp_ge, rx_if_lt, rx_iload_n, rx_ireturn, ev_K, ev_pI, ev_pR, ev_pVi, ev_pVr, ev_sI, ev_sR, ev_KC, ev_k, ev_ko, ev_pop0, ev_pops, am_ld, am_sv, am_at, am_st, am_g, List.length_cons, List.length_nil, Nat.reduceAdd, Nat.reduceLT, Nat.zero_add, if_true, if_false, and_self, true_or, or_true, true_and, and_true, not_true_eq_false, not_false_eq_true, reduceCtorEq, eq_self, Option.toList_some, Option.toList_none, List.cons_append, List.nil_append, Bool.false_eq_true, c1, c2, b11, or_self]
theorem vl_levelAt (d : Nat) {l : Nat} (hl : l < 3) (hV : vs_V z h ad tt rr aa R C fl c tk cb tb sb g S En E v) : am_M z (d + 1) 45 [.ref (ad 0), .int (nI l)] h (some (.ref (ad (4 + l)))) h := by
  obtain ⟨v0, -⟩ := hV
  rw [am_M_eq]
  rcases (by omega : l = 0 ∨ l = 1 ∨ l = 2) with q | q | q <;> subst q
  · have e1 : nI 0 = 0 := rfl
    simp only [am_R_eq, cx_45, en_45, rt_45, rx_aload_n, rx_areturn, rx_getfield, ev_gf, rx_goto, rx_iconst, rx_icmp_ne, rx_if_ne, rx_iload_n, ev_K, ev_pI, ev_pR, ev_pVi, ev_pVr, ev_sI, ev_sR, ev_KC, ev_k, ev_ko, ev_pop0, ev_pops, am_ld, am_sv, am_at, am_st, am_g, List.length_cons, List.length_nil, Nat.reduceAdd, Nat.reduceLT, Nat.zero_add, if_true, if_false, and_self, true_or, or_true, true_and, and_true, not_true_eq_false, not_false_eq_true, reduceCtorEq, eq_self, Option.toList_some, Option.toList_none, List.cons_append, List.nil_append, Bool.false_eq_true, v0, e1]
  · have e1 : ¬ nI 1 = 0 := by decide
    have e2 : nI 1 = 1 := rfl
    simp only [am_R_eq, cx_45, en_45, rt_45, rx_aload_n, rx_areturn, rx_getfield, ev_gf, rx_goto, rx_iconst, rx_icmp_ne, rx_if_ne, rx_iload_n, ev_K, ev_pI, ev_pR, ev_pVi, ev_pVr, ev_sI, ev_sR, ev_KC, ev_k, ev_ko, ev_pop0, ev_pops, am_ld, am_sv, am_at, am_st, am_g, List.length_cons, List.length_nil, Nat.reduceAdd, Nat.reduceLT, Nat.zero_add, if_true, if_false, and_self, true_or, or_true, true_and, and_true, not_true_eq_false, not_false_eq_true, reduceCtorEq, eq_self, Option.toList_some, Option.toList_none, List.cons_append, List.nil_append, Bool.false_eq_true, v0, e2, i_10]
  · have e1 : ¬ nI 2 = 0 := by decide
    have e2 : ¬ nI 2 = 1 := by decide
    simp only [am_R_eq, cx_45, en_45, rt_45, rx_aload_n, rx_areturn, rx_getfield, ev_gf, rx_goto, rx_iconst, rx_icmp_ne, rx_if_ne, rx_iload_n, ev_K, ev_pI, ev_pR, ev_pVi, ev_pVr, ev_sI, ev_sR, ev_KC, ev_k, ev_ko, ev_pop0, ev_pops, am_ld, am_sv, am_at, am_st, am_g, List.length_cons, List.length_nil, Nat.reduceAdd, Nat.reduceLT, Nat.zero_add, if_true, if_false, and_self, true_or, or_true, true_and, and_true, not_true_eq_false, not_false_eq_true, reduceCtorEq, eq_self, Option.toList_some, Option.toList_none, List.cons_append, List.nil_append, Bool.false_eq_true, v0, e1, e2]
def e_sg (S : Nat → Int32) (last s : Int32) : Int32 := if s = -1 then last else if s < 0 ∨ 3 ≤ s then -1 else S s.toNatClampNeg
theorem vl_sightOf (d : Nat) {s : Int32} (hV : vs_V z h ad tt rr aa R C fl c tk cb tb sb g S En E v) : am_M z (d + 1 + 1) 71 [.ref (ad 0), .int s] h (some (.int (e_sg S (v 1) s))) h := by
  obtain ⟨v0, v1, v2, v3, v4, v5, v6, v7, v8⟩ := hV
  have s1 := v6.1
  rw [am_M_eq]
  unfold e_sg
  by_cases c1 : s = -1
  · simp only [am_R_eq, cx_71, en_71, rt_71, rx_aload_n, rx_getfield, ev_gf, rx_goto, rx_iconst, rx_icmp_ne, rx_iload_n, rx_invv, ev_cv, rx_ireturn, kl_60, ev_K, ev_pI, ev_pR, ev_pVi, ev_pVr, ev_sI, ev_sR, ev_KC, ev_k, ev_ko, ev_pop0, ev_pops, am_ld, am_sv, am_at, am_st, am_g, List.length_cons, List.length_nil, Nat.reduceAdd, Nat.reduceLT, Nat.zero_add, if_true, if_false, and_self, true_or, or_true, true_and, and_true, not_true_eq_false, not_false_eq_true, reduceCtorEq, eq_self, Option.toList_some, Option.toList_none, List.cons_append, List.nil_append, Bool.false_eq_true, v0, c1]
  · by_cases c2 : s < 0 ∨ 3 ≤ s
    · simp only [am_R_eq, cx_71, en_71, rt_71, rx_aload_n, rx_getfield, ev_gf, rx_goto, rx_iconst, rx_icmp_ne, rx_iload_n, rx_invv, ev_cv, rx_ireturn, kl_60, ev_K, ev_pI, ev_pR, ev_pVi, ev_pVr, ev_sI, ev_sR, ev_KC, ev_k, ev_ko, ev_pop0, ev_pops, am_ld, am_sv, am_at, am_st, am_g, List.length_cons, List.length_nil, Nat.reduceAdd, Nat.reduceLT, Nat.zero_add, if_true, if_false, and_self, true_or, or_true, true_and, and_true, not_true_eq_false, not_false_eq_true, reduceCtorEq, eq_self, Option.toList_some, Option.toList_none, List.cons_append, List.nil_append, Bool.false_eq_true, v0, c1, s1]
      refine am_CL_of (sn_sightOut z d c2) ?_
      simp only [am_R_eq, cx_71, en_71, rt_71, rx_aload_n, rx_getfield, ev_gf, rx_goto, rx_iconst, rx_icmp_ne, rx_iload_n, rx_invv, ev_cv, rx_ireturn, kl_60, ev_K, ev_pI, ev_pR, ev_pVi, ev_pVr, ev_sI, ev_sR, ev_KC, ev_k, ev_ko, ev_pop0, ev_pops, am_ld, am_sv, am_at, am_st, am_g, List.length_cons, List.length_nil, Nat.reduceAdd, Nat.reduceLT, Nat.zero_add, if_true, if_false, and_self, true_or, or_true, true_and, and_true, not_true_eq_false, not_false_eq_true, reduceCtorEq, eq_self, Option.toList_some, Option.toList_none, List.cons_append, List.nil_append, Bool.false_eq_true, c2]
    · obtain ⟨j, hj, rfl⟩ : ∃ j : Nat, j < 3 ∧ s = nI j := by
        rcases pk_ix s (n := 3) (by omega) with q | q | q
        · exact absurd (Or.inl q) c2
        · exact absurd (Or.inr q) c2
        · exact q
      have e1 : (nI j).toNatClampNeg = j := nI_clamp (by omega)
      simp only [am_R_eq, cx_71, en_71, rt_71, rx_aload_n, rx_getfield, ev_gf, rx_goto, rx_iconst, rx_icmp_ne, rx_iload_n, rx_invv, ev_cv, rx_ireturn, kl_60, ev_K, ev_pI, ev_pR, ev_pVi, ev_pVr, ev_sI, ev_sR, ev_KC, ev_k, ev_ko, ev_pop0, ev_pops, am_ld, am_sv, am_at, am_st, am_g, List.length_cons, List.length_nil, Nat.reduceAdd, Nat.reduceLT, Nat.zero_add, if_true, if_false, and_self, true_or, or_true, true_and, and_true, not_true_eq_false, not_false_eq_true, reduceCtorEq, eq_self, Option.toList_some, Option.toList_none, List.cons_append, List.nil_append, Bool.false_eq_true, v0, c1, s1]
      refine am_CL_of (sn_sightIn z d hj v6) ?_
      simp only [am_R_eq, cx_71, en_71, rt_71, rx_aload_n, rx_getfield, ev_gf, rx_goto, rx_iconst, rx_icmp_ne, rx_iload_n, rx_invv, ev_cv, rx_ireturn, kl_60, ev_K, ev_pI, ev_pR, ev_pVi, ev_pVr, ev_sI, ev_sR, ev_KC, ev_k, ev_ko, ev_pop0, ev_pops, am_ld, am_sv, am_at, am_st, am_g, List.length_cons, List.length_nil, Nat.reduceAdd, Nat.reduceLT, Nat.zero_add, if_true, if_false, and_self, true_or, or_true, true_and, and_true, not_true_eq_false, not_false_eq_true, reduceCtorEq, eq_self, Option.toList_some, Option.toList_none, List.cons_append, List.nil_append, Bool.false_eq_true, c2, e1]
theorem vl_probes (d : Nat) (hV : vs_V z h ad tt rr aa R C fl c tk cb tb sb g S En E v) : am_M z (d + 1) 82 [.ref (ad 0)] h (some (.int (v 3))) h := by
  obtain ⟨v0, -⟩ := hV
  rw [am_M_eq]
  simp only [am_R_eq, cx_82, en_82, rt_82, rx_aload_n, rx_getfield, ev_gf, rx_ireturn, ev_K, ev_pI, ev_pR, ev_pVi, ev_pVr, ev_sI, ev_sR, ev_KC, ev_k, ev_ko, ev_pop0, ev_pops, am_ld, am_sv, am_at, am_st, am_g, List.length_cons, List.length_nil, Nat.reduceAdd, Nat.reduceLT, Nat.zero_add, if_true, if_false, and_self, true_or, or_true, true_and, and_true, not_true_eq_false, not_false_eq_true, reduceCtorEq, eq_self, Option.toList_some, Option.toList_none, List.cons_append, List.nil_append, Bool.false_eq_true, v0]
theorem vl_tickNo (d : Nat) (h : am_H) {x : Nat} {k : Int32} (hk : k < 0 ∨ ¬ k ≤ 1000) : am_M z (d + 1) 61 [.ref x, .int k] h (some (.int (-1))) h := by
  rw [am_M_eq]
  by_cases c1 : k < 0
  · simp only [am_R_eq, cx_61, en_61, rt_61, rx_aload_n, rx_dup_i, rx_dup_r, rx_getfield, ev_gf, rx_iadd, rx_iconst, rx_icmp_le, rx_if_lt, rx_iload_n, rx_ireturn, rx_putfield, ev_pf, ev_w1, ev_KW, am_fok, am_ftv, rx_sipush, ev_K, ev_pI, ev_pR, ev_pVi, ev_pVr, ev_sI, ev_sR, ev_KC, ev_k, ev_ko, ev_pop0, ev_pops, am_ld, am_sv, am_at, am_st, am_g, List.length_cons, List.length_nil, Nat.reduceAdd, Nat.reduceLT, Nat.zero_add, if_true, if_false, and_self, true_or, or_true, true_and, and_true, not_true_eq_false, not_false_eq_true, reduceCtorEq, eq_self, Option.toList_some, Option.toList_none, List.cons_append, List.nil_append, Bool.false_eq_true, c1]
  · have c2 := hk.resolve_left c1
    simp only [am_R_eq, cx_61, en_61, rt_61, rx_aload_n, rx_dup_i, rx_dup_r, rx_getfield, ev_gf, rx_iadd, rx_iconst, rx_icmp_le, rx_if_lt, rx_iload_n, rx_ireturn, rx_putfield, ev_pf, ev_w1, ev_KW, am_fok, am_ftv, rx_sipush, ev_K, ev_pI, ev_pR, ev_pVi, ev_pVr, ev_sI, ev_sR, ev_KC, ev_k, ev_ko, ev_pop0, ev_pops, am_ld, am_sv, am_at, am_st, am_g, List.length_cons, List.length_nil, Nat.reduceAdd, Nat.reduceLT, Nat.zero_add, if_true, if_false, and_self, true_or, or_true, true_and, and_true, not_true_eq_false, not_false_eq_true, reduceCtorEq, eq_self, Option.toList_some, Option.toList_none, List.cons_append, List.nil_append, Bool.false_eq_true, c1, c2]
theorem vl_tick (d : Nat) {k : Int32} (h1 : ¬ k < 0) (h2 : k ≤ 1000) (hV : vs_V z h ad tt rr aa R C fl c tk cb tb sb g S En E v) : ∃ h', am_M z (d + 1) 61 [.ref (ad 0), .int k] h (some (.int (v 0 + k))) h' ∧ vs_V z h' ad tt rr aa R C fl c tk cb tb sb g S En E (va_up v 0 (v 0 + k)) ∧ h'.2 = h.2 := by
  have hV0 := hV
  obtain ⟨v0, v1, v2, v3, v4, v5, v6, v7, v8⟩ := hV
  have hz := v7.2.1 0 (by omega)
  refine ⟨_, ?_, hV0.fld (va_up v 0 (v 0 + k)), rfl⟩
  have e1 : vs_vo ad (va_up v 0 (v 0 + k)) = .inr (0, [.ref (ad 1), .ref (ad 10), .ref (ad 11), .ref (ad 4), .ref (ad 5), .ref (ad 6), .ref (ad 12), .ref (ad 13), .ref (ad 2), .ref (ad 3), .int (v 0 + k), .int (v 1), .int (v 2), .int (v 3)]) := rfl
  rw [e1, am_M_eq]
  simp only [am_R_eq, cx_61, en_61, rt_61, rx_aload_n, rx_dup_i, rx_dup_r, rx_getfield, ev_gf, rx_iadd, rx_iconst, rx_icmp_le, rx_if_lt, rx_iload_n, rx_ireturn, rx_putfield, ev_pf, ev_w1, ev_KW, am_fok, am_ftv, rx_sipush, ev_K, ev_pI, ev_pR, ev_pVi, ev_pVr, ev_sI, ev_sR, ev_KC, ev_k, ev_ko, ev_pop0, ev_pops, am_ld, am_sv, am_at, am_st, am_g, List.length_cons, List.length_nil, Nat.reduceAdd, Nat.reduceLT, Nat.zero_add, if_true, if_false, and_self, true_or, or_true, true_and, and_true, not_true_eq_false, not_false_eq_true, reduceCtorEq, eq_self, Option.toList_some, Option.toList_none, List.cons_append, List.nil_append, Bool.false_eq_true, h1, h2, v0, hz, am_up_at, Nat.reduceLeDiff, beq_self_eq_true]
theorem vl_sync (d : Nat) (hV : vs_V z h ad tt rr aa R C fl c tk cb tb sb g S En E v) : ∃ h', am_M z (d + 1 + 1) 42 [.ref (ad 0)] h (some (.int (nI (g 2)))) h' ∧ vs_V z h' ad tt rr aa R C fl c tk cb tb sb (va_up g 2 0) S En E v ∧ h'.2 = h.2 := by
  have hV0 := hV
  obtain ⟨v0, v1, v2, v3, v4, v5, v6, v7, v8⟩ := hV
  obtain ⟨h', m1, m2, m3⟩ := lg_syncAll z d (v7.2.1 2 (by omega)) v5
  have l0 := v5.1
  refine ⟨h', ?_, hV0.log m3 m2, m3.2⟩
  rw [am_M_eq]
  simp only [am_R_eq, cx_42, en_42, rt_42, rx_aload_n, rx_getfield, ev_gf, rx_invv, ev_cv, rx_ireturn, kl_36, ev_K, ev_pI, ev_pR, ev_pVi, ev_pVr, ev_sI, ev_sR, ev_KC, ev_k, ev_ko, ev_pop0, ev_pops, am_ld, am_sv, am_at, am_st, am_g, List.length_cons, List.length_nil, Nat.reduceAdd, Nat.reduceLT, Nat.zero_add, if_true, if_false, and_self, true_or, or_true, true_and, and_true, not_true_eq_false, not_false_eq_true, reduceCtorEq, eq_self, Option.toList_some, Option.toList_none, List.cons_append, List.nil_append, Bool.false_eq_true, v0, l0]
  refine am_CL_of m1 ?_
  simp only [am_R_eq, cx_42, en_42, rt_42, rx_aload_n, rx_getfield, ev_gf, rx_invv, ev_cv, rx_ireturn, kl_36, ev_K, ev_pI, ev_pR, ev_pVi, ev_pVr, ev_sI, ev_sR, ev_KC, ev_k, ev_ko, ev_pop0, ev_pops, am_ld, am_sv, am_at, am_st, am_g, List.length_cons, List.length_nil, Nat.reduceAdd, Nat.reduceLT, Nat.zero_add, if_true, if_false, and_self, true_or, or_true, true_and, and_true, not_true_eq_false, not_false_eq_true, reduceCtorEq, eq_self, Option.toList_some, Option.toList_none, List.cons_append, List.nil_append, Bool.false_eq_true]
theorem vl_take (d : Nat) (hV : vs_V z h ad tt rr aa R C fl c tk cb tb sb g S En E v) : ∃ h', am_M z (d + 1 + 1) 56 [.ref (ad 0)] h (some (.int (match e_op S 3 with | some i => nI i | none => -3))) h' ∧ vs_V z h' ad tt rr aa R C fl c tk cb tb sb g (match e_op S 3 with | some i => upd S i (v 1) | none => S) En E v ∧ h'.2 = h.2 := by
  have hV0 := hV
  obtain ⟨v0, v1, v2, v3, v4, v5, v6, v7, v8⟩ := hV
  have m1 := sn_open z d (v := v 1) (v7.2.1 18 (by omega)) v6
  have l0 := v6.1
  cases ho : e_op S 3 with
  | none =>
    rw [ho] at m1
    refine ⟨h, ?_, hV0, rfl⟩
    rw [am_M_eq]
    simp only [am_R_eq, cx_56, en_56, rt_56, rx_aload_n, rx_getfield, ev_gf, rx_invv, ev_cv, rx_ireturn, kl_57, ev_K, ev_pI, ev_pR, ev_pVi, ev_pVr, ev_sI, ev_sR, ev_KC, ev_k, ev_ko, ev_pop0, ev_pops, am_ld, am_sv, am_at, am_st, am_g, List.length_cons, List.length_nil, Nat.reduceAdd, Nat.reduceLT, Nat.zero_add, if_true, if_false, and_self, true_or, or_true, true_and, and_true, not_true_eq_false, not_false_eq_true, reduceCtorEq, eq_self, Option.toList_some, Option.toList_none, List.cons_append, List.nil_append, Bool.false_eq_true, v0, l0]
    refine am_CL_of m1 ?_
    simp only [am_R_eq, cx_56, en_56, rt_56, rx_aload_n, rx_getfield, ev_gf, rx_invv, ev_cv, rx_ireturn, kl_57, ev_K, ev_pI, ev_pR, ev_pVi, ev_pVr, ev_sI, ev_sR, ev_KC, ev_k, ev_ko, ev_pop0, ev_pops, am_ld, am_sv, am_at, am_st, am_g, List.length_cons, List.length_nil, Nat.reduceAdd, Nat.reduceLT, Nat.zero_add, if_true, if_false, and_self, true_or, or_true, true_and, and_true, not_true_eq_false, not_false_eq_true, reduceCtorEq, eq_self, Option.toList_some, Option.toList_none, List.cons_append, List.nil_append, Bool.false_eq_true]
  | some i =>
    rw [ho] at m1
    refine ⟨_, ?_, hV0.snp (upd S i (v 1)), rfl⟩
    rw [am_M_eq]
    simp only [am_R_eq, cx_56, en_56, rt_56, rx_aload_n, rx_getfield, ev_gf, rx_invv, ev_cv, rx_ireturn, kl_57, ev_K, ev_pI, ev_pR, ev_pVi, ev_pVr, ev_sI, ev_sR, ev_KC, ev_k, ev_ko, ev_pop0, ev_pops, am_ld, am_sv, am_at, am_st, am_g, List.length_cons, List.length_nil, Nat.reduceAdd, Nat.reduceLT, Nat.zero_add, if_true, if_false, and_self, true_or, or_true, true_and, and_true, not_true_eq_false, not_false_eq_true, reduceCtorEq, eq_self, Option.toList_some, Option.toList_none, List.cons_append, List.nil_append, Bool.false_eq_true, v0, l0]
    refine am_CL_of m1 ?_
    simp only [am_R_eq, cx_56, en_56, rt_56, rx_aload_n, rx_getfield, ev_gf, rx_invv, ev_cv, rx_ireturn, kl_57, ev_K, ev_pI, ev_pR, ev_pVi, ev_pVr, ev_sI, ev_sR, ev_KC, ev_k, ev_ko, ev_pop0, ev_pops, am_ld, am_sv, am_at, am_st, am_g, List.length_cons, List.length_nil, Nat.reduceAdd, Nat.reduceLT, Nat.zero_add, if_true, if_false, and_self, true_or, or_true, true_and, and_true, not_true_eq_false, not_false_eq_true, reduceCtorEq, eq_self, Option.toList_some, Option.toList_none, List.cons_append, List.nil_append, Bool.false_eq_true]
theorem vl_releaseNo (d : Nat) {k : Int32} (hk : (k < 0 ∨ 3 ≤ k) ∨ ∃ i, i < 3 ∧ k = nI i ∧ S i = -1) (hV : vs_V z h ad tt rr aa R C fl c tk cb tb sb g S En E v) : am_M z (d + 1 + 1 + 1) 58 [.ref (ad 0), .int k] h (some (.int 0)) h := by
  obtain ⟨v0, v1, v2, v3, v4, v5, v6, v7, v8⟩ := hV
  have m1 := sn_closeNo z d v6 hk
  have l0 := v6.1
  rw [am_M_eq]
  simp only [am_R_eq, cx_58, en_58, rt_58, rx_aload_n, rx_getfield, ev_gf, rx_iload_n, rx_invv, ev_cv, rx_ireturn, kl_59, ev_K, ev_pI, ev_pR, ev_pVi, ev_pVr, ev_sI, ev_sR, ev_KC, ev_k, ev_ko, ev_pop0, ev_pops, am_ld, am_sv, am_at, am_st, am_g, List.length_cons, List.length_nil, Nat.reduceAdd, Nat.reduceLT, Nat.zero_add, if_true, if_false, and_self, true_or, or_true, true_and, and_true, not_true_eq_false, not_false_eq_true, reduceCtorEq, eq_self, Option.toList_some, Option.toList_none, List.cons_append, List.nil_append, Bool.false_eq_true, v0, l0]
  refine am_CL_of m1 ?_
  simp only [am_R_eq, cx_58, en_58, rt_58, rx_aload_n, rx_getfield, ev_gf, rx_iload_n, rx_invv, ev_cv, rx_ireturn, kl_59, ev_K, ev_pI, ev_pR, ev_pVi, ev_pVr, ev_sI, ev_sR, ev_KC, ev_k, ev_ko, ev_pop0, ev_pops, am_ld, am_sv, am_at, am_st, am_g, List.length_cons, List.length_nil, Nat.reduceAdd, Nat.reduceLT, Nat.zero_add, if_true, if_false, and_self, true_or, or_true, true_and, and_true, not_true_eq_false, not_false_eq_true, reduceCtorEq, eq_self, Option.toList_some, Option.toList_none, List.cons_append, List.nil_append, Bool.false_eq_true, b00]
theorem vl_releaseYes (d : Nat) {i : Nat} (hi : i < 3) (hS : ¬ S i = -1) (hV : vs_V z h ad tt rr aa R C fl c tk cb tb sb g S En E v) : ∃ h', am_M z (d + 1 + 1 + 1) 58 [.ref (ad 0), .int (nI i)] h (some (.int 1)) h' ∧ vs_V z h' ad tt rr aa R C fl c tk cb tb sb g (upd S i (-1)) En E v ∧ h'.2 = h.2 := by
  have hV0 := hV
  obtain ⟨v0, v1, v2, v3, v4, v5, v6, v7, v8⟩ := hV
  have m1 := sn_closeYes z d (v7.2.1 18 (by omega)) v6 hi hS
  have l0 := v6.1
  refine ⟨_, ?_, hV0.snp (upd S i (-1)), rfl⟩
  rw [am_M_eq]
  simp only [am_R_eq, cx_58, en_58, rt_58, rx_aload_n, rx_getfield, ev_gf, rx_iload_n, rx_invv, ev_cv, rx_ireturn, kl_59, ev_K, ev_pI, ev_pR, ev_pVi, ev_pVr, ev_sI, ev_sR, ev_KC, ev_k, ev_ko, ev_pop0, ev_pops, am_ld, am_sv, am_at, am_st, am_g, List.length_cons, List.length_nil, Nat.reduceAdd, Nat.reduceLT, Nat.zero_add, if_true, if_false, and_self, true_or, or_true, true_and, and_true, not_true_eq_false, not_false_eq_true, reduceCtorEq, eq_self, Option.toList_some, Option.toList_none, List.cons_append, List.nil_append, Bool.false_eq_true, v0, l0]
  refine am_CL_of m1 ?_
  simp only [am_R_eq, cx_58, en_58, rt_58, rx_aload_n, rx_getfield, ev_gf, rx_iload_n, rx_invv, ev_cv, rx_ireturn, kl_59, ev_K, ev_pI, ev_pR, ev_pVi, ev_pVr, ev_sI, ev_sR, ev_KC, ev_k, ev_ko, ev_pop0, ev_pops, am_ld, am_sv, am_at, am_st, am_g, List.length_cons, List.length_nil, Nat.reduceAdd, Nat.reduceLT, Nat.zero_add, if_true, if_false, and_self, true_or, or_true, true_and, and_true, not_true_eq_false, not_false_eq_true, reduceCtorEq, eq_self, Option.toList_some, Option.toList_none, List.cons_append, List.nil_append, Bool.false_eq_true, b11]
theorem vl_look (d : Nat) (hV : vs_V z h ad tt rr aa R C fl c tk cb tb sb g S En E v) : am_M z (d + 1 + 1) 91 [.ref (ad 0), .int (nI 0)] h (some (.int (nI (R 1).length))) h ∧ am_M z (d + 1 + 1) 91 [.ref (ad 0), .int (nI 1)] h (some (.int (v 1))) h ∧ am_M z (d + 1 + 1) 91 [.ref (ad 0), .int (nI 2)] h (some (.int (nI (g 2)))) h ∧ am_M z (d + 1 + 1) 91 [.ref (ad 0), .int (nI 3)] h (some (.int (nI (R 0).length))) h ∧ am_M z (d + 1 + 1) 91 [.ref (ad 0), .int (nI 4)] h (some (.int (nI (e_ct S 3)))) h := by
  obtain ⟨v0, v1, v2, v3, v4, v5, v6, v7, v8⟩ := hV
  have r1 := (v3 1 (by omega)).1
  have r0 := (v3 0 (by omega)).1
  have p1 := r1.1
  have p0 := r0.1
  have l0 := v5.1
  have s0 := v6.1
  refine ⟨?_, ?_, ?_, ?_, ?_⟩
  · have c1 := sw_n 0 (by omega)
    have c2 := sw_c 0 (by omega)
    rw [am_M_eq]
    simp only [am_R_eq, cx_91, en_91, rt_91, rx_aload_n, rx_bipush, rx_getfield, ev_gf, rx_iload_n, rx_invv, ev_cv, rx_ireturn, rx_tableswitch, kl_12, kl_64, kl_92, ev_K, ev_pI, ev_pR, ev_pVi, ev_pVr, ev_sI, ev_sR, ev_KC, ev_k, ev_ko, ev_pop0, ev_pops, am_ld, am_sv, am_at, am_st, am_g, List.length_cons, List.length_nil, Nat.reduceAdd, Nat.reduceLT, Nat.zero_add, if_true, if_false, and_self, true_or, or_true, true_and, and_true, not_true_eq_false, not_false_eq_true, reduceCtorEq, eq_self, Option.toList_some, Option.toList_none, List.cons_append, List.nil_append, Bool.false_eq_true, c1, c2, am_tn, v0, p1, Nat.reduceLeDiff, or_self]
    refine am_CL_of (ro_size z d r1) ?_
    simp only [am_R_eq, cx_91, en_91, rt_91, rx_aload_n, rx_bipush, rx_getfield, ev_gf, rx_iload_n, rx_invv, ev_cv, rx_ireturn, rx_tableswitch, kl_12, kl_64, kl_92, ev_K, ev_pI, ev_pR, ev_pVi, ev_pVr, ev_sI, ev_sR, ev_KC, ev_k, ev_ko, ev_pop0, ev_pops, am_ld, am_sv, am_at, am_st, am_g, List.length_cons, List.length_nil, Nat.reduceAdd, Nat.reduceLT, Nat.zero_add, if_true, if_false, and_self, true_or, or_true, true_and, and_true, not_true_eq_false, not_false_eq_true, reduceCtorEq, eq_self, Option.toList_some, Option.toList_none, List.cons_append, List.nil_append, Bool.false_eq_true]
  · have c1 := sw_n 1 (by omega)
    have c2 := sw_c 1 (by omega)
    rw [am_M_eq]
    simp only [am_R_eq, cx_91, en_91, rt_91, rx_aload_n, rx_bipush, rx_getfield, ev_gf, rx_iload_n, rx_invv, ev_cv, rx_ireturn, rx_tableswitch, kl_12, kl_64, kl_92, ev_K, ev_pI, ev_pR, ev_pVi, ev_pVr, ev_sI, ev_sR, ev_KC, ev_k, ev_ko, ev_pop0, ev_pops, am_ld, am_sv, am_at, am_st, am_g, List.length_cons, List.length_nil, Nat.reduceAdd, Nat.reduceLT, Nat.zero_add, if_true, if_false, and_self, true_or, or_true, true_and, and_true, not_true_eq_false, not_false_eq_true, reduceCtorEq, eq_self, Option.toList_some, Option.toList_none, List.cons_append, List.nil_append, Bool.false_eq_true, c1, c2, am_tn, v0, Nat.reduceLeDiff, or_self]
  · have c1 := sw_n 2 (by omega)
    have c2 := sw_c 2 (by omega)
    rw [am_M_eq]
    simp only [am_R_eq, cx_91, en_91, rt_91, rx_aload_n, rx_bipush, rx_getfield, ev_gf, rx_iload_n, rx_invv, ev_cv, rx_ireturn, rx_tableswitch, kl_12, kl_64, kl_92, ev_K, ev_pI, ev_pR, ev_pVi, ev_pVr, ev_sI, ev_sR, ev_KC, ev_k, ev_ko, ev_pop0, ev_pops, am_ld, am_sv, am_at, am_st, am_g, List.length_cons, List.length_nil, Nat.reduceAdd, Nat.reduceLT, Nat.zero_add, if_true, if_false, and_self, true_or, or_true, true_and, and_true, not_true_eq_false, not_false_eq_true, reduceCtorEq, eq_self, Option.toList_some, Option.toList_none, List.cons_append, List.nil_append, Bool.false_eq_true, c1, c2, am_tn, v0, l0, Nat.reduceLeDiff, or_self]
    refine am_CL_of (lg_unsyncedCount z d v5) ?_
    simp only [am_R_eq, cx_91, en_91, rt_91, rx_aload_n, rx_bipush, rx_getfield, ev_gf, rx_iload_n, rx_invv, ev_cv, rx_ireturn, rx_tableswitch, kl_12, kl_64, kl_92, ev_K, ev_pI, ev_pR, ev_pVi, ev_pVr, ev_sI, ev_sR, ev_KC, ev_k, ev_ko, ev_pop0, ev_pops, am_ld, am_sv, am_at, am_st, am_g, List.length_cons, List.length_nil, Nat.reduceAdd, Nat.reduceLT, Nat.zero_add, if_true, if_false, and_self, true_or, or_true, true_and, and_true, not_true_eq_false, not_false_eq_true, reduceCtorEq, eq_self, Option.toList_some, Option.toList_none, List.cons_append, List.nil_append, Bool.false_eq_true]
  · have c1 := sw_n 3 (by omega)
    have c2 := sw_c 3 (by omega)
    rw [am_M_eq]
    simp only [am_R_eq, cx_91, en_91, rt_91, rx_aload_n, rx_bipush, rx_getfield, ev_gf, rx_iload_n, rx_invv, ev_cv, rx_ireturn, rx_tableswitch, kl_12, kl_64, kl_92, ev_K, ev_pI, ev_pR, ev_pVi, ev_pVr, ev_sI, ev_sR, ev_KC, ev_k, ev_ko, ev_pop0, ev_pops, am_ld, am_sv, am_at, am_st, am_g, List.length_cons, List.length_nil, Nat.reduceAdd, Nat.reduceLT, Nat.zero_add, if_true, if_false, and_self, true_or, or_true, true_and, and_true, not_true_eq_false, not_false_eq_true, reduceCtorEq, eq_self, Option.toList_some, Option.toList_none, List.cons_append, List.nil_append, Bool.false_eq_true, c1, c2, am_tn, v0, p0, Nat.reduceLeDiff, or_self]
    refine am_CL_of (ro_size z d r0) ?_
    simp only [am_R_eq, cx_91, en_91, rt_91, rx_aload_n, rx_bipush, rx_getfield, ev_gf, rx_iload_n, rx_invv, ev_cv, rx_ireturn, rx_tableswitch, kl_12, kl_64, kl_92, ev_K, ev_pI, ev_pR, ev_pVi, ev_pVr, ev_sI, ev_sR, ev_KC, ev_k, ev_ko, ev_pop0, ev_pops, am_ld, am_sv, am_at, am_st, am_g, List.length_cons, List.length_nil, Nat.reduceAdd, Nat.reduceLT, Nat.zero_add, if_true, if_false, and_self, true_or, or_true, true_and, and_true, not_true_eq_false, not_false_eq_true, reduceCtorEq, eq_self, Option.toList_some, Option.toList_none, List.cons_append, List.nil_append, Bool.false_eq_true]
  · have c1 := sw_n 4 (by omega)
    have c2 := sw_c 4 (by omega)
    rw [am_M_eq]
    simp only [am_R_eq, cx_91, en_91, rt_91, rx_aload_n, rx_bipush, rx_getfield, ev_gf, rx_iload_n, rx_invv, ev_cv, rx_ireturn, rx_tableswitch, kl_12, kl_64, kl_92, ev_K, ev_pI, ev_pR, ev_pVi, ev_pVr, ev_sI, ev_sR, ev_KC, ev_k, ev_ko, ev_pop0, ev_pops, am_ld, am_sv, am_at, am_st, am_g, List.length_cons, List.length_nil, Nat.reduceAdd, Nat.reduceLT, Nat.zero_add, if_true, if_false, and_self, true_or, or_true, true_and, and_true, not_true_eq_false, not_false_eq_true, reduceCtorEq, eq_self, Option.toList_some, Option.toList_none, List.cons_append, List.nil_append, Bool.false_eq_true, c1, c2, am_tn, v0, s0, Nat.reduceLeDiff, or_self]
    refine am_CL_of (sn_count z d v6) ?_
    simp only [am_R_eq, cx_91, en_91, rt_91, rx_aload_n, rx_bipush, rx_getfield, ev_gf, rx_iload_n, rx_invv, ev_cv, rx_ireturn, rx_tableswitch, kl_12, kl_64, kl_92, ev_K, ev_pI, ev_pR, ev_pVi, ev_pVr, ev_sI, ev_sR, ev_KC, ev_k, ev_ko, ev_pop0, ev_pops, am_ld, am_sv, am_at, am_st, am_g, List.length_cons, List.length_nil, Nat.reduceAdd, Nat.reduceLT, Nat.zero_add, if_true, if_false, and_self, true_or, or_true, true_and, and_true, not_true_eq_false, not_false_eq_true, reduceCtorEq, eq_self, Option.toList_some, Option.toList_none, List.cons_append, List.nil_append, Bool.false_eq_true]
theorem vl_lookNo (d : Nat) {x : Nat} {w : Int32} (hw : w < 0 ∨ 5 ≤ w.toNatClampNeg) : am_M z (d + 1) 91 [.ref x, .int w] h (some (.int (-2))) h := by
  rw [am_M_eq]
  simp only [am_R_eq, cx_91, en_91, rt_91, rx_aload_n, rx_bipush, rx_getfield, ev_gf, rx_iload_n, rx_invv, ev_cv, rx_ireturn, rx_tableswitch, kl_12, kl_64, kl_92, ev_K, ev_pI, ev_pR, ev_pVi, ev_pVr, ev_sI, ev_sR, ev_KC, ev_k, ev_ko, ev_pop0, ev_pops, am_ld, am_sv, am_at, am_st, am_g, List.length_cons, List.length_nil, Nat.reduceAdd, Nat.reduceLT, Nat.zero_add, if_true, if_false, and_self, true_or, or_true, true_and, and_true, not_true_eq_false, not_false_eq_true, reduceCtorEq, eq_self, Option.toList_some, Option.toList_none, List.cons_append, List.nil_append, Bool.false_eq_true, hw]
theorem en_init (z d : Nat) {h : am_H} {e : Nat} {k w l dl a4 a5 a6 a7 b0 b1 b2 b3 : Int32} (hz : z ≤ e) (hd : dl &&& 1 = dl) (he : h.1 e = some (.inr (1, [.int b0, .int b1, .int b2, .int b3, .int a4, .int a5, .int a6, .int a7]))) : am_M z (d + 1) 1 [.ref e, .int k, .int w, .int l, .int dl] h none (am_up h e (.inr (1, [.int k, .int w, .int l, .int dl, .int a4, .int a5, .int a6, .int a7]))) := by
  rw [am_M_eq]
  simp only [am_R_eq, cx_1, en_1, rt_1, rx_aload_n, rx_iload, rx_iload_n, rx_invi, rx_obj2, ev_cs, rx_putfield, ev_pf, ev_w1, ev_KW, am_fok, am_ftv, rx_return, ev_K, ev_pI, ev_pR, ev_pVi, ev_pVr, ev_sI, ev_sR, ev_KC, ev_k, ev_ko, ev_pop0, ev_pops, am_ld, am_sv, am_at, am_st, am_g, List.length_cons, List.length_nil, Nat.reduceAdd, Nat.reduceLT, Nat.zero_add, if_true, if_false, and_self, true_or, or_true, true_and, and_true, not_true_eq_false, not_false_eq_true, reduceCtorEq, eq_self, Option.toList_some, Option.toList_none, List.cons_append, List.nil_append, Bool.false_eq_true, he, hz, hd, am_up_at, am_up_up, Nat.reduceLeDiff, beq_self_eq_true]
theorem am_df1 : am_df 1 = [.int 0, .int 0, .int 0, .int 0, .int 0, .int 0, .int 0, .int 0] := rfl
def e_nw (E : Nat → Nat → Int32) (e : Nat) (k w l dl : Int32) : Nat → Nat → Int32 := fun a j => if a = e then (match j with | 0 => k | 1 => w | 2 => l | 3 => dl | _ => 0) else E a j
theorem e_nw_ne (E : Nat → Nat → Int32) {e a : Nat} (k w l dl : Int32) (j : Nat) (ha : a ≠ e) : e_nw E e k w l dl a j = E a j := by simp [e_nw, ha]
theorem e_nw_cell (E : Nat → Nat → Int32) (e : Nat) (k w l dl : Int32) : vs_e (e_nw E e k w l dl) e = .inr (1, [.int k, .int w, .int l, .int dl, .int 0, .int 0, .int 0, .int 0]) := by simp [vs_e, e_nw]
theorem vs_V.nw (hV : vs_V z h ad tt rr aa R C fl c tk cb tb sb g S En E v) (k w l dl : Int32) (x : am_E) : vs_V z (am_up (am_nw h x 8) h.2.1 (vs_e (e_nw E h.2.1 k w l dl) h.2.1)) ad tt rr aa R C fl c tk cb tb sb g S (fun a => En a ∨ a = h.2.1) (e_nw E h.2.1 k w l dl) v := by
  obtain ⟨v0, v1, v2, v3, v4, v5, v6, v7, v8⟩ := hV
  have same : ∀ a e, h.1 a = some e → (am_up (am_nw h x 8) h.2.1 (vs_e (e_nw E h.2.1 k w l dl) h.2.1)).1 a = h.1 a := by
    intro a e ha
    have := v8 a e ha
    rw [am_up_ne _ _ (by omega), am_nw_ne _ _ _ (by omega)]
  have hz0 : z ≤ h.2.1 := Nat.le_trans (v7.2.1 0 (by omega)) (Nat.le_of_lt (v8 _ _ v0))
  refine ⟨by rw [same _ _ v0]; exact v0, fun a ha => ?_, Or.inl v2, fun i hi => ⟨?_, fun y hy => Or.inl ((v3 i hi).2 y hy)⟩, fun i hi => ⟨?_, fun q hq y hy => Or.inl ((v4 i hi).2 q hq y hy)⟩, ?_, v6.mv (same _ _ v6.1) (same _ _ v6.2), v7, fun a e ha => ?_⟩
  · by_cases hae : a = h.2.1
    · subst hae; exact ⟨am_up_at _ _ _, hz0⟩
    · have he := ha.resolve_right hae
      refine ⟨?_, (v1 a he).2⟩
      rw [same _ _ (v1 a he).1, (v1 a he).1]
      simp only [vs_e, e_nw_ne E k w l dl _ hae]
  · obtain ⟨g1, p1, p2, -⟩ := (v3 i hi).1.g
    exact (v3 i hi).1.fr (same _ _ p1) (same _ _ p2)
  · obtain ⟨l1, l2, l3, ⟨G, l4, l5⟩, l6, l7, l8⟩ := (v4 i hi).1
    refine (v4 i hi).1.mv (same _ _ l1) (same _ _ l4) (fun q hq => ?_)
    obtain ⟨g1, p1, p2, -⟩ := (l7 q hq).g
    exact ⟨same _ _ (l6 q hq), same _ _ p1, same _ _ p2⟩
  · have v5' := v5
    obtain ⟨q0, q1, q2, q3, q4, -⟩ := v5
    refine v5'.mv (same _ _ q0) (fun i hi => ?_)
    rcases (by omega : i = 0 ∨ i = 1 ∨ i = 2 ∨ i = 3) with w | w | w | w <;> subst w
    · exact same _ _ q1
    · exact same _ _ q2
    · exact same _ _ q3
    · exact same _ _ q4
  · show a < h.2.1 + 1
    by_cases hae : a = h.2.1
    · omega
    · rw [am_up_ne _ _ hae, am_nw_ne _ _ _ hae] at ha
      have := v8 a e ha
      omega
theorem vl_makeReadyNo (d : Nat) {k w l dl : Int32} (hb : 6 ≤ (R 0).length) (hV : vs_V z h ad tt rr aa R C fl c tk cb tb sb g S En E v) : am_M z (d + 1 + 1) 11 [.ref (ad 0), .int k, .int w, .int l, .int dl] h (some (.int (-3))) h := by
  obtain ⟨v0, v1, v2, v3, v4, v5, v6, v7, v8⟩ := hV
  have r0 := (v3 0 (by omega)).1
  have p0 := r0.1
  have hn : (R 0).length ≤ 6 := r0.2.1
  have e1 : ¬ nI (R 0).length < 6 := nI_nlt (b := 6) hb (by omega)
  rw [am_M_eq]
  simp only [am_R_eq, cx_11, en_11, rt_11, rx_aload_n, rx_bipush, rx_dup_i, rx_dup_r, rx_getfield, ev_gf, rx_icmp_lt, rx_iload, rx_iload_n, rx_invi, rx_obj2, ev_cs, rx_invv, ev_cv, rx_ireturn, rx_new, kl_1, kl_12, kl_13, ev_K, ev_pI, ev_pR, ev_pVi, ev_pVr, ev_sI, ev_sR, ev_KC, ev_k, ev_ko, ev_pop0, ev_pops, am_ld, am_sv, am_at, am_st, am_g, List.length_cons, List.length_nil, Nat.reduceAdd, Nat.reduceLT, Nat.zero_add, if_true, if_false, and_self, true_or, or_true, true_and, and_true, not_true_eq_false, not_false_eq_true, reduceCtorEq, eq_self, Option.toList_some, Option.toList_none, List.cons_append, List.nil_append, Bool.false_eq_true, v0, p0]
  refine am_CL_of (ro_size z d r0) ?_
  simp only [am_R_eq, cx_11, en_11, rt_11, rx_aload_n, rx_bipush, rx_dup_i, rx_dup_r, rx_getfield, ev_gf, rx_icmp_lt, rx_iload, rx_iload_n, rx_invi, rx_obj2, ev_cs, rx_invv, ev_cv, rx_ireturn, rx_new, kl_1, kl_12, kl_13, ev_K, ev_pI, ev_pR, ev_pVi, ev_pVr, ev_sI, ev_sR, ev_KC, ev_k, ev_ko, ev_pop0, ev_pops, am_ld, am_sv, am_at, am_st, am_g, List.length_cons, List.length_nil, Nat.reduceAdd, Nat.reduceLT, Nat.zero_add, if_true, if_false, and_self, true_or, or_true, true_and, and_true, not_true_eq_false, not_false_eq_true, reduceCtorEq, eq_self, Option.toList_some, Option.toList_none, List.cons_append, List.nil_append, Bool.false_eq_true, e1]
theorem vl_makeReady (d : Nat) {k w l dl : Int32} (hd : dl &&& 1 = dl) (hb : (R 0).length < 6) (hV : vs_V z h ad tt rr aa R C fl c tk cb tb sb g S En E v) : ∃ h', am_M z (d + 1 + 1) 11 [.ref (ad 0), .int k, .int w, .int l, .int dl] h (some (.int (nI ((R 0).length + 1)))) h' ∧ vs_V z h' ad tt rr aa (va_up R 0 (R 0 ++ [h.2.1])) C fl c tk cb tb sb g S (fun a => En a ∨ a = h.2.1) (e_nw E h.2.1 k w l dl) v ∧ h'.2 = (h.2.1 + 1, h.2.2 + 8) := by
  have hV0 := hV
  obtain ⟨v0, v1, v2, v3, v4, v5, v6, v7, v8⟩ := hV
  have r0 := (v3 0 (by omega)).1
  have p0 := r0.1
  have hz0 : z ≤ h.2.1 := Nat.le_trans (v7.2.1 0 (by omega)) (Nat.le_of_lt (v8 _ _ v0))
  have hV1 := hV0.nw k w l dl (.inr (1, am_df 1))
  obtain ⟨w0, w1, w2, w3, w4, w5, w6, w7, w8⟩ := hV1
  have r1 := (w3 0 (by omega)).1
  have q1 := r1.1
  have i1 := en_init z d (h := am_nw h (.inr (1, am_df 1)) 8) (e := h.2.1) (k := k) (w := w) (l := l) (dl := dl) hz0 hd (by rw [am_nw_at, am_df1])
  rw [← e_nw_cell E h.2.1 k w l dl] at i1
  obtain ⟨h', a1, a2, a3⟩ := ro_append z d (e := h.2.1) (v7.2.1 10 (by omega)) (v7.2.1 14 (by omega)) r1 (by rw [am_up_at]; rfl) hb
  have hV2 := vs_V.row (hV0.nw k w l dl (.inr (1, am_df 1))) (i := 0) (by omega) a3 a2 (fun x hx => by
    rcases List.mem_append.mp hx with q | q
    · exact Or.inl ((v3 0 (by omega)).2 x q)
    · exact Or.inr (List.mem_singleton.mp q))
  refine ⟨h', ?_, hV2, by rw [a3.2]; rfl⟩
  obtain ⟨y0, y1, y2, y3, -⟩ := hV2
  have r2 := (y3 0 (by omega)).1
  have q2 := r2.1
  have s2 := ro_size z d r2
  have hl : (va_up R 0 (R 0 ++ [h.2.1]) 0).length = (R 0).length + 1 := by rw [va_up_self, List.length_append]; rfl
  rw [hl] at s2
  have e1 : nI (R 0).length < 6 := nI_lt (b := 6) hb (by omega)
  rw [am_M_eq]
  simp only [am_R_eq, cx_11, en_11, rt_11, rx_aload_n, rx_bipush, rx_dup_i, rx_dup_r, rx_getfield, ev_gf, rx_icmp_lt, rx_iload, rx_iload_n, rx_invi, rx_obj2, ev_cs, rx_invv, ev_cv, rx_ireturn, rx_new, kl_1, kl_12, kl_13, ev_K, ev_pI, ev_pR, ev_pVi, ev_pVr, ev_sI, ev_sR, ev_KC, ev_k, ev_ko, ev_pop0, ev_pops, am_ld, am_sv, am_at, am_st, am_g, List.length_cons, List.length_nil, Nat.reduceAdd, Nat.reduceLT, Nat.zero_add, if_true, if_false, and_self, true_or, or_true, true_and, and_true, not_true_eq_false, not_false_eq_true, reduceCtorEq, eq_self, Option.toList_some, Option.toList_none, List.cons_append, List.nil_append, Bool.false_eq_true, v0, p0]
  refine am_CL_of (ro_size z d r0) ?_
  simp only [am_R_eq, cx_11, en_11, rt_11, rx_aload_n, rx_bipush, rx_dup_i, rx_dup_r, rx_getfield, ev_gf, rx_icmp_lt, rx_iload, rx_iload_n, rx_invi, rx_obj2, ev_cs, rx_invv, ev_cv, rx_ireturn, rx_new, kl_1, kl_12, kl_13, ev_K, ev_pI, ev_pR, ev_pVi, ev_pVr, ev_sI, ev_sR, ev_KC, ev_k, ev_ko, ev_pop0, ev_pops, am_ld, am_sv, am_at, am_st, am_g, List.length_cons, List.length_nil, Nat.reduceAdd, Nat.reduceLT, Nat.zero_add, if_true, if_false, and_self, true_or, or_true, true_and, and_true, not_true_eq_false, not_false_eq_true, reduceCtorEq, eq_self, Option.toList_some, Option.toList_none, List.cons_append, List.nil_append, Bool.false_eq_true, e1, v0]
  refine am_CL_of i1 ?_
  simp only [am_R_eq, cx_11, en_11, rt_11, rx_aload_n, rx_bipush, rx_dup_i, rx_dup_r, rx_getfield, ev_gf, rx_icmp_lt, rx_iload, rx_iload_n, rx_invi, rx_obj2, ev_cs, rx_invv, ev_cv, rx_ireturn, rx_new, kl_1, kl_12, kl_13, ev_K, ev_pI, ev_pR, ev_pVi, ev_pVr, ev_sI, ev_sR, ev_KC, ev_k, ev_ko, ev_pop0, ev_pops, am_ld, am_sv, am_at, am_st, am_g, List.length_cons, List.length_nil, Nat.reduceAdd, Nat.reduceLT, Nat.zero_add, if_true, if_false, and_self, true_or, or_true, true_and, and_true, not_true_eq_false, not_false_eq_true, reduceCtorEq, eq_self, Option.toList_some, Option.toList_none, List.cons_append, List.nil_append, Bool.false_eq_true, q1]
  refine am_CL_of a1 ?_
  simp only [am_R_eq, cx_11, en_11, rt_11, rx_aload_n, rx_bipush, rx_dup_i, rx_dup_r, rx_getfield, ev_gf, rx_icmp_lt, rx_iload, rx_iload_n, rx_invi, rx_obj2, ev_cs, rx_invv, ev_cv, rx_ireturn, rx_new, kl_1, kl_12, kl_13, ev_K, ev_pI, ev_pR, ev_pVi, ev_pVr, ev_sI, ev_sR, ev_KC, ev_k, ev_ko, ev_pop0, ev_pops, am_ld, am_sv, am_at, am_st, am_g, List.length_cons, List.length_nil, Nat.reduceAdd, Nat.reduceLT, Nat.zero_add, if_true, if_false, and_self, true_or, or_true, true_and, and_true, not_true_eq_false, not_false_eq_true, reduceCtorEq, eq_self, Option.toList_some, Option.toList_none, List.cons_append, List.nil_append, Bool.false_eq_true, y0, q2]
  refine am_CL_of s2 ?_
  simp only [am_R_eq, cx_11, en_11, rt_11, rx_aload_n, rx_bipush, rx_dup_i, rx_dup_r, rx_getfield, ev_gf, rx_icmp_lt, rx_iload, rx_iload_n, rx_invi, rx_obj2, ev_cs, rx_invv, ev_cv, rx_ireturn, rx_new, kl_1, kl_12, kl_13, ev_K, ev_pI, ev_pR, ev_pVi, ev_pVr, ev_sI, ev_sR, ev_KC, ev_k, ev_ko, ev_pop0, ev_pops, am_ld, am_sv, am_at, am_st, am_g, List.length_cons, List.length_nil, Nat.reduceAdd, Nat.reduceLT, Nat.zero_add, if_true, if_false, and_self, true_or, or_true, true_and, and_true, not_true_eq_false, not_false_eq_true, reduceCtorEq, eq_self, Option.toList_some, Option.toList_none, List.cons_append, List.nil_append, Bool.false_eq_true]
end VH
