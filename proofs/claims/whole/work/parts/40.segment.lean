section VSG
variable {z : Nat} {h : am_H} {ad : Nat → Nat} {tt rr aa : Nat → Nat → Nat} {R : Nat → List Nat} {C : Nat → Nat → List Nat} {fl : Nat → Nat → Int32} {c : Nat → Nat} {tk cb tb sb g : Nat → Nat} {S : Nat → Int32} {En : Nat → Prop} {E : Nat → Nat → Int32} {v : Nat → Int32}
theorem vl_countLive (d : Nat) {s : Int32} (hV : vs_V z h ad tt rr aa R C fl c tk cb tb sb g S En E v) : am_M z (d + 1 + 1 + 1 + 1) 88 [.ref (ad 0), .int s] h (some (.int (nI ((R 1).countP (e_live E s) + (e_fl (C 0) 0 (c 0)).countP (e_live E s) + (e_fl (C 1) 0 (c 1)).countP (e_live E s) + (e_fl (C 2) 0 (c 2)).countP (e_live E s))))) h := by
  have step : ∀ l n w, l < 3 → am_R z (d + 1 + 1 + 1) 88 11 [some (.ref (ad 0)), some (.int s), some (.int (nI (n + (e_fl (C l) 0 (c l)).countP (e_live E s)))), some (.int (nI (l + 1)))] [] h w h → am_R z (d + 1 + 1 + 1) 88 11 [some (.ref (ad 0)), some (.int s), some (.int (nI n)), some (.int (nI l))] [] h w h := by
    intro l n w hl k1
    have q1 := vl_levelAt (d + 1 + 1) hl hV
    obtain ⟨v0, v1, v2, v3, v4, v5, v6, v7, v8⟩ := id hV
    have lv := (v4 l hl).1
    have l0 := lv.1
    have hcm : c l ≤ vm l := lv.2.1
    have q2 := le_countLive z d (E := E) (s := s) lv (fun k hk x hx => (v1 x ((v4 l hl).2 k (by omega) x hx)).1)
    have e1 : ¬ (3 : Int32) ≤ nI l := nI_ge (b := 3) hl (by omega)
    rw [am_R_eq] at k1
    rw [am_R_eq, cxh_88_11]
    simp only [am_R_eq, cx_88, en_88, rt_88, rx_aload_n, rx_getfield, ev_gf, rx_goto, rx_iadd, rx_iconst, rx_icmp_ge, rx_iinc, ev_inc, rx_iload_n, rx_invv, ev_cv, rx_ireturn, rx_istore_n, kl_45, kl_89, kl_90, ev_K, ev_pI, ev_pR, ev_pVi, ev_pVr, ev_sI, ev_sR, ev_KC, ev_k, ev_ko, ev_pop0, ev_pops, am_ld, am_sv, am_at, am_st, am_g, List.length_cons, List.length_nil, Nat.reduceAdd, Nat.reduceLT, Nat.zero_add, if_true, if_false, and_self, true_or, or_true, true_and, and_true, not_true_eq_false, not_false_eq_true, reduceCtorEq, eq_self, Option.toList_some, Option.toList_none, List.cons_append, List.nil_append, Bool.false_eq_true, e1, v0]
    refine am_CL_of q1 ?_
    simp only [am_R_eq, cx_88, en_88, rt_88, rx_aload_n, rx_getfield, ev_gf, rx_goto, rx_iadd, rx_iconst, rx_icmp_ge, rx_iinc, ev_inc, rx_iload_n, rx_invv, ev_cv, rx_ireturn, rx_istore_n, kl_45, kl_89, kl_90, ev_K, ev_pI, ev_pR, ev_pVi, ev_pVr, ev_sI, ev_sR, ev_KC, ev_k, ev_ko, ev_pop0, ev_pops, am_ld, am_sv, am_at, am_st, am_g, List.length_cons, List.length_nil, Nat.reduceAdd, Nat.reduceLT, Nat.zero_add, if_true, if_false, and_self, true_or, or_true, true_and, and_true, not_true_eq_false, not_false_eq_true, reduceCtorEq, eq_self, Option.toList_some, Option.toList_none, List.cons_append, List.nil_append, Bool.false_eq_true, l0]
    refine am_CL_of q2 ?_
    simp only [am_R_eq, cx_88, en_88, rt_88, rx_aload_n, rx_getfield, ev_gf, rx_goto, rx_iadd, rx_iconst, rx_icmp_ge, rx_iinc, ev_inc, rx_iload_n, rx_invv, ev_cv, rx_ireturn, rx_istore_n, kl_45, kl_89, kl_90, ev_K, ev_pI, ev_pR, ev_pVi, ev_pVr, ev_sI, ev_sR, ev_KC, ev_k, ev_ko, ev_pop0, ev_pops, am_ld, am_sv, am_at, am_st, am_g, List.length_cons, List.length_nil, Nat.reduceAdd, Nat.reduceLT, Nat.zero_add, if_true, if_false, and_self, true_or, or_true, true_and, and_true, not_true_eq_false, not_false_eq_true, reduceCtorEq, eq_self, Option.toList_some, Option.toList_none, List.cons_append, List.nil_append, Bool.false_eq_true, nI_ofs, nI_add]
    exact k1
  have fin : ∀ n, am_R z (d + 1 + 1 + 1) 88 11 [some (.ref (ad 0)), some (.int s), some (.int (nI n)), some (.int (nI 3))] [] h (some (.int (nI n))) h := by
    intro n
    have e1 : (3 : Int32) ≤ nI 3 := by decide
    rw [am_R_eq, cxh_88_11]
    simp only [am_R_eq, cx_88, en_88, rt_88, rx_aload_n, rx_getfield, ev_gf, rx_goto, rx_iadd, rx_iconst, rx_icmp_ge, rx_iinc, ev_inc, rx_iload_n, rx_invv, ev_cv, rx_ireturn, rx_istore_n, kl_45, kl_89, kl_90, ev_K, ev_pI, ev_pR, ev_pVi, ev_pVr, ev_sI, ev_sR, ev_KC, ev_k, ev_ko, ev_pop0, ev_pops, am_ld, am_sv, am_at, am_st, am_g, List.length_cons, List.length_nil, Nat.reduceAdd, Nat.reduceLT, Nat.zero_add, if_true, if_false, and_self, true_or, or_true, true_and, and_true, not_true_eq_false, not_false_eq_true, reduceCtorEq, eq_self, Option.toList_some, Option.toList_none, List.cons_append, List.nil_append, Bool.false_eq_true, e1]
  have k1 := step 0 _ _ (by omega) (step 1 _ _ (by omega) (step 2 _ _ (by omega) (fin ((R 1).countP (e_live E s) + (e_fl (C 0) 0 (c 0)).countP (e_live E s) + (e_fl (C 1) 0 (c 1)).countP (e_live E s) + (e_fl (C 2) 0 (c 2)).countP (e_live E s)))))
  have z0 : nI 0 = 0 := rfl
  rw [z0] at k1
  rw [am_R_eq] at k1
  obtain ⟨v0, v1, v2, v3, v4, v5, v6, v7, v8⟩ := hV
  have r1 := (v3 1 (by omega)).1
  have p1 := r1.1
  have q1 := ro_countLive z (d + 1) (E := E) (s := s) r1 (fun x hx => (v1 x ((v3 1 (by omega)).2 x hx)).1)
  rw [am_M_eq]
  simp only [am_R_eq, cx_88, en_88, rt_88, rx_aload_n, rx_getfield, ev_gf, rx_goto, rx_iadd, rx_iconst, rx_icmp_ge, rx_iinc, ev_inc, rx_iload_n, rx_invv, ev_cv, rx_ireturn, rx_istore_n, kl_45, kl_89, kl_90, ev_K, ev_pI, ev_pR, ev_pVi, ev_pVr, ev_sI, ev_sR, ev_KC, ev_k, ev_ko, ev_pop0, ev_pops, am_ld, am_sv, am_at, am_st, am_g, List.length_cons, List.length_nil, Nat.reduceAdd, Nat.reduceLT, Nat.zero_add, if_true, if_false, and_self, true_or, or_true, true_and, and_true, not_true_eq_false, not_false_eq_true, reduceCtorEq, eq_self, Option.toList_some, Option.toList_none, List.cons_append, List.nil_append, Bool.false_eq_true, v0, p1]
  refine am_CL_of q1 ?_
  simp only [am_R_eq, cx_88, en_88, rt_88, rx_aload_n, rx_getfield, ev_gf, rx_goto, rx_iadd, rx_iconst, rx_icmp_ge, rx_iinc, ev_inc, rx_iload_n, rx_invv, ev_cv, rx_ireturn, rx_istore_n, kl_45, kl_89, kl_90, ev_K, ev_pI, ev_pR, ev_pVi, ev_pVr, ev_sI, ev_sR, ev_KC, ev_k, ev_ko, ev_pop0, ev_pops, am_ld, am_sv, am_at, am_st, am_g, List.length_cons, List.length_nil, Nat.reduceAdd, Nat.reduceLT, Nat.zero_add, if_true, if_false, and_self, true_or, or_true, true_and, and_true, not_true_eq_false, not_false_eq_true, reduceCtorEq, eq_self, Option.toList_some, Option.toList_none, List.cons_append, List.nil_append, Bool.false_eq_true]
  exact k1
theorem vl_segCount (d : Nat) {w : Int32} (hV : vs_V z h ad tt rr aa R C fl c tk cb tb sb g S En E v) : am_M z (d + 1 + 1) 86 [.ref (ad 0), .int (-1), .int w] h (some (.int (nI (g 1)))) h := by
  obtain ⟨v0, v1, v2, v3, v4, v5, v6, v7, v8⟩ := hV
  have lg0 := v5.1
  have q1 := lg_segmentCount z d v5
  rw [am_M_eq]
  simp only [am_R_eq, cx_86, en_86, rt_86, rx_aload_n, rx_bipush, rx_getfield, ev_gf, rx_iconst, rx_icmp_lt, rx_icmp_ne, rx_if_lt, rx_iload_n, rx_invv, ev_cv, rx_ireturn, rx_tableswitch, kl_41, kl_47, kl_87, kl_88, ev_K, ev_pI, ev_pR, ev_pVi, ev_pVr, ev_sI, ev_sR, ev_KC, ev_k, ev_ko, ev_pop0, ev_pops, am_ld, am_sv, am_at, am_st, am_g, List.length_cons, List.length_nil, Nat.reduceAdd, Nat.reduceLT, Nat.zero_add, if_true, if_false, and_self, true_or, or_true, true_and, and_true, not_true_eq_false, not_false_eq_true, reduceCtorEq, eq_self, Option.toList_some, Option.toList_none, List.cons_append, List.nil_append, Bool.false_eq_true, v0, lg0]
  refine am_CL_of q1 ?_
  simp only [am_R_eq, cx_86, en_86, rt_86, rx_aload_n, rx_bipush, rx_getfield, ev_gf, rx_iconst, rx_icmp_lt, rx_icmp_ne, rx_if_lt, rx_iload_n, rx_invv, ev_cv, rx_ireturn, rx_tableswitch, kl_41, kl_47, kl_87, kl_88, ev_K, ev_pI, ev_pR, ev_pVi, ev_pVr, ev_sI, ev_sR, ev_KC, ev_k, ev_ko, ev_pop0, ev_pops, am_ld, am_sv, am_at, am_st, am_g, List.length_cons, List.length_nil, Nat.reduceAdd, Nat.reduceLT, Nat.zero_add, if_true, if_false, and_self, true_or, or_true, true_and, and_true, not_true_eq_false, not_false_eq_true, reduceCtorEq, eq_self, Option.toList_some, Option.toList_none, List.cons_append, List.nil_append, Bool.false_eq_true]
theorem vl_segOut (d : Nat) {k w : Int32} (hk1 : ¬ k = -1) (hk : k < 0 ∨ ¬ k < nI (g 1)) (hV : vs_V z h ad tt rr aa R C fl c tk cb tb sb g S En E v) : am_M z (d + 1 + 1) 86 [.ref (ad 0), .int k, .int w] h (some (.int (-2))) h := by
  obtain ⟨v0, v1, v2, v3, v4, v5, v6, v7, v8⟩ := hV
  have lg0 := v5.1
  have q1 := lg_segmentCount z d v5
  rw [am_M_eq]
  by_cases c1 : k < 0
  · simp only [am_R_eq, cx_86, en_86, rt_86, rx_aload_n, rx_bipush, rx_getfield, ev_gf, rx_iconst, rx_icmp_lt, rx_icmp_ne, rx_if_lt, rx_iload_n, rx_invv, ev_cv, rx_ireturn, rx_tableswitch, kl_41, kl_47, kl_87, kl_88, ev_K, ev_pI, ev_pR, ev_pVi, ev_pVr, ev_sI, ev_sR, ev_KC, ev_k, ev_ko, ev_pop0, ev_pops, am_ld, am_sv, am_at, am_st, am_g, List.length_cons, List.length_nil, Nat.reduceAdd, Nat.reduceLT, Nat.zero_add, if_true, if_false, and_self, true_or, or_true, true_and, and_true, not_true_eq_false, not_false_eq_true, reduceCtorEq, eq_self, Option.toList_some, Option.toList_none, List.cons_append, List.nil_append, Bool.false_eq_true, hk1, c1]
  · have c2 := hk.resolve_left c1
    simp only [am_R_eq, cx_86, en_86, rt_86, rx_aload_n, rx_bipush, rx_getfield, ev_gf, rx_iconst, rx_icmp_lt, rx_icmp_ne, rx_if_lt, rx_iload_n, rx_invv, ev_cv, rx_ireturn, rx_tableswitch, kl_41, kl_47, kl_87, kl_88, ev_K, ev_pI, ev_pR, ev_pVi, ev_pVr, ev_sI, ev_sR, ev_KC, ev_k, ev_ko, ev_pop0, ev_pops, am_ld, am_sv, am_at, am_st, am_g, List.length_cons, List.length_nil, Nat.reduceAdd, Nat.reduceLT, Nat.zero_add, if_true, if_false, and_self, true_or, or_true, true_and, and_true, not_true_eq_false, not_false_eq_true, reduceCtorEq, eq_self, Option.toList_some, Option.toList_none, List.cons_append, List.nil_append, Bool.false_eq_true, hk1, c1, v0, lg0]
    refine am_CL_of q1 ?_
    simp only [am_R_eq, cx_86, en_86, rt_86, rx_aload_n, rx_bipush, rx_getfield, ev_gf, rx_iconst, rx_icmp_lt, rx_icmp_ne, rx_if_lt, rx_iload_n, rx_invv, ev_cv, rx_ireturn, rx_tableswitch, kl_41, kl_47, kl_87, kl_88, ev_K, ev_pI, ev_pR, ev_pVi, ev_pVr, ev_sI, ev_sR, ev_KC, ev_k, ev_ko, ev_pop0, ev_pops, am_ld, am_sv, am_at, am_st, am_g, List.length_cons, List.length_nil, Nat.reduceAdd, Nat.reduceLT, Nat.zero_add, if_true, if_false, and_self, true_or, or_true, true_and, and_true, not_true_eq_false, not_false_eq_true, reduceCtorEq, eq_self, Option.toList_some, Option.toList_none, List.cons_append, List.nil_append, Bool.false_eq_true, c2]
theorem vl_seg (d : Nat) {k : Nat} (hk : k < g 1) (hV : vs_V z h ad tt rr aa R C fl c tk cb tb sb g S En E v) : am_M z (d + 1 + 1) 86 [.ref (ad 0), .int (nI k), .int (nI 0)] h (some (.int (nI (g 0 + k)))) h ∧ am_M z (d + 1 + 1) 86 [.ref (ad 0), .int (nI k), .int (nI 1)] h (some (.int (nI (tk k)))) h ∧ am_M z (d + 1 + 1 + 1 + 1 + 1) 86 [.ref (ad 0), .int (nI k), .int (nI 2)] h (some (.int (nI ((R 1).countP (e_live E (nI (g 0 + k))) + (e_fl (C 0) 0 (c 0)).countP (e_live E (nI (g 0 + k))) + (e_fl (C 1) 0 (c 1)).countP (e_live E (nI (g 0 + k))) + (e_fl (C 2) 0 (c 2)).countP (e_live E (nI (g 0 + k))))))) h ∧ ∀ w : Int32, (w < 0 ∨ 3 ≤ w.toNatClampNeg) → am_M z (d + 1 + 1) 86 [.ref (ad 0), .int (nI k), .int w] h (some (.int (-2))) h := by
  have q5 := vl_countLive d (s := nI (g 0 + k)) hV
  obtain ⟨v0, v1, v2, v3, v4, v5, v6, v7, v8⟩ := hV
  have lg0 := v5.1
  have hg := v5.2.2.2.2.2.1
  have e3 : ¬ nI k < 0 := nI_pos (by omega)
  have e4 : nI k < nI (g 1) := nI_lt hk (by omega)
  have e5 : ¬ nI k = -1 := by
    intro q
    rw [q] at e3
    exact e3 (by decide)
  refine ⟨?_, ?_, ?_, ?_⟩
  · have q1 := lg_segmentCount z d v5
    have q2 := lg_numberOf z d (k := k) v5
    have c1 := sw_n 0 (by omega)
    have c2 := sw_c 0 (by omega)
    rw [am_M_eq]
    simp only [am_R_eq, cx_86, en_86, rt_86, rx_aload_n, rx_bipush, rx_getfield, ev_gf, rx_iconst, rx_icmp_lt, rx_icmp_ne, rx_if_lt, rx_iload_n, rx_invv, ev_cv, rx_ireturn, rx_tableswitch, kl_41, kl_47, kl_87, kl_88, ev_K, ev_pI, ev_pR, ev_pVi, ev_pVr, ev_sI, ev_sR, ev_KC, ev_k, ev_ko, ev_pop0, ev_pops, am_ld, am_sv, am_at, am_st, am_g, List.length_cons, List.length_nil, Nat.reduceAdd, Nat.reduceLT, Nat.zero_add, if_true, if_false, and_self, true_or, or_true, true_and, and_true, not_true_eq_false, not_false_eq_true, reduceCtorEq, eq_self, Option.toList_some, Option.toList_none, List.cons_append, List.nil_append, Bool.false_eq_true, e5, e3, v0, lg0]
    refine am_CL_of q1 ?_
    simp only [am_R_eq, cx_86, en_86, rt_86, rx_aload_n, rx_bipush, rx_getfield, ev_gf, rx_iconst, rx_icmp_lt, rx_icmp_ne, rx_if_lt, rx_iload_n, rx_invv, ev_cv, rx_ireturn, rx_tableswitch, kl_41, kl_47, kl_87, kl_88, ev_K, ev_pI, ev_pR, ev_pVi, ev_pVr, ev_sI, ev_sR, ev_KC, ev_k, ev_ko, ev_pop0, ev_pops, am_ld, am_sv, am_at, am_st, am_g, List.length_cons, List.length_nil, Nat.reduceAdd, Nat.reduceLT, Nat.zero_add, if_true, if_false, and_self, true_or, or_true, true_and, and_true, not_true_eq_false, not_false_eq_true, reduceCtorEq, eq_self, Option.toList_some, Option.toList_none, List.cons_append, List.nil_append, Bool.false_eq_true, e4, c1, c2, am_tn, v0, lg0, Nat.reduceLeDiff, or_self]
    refine am_CL_of q2 ?_
    simp only [am_R_eq, cx_86, en_86, rt_86, rx_aload_n, rx_bipush, rx_getfield, ev_gf, rx_iconst, rx_icmp_lt, rx_icmp_ne, rx_if_lt, rx_iload_n, rx_invv, ev_cv, rx_ireturn, rx_tableswitch, kl_41, kl_47, kl_87, kl_88, ev_K, ev_pI, ev_pR, ev_pVi, ev_pVr, ev_sI, ev_sR, ev_KC, ev_k, ev_ko, ev_pop0, ev_pops, am_ld, am_sv, am_at, am_st, am_g, List.length_cons, List.length_nil, Nat.reduceAdd, Nat.reduceLT, Nat.zero_add, if_true, if_false, and_self, true_or, or_true, true_and, and_true, not_true_eq_false, not_false_eq_true, reduceCtorEq, eq_self, Option.toList_some, Option.toList_none, List.cons_append, List.nil_append, Bool.false_eq_true]
  · have q1 := lg_segmentCount z d v5
    have q2 := lg_cellsTakenOf z d (k := k) hk v5
    have c1 := sw_n 1 (by omega)
    have c2 := sw_c 1 (by omega)
    rw [am_M_eq]
    simp only [am_R_eq, cx_86, en_86, rt_86, rx_aload_n, rx_bipush, rx_getfield, ev_gf, rx_iconst, rx_icmp_lt, rx_icmp_ne, rx_if_lt, rx_iload_n, rx_invv, ev_cv, rx_ireturn, rx_tableswitch, kl_41, kl_47, kl_87, kl_88, ev_K, ev_pI, ev_pR, ev_pVi, ev_pVr, ev_sI, ev_sR, ev_KC, ev_k, ev_ko, ev_pop0, ev_pops, am_ld, am_sv, am_at, am_st, am_g, List.length_cons, List.length_nil, Nat.reduceAdd, Nat.reduceLT, Nat.zero_add, if_true, if_false, and_self, true_or, or_true, true_and, and_true, not_true_eq_false, not_false_eq_true, reduceCtorEq, eq_self, Option.toList_some, Option.toList_none, List.cons_append, List.nil_append, Bool.false_eq_true, e5, e3, v0, lg0]
    refine am_CL_of q1 ?_
    simp only [am_R_eq, cx_86, en_86, rt_86, rx_aload_n, rx_bipush, rx_getfield, ev_gf, rx_iconst, rx_icmp_lt, rx_icmp_ne, rx_if_lt, rx_iload_n, rx_invv, ev_cv, rx_ireturn, rx_tableswitch, kl_41, kl_47, kl_87, kl_88, ev_K, ev_pI, ev_pR, ev_pVi, ev_pVr, ev_sI, ev_sR, ev_KC, ev_k, ev_ko, ev_pop0, ev_pops, am_ld, am_sv, am_at, am_st, am_g, List.length_cons, List.length_nil, Nat.reduceAdd, Nat.reduceLT, Nat.zero_add, if_true, if_false, and_self, true_or, or_true, true_and, and_true, not_true_eq_false, not_false_eq_true, reduceCtorEq, eq_self, Option.toList_some, Option.toList_none, List.cons_append, List.nil_append, Bool.false_eq_true, e4, c1, c2, am_tn, v0, lg0, Nat.reduceLeDiff, or_self]
    refine am_CL_of q2 ?_
    simp only [am_R_eq, cx_86, en_86, rt_86, rx_aload_n, rx_bipush, rx_getfield, ev_gf, rx_iconst, rx_icmp_lt, rx_icmp_ne, rx_if_lt, rx_iload_n, rx_invv, ev_cv, rx_ireturn, rx_tableswitch, kl_41, kl_47, kl_87, kl_88, ev_K, ev_pI, ev_pR, ev_pVi, ev_pVr, ev_sI, ev_sR, ev_KC, ev_k, ev_ko, ev_pop0, ev_pops, am_ld, am_sv, am_at, am_st, am_g, List.length_cons, List.length_nil, Nat.reduceAdd, Nat.reduceLT, Nat.zero_add, if_true, if_false, and_self, true_or, or_true, true_and, and_true, not_true_eq_false, not_false_eq_true, reduceCtorEq, eq_self, Option.toList_some, Option.toList_none, List.cons_append, List.nil_append, Bool.false_eq_true]
  · have q1 := lg_segmentCount z (d + 1 + 1 + 1) v5
    have q2 := lg_numberOf z (d + 1 + 1 + 1) (k := k) v5
    have c1 := sw_n 2 (by omega)
    have c2 := sw_c 2 (by omega)
    rw [am_M_eq]
    simp only [am_R_eq, cx_86, en_86, rt_86, rx_aload_n, rx_bipush, rx_getfield, ev_gf, rx_iconst, rx_icmp_lt, rx_icmp_ne, rx_if_lt, rx_iload_n, rx_invv, ev_cv, rx_ireturn, rx_tableswitch, kl_41, kl_47, kl_87, kl_88, ev_K, ev_pI, ev_pR, ev_pVi, ev_pVr, ev_sI, ev_sR, ev_KC, ev_k, ev_ko, ev_pop0, ev_pops, am_ld, am_sv, am_at, am_st, am_g, List.length_cons, List.length_nil, Nat.reduceAdd, Nat.reduceLT, Nat.zero_add, if_true, if_false, and_self, true_or, or_true, true_and, and_true, not_true_eq_false, not_false_eq_true, reduceCtorEq, eq_self, Option.toList_some, Option.toList_none, List.cons_append, List.nil_append, Bool.false_eq_true, e5, e3, v0, lg0]
    refine am_CL_of q1 ?_
    simp only [am_R_eq, cx_86, en_86, rt_86, rx_aload_n, rx_bipush, rx_getfield, ev_gf, rx_iconst, rx_icmp_lt, rx_icmp_ne, rx_if_lt, rx_iload_n, rx_invv, ev_cv, rx_ireturn, rx_tableswitch, kl_41, kl_47, kl_87, kl_88, ev_K, ev_pI, ev_pR, ev_pVi, ev_pVr, ev_sI, ev_sR, ev_KC, ev_k, ev_ko, ev_pop0, ev_pops, am_ld, am_sv, am_at, am_st, am_g, List.length_cons, List.length_nil, Nat.reduceAdd, Nat.reduceLT, Nat.zero_add, if_true, if_false, and_self, true_or, or_true, true_and, and_true, not_true_eq_false, not_false_eq_true, reduceCtorEq, eq_self, Option.toList_some, Option.toList_none, List.cons_append, List.nil_append, Bool.false_eq_true, e4, c1, c2, am_tn, v0, lg0, Nat.reduceLeDiff, or_self]
    refine am_CL_of q2 ?_
    simp only [am_R_eq, cx_86, en_86, rt_86, rx_aload_n, rx_bipush, rx_getfield, ev_gf, rx_iconst, rx_icmp_lt, rx_icmp_ne, rx_if_lt, rx_iload_n, rx_invv, ev_cv, rx_ireturn, rx_tableswitch, kl_41, kl_47, kl_87, kl_88, ev_K, ev_pI, ev_pR, ev_pVi, ev_pVr, ev_sI, ev_sR, ev_KC, ev_k, ev_ko, ev_pop0, ev_pops, am_ld, am_sv, am_at, am_st, am_g, List.length_cons, List.length_nil, Nat.reduceAdd, Nat.reduceLT, Nat.zero_add, if_true, if_false, and_self, true_or, or_true, true_and, and_true, not_true_eq_false, not_false_eq_true, reduceCtorEq, eq_self, Option.toList_some, Option.toList_none, List.cons_append, List.nil_append, Bool.false_eq_true, v0]
    refine am_CL_of q5 ?_
    simp only [am_R_eq, cx_86, en_86, rt_86, rx_aload_n, rx_bipush, rx_getfield, ev_gf, rx_iconst, rx_icmp_lt, rx_icmp_ne, rx_if_lt, rx_iload_n, rx_invv, ev_cv, rx_ireturn, rx_tableswitch, kl_41, kl_47, kl_87, kl_88, ev_K, ev_pI, ev_pR, ev_pVi, ev_pVr, ev_sI, ev_sR, ev_KC, ev_k, ev_ko, ev_pop0, ev_pops, am_ld, am_sv, am_at, am_st, am_g, List.length_cons, List.length_nil, Nat.reduceAdd, Nat.reduceLT, Nat.zero_add, if_true, if_false, and_self, true_or, or_true, true_and, and_true, not_true_eq_false, not_false_eq_true, reduceCtorEq, eq_self, Option.toList_some, Option.toList_none, List.cons_append, List.nil_append, Bool.false_eq_true]
  · intro w hw
    have q1 := lg_segmentCount z d v5
    rw [am_M_eq]
    simp only [am_R_eq, cx_86, en_86, rt_86, rx_aload_n, rx_bipush, rx_getfield, ev_gf, rx_iconst, rx_icmp_lt, rx_icmp_ne, rx_if_lt, rx_iload_n, rx_invv, ev_cv, rx_ireturn, rx_tableswitch, kl_41, kl_47, kl_87, kl_88, ev_K, ev_pI, ev_pR, ev_pVi, ev_pVr, ev_sI, ev_sR, ev_KC, ev_k, ev_ko, ev_pop0, ev_pops, am_ld, am_sv, am_at, am_st, am_g, List.length_cons, List.length_nil, Nat.reduceAdd, Nat.reduceLT, Nat.zero_add, if_true, if_false, and_self, true_or, or_true, true_and, and_true, not_true_eq_false, not_false_eq_true, reduceCtorEq, eq_self, Option.toList_some, Option.toList_none, List.cons_append, List.nil_append, Bool.false_eq_true, e5, e3, v0, lg0]
    refine am_CL_of q1 ?_
    simp only [am_R_eq, cx_86, en_86, rt_86, rx_aload_n, rx_bipush, rx_getfield, ev_gf, rx_iconst, rx_icmp_lt, rx_icmp_ne, rx_if_lt, rx_iload_n, rx_invv, ev_cv, rx_ireturn, rx_tableswitch, kl_41, kl_47, kl_87, kl_88, ev_K, ev_pI, ev_pR, ev_pVi, ev_pVr, ev_sI, ev_sR, ev_KC, ev_k, ev_ko, ev_pop0, ev_pops, am_ld, am_sv, am_at, am_st, am_g, List.length_cons, List.length_nil, Nat.reduceAdd, Nat.reduceLT, Nat.zero_add, if_true, if_false, and_self, true_or, or_true, true_and, and_true, not_true_eq_false, not_false_eq_true, reduceCtorEq, eq_self, Option.toList_some, Option.toList_none, List.cons_append, List.nil_append, Bool.false_eq_true, e4, hw]
end VSG
