section VCQ
variable {z : Nat} {h : am_H} {ad : Nat → Nat} {tt rr aa : Nat → Nat → Nat} {R : Nat → List Nat} {C : Nat → Nat → List Nat} {fl : Nat → Nat → Int32} {c : Nat → Nat} {tk cb tb sb g : Nat → Nat} {S : Nat → Int32} {En : Nat → Prop} {E : Nat → Nat → Int32} {v : Nat → Int32}
theorem e_gl_len (E : Nat → Nat → Int32) (s : Int32) (f0 f1 f2 : List Nat) : (e_gl E s f0 f1 f2).length = f0.countP (e_live E s) + f1.countP (e_live E s) + f2.countP (e_live E s) := by
  unfold e_gl
  rw [e_ll_len, e_ll_len, e_ll_len, List.length_nil]
  omega
theorem vl_collectNone (d : Nat) (hV : vs_V z h ad tt rr aa R C fl c tk cb tb sb g S En E v) (hg : g 1 ≤ 1) : am_M z (d + 1 + 1) 46 [.ref (ad 0)] h (some (.int (-2))) h := by
  obtain ⟨v0, v1, v2, v3, v4, v5, v6, v7, v8⟩ := hV
  have lg0 := v5.1
  have q1 := lg_segmentCount z d v5
  have e1 : ¬ 1 < nI (g 1) := nI_nlt (a := 1) (b := g 1) hg (by omega)
  rw [am_M_eq]
  simp only [am_R_eq, cx_46, en_46, rt_46, rx_aload_n, rx_bipush, rx_getfield, ev_gf, rx_iconst, rx_icmp_gt, rx_icmp_le, rx_invv, ev_cv, rx_ireturn, rx_pop_i, rx_pop_r, kl_12, kl_18, kl_36, kl_47, kl_48, kl_53, kl_54, kl_55, ev_K, ev_pI, ev_pR, ev_pVi, ev_pVr, ev_sI, ev_sR, ev_KC, ev_k, ev_ko, ev_pop0, ev_pops, am_ld, am_sv, am_at, am_st, am_g, List.length_cons, List.length_nil, Nat.reduceAdd, Nat.reduceLT, Nat.zero_add, if_true, if_false, and_self, true_or, or_true, true_and, and_true, not_true_eq_false, not_false_eq_true, reduceCtorEq, eq_self, Option.toList_some, Option.toList_none, List.cons_append, List.nil_append, Bool.false_eq_true, v0, lg0]
  refine am_CL_of q1 ?_
  simp only [am_R_eq, cx_46, en_46, rt_46, rx_aload_n, rx_bipush, rx_getfield, ev_gf, rx_iconst, rx_icmp_gt, rx_icmp_le, rx_invv, ev_cv, rx_ireturn, rx_pop_i, rx_pop_r, kl_12, kl_18, kl_36, kl_47, kl_48, kl_53, kl_54, kl_55, ev_K, ev_pI, ev_pR, ev_pVi, ev_pVr, ev_sI, ev_sR, ev_KC, ev_k, ev_ko, ev_pop0, ev_pops, am_ld, am_sv, am_at, am_st, am_g, List.length_cons, List.length_nil, Nat.reduceAdd, Nat.reduceLT, Nat.zero_add, if_true, if_false, and_self, true_or, or_true, true_and, and_true, not_true_eq_false, not_false_eq_true, reduceCtorEq, eq_self, Option.toList_some, Option.toList_none, List.cons_append, List.nil_append, Bool.false_eq_true, e1]
theorem vl_collectFull (d : Nat) {f0 f1 f2 : List Nat} (h0 : e_fl (C 0) 0 (c 0) = f0) (h1 : e_fl (C 1) 0 (c 1) = f1) (h2 : e_fl (C 2) 0 (c 2) = f2) (hV : vs_V z h ad tt rr aa R C fl c tk cb tb sb g S En E v) (hroom : f0.countP (e_live E (nI (g 0))) + f1.countP (e_live E (nI (g 0))) + f2.countP (e_live E (nI (g 0))) ≤ 16) (ht : tk (g 1 - 1) ≤ 16) (hs : 8 < e_sw ((e_gl E (nI (g 0)) f0 f1 f2).length + 1) (g 1) (16 - tk (g 1 - 1)) (e_gl E (nI (g 0)) f0 f1 f2).length) (hs2 : e_sw ((e_gl E (nI (g 0)) f0 f1 f2).length + 1) (g 1) (16 - tk (g 1 - 1)) (e_gl E (nI (g 0)) f0 f1 f2).length < 1000) :
    ∃ h', am_R z (d + 1 + 1 + 1 + 1 + 1) 46 19 [some (.ref (ad 0))] [] h (some (.int (-3))) h' ∧ vs_V z h' ad tt rr aa (va_up R 3 (e_gl E (nI (g 0)) f0 f1 f2)) C fl c tk cb tb sb g S En E v ∧ h'.2 = h.2 := by
  obtain ⟨h', a1, a2, a3⟩ := vl_gather d h0 h1 h2 hV hroom
  refine ⟨h', ?_, a2, a3⟩
  obtain ⟨v0, -⟩ := hV
  have hlen := e_gl_len E (nI (g 0)) f0 f1 f2
  generalize e_gl E (nI (g 0)) f0 f1 f2 = L at *
  obtain ⟨w0, w1, w2, w3, w4, w5, w6, w7, w8⟩ := a2
  have r3 := (w3 3 (by omega)).1
  rw [va_up_self] at r3
  have p3 := r3.1
  have lg0 := w5.1
  have q1 := ro_size z (d + 1 + 1 + 1 + 1) r3
  have q2 := lg_segmentsWith z (d + 1 + 1 + 1 + 1) (v := L.length) w5 (by omega) ht
  have e1 : ¬ nI (e_sw (L.length + 1) (g 1) (16 - tk (g 1 - 1)) L.length) ≤ 8 := nI_ge (a := 8) hs (by omega)
  simp only [am_R_eq, cx_46, en_46, rt_46, rx_aload_n, rx_bipush, rx_getfield, ev_gf, rx_iconst, rx_icmp_gt, rx_icmp_le, rx_invv, ev_cv, rx_ireturn, rx_pop_i, rx_pop_r, kl_12, kl_18, kl_36, kl_47, kl_48, kl_53, kl_54, kl_55, ev_K, ev_pI, ev_pR, ev_pVi, ev_pVr, ev_sI, ev_sR, ev_KC, ev_k, ev_ko, ev_pop0, ev_pops, am_ld, am_sv, am_at, am_st, am_g, List.length_cons, List.length_nil, Nat.reduceAdd, Nat.reduceLT, Nat.zero_add, if_true, if_false, and_self, true_or, or_true, true_and, and_true, not_true_eq_false, not_false_eq_true, reduceCtorEq, eq_self, Option.toList_some, Option.toList_none, List.cons_append, List.nil_append, Bool.false_eq_true, v0]
  refine am_CL_of a1 ?_
  simp only [am_R_eq, cx_46, en_46, rt_46, rx_aload_n, rx_bipush, rx_getfield, ev_gf, rx_iconst, rx_icmp_gt, rx_icmp_le, rx_invv, ev_cv, rx_ireturn, rx_pop_i, rx_pop_r, kl_12, kl_18, kl_36, kl_47, kl_48, kl_53, kl_54, kl_55, ev_K, ev_pI, ev_pR, ev_pVi, ev_pVr, ev_sI, ev_sR, ev_KC, ev_k, ev_ko, ev_pop0, ev_pops, am_ld, am_sv, am_at, am_st, am_g, List.length_cons, List.length_nil, Nat.reduceAdd, Nat.reduceLT, Nat.zero_add, if_true, if_false, and_self, true_or, or_true, true_and, and_true, not_true_eq_false, not_false_eq_true, reduceCtorEq, eq_self, Option.toList_some, Option.toList_none, List.cons_append, List.nil_append, Bool.false_eq_true, w0, lg0, p3]
  refine am_CL_of q1 ?_
  simp only [am_R_eq, cx_46, en_46, rt_46, rx_aload_n, rx_bipush, rx_getfield, ev_gf, rx_iconst, rx_icmp_gt, rx_icmp_le, rx_invv, ev_cv, rx_ireturn, rx_pop_i, rx_pop_r, kl_12, kl_18, kl_36, kl_47, kl_48, kl_53, kl_54, kl_55, ev_K, ev_pI, ev_pR, ev_pVi, ev_pVr, ev_sI, ev_sR, ev_KC, ev_k, ev_ko, ev_pop0, ev_pops, am_ld, am_sv, am_at, am_st, am_g, List.length_cons, List.length_nil, Nat.reduceAdd, Nat.reduceLT, Nat.zero_add, if_true, if_false, and_self, true_or, or_true, true_and, and_true, not_true_eq_false, not_false_eq_true, reduceCtorEq, eq_self, Option.toList_some, Option.toList_none, List.cons_append, List.nil_append, Bool.false_eq_true, lg0]
  refine am_CL_of q2 ?_
  simp only [am_R_eq, cx_46, en_46, rt_46, rx_aload_n, rx_bipush, rx_getfield, ev_gf, rx_iconst, rx_icmp_gt, rx_icmp_le, rx_invv, ev_cv, rx_ireturn, rx_pop_i, rx_pop_r, kl_12, kl_18, kl_36, kl_47, kl_48, kl_53, kl_54, kl_55, ev_K, ev_pI, ev_pR, ev_pVi, ev_pVr, ev_sI, ev_sR, ev_KC, ev_k, ev_ko, ev_pop0, ev_pops, am_ld, am_sv, am_at, am_st, am_g, List.length_cons, List.length_nil, Nat.reduceAdd, Nat.reduceLT, Nat.zero_add, if_true, if_false, and_self, true_or, or_true, true_and, and_true, not_true_eq_false, not_false_eq_true, reduceCtorEq, eq_self, Option.toList_some, Option.toList_none, List.cons_append, List.nil_append, Bool.false_eq_true, e1]
theorem vl_collectRest (d : Nat) {f0 f1 f2 : List Nat} (h0 : e_fl (C 0) 0 (c 0) = f0) (h1 : e_fl (C 1) 0 (c 1) = f1) (h2 : e_fl (C 2) 0 (c 2) = f2) (hV : vs_V z h ad tt rr aa R C fl c tk cb tb sb g S En E v) (hroom : f0.countP (e_live E (nI (g 0))) + f1.countP (e_live E (nI (g 0))) + f2.countP (e_live E (nI (g 0))) ≤ 16) (ht : tk (g 1 - 1) ≤ 16) (hs : e_sw ((e_gl E (nI (g 0)) f0 f1 f2).length + 1) (g 1) (16 - tk (g 1 - 1)) (e_gl E (nI (g 0)) f0 f1 f2).length ≤ 8) (hg : 2 ≤ g 1) (hg0 : g 0 < 10000) (hb : ∀ x ∈ e_gl E (nI (g 0)) f0 f1 f2, x ≠ ad 1) :
    ∃ h' tk', am_R z (d + 1 + 1 + 1 + 1 + 1) 46 19 [some (.ref (ad 0))] [] h (some (.int (nI (e_gl E (nI (g 0)) f0 f1 f2).length))) h' ∧ vs_V z h' ad tt rr aa (va_up R 3 (e_gl E (nI (g 0)) f0 f1 f2)) C fl c tk' cb tb sb (e_lg (g 0 + 1) ((e_wm (g 0) (e_gl E (nI (g 0)) f0 f1 f2) 0 E tk (g 1)).2.2 - 1) 0) S En (e_wm (g 0) (e_gl E (nI (g 0)) f0 f1 f2) 0 E tk (g 1)).1 v ∧ h'.2 = h.2 ∧ (∀ i, i < (e_wm (g 0) (e_gl E (nI (g 0)) f0 f1 f2) 0 E tk (g 1)).2.2 - 1 → tk' i = (e_wm (g 0) (e_gl E (nI (g 0)) f0 f1 f2) 0 E tk (g 1)).2.1 (i + 1)) := by
  obtain ⟨ha, a1, a2, a3⟩ := vl_gather d h0 h1 h2 hV hroom
  obtain ⟨v0, -⟩ := hV
  have hlen := e_gl_len E (nI (g 0)) f0 f1 f2
  generalize e_gl E (nI (g 0)) f0 f1 f2 = L at *
  have hwi : e_wi 0 tk (g 1) L.length := by
    refine ⟨L.length + 1, by omega, ?_, ?_, ?_⟩
    · show tk (g 1 - 1) + min 0 L.length ≤ 16
      omega
    · omega
    · rw [show min ((6 - 0 % 6) % 6) L.length = 0 by omega, Nat.add_zero, Nat.sub_zero]
      exact hs
  have hA := a2
  have eg : e_lg (g 0) (g 1) (g 2) 0 = g 0 ∧ e_lg (g 0) (g 1) (g 2) 1 = g 1 ∧ e_lg (g 0) (g 1) (g 2) 2 = g 2 := ⟨rfl, rfl, rfl⟩
  obtain ⟨w0, w1, w2, w3, w4, w5, w6, w7, w8⟩ := a2
  have hA2 : vs_V z ha ad tt rr aa (va_up R 3 L) C fl c tk cb tb sb (e_lg (g 0) (g 1) (g 2)) S En E v := ⟨w0, w1, w2, w3, w4, w5, w6, w7, w8⟩
  have r3 := (w3 3 (by omega)).1
  rw [va_up_self] at r3
  have p3 := r3.1
  have lg0 := w5.1
  have q1 := ro_size z (d + 1 + 1 + 1 + 1) r3
  have q2 := lg_segmentsWith z (d + 1 + 1 + 1 + 1) (v := L.length) w5 (by omega) ht
  have e1 : nI (e_sw (L.length + 1) (g 1) (16 - tk (g 1 - 1)) L.length) ≤ 8 := nI_le (b := 8) hs (by omega)
  have e3 : va_up R 3 L 3 = L := va_up_self _ _ _
  obtain ⟨hc, c1, c2, c3⟩ := vl_writeMoved (d + 1 + 1) (R := va_up R 3 L) (z := z) (ad := ad) (g := g) L.length 0 ha E tk (g 1) (by rw [e3]; omega) (Nat.zero_le _) (by rw [e3]; exact hwi) (by rw [e3]; exact hb) hA2
  rw [e3, List.drop_zero] at c2
  have hwc := e_wm_c (g 0) L 0 E tk (g 1) hwi
  generalize e_wm (g 0) L 0 E tk (g 1) = W at *
  have hC := c2
  obtain ⟨x0, x1, x2, x3, x4, x5, x6, x7, x8⟩ := c2
  have lg1 := x5.1
  obtain ⟨hd, d1, d2, d3⟩ := lg_syncAll z (d + 1 + 1 + 1 + 1) (w7.2.1 2 (by omega)) x5
  have hD := hC.log (g' := e_lg (g 0) W.2.2 0) d3 d2
  have hD0 := hD
  obtain ⟨y0, y1, y2, y3, y4, y5, y6, y7, y8⟩ := hD
  have lg2 := y5.1
  obtain ⟨he, tk', f1, f2, f3, f4⟩ := lg_dropTail z (d + 1 + 1 + 1 + 1) (w7.2.1 2 (by omega)) (w7.2.1 19 (by omega)) y5 (by show 2 ≤ W.2.2; omega) hg0
  have hE := hD0.log (g' := e_lg (g 0 + 1) (W.2.2 - 1) 0) f4 f2
  refine ⟨he, tk', ?_, hE, by rw [f4.2, d3.2, c3, a3], f3⟩
  obtain ⟨u0, u1, u2, u3, u4, u5, u6, u7, u8⟩ := hE
  have r5 := (u3 3 (by omega)).1
  rw [va_up_self] at r5
  have p5 := r5.1
  have q5 := ro_size z (d + 1 + 1 + 1 + 1) r5
  have m1 : am_M z (d + 1 + 1 + 1 + 1 + 1) 54 [.ref (ad 0)] ha none hc := by
    rw [am_R_eq] at c1
    have z0 : nI 0 = 0 := rfl
    rw [z0] at c1
    rw [am_M_eq]
    simp only [am_R_eq, cx_54, en_54, rt_54, rx_aload_n, rx_bipush, rx_getfield, ev_gf, rx_goto, rx_iconst, rx_icmp_ge, rx_if_ne, rx_iinc, ev_inc, rx_iload_n, rx_invs, rx_max2, rx_min2, rx_copy2, rx_invv, ev_cv, rx_irem, rx_istore_n, rx_isub, rx_return, kl_12, kl_24, kl_39, kl_40, ev_K, ev_pI, ev_pR, ev_pVi, ev_pVr, ev_sI, ev_sR, ev_KC, ev_k, ev_ko, ev_pop0, ev_pops, am_ld, am_sv, am_at, am_st, am_g, List.length_cons, List.length_nil, Nat.reduceAdd, Nat.reduceLT, Nat.zero_add, if_true, if_false, and_self, true_or, or_true, true_and, and_true, not_true_eq_false, not_false_eq_true, reduceCtorEq, eq_self, Option.toList_some, Option.toList_none, List.cons_append, List.nil_append, Bool.false_eq_true]
    exact c1
  simp only [am_R_eq, cx_46, en_46, rt_46, rx_aload_n, rx_bipush, rx_getfield, ev_gf, rx_iconst, rx_icmp_gt, rx_icmp_le, rx_invv, ev_cv, rx_ireturn, rx_pop_i, rx_pop_r, kl_12, kl_18, kl_36, kl_47, kl_48, kl_53, kl_54, kl_55, ev_K, ev_pI, ev_pR, ev_pVi, ev_pVr, ev_sI, ev_sR, ev_KC, ev_k, ev_ko, ev_pop0, ev_pops, am_ld, am_sv, am_at, am_st, am_g, List.length_cons, List.length_nil, Nat.reduceAdd, Nat.reduceLT, Nat.zero_add, if_true, if_false, and_self, true_or, or_true, true_and, and_true, not_true_eq_false, not_false_eq_true, reduceCtorEq, eq_self, Option.toList_some, Option.toList_none, List.cons_append, List.nil_append, Bool.false_eq_true, v0]
  refine am_CL_of a1 ?_
  simp only [am_R_eq, cx_46, en_46, rt_46, rx_aload_n, rx_bipush, rx_getfield, ev_gf, rx_iconst, rx_icmp_gt, rx_icmp_le, rx_invv, ev_cv, rx_ireturn, rx_pop_i, rx_pop_r, kl_12, kl_18, kl_36, kl_47, kl_48, kl_53, kl_54, kl_55, ev_K, ev_pI, ev_pR, ev_pVi, ev_pVr, ev_sI, ev_sR, ev_KC, ev_k, ev_ko, ev_pop0, ev_pops, am_ld, am_sv, am_at, am_st, am_g, List.length_cons, List.length_nil, Nat.reduceAdd, Nat.reduceLT, Nat.zero_add, if_true, if_false, and_self, true_or, or_true, true_and, and_true, not_true_eq_false, not_false_eq_true, reduceCtorEq, eq_self, Option.toList_some, Option.toList_none, List.cons_append, List.nil_append, Bool.false_eq_true, w0, lg0, p3]
  refine am_CL_of q1 ?_
  simp only [am_R_eq, cx_46, en_46, rt_46, rx_aload_n, rx_bipush, rx_getfield, ev_gf, rx_iconst, rx_icmp_gt, rx_icmp_le, rx_invv, ev_cv, rx_ireturn, rx_pop_i, rx_pop_r, kl_12, kl_18, kl_36, kl_47, kl_48, kl_53, kl_54, kl_55, ev_K, ev_pI, ev_pR, ev_pVi, ev_pVr, ev_sI, ev_sR, ev_KC, ev_k, ev_ko, ev_pop0, ev_pops, am_ld, am_sv, am_at, am_st, am_g, List.length_cons, List.length_nil, Nat.reduceAdd, Nat.reduceLT, Nat.zero_add, if_true, if_false, and_self, true_or, or_true, true_and, and_true, not_true_eq_false, not_false_eq_true, reduceCtorEq, eq_self, Option.toList_some, Option.toList_none, List.cons_append, List.nil_append, Bool.false_eq_true, lg0]
  refine am_CL_of q2 ?_
  simp only [am_R_eq, cx_46, en_46, rt_46, rx_aload_n, rx_bipush, rx_getfield, ev_gf, rx_iconst, rx_icmp_gt, rx_icmp_le, rx_invv, ev_cv, rx_ireturn, rx_pop_i, rx_pop_r, kl_12, kl_18, kl_36, kl_47, kl_48, kl_53, kl_54, kl_55, ev_K, ev_pI, ev_pR, ev_pVi, ev_pVr, ev_sI, ev_sR, ev_KC, ev_k, ev_ko, ev_pop0, ev_pops, am_ld, am_sv, am_at, am_st, am_g, List.length_cons, List.length_nil, Nat.reduceAdd, Nat.reduceLT, Nat.zero_add, if_true, if_false, and_self, true_or, or_true, true_and, and_true, not_true_eq_false, not_false_eq_true, reduceCtorEq, eq_self, Option.toList_some, Option.toList_none, List.cons_append, List.nil_append, Bool.false_eq_true, e1, w0]
  refine am_CL_of m1 ?_
  simp only [am_R_eq, cx_46, en_46, rt_46, rx_aload_n, rx_bipush, rx_getfield, ev_gf, rx_iconst, rx_icmp_gt, rx_icmp_le, rx_invv, ev_cv, rx_ireturn, rx_pop_i, rx_pop_r, kl_12, kl_18, kl_36, kl_47, kl_48, kl_53, kl_54, kl_55, ev_K, ev_pI, ev_pR, ev_pVi, ev_pVr, ev_sI, ev_sR, ev_KC, ev_k, ev_ko, ev_pop0, ev_pops, am_ld, am_sv, am_at, am_st, am_g, List.length_cons, List.length_nil, Nat.reduceAdd, Nat.reduceLT, Nat.zero_add, if_true, if_false, and_self, true_or, or_true, true_and, and_true, not_true_eq_false, not_false_eq_true, reduceCtorEq, eq_self, Option.toList_some, Option.toList_none, List.cons_append, List.nil_append, Bool.false_eq_true, x0, lg1]
  refine am_CL_of d1 ?_
  simp only [am_R_eq, cx_46, en_46, rt_46, rx_aload_n, rx_bipush, rx_getfield, ev_gf, rx_iconst, rx_icmp_gt, rx_icmp_le, rx_invv, ev_cv, rx_ireturn, rx_pop_i, rx_pop_r, kl_12, kl_18, kl_36, kl_47, kl_48, kl_53, kl_54, kl_55, ev_K, ev_pI, ev_pR, ev_pVi, ev_pVr, ev_sI, ev_sR, ev_KC, ev_k, ev_ko, ev_pop0, ev_pops, am_ld, am_sv, am_at, am_st, am_g, List.length_cons, List.length_nil, Nat.reduceAdd, Nat.reduceLT, Nat.zero_add, if_true, if_false, and_self, true_or, or_true, true_and, and_true, not_true_eq_false, not_false_eq_true, reduceCtorEq, eq_self, Option.toList_some, Option.toList_none, List.cons_append, List.nil_append, Bool.false_eq_true, y0, lg2]
  refine am_CL_of f1 ?_
  simp only [am_R_eq, cx_46, en_46, rt_46, rx_aload_n, rx_bipush, rx_getfield, ev_gf, rx_iconst, rx_icmp_gt, rx_icmp_le, rx_invv, ev_cv, rx_ireturn, rx_pop_i, rx_pop_r, kl_12, kl_18, kl_36, kl_47, kl_48, kl_53, kl_54, kl_55, ev_K, ev_pI, ev_pR, ev_pVi, ev_pVr, ev_sI, ev_sR, ev_KC, ev_k, ev_ko, ev_pop0, ev_pops, am_ld, am_sv, am_at, am_st, am_g, List.length_cons, List.length_nil, Nat.reduceAdd, Nat.reduceLT, Nat.zero_add, if_true, if_false, and_self, true_or, or_true, true_and, and_true, not_true_eq_false, not_false_eq_true, reduceCtorEq, eq_self, Option.toList_some, Option.toList_none, List.cons_append, List.nil_append, Bool.false_eq_true, u0, p5]
  refine am_CL_of q5 ?_
  simp only [am_R_eq, cx_46, en_46, rt_46, rx_aload_n, rx_bipush, rx_getfield, ev_gf, rx_iconst, rx_icmp_gt, rx_icmp_le, rx_invv, ev_cv, rx_ireturn, rx_pop_i, rx_pop_r, kl_12, kl_18, kl_36, kl_47, kl_48, kl_53, kl_54, kl_55, ev_K, ev_pI, ev_pR, ev_pVi, ev_pVr, ev_sI, ev_sR, ev_KC, ev_k, ev_ko, ev_pop0, ev_pops, am_ld, am_sv, am_at, am_st, am_g, List.length_cons, List.length_nil, Nat.reduceAdd, Nat.reduceLT, Nat.zero_add, if_true, if_false, and_self, true_or, or_true, true_and, and_true, not_true_eq_false, not_false_eq_true, reduceCtorEq, eq_self, Option.toList_some, Option.toList_none, List.cons_append, List.nil_append, Bool.false_eq_true]
theorem vl_collectGo (d : Nat) {h1 : am_H} {r0 : Int32} {w : Option Value} {h' : am_H} (hV : vs_V z h ad tt rr aa R C fl c tk cb tb sb g S En E v) (hg : 2 ≤ g 1) (m1 : am_M z (d + 1) 18 [.ref (ad 0)] h (some (.int r0)) h1) (k1 : am_R z (d + 1) 46 19 [some (.ref (ad 0))] [] h1 w h') : am_M z (d + 1 + 1) 46 [.ref (ad 0)] h w h' := by
  obtain ⟨v0, v1, v2, v3, v4, v5, v6, v7, v8⟩ := hV
  have lg0 := v5.1
  have hg8 := v5.2.2.2.2.2.1
  have q1 := lg_segmentCount z d v5
  have e1 : 1 < nI (g 1) := nI_lt (a := 1) (by omega) (by omega)
  rw [am_M_eq]
  simp only [am_R_eq, cx_46, en_46, rt_46, rx_aload_n, rx_bipush, rx_getfield, ev_gf, rx_iconst, rx_icmp_gt, rx_icmp_le, rx_invv, ev_cv, rx_ireturn, rx_pop_i, rx_pop_r, kl_12, kl_18, kl_36, kl_47, kl_48, kl_53, kl_54, kl_55, ev_K, ev_pI, ev_pR, ev_pVi, ev_pVr, ev_sI, ev_sR, ev_KC, ev_k, ev_ko, ev_pop0, ev_pops, am_ld, am_sv, am_at, am_st, am_g, List.length_cons, List.length_nil, Nat.reduceAdd, Nat.reduceLT, Nat.zero_add, if_true, if_false, and_self, true_or, or_true, true_and, and_true, not_true_eq_false, not_false_eq_true, reduceCtorEq, eq_self, Option.toList_some, Option.toList_none, List.cons_append, List.nil_append, Bool.false_eq_true, v0, lg0]
  refine am_CL_of q1 ?_
  simp only [am_R_eq, cx_46, en_46, rt_46, rx_aload_n, rx_bipush, rx_getfield, ev_gf, rx_iconst, rx_icmp_gt, rx_icmp_le, rx_invv, ev_cv, rx_ireturn, rx_pop_i, rx_pop_r, kl_12, kl_18, kl_36, kl_47, kl_48, kl_53, kl_54, kl_55, ev_K, ev_pI, ev_pR, ev_pVi, ev_pVr, ev_sI, ev_sR, ev_KC, ev_k, ev_ko, ev_pop0, ev_pops, am_ld, am_sv, am_at, am_st, am_g, List.length_cons, List.length_nil, Nat.reduceAdd, Nat.reduceLT, Nat.zero_add, if_true, if_false, and_self, true_or, or_true, true_and, and_true, not_true_eq_false, not_false_eq_true, reduceCtorEq, eq_self, Option.toList_some, Option.toList_none, List.cons_append, List.nil_append, Bool.false_eq_true, e1, v0]
  refine am_CL_of m1 ?_
  revert k1
  simp only [am_R_eq, cx_46, en_46, rt_46, rx_aload_n, rx_bipush, rx_getfield, ev_gf, rx_iconst, rx_icmp_gt, rx_icmp_le, rx_invv, ev_cv, rx_ireturn, rx_pop_i, rx_pop_r, kl_12, kl_18, kl_36, kl_47, kl_48, kl_53, kl_54, kl_55, ev_K, ev_pI, ev_pR, ev_pVi, ev_pVr, ev_sI, ev_sR, ev_KC, ev_k, ev_ko, ev_pop0, ev_pops, am_ld, am_sv, am_at, am_st, am_g, List.length_cons, List.length_nil, Nat.reduceAdd, Nat.reduceLT, Nat.zero_add, if_true, if_false, and_self, true_or, or_true, true_and, and_true, not_true_eq_false, not_false_eq_true, reduceCtorEq, eq_self, Option.toList_some, Option.toList_none, List.cons_append, List.nil_append, Bool.false_eq_true]
  exact fun q => q
end VCQ
