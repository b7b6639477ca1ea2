section VSC
variable {z : Nat} {h : am_H} {ad : Nat → Nat} {tt rr aa : Nat → Nat → Nat} {R : Nat → List Nat} {C : Nat → Nat → List Nat} {fl : Nat → Nat → Int32} {c : Nat → Nat} {tk cb tb sb g : Nat → Nat} {S : Nat → Int32} {En : Nat → Prop} {E : Nat → Nat → Int32} {v : Nat → Int32}
def e_sc (P : Nat → Bool) (want : Int32) : Nat → Nat → Int32 → Int32
  | 0, _, _ => -2
  | m + 1, i, p => if P i = true then e_sc P want m (i + 1) p else if p = want then nI i else e_sc P want m (i + 1) (p + 1)
def e_s0 (from_ : Int32) : Nat := if from_ < 0 then 0 else min from_.toNatClampNeg 32
theorem vl_scanBad (d : Nat) {s fr k : Int32} (hk : e_sg S (v 1) s = -1 ∨ k < 0) (hV : vs_V z h ad tt rr aa R C fl c tk cb tb sb g S En E v) : am_M z (d + 1 + 1 + 1) 81 [.ref (ad 0), .int s, .int fr, .int k] h (some (.int (-1))) h := by
  have q1 := vl_sightOf d (s := s) hV
  obtain ⟨v0, -⟩ := hV
  generalize e_sg S (v 1) s = sg at *
  rw [am_M_eq]
  simp only [am_R_eq, cx_81, en_81, rt_81, rx_aload_n, rx_bipush, rx_getfield, ev_gf, rx_goto, rx_iconst, rx_icmp_eq, rx_icmp_ge, rx_icmp_ne, rx_if_ge, rx_if_ne, rx_iinc, ev_inc, rx_iload, rx_iload_n, rx_invs, rx_max2, rx_min2, rx_copy2, rx_invv, ev_cv, rx_ireturn, rx_istore, kl_31, kl_71, kl_72, ev_K, ev_pI, ev_pR, ev_pVi, ev_pVr, ev_sI, ev_sR, ev_KC, ev_k, ev_ko, ev_pop0, ev_pops, am_ld, am_sv, am_at, am_st, am_g, List.length_cons, List.length_nil, Nat.reduceAdd, Nat.reduceLT, Nat.zero_add, if_true, if_false, and_self, true_or, or_true, true_and, and_true, not_true_eq_false, not_false_eq_true, reduceCtorEq, eq_self, Option.toList_some, Option.toList_none, List.cons_append, List.nil_append, Bool.false_eq_true, v0]
  refine am_CL_of q1 ?_
  by_cases c1 : sg = -1
  · simp only [am_R_eq, cx_81, en_81, rt_81, rx_aload_n, rx_bipush, rx_getfield, ev_gf, rx_goto, rx_iconst, rx_icmp_eq, rx_icmp_ge, rx_icmp_ne, rx_if_ge, rx_if_ne, rx_iinc, ev_inc, rx_iload, rx_iload_n, rx_invs, rx_max2, rx_min2, rx_copy2, rx_invv, ev_cv, rx_ireturn, rx_istore, kl_31, kl_71, kl_72, ev_K, ev_pI, ev_pR, ev_pVi, ev_pVr, ev_sI, ev_sR, ev_KC, ev_k, ev_ko, ev_pop0, ev_pops, am_ld, am_sv, am_at, am_st, am_g, List.length_cons, List.length_nil, Nat.reduceAdd, Nat.reduceLT, Nat.zero_add, if_true, if_false, and_self, true_or, or_true, true_and, and_true, not_true_eq_false, not_false_eq_true, reduceCtorEq, eq_self, Option.toList_some, Option.toList_none, List.cons_append, List.nil_append, Bool.false_eq_true, c1]
  · have c2 := hk.resolve_left c1
    have c3 : ¬ 0 ≤ k := by
      intro q
      rw [Int32.lt_iff_toInt_lt] at c2
      rw [Int32.le_iff_toInt_le] at q
      omega
    simp only [am_R_eq, cx_81, en_81, rt_81, rx_aload_n, rx_bipush, rx_getfield, ev_gf, rx_goto, rx_iconst, rx_icmp_eq, rx_icmp_ge, rx_icmp_ne, rx_if_ge, rx_if_ne, rx_iinc, ev_inc, rx_iload, rx_iload_n, rx_invs, rx_max2, rx_min2, rx_copy2, rx_invv, ev_cv, rx_ireturn, rx_istore, kl_31, kl_71, kl_72, ev_K, ev_pI, ev_pR, ev_pVi, ev_pVr, ev_sI, ev_sR, ev_KC, ev_k, ev_ko, ev_pop0, ev_pops, am_ld, am_sv, am_at, am_st, am_g, List.length_cons, List.length_nil, Nat.reduceAdd, Nat.reduceLT, Nat.zero_add, if_true, if_false, and_self, true_or, or_true, true_and, and_true, not_true_eq_false, not_false_eq_true, reduceCtorEq, eq_self, Option.toList_some, Option.toList_none, List.cons_append, List.nil_append, Bool.false_eq_true, c1, c2, c3]
theorem vl_scanLoop (d : Nat) {s fr k sg : Int32} (hC : ∀ l k, l < 3 → k < c l → C l k ≠ []) : ∀ (m i : Nat) (p : Int32) (hh : am_H) (v2 : Nat → Int32), m + i = 32 → v2 0 = v 0 → vs_V z hh ad tt rr aa R C fl c tk cb tb sb g S En E v2 →
    ∃ h' x, am_R z (d + 1 + 1 + 1 + 1 + 1) 81 29 [some (.ref (ad 0)), some (.int s), some (.int fr), some (.int k), some (.int sg), some (.int p), some (.int (nI i))] [] hh (some (.int (e_sc (fun q => e_gone E (e_se E (nI q) sg (ad 1) (R 1) C fl c).1 (v 0)) k m i p))) h' ∧ vs_V z h' ad tt rr aa R C fl c tk cb tb sb g S En E (va_up v2 2 x) ∧ h'.2 = hh.2 := by
  intro m
  induction m with
  | zero =>
    intro i p hh v2 hm hv hV
    have hi : i = 32 := by omega
    subst hi
    refine ⟨hh, v2 2, ?_, by rw [va_up_id]; exact hV, rfl⟩
    have e1 : (32 : Int32) ≤ nI 32 := by decide
    rw [am_R_eq, cxh_81_29]
    simp only [am_R_eq, cx_81, en_81, rt_81, rx_aload_n, rx_bipush, rx_getfield, ev_gf, rx_goto, rx_iconst, rx_icmp_eq, rx_icmp_ge, rx_icmp_ne, rx_if_ge, rx_if_ne, rx_iinc, ev_inc, rx_iload, rx_iload_n, rx_invs, rx_max2, rx_min2, rx_copy2, rx_invv, ev_cv, rx_ireturn, rx_istore, kl_31, kl_71, kl_72, ev_K, ev_pI, ev_pR, ev_pVi, ev_pVr, ev_sI, ev_sR, ev_KC, ev_k, ev_ko, ev_pop0, ev_pops, am_ld, am_sv, am_at, am_st, am_g, List.length_cons, List.length_nil, Nat.reduceAdd, Nat.reduceLT, Nat.zero_add, if_true, if_false, and_self, true_or, or_true, true_and, and_true, not_true_eq_false, not_false_eq_true, reduceCtorEq, eq_self, Option.toList_some, Option.toList_none, List.cons_append, List.nil_append, Bool.false_eq_true, e1, e_sc]
  | succ m ih =>
    intro i p hh v2 hm hv hV
    have hi : i < 32 := by omega
    have e1 : ¬ (32 : Int32) ≤ nI i := nI_ge (b := 32) hi (by omega)
    obtain ⟨h2, a1, a2, a3, a4⟩ := vl_seek d (key := nI i) (sight := sg) hC hV
    obtain ⟨v0, -⟩ := hV
    rw [e_sc]
    generalize e_se E (nI i) sg (ad 1) (R 1) C fl c = q at *
    have hV2 := a2
    obtain ⟨w0, w1, -⟩ := a2
    rw [vo_2] at w0
    have f1 := (w1 _ a3).1
    have q1 := en_isGone z (d + 1 + 1 + 1 + 1) (now := v 0) f1
    by_cases hg : e_gone E q.1 (v 0) = true
    · rw [if_pos hg]
      rw [if_pos hg] at q1
      obtain ⟨h', x, i1, i2, i3⟩ := ih (i + 1) p h2 (va_up v2 2 q.2) (by omega) hv hV2
      rw [bx_uu] at i2
      refine ⟨h', x, ?_, i2, by rw [i3, a4]⟩
      rw [am_R_eq] at i1
      rw [am_R_eq, cxh_81_29]
      simp only [am_R_eq, cx_81, en_81, rt_81, rx_aload_n, rx_bipush, rx_getfield, ev_gf, rx_goto, rx_iconst, rx_icmp_eq, rx_icmp_ge, rx_icmp_ne, rx_if_ge, rx_if_ne, rx_iinc, ev_inc, rx_iload, rx_iload_n, rx_invs, rx_max2, rx_min2, rx_copy2, rx_invv, ev_cv, rx_ireturn, rx_istore, kl_31, kl_71, kl_72, ev_K, ev_pI, ev_pR, ev_pVi, ev_pVr, ev_sI, ev_sR, ev_KC, ev_k, ev_ko, ev_pop0, ev_pops, am_ld, am_sv, am_at, am_st, am_g, List.length_cons, List.length_nil, Nat.reduceAdd, Nat.reduceLT, Nat.zero_add, if_true, if_false, and_self, true_or, or_true, true_and, and_true, not_true_eq_false, not_false_eq_true, reduceCtorEq, eq_self, Option.toList_some, Option.toList_none, List.cons_append, List.nil_append, Bool.false_eq_true, e1, v0]
      refine am_CL_of a1 ?_
      simp only [am_R_eq, cx_81, en_81, rt_81, rx_aload_n, rx_bipush, rx_getfield, ev_gf, rx_goto, rx_iconst, rx_icmp_eq, rx_icmp_ge, rx_icmp_ne, rx_if_ge, rx_if_ne, rx_iinc, ev_inc, rx_iload, rx_iload_n, rx_invs, rx_max2, rx_min2, rx_copy2, rx_invv, ev_cv, rx_ireturn, rx_istore, kl_31, kl_71, kl_72, ev_K, ev_pI, ev_pR, ev_pVi, ev_pVr, ev_sI, ev_sR, ev_KC, ev_k, ev_ko, ev_pop0, ev_pops, am_ld, am_sv, am_at, am_st, am_g, List.length_cons, List.length_nil, Nat.reduceAdd, Nat.reduceLT, Nat.zero_add, if_true, if_false, and_self, true_or, or_true, true_and, and_true, not_true_eq_false, not_false_eq_true, reduceCtorEq, eq_self, Option.toList_some, Option.toList_none, List.cons_append, List.nil_append, Bool.false_eq_true, w0, f1, hv]
      refine am_CL_of q1 ?_
      simp only [am_R_eq, cx_81, en_81, rt_81, rx_aload_n, rx_bipush, rx_getfield, ev_gf, rx_goto, rx_iconst, rx_icmp_eq, rx_icmp_ge, rx_icmp_ne, rx_if_ge, rx_if_ne, rx_iinc, ev_inc, rx_iload, rx_iload_n, rx_invs, rx_max2, rx_min2, rx_copy2, rx_invv, ev_cv, rx_ireturn, rx_istore, kl_31, kl_71, kl_72, ev_K, ev_pI, ev_pR, ev_pVi, ev_pVr, ev_sI, ev_sR, ev_KC, ev_k, ev_ko, ev_pop0, ev_pops, am_ld, am_sv, am_at, am_st, am_g, List.length_cons, List.length_nil, Nat.reduceAdd, Nat.reduceLT, Nat.zero_add, if_true, if_false, and_self, true_or, or_true, true_and, and_true, not_true_eq_false, not_false_eq_true, reduceCtorEq, eq_self, Option.toList_some, Option.toList_none, List.cons_append, List.nil_append, Bool.false_eq_true, i_10, nI_ofs]
      exact i1
    · rw [if_neg hg]
      rw [if_neg hg] at q1
      by_cases hp : p = k
      · rw [if_pos hp]
        refine ⟨h2, q.2, ?_, hV2, a4⟩
        rw [am_R_eq, cxh_81_29]
        simp only [am_R_eq, cx_81, en_81, rt_81, rx_aload_n, rx_bipush, rx_getfield, ev_gf, rx_goto, rx_iconst, rx_icmp_eq, rx_icmp_ge, rx_icmp_ne, rx_if_ge, rx_if_ne, rx_iinc, ev_inc, rx_iload, rx_iload_n, rx_invs, rx_max2, rx_min2, rx_copy2, rx_invv, ev_cv, rx_ireturn, rx_istore, kl_31, kl_71, kl_72, ev_K, ev_pI, ev_pR, ev_pVi, ev_pVr, ev_sI, ev_sR, ev_KC, ev_k, ev_ko, ev_pop0, ev_pops, am_ld, am_sv, am_at, am_st, am_g, List.length_cons, List.length_nil, Nat.reduceAdd, Nat.reduceLT, Nat.zero_add, if_true, if_false, and_self, true_or, or_true, true_and, and_true, not_true_eq_false, not_false_eq_true, reduceCtorEq, eq_self, Option.toList_some, Option.toList_none, List.cons_append, List.nil_append, Bool.false_eq_true, e1, v0]
        refine am_CL_of a1 ?_
        simp only [am_R_eq, cx_81, en_81, rt_81, rx_aload_n, rx_bipush, rx_getfield, ev_gf, rx_goto, rx_iconst, rx_icmp_eq, rx_icmp_ge, rx_icmp_ne, rx_if_ge, rx_if_ne, rx_iinc, ev_inc, rx_iload, rx_iload_n, rx_invs, rx_max2, rx_min2, rx_copy2, rx_invv, ev_cv, rx_ireturn, rx_istore, kl_31, kl_71, kl_72, ev_K, ev_pI, ev_pR, ev_pVi, ev_pVr, ev_sI, ev_sR, ev_KC, ev_k, ev_ko, ev_pop0, ev_pops, am_ld, am_sv, am_at, am_st, am_g, List.length_cons, List.length_nil, Nat.reduceAdd, Nat.reduceLT, Nat.zero_add, if_true, if_false, and_self, true_or, or_true, true_and, and_true, not_true_eq_false, not_false_eq_true, reduceCtorEq, eq_self, Option.toList_some, Option.toList_none, List.cons_append, List.nil_append, Bool.false_eq_true, w0, f1, hv]
        refine am_CL_of q1 ?_
        simp only [am_R_eq, cx_81, en_81, rt_81, rx_aload_n, rx_bipush, rx_getfield, ev_gf, rx_goto, rx_iconst, rx_icmp_eq, rx_icmp_ge, rx_icmp_ne, rx_if_ge, rx_if_ne, rx_iinc, ev_inc, rx_iload, rx_iload_n, rx_invs, rx_max2, rx_min2, rx_copy2, rx_invv, ev_cv, rx_ireturn, rx_istore, kl_31, kl_71, kl_72, ev_K, ev_pI, ev_pR, ev_pVi, ev_pVr, ev_sI, ev_sR, ev_KC, ev_k, ev_ko, ev_pop0, ev_pops, am_ld, am_sv, am_at, am_st, am_g, List.length_cons, List.length_nil, Nat.reduceAdd, Nat.reduceLT, Nat.zero_add, if_true, if_false, and_self, true_or, or_true, true_and, and_true, not_true_eq_false, not_false_eq_true, reduceCtorEq, eq_self, Option.toList_some, Option.toList_none, List.cons_append, List.nil_append, Bool.false_eq_true, hp]
      · rw [if_neg hp]
        obtain ⟨h', x, i1, i2, i3⟩ := ih (i + 1) (p + 1) h2 (va_up v2 2 q.2) (by omega) hv hV2
        rw [bx_uu] at i2
        refine ⟨h', x, ?_, i2, by rw [i3, a4]⟩
        rw [am_R_eq] at i1
        rw [am_R_eq, cxh_81_29]
        simp only [am_R_eq, cx_81, en_81, rt_81, rx_aload_n, rx_bipush, rx_getfield, ev_gf, rx_goto, rx_iconst, rx_icmp_eq, rx_icmp_ge, rx_icmp_ne, rx_if_ge, rx_if_ne, rx_iinc, ev_inc, rx_iload, rx_iload_n, rx_invs, rx_max2, rx_min2, rx_copy2, rx_invv, ev_cv, rx_ireturn, rx_istore, kl_31, kl_71, kl_72, ev_K, ev_pI, ev_pR, ev_pVi, ev_pVr, ev_sI, ev_sR, ev_KC, ev_k, ev_ko, ev_pop0, ev_pops, am_ld, am_sv, am_at, am_st, am_g, List.length_cons, List.length_nil, Nat.reduceAdd, Nat.reduceLT, Nat.zero_add, if_true, if_false, and_self, true_or, or_true, true_and, and_true, not_true_eq_false, not_false_eq_true, reduceCtorEq, eq_self, Option.toList_some, Option.toList_none, List.cons_append, List.nil_append, Bool.false_eq_true, e1, v0]
        refine am_CL_of a1 ?_
        simp only [am_R_eq, cx_81, en_81, rt_81, rx_aload_n, rx_bipush, rx_getfield, ev_gf, rx_goto, rx_iconst, rx_icmp_eq, rx_icmp_ge, rx_icmp_ne, rx_if_ge, rx_if_ne, rx_iinc, ev_inc, rx_iload, rx_iload_n, rx_invs, rx_max2, rx_min2, rx_copy2, rx_invv, ev_cv, rx_ireturn, rx_istore, kl_31, kl_71, kl_72, ev_K, ev_pI, ev_pR, ev_pVi, ev_pVr, ev_sI, ev_sR, ev_KC, ev_k, ev_ko, ev_pop0, ev_pops, am_ld, am_sv, am_at, am_st, am_g, List.length_cons, List.length_nil, Nat.reduceAdd, Nat.reduceLT, Nat.zero_add, if_true, if_false, and_self, true_or, or_true, true_and, and_true, not_true_eq_false, not_false_eq_true, reduceCtorEq, eq_self, Option.toList_some, Option.toList_none, List.cons_append, List.nil_append, Bool.false_eq_true, w0, f1, hv]
        refine am_CL_of q1 ?_
        simp only [am_R_eq, cx_81, en_81, rt_81, rx_aload_n, rx_bipush, rx_getfield, ev_gf, rx_goto, rx_iconst, rx_icmp_eq, rx_icmp_ge, rx_icmp_ne, rx_if_ge, rx_if_ne, rx_iinc, ev_inc, rx_iload, rx_iload_n, rx_invs, rx_max2, rx_min2, rx_copy2, rx_invv, ev_cv, rx_ireturn, rx_istore, kl_31, kl_71, kl_72, ev_K, ev_pI, ev_pR, ev_pVi, ev_pVr, ev_sI, ev_sR, ev_KC, ev_k, ev_ko, ev_pop0, ev_pops, am_ld, am_sv, am_at, am_st, am_g, List.length_cons, List.length_nil, Nat.reduceAdd, Nat.reduceLT, Nat.zero_add, if_true, if_false, and_self, true_or, or_true, true_and, and_true, not_true_eq_false, not_false_eq_true, reduceCtorEq, eq_self, Option.toList_some, Option.toList_none, List.cons_append, List.nil_append, Bool.false_eq_true, hp, nI_ofs]
        exact i1
theorem vl_scan (d : Nat) {s fr k : Int32} (hs : ¬ e_sg S (v 1) s = -1) (hk : ¬ k < 0) (hC : ∀ l k, l < 3 → k < c l → C l k ≠ []) (hV : vs_V z h ad tt rr aa R C fl c tk cb tb sb g S En E v) :
    ∃ h' x, am_M z (d + 1 + 1 + 1 + 1 + 1 + 1) 81 [.ref (ad 0), .int s, .int fr, .int k] h (some (.int (e_sc (fun q => e_gone E (e_se E (nI q) (e_sg S (v 1) s) (ad 1) (R 1) C fl c).1 (v 0)) k (32 - e_s0 fr) (e_s0 fr) 0))) h' ∧ vs_V z h' ad tt rr aa R C fl c tk cb tb sb g S En E (va_up v 2 x) ∧ h'.2 = h.2 := by
  have q1 := vl_sightOf (d + 1 + 1 + 1) (s := s) hV
  generalize e_sg S (v 1) s = sg at *
  have hle : e_s0 fr ≤ 32 := by unfold e_s0; split <;> omega
  have hk2 : 0 ≤ k := by
    rw [Int32.lt_iff_toInt_lt] at hk
    rw [Int32.le_iff_toInt_le]
    omega
  by_cases hbig : 32 ≤ fr
  · have hn : ¬ fr < 0 := by
      rw [Int32.lt_iff_toInt_lt]
      rw [Int32.le_iff_toInt_le] at hbig
      have e1 : (0 : Int32).toInt = 0 := by decide
      have e2 : (32 : Int32).toInt = 32 := by decide
      omega
    obtain ⟨j, hj, rfl⟩ := nI_of hn
    have hj2 : 32 ≤ j := (nI_leI (a := 32) (b := j) (by omega) hj).mp hbig
    have e0 : e_s0 (nI j) = 32 := by
      unfold e_s0
      rw [if_neg hn, nI_clamp hj]
      omega
    rw [e0, Nat.sub_self, e_sc]
    obtain ⟨v0, -⟩ := id hV
    refine ⟨h, v 2, ?_, by rw [va_up_id]; exact hV, rfl⟩
    have l1 := hbig
    have fin : am_R z (d + 1 + 1 + 1 + 1 + 1) 81 29 [some (.ref (ad 0)), some (.int s), some (.int (nI j)), some (.int k), some (.int sg), some (.int 0), some (.int (nI j))] [] h (some (.int (-2))) h := by
      rw [am_R_eq, cxh_81_29]
      simp only [am_R_eq, cx_81, en_81, rt_81, rx_aload_n, rx_bipush, rx_getfield, ev_gf, rx_goto, rx_iconst, rx_icmp_eq, rx_icmp_ge, rx_icmp_ne, rx_if_ge, rx_if_ne, rx_iinc, ev_inc, rx_iload, rx_iload_n, rx_invs, rx_max2, rx_min2, rx_copy2, rx_invv, ev_cv, rx_ireturn, rx_istore, kl_31, kl_71, kl_72, ev_K, ev_pI, ev_pR, ev_pVi, ev_pVr, ev_sI, ev_sR, ev_KC, ev_k, ev_ko, ev_pop0, ev_pops, am_ld, am_sv, am_at, am_st, am_g, List.length_cons, List.length_nil, Nat.reduceAdd, Nat.reduceLT, Nat.zero_add, if_true, if_false, and_self, true_or, or_true, true_and, and_true, not_true_eq_false, not_false_eq_true, reduceCtorEq, eq_self, Option.toList_some, Option.toList_none, List.cons_append, List.nil_append, Bool.false_eq_true, hbig]
    rw [am_R_eq] at fin
    rw [am_M_eq]
    simp only [am_R_eq, cx_81, en_81, rt_81, rx_aload_n, rx_bipush, rx_getfield, ev_gf, rx_goto, rx_iconst, rx_icmp_eq, rx_icmp_ge, rx_icmp_ne, rx_if_ge, rx_if_ne, rx_iinc, ev_inc, rx_iload, rx_iload_n, rx_invs, rx_max2, rx_min2, rx_copy2, rx_invv, ev_cv, rx_ireturn, rx_istore, kl_31, kl_71, kl_72, ev_K, ev_pI, ev_pR, ev_pVi, ev_pVr, ev_sI, ev_sR, ev_KC, ev_k, ev_ko, ev_pop0, ev_pops, am_ld, am_sv, am_at, am_st, am_g, List.length_cons, List.length_nil, Nat.reduceAdd, Nat.reduceLT, Nat.zero_add, if_true, if_false, and_self, true_or, or_true, true_and, and_true, not_true_eq_false, not_false_eq_true, reduceCtorEq, eq_self, Option.toList_some, Option.toList_none, List.cons_append, List.nil_append, Bool.false_eq_true, v0]
    refine am_CL_of q1 ?_
    simp only [am_R_eq, cx_81, en_81, rt_81, rx_aload_n, rx_bipush, rx_getfield, ev_gf, rx_goto, rx_iconst, rx_icmp_eq, rx_icmp_ge, rx_icmp_ne, rx_if_ge, rx_if_ne, rx_iinc, ev_inc, rx_iload, rx_iload_n, rx_invs, rx_max2, rx_min2, rx_copy2, rx_invv, ev_cv, rx_ireturn, rx_istore, kl_31, kl_71, kl_72, ev_K, ev_pI, ev_pR, ev_pVi, ev_pVr, ev_sI, ev_sR, ev_KC, ev_k, ev_ko, ev_pop0, ev_pops, am_ld, am_sv, am_at, am_st, am_g, List.length_cons, List.length_nil, Nat.reduceAdd, Nat.reduceLT, Nat.zero_add, if_true, if_false, and_self, true_or, or_true, true_and, and_true, not_true_eq_false, not_false_eq_true, reduceCtorEq, eq_self, Option.toList_some, Option.toList_none, List.cons_append, List.nil_append, Bool.false_eq_true, hs, hk, hk2, hn]
    exact fin
  · have est : (if fr < 0 then 0 else fr) = nI (e_s0 fr) := by
      unfold e_s0
      by_cases hn : fr < 0
      · rw [if_pos hn, if_pos hn]; rfl
      · obtain ⟨j, hj, rfl⟩ := nI_of hn
        have hj2 : ¬ 32 ≤ j := fun q => hbig (nI_le (a := 32) q hj)
        rw [if_neg hn, if_neg hn, nI_clamp hj, Nat.min_eq_left (by omega)]
    obtain ⟨h', x, i1, i2, i3⟩ := vl_scanLoop d (s := s) (fr := fr) (k := k) (sg := sg) hC (32 - e_s0 fr) (e_s0 fr) 0 h v (by omega) rfl hV
    refine ⟨h', x, ?_, i2, i3⟩
    obtain ⟨v0, -⟩ := hV
    rw [am_R_eq] at i1
    rw [am_M_eq]
    simp only [am_R_eq, cx_81, en_81, rt_81, rx_aload_n, rx_bipush, rx_getfield, ev_gf, rx_goto, rx_iconst, rx_icmp_eq, rx_icmp_ge, rx_icmp_ne, rx_if_ge, rx_if_ne, rx_iinc, ev_inc, rx_iload, rx_iload_n, rx_invs, rx_max2, rx_min2, rx_copy2, rx_invv, ev_cv, rx_ireturn, rx_istore, kl_31, kl_71, kl_72, ev_K, ev_pI, ev_pR, ev_pVi, ev_pVr, ev_sI, ev_sR, ev_KC, ev_k, ev_ko, ev_pop0, ev_pops, am_ld, am_sv, am_at, am_st, am_g, List.length_cons, List.length_nil, Nat.reduceAdd, Nat.reduceLT, Nat.zero_add, if_true, if_false, and_self, true_or, or_true, true_and, and_true, not_true_eq_false, not_false_eq_true, reduceCtorEq, eq_self, Option.toList_some, Option.toList_none, List.cons_append, List.nil_append, Bool.false_eq_true, v0]
    refine am_CL_of q1 ?_
    simp only [am_R_eq, cx_81, en_81, rt_81, rx_aload_n, rx_bipush, rx_getfield, ev_gf, rx_goto, rx_iconst, rx_icmp_eq, rx_icmp_ge, rx_icmp_ne, rx_if_ge, rx_if_ne, rx_iinc, ev_inc, rx_iload, rx_iload_n, rx_invs, rx_max2, rx_min2, rx_copy2, rx_invv, ev_cv, rx_ireturn, rx_istore, kl_31, kl_71, kl_72, ev_K, ev_pI, ev_pR, ev_pVi, ev_pVr, ev_sI, ev_sR, ev_KC, ev_k, ev_ko, ev_pop0, ev_pops, am_ld, am_sv, am_at, am_st, am_g, List.length_cons, List.length_nil, Nat.reduceAdd, Nat.reduceLT, Nat.zero_add, if_true, if_false, and_self, true_or, or_true, true_and, and_true, not_true_eq_false, not_false_eq_true, reduceCtorEq, eq_self, Option.toList_some, Option.toList_none, List.cons_append, List.nil_append, Bool.false_eq_true, hs, hk, hk2, est]
    exact i1
theorem vl_tableNo (d : Nat) {x : Nat} {l k w : Int32} (hl : l < 0 ∨ ¬ l < 3) : am_M z (d + 1) 83 [.ref x, .int l, .int k, .int w] h (some (.int (-2))) h := by
  rw [am_M_eq]
  by_cases c1 : l < 0
  · simp only [am_R_eq, cx_83, en_83, rt_83, rx_aload, rx_aload_n, rx_astore, rx_bipush, rx_iconst, rx_icmp_lt, rx_icmp_ne, rx_if_lt, rx_iload_n, rx_invv, ev_cv, rx_ireturn, kl_19, kl_45, kl_76, kl_84, ev_K, ev_pI, ev_pR, ev_pVi, ev_pVr, ev_sI, ev_sR, ev_KC, ev_k, ev_ko, ev_pop0, ev_pops, am_ld, am_sv, am_at, am_st, am_g, List.length_cons, List.length_nil, Nat.reduceAdd, Nat.reduceLT, Nat.zero_add, if_true, if_false, and_self, true_or, or_true, true_and, and_true, not_true_eq_false, not_false_eq_true, reduceCtorEq, eq_self, Option.toList_some, Option.toList_none, List.cons_append, List.nil_append, Bool.false_eq_true, c1]
  · have c2 := hl.resolve_left c1
    simp only [am_R_eq, cx_83, en_83, rt_83, rx_aload, rx_aload_n, rx_astore, rx_bipush, rx_iconst, rx_icmp_lt, rx_icmp_ne, rx_if_lt, rx_iload_n, rx_invv, ev_cv, rx_ireturn, kl_19, kl_45, kl_76, kl_84, ev_K, ev_pI, ev_pR, ev_pVi, ev_pVr, ev_sI, ev_sR, ev_KC, ev_k, ev_ko, ev_pop0, ev_pops, am_ld, am_sv, am_at, am_st, am_g, List.length_cons, List.length_nil, Nat.reduceAdd, Nat.reduceLT, Nat.zero_add, if_true, if_false, and_self, true_or, or_true, true_and, and_true, not_true_eq_false, not_false_eq_true, reduceCtorEq, eq_self, Option.toList_some, Option.toList_none, List.cons_append, List.nil_append, Bool.false_eq_true, c1, c2]
theorem vl_tableCount (d : Nat) {l : Nat} {w : Int32} (hl : l < 3) (hV : vs_V z h ad tt rr aa R C fl c tk cb tb sb g S En E v) : am_M z (d + 1 + 1) 83 [.ref (ad 0), .int (nI l), .int (-1), .int w] h (some (.int (nI (c l)))) h := by
  have q1 := vl_levelAt d hl hV
  obtain ⟨v0, v1, v2, v3, v4, v5, v6, v7, v8⟩ := hV
  have lv := (v4 l hl).1
  have l0 := lv.1
  have q2 := le_tableCount z d lv
  have e1 : ¬ nI l < 0 := nI_pos (by omega)
  have e2 : nI l < 3 := nI_lt (b := 3) hl (by omega)
  rw [am_M_eq]
  simp only [am_R_eq, cx_83, en_83, rt_83, rx_aload, rx_aload_n, rx_astore, rx_bipush, rx_iconst, rx_icmp_lt, rx_icmp_ne, rx_if_lt, rx_iload_n, rx_invv, ev_cv, rx_ireturn, kl_19, kl_45, kl_76, kl_84, ev_K, ev_pI, ev_pR, ev_pVi, ev_pVr, ev_sI, ev_sR, ev_KC, ev_k, ev_ko, ev_pop0, ev_pops, am_ld, am_sv, am_at, am_st, am_g, List.length_cons, List.length_nil, Nat.reduceAdd, Nat.reduceLT, Nat.zero_add, if_true, if_false, and_self, true_or, or_true, true_and, and_true, not_true_eq_false, not_false_eq_true, reduceCtorEq, eq_self, Option.toList_some, Option.toList_none, List.cons_append, List.nil_append, Bool.false_eq_true, e1, e2, v0]
  refine am_CL_of q1 ?_
  simp only [am_R_eq, cx_83, en_83, rt_83, rx_aload, rx_aload_n, rx_astore, rx_bipush, rx_iconst, rx_icmp_lt, rx_icmp_ne, rx_if_lt, rx_iload_n, rx_invv, ev_cv, rx_ireturn, kl_19, kl_45, kl_76, kl_84, ev_K, ev_pI, ev_pR, ev_pVi, ev_pVr, ev_sI, ev_sR, ev_KC, ev_k, ev_ko, ev_pop0, ev_pops, am_ld, am_sv, am_at, am_st, am_g, List.length_cons, List.length_nil, Nat.reduceAdd, Nat.reduceLT, Nat.zero_add, if_true, if_false, and_self, true_or, or_true, true_and, and_true, not_true_eq_false, not_false_eq_true, reduceCtorEq, eq_self, Option.toList_some, Option.toList_none, List.cons_append, List.nil_append, Bool.false_eq_true, l0]
  refine am_CL_of q2 ?_
  simp only [am_R_eq, cx_83, en_83, rt_83, rx_aload, rx_aload_n, rx_astore, rx_bipush, rx_iconst, rx_icmp_lt, rx_icmp_ne, rx_if_lt, rx_iload_n, rx_invv, ev_cv, rx_ireturn, kl_19, kl_45, kl_76, kl_84, ev_K, ev_pI, ev_pR, ev_pVi, ev_pVr, ev_sI, ev_sR, ev_KC, ev_k, ev_ko, ev_pop0, ev_pops, am_ld, am_sv, am_at, am_st, am_g, List.length_cons, List.length_nil, Nat.reduceAdd, Nat.reduceLT, Nat.zero_add, if_true, if_false, and_self, true_or, or_true, true_and, and_true, not_true_eq_false, not_false_eq_true, reduceCtorEq, eq_self, Option.toList_some, Option.toList_none, List.cons_append, List.nil_append, Bool.false_eq_true]
theorem vl_tableOut (d : Nat) {l : Nat} {k w : Int32} (hl : l < 3) (hk1 : ¬ k = -1) (hk : k < 0 ∨ ¬ k < nI (c l)) (hV : vs_V z h ad tt rr aa R C fl c tk cb tb sb g S En E v) : am_M z (d + 1 + 1) 83 [.ref (ad 0), .int (nI l), .int k, .int w] h (some (.int (-2))) h := by
  have q1 := vl_levelAt d hl hV
  obtain ⟨v0, v1, v2, v3, v4, v5, v6, v7, v8⟩ := hV
  have lv := (v4 l hl).1
  have l0 := lv.1
  have q2 := le_tableCount z d lv
  have e1 : ¬ nI l < 0 := nI_pos (by omega)
  have e2 : nI l < 3 := nI_lt (b := 3) hl (by omega)
  rw [am_M_eq]
  simp only [am_R_eq, cx_83, en_83, rt_83, rx_aload, rx_aload_n, rx_astore, rx_bipush, rx_iconst, rx_icmp_lt, rx_icmp_ne, rx_if_lt, rx_iload_n, rx_invv, ev_cv, rx_ireturn, kl_19, kl_45, kl_76, kl_84, ev_K, ev_pI, ev_pR, ev_pVi, ev_pVr, ev_sI, ev_sR, ev_KC, ev_k, ev_ko, ev_pop0, ev_pops, am_ld, am_sv, am_at, am_st, am_g, List.length_cons, List.length_nil, Nat.reduceAdd, Nat.reduceLT, Nat.zero_add, if_true, if_false, and_self, true_or, or_true, true_and, and_true, not_true_eq_false, not_false_eq_true, reduceCtorEq, eq_self, Option.toList_some, Option.toList_none, List.cons_append, List.nil_append, Bool.false_eq_true, e1, e2, v0]
  refine am_CL_of q1 ?_
  by_cases c1 : k < 0
  · simp only [am_R_eq, cx_83, en_83, rt_83, rx_aload, rx_aload_n, rx_astore, rx_bipush, rx_iconst, rx_icmp_lt, rx_icmp_ne, rx_if_lt, rx_iload_n, rx_invv, ev_cv, rx_ireturn, kl_19, kl_45, kl_76, kl_84, ev_K, ev_pI, ev_pR, ev_pVi, ev_pVr, ev_sI, ev_sR, ev_KC, ev_k, ev_ko, ev_pop0, ev_pops, am_ld, am_sv, am_at, am_st, am_g, List.length_cons, List.length_nil, Nat.reduceAdd, Nat.reduceLT, Nat.zero_add, if_true, if_false, and_self, true_or, or_true, true_and, and_true, not_true_eq_false, not_false_eq_true, reduceCtorEq, eq_self, Option.toList_some, Option.toList_none, List.cons_append, List.nil_append, Bool.false_eq_true, hk1, c1]
  · have c2 := hk.resolve_left c1
    simp only [am_R_eq, cx_83, en_83, rt_83, rx_aload, rx_aload_n, rx_astore, rx_bipush, rx_iconst, rx_icmp_lt, rx_icmp_ne, rx_if_lt, rx_iload_n, rx_invv, ev_cv, rx_ireturn, kl_19, kl_45, kl_76, kl_84, ev_K, ev_pI, ev_pR, ev_pVi, ev_pVr, ev_sI, ev_sR, ev_KC, ev_k, ev_ko, ev_pop0, ev_pops, am_ld, am_sv, am_at, am_st, am_g, List.length_cons, List.length_nil, Nat.reduceAdd, Nat.reduceLT, Nat.zero_add, if_true, if_false, and_self, true_or, or_true, true_and, and_true, not_true_eq_false, not_false_eq_true, reduceCtorEq, eq_self, Option.toList_some, Option.toList_none, List.cons_append, List.nil_append, Bool.false_eq_true, hk1, c1, l0]
    refine am_CL_of q2 ?_
    simp only [am_R_eq, cx_83, en_83, rt_83, rx_aload, rx_aload_n, rx_astore, rx_bipush, rx_iconst, rx_icmp_lt, rx_icmp_ne, rx_if_lt, rx_iload_n, rx_invv, ev_cv, rx_ireturn, kl_19, kl_45, kl_76, kl_84, ev_K, ev_pI, ev_pR, ev_pVi, ev_pVr, ev_sI, ev_sR, ev_KC, ev_k, ev_ko, ev_pop0, ev_pops, am_ld, am_sv, am_at, am_st, am_g, List.length_cons, List.length_nil, Nat.reduceAdd, Nat.reduceLT, Nat.zero_add, if_true, if_false, and_self, true_or, or_true, true_and, and_true, not_true_eq_false, not_false_eq_true, reduceCtorEq, eq_self, Option.toList_some, Option.toList_none, List.cons_append, List.nil_append, Bool.false_eq_true, c2]
theorem vl_table (d : Nat) {l k : Nat} {w r : Int32} (hl : l < 3) (hk : k < c l) (hV : vs_V z h ad tt rr aa R C fl c tk cb tb sb g S En E v) (m1 : am_M z (d + 1) 84 [.ref (tt l k), .int w] h (some (.int r)) h) : am_M z (d + 1 + 1) 83 [.ref (ad 0), .int (nI l), .int (nI k), .int w] h (some (.int r)) h := by
  have q1 := vl_levelAt d hl hV
  obtain ⟨v0, v1, v2, v3, v4, v5, v6, v7, v8⟩ := hV
  have lv := (v4 l hl).1
  have l0 := lv.1
  have hb : c l ≤ 30 := Nat.le_trans lv.2.1 lv.2.2.1
  have hcm : c l ≤ vm l := lv.2.1
  have t1 := lv.2.2.2.2.1 k (by omega)
  have q2 := le_tableCount z d lv
  have q3 := le_tableAt z d (k := k) lv (by omega)
  have e1 : ¬ nI l < 0 := nI_pos (by omega)
  have e2 : nI l < 3 := nI_lt (b := 3) hl (by omega)
  have e3 : ¬ nI k < 0 := nI_pos (by omega)
  have e4 : nI k < nI (c l) := nI_lt hk (by omega)
  have e5 : ¬ nI k = -1 := by
    intro q
    rw [q] at e3
    exact e3 (by decide)
  rw [am_M_eq]
  simp only [am_R_eq, cx_83, en_83, rt_83, rx_aload, rx_aload_n, rx_astore, rx_bipush, rx_iconst, rx_icmp_lt, rx_icmp_ne, rx_if_lt, rx_iload_n, rx_invv, ev_cv, rx_ireturn, kl_19, kl_45, kl_76, kl_84, ev_K, ev_pI, ev_pR, ev_pVi, ev_pVr, ev_sI, ev_sR, ev_KC, ev_k, ev_ko, ev_pop0, ev_pops, am_ld, am_sv, am_at, am_st, am_g, List.length_cons, List.length_nil, Nat.reduceAdd, Nat.reduceLT, Nat.zero_add, if_true, if_false, and_self, true_or, or_true, true_and, and_true, not_true_eq_false, not_false_eq_true, reduceCtorEq, eq_self, Option.toList_some, Option.toList_none, List.cons_append, List.nil_append, Bool.false_eq_true, e1, e2, v0]
  refine am_CL_of q1 ?_
  simp only [am_R_eq, cx_83, en_83, rt_83, rx_aload, rx_aload_n, rx_astore, rx_bipush, rx_iconst, rx_icmp_lt, rx_icmp_ne, rx_if_lt, rx_iload_n, rx_invv, ev_cv, rx_ireturn, kl_19, kl_45, kl_76, kl_84, ev_K, ev_pI, ev_pR, ev_pVi, ev_pVr, ev_sI, ev_sR, ev_KC, ev_k, ev_ko, ev_pop0, ev_pops, am_ld, am_sv, am_at, am_st, am_g, List.length_cons, List.length_nil, Nat.reduceAdd, Nat.reduceLT, Nat.zero_add, if_true, if_false, and_self, true_or, or_true, true_and, and_true, not_true_eq_false, not_false_eq_true, reduceCtorEq, eq_self, Option.toList_some, Option.toList_none, List.cons_append, List.nil_append, Bool.false_eq_true, e5, e3, l0]
  refine am_CL_of q2 ?_
  simp only [am_R_eq, cx_83, en_83, rt_83, rx_aload, rx_aload_n, rx_astore, rx_bipush, rx_iconst, rx_icmp_lt, rx_icmp_ne, rx_if_lt, rx_iload_n, rx_invv, ev_cv, rx_ireturn, kl_19, kl_45, kl_76, kl_84, ev_K, ev_pI, ev_pR, ev_pVi, ev_pVr, ev_sI, ev_sR, ev_KC, ev_k, ev_ko, ev_pop0, ev_pops, am_ld, am_sv, am_at, am_st, am_g, List.length_cons, List.length_nil, Nat.reduceAdd, Nat.reduceLT, Nat.zero_add, if_true, if_false, and_self, true_or, or_true, true_and, and_true, not_true_eq_false, not_false_eq_true, reduceCtorEq, eq_self, Option.toList_some, Option.toList_none, List.cons_append, List.nil_append, Bool.false_eq_true, e4, l0]
  refine am_CL_of q3 ?_
  simp only [am_R_eq, cx_83, en_83, rt_83, rx_aload, rx_aload_n, rx_astore, rx_bipush, rx_iconst, rx_icmp_lt, rx_icmp_ne, rx_if_lt, rx_iload_n, rx_invv, ev_cv, rx_ireturn, kl_19, kl_45, kl_76, kl_84, ev_K, ev_pI, ev_pR, ev_pVi, ev_pVr, ev_sI, ev_sR, ev_KC, ev_k, ev_ko, ev_pop0, ev_pops, am_ld, am_sv, am_at, am_st, am_g, List.length_cons, List.length_nil, Nat.reduceAdd, Nat.reduceLT, Nat.zero_add, if_true, if_false, and_self, true_or, or_true, true_and, and_true, not_true_eq_false, not_false_eq_true, reduceCtorEq, eq_self, Option.toList_some, Option.toList_none, List.cons_append, List.nil_append, Bool.false_eq_true, t1]
  refine am_CL_of m1 ?_
  simp only [am_R_eq, cx_83, en_83, rt_83, rx_aload, rx_aload_n, rx_astore, rx_bipush, rx_iconst, rx_icmp_lt, rx_icmp_ne, rx_if_lt, rx_iload_n, rx_invv, ev_cv, rx_ireturn, kl_19, kl_45, kl_76, kl_84, ev_K, ev_pI, ev_pR, ev_pVi, ev_pVr, ev_sI, ev_sR, ev_KC, ev_k, ev_ko, ev_pop0, ev_pops, am_ld, am_sv, am_at, am_st, am_g, List.length_cons, List.length_nil, Nat.reduceAdd, Nat.reduceLT, Nat.zero_add, if_true, if_false, and_self, true_or, or_true, true_and, and_true, not_true_eq_false, not_false_eq_true, reduceCtorEq, eq_self, Option.toList_some, Option.toList_none, List.cons_append, List.nil_append, Bool.false_eq_true]
end VSC
