section VSL
variable {z : Nat} {h : am_H} {ad : Nat → Nat} {tt rr aa : Nat → Nat → Nat} {R : Nat → List Nat} {C : Nat → Nat → List Nat} {fl : Nat → Nat → Int32} {c : Nat → Nat} {tk cb tb sb g : Nat → Nat} {S : Nat → Int32} {En : Nat → Prop} {E : Nat → Nat → Int32} {v : Nat → Int32}
def e_sk (E : Nat → Nat → Int32) (key sight : Int32) (bl : Nat) (C : Nat → Nat → List Nat) (fl : Nat → Nat → Int32) (c : Nat → Nat) : Nat → Nat → Nat → Int32 → Nat × Int32
  | 0, _, f, n => (f, n)
  | m + 1, l, f, n => if E f 0 = -1 then e_sk E key sight bl C fl c m (l + 1) (e_sl E key sight bl (C l) (fl l) (c l) 0 bl n).1 (e_sl E key sight bl (C l) (fl l) (c l) 0 bl n).2 else (f, n)
theorem vl_seekLoop (d : Nat) {key sight : Int32} (hC : ∀ l k, l < 3 → k < c l → C l k ≠ []) : ∀ (m l f : Nat) (hh : am_H) (v2 : Nat → Int32), m + l = 3 → En f → vs_V z hh ad tt rr aa R C fl c tk cb tb sb g S En E v2 →
    ∃ h', am_R z (d + 1 + 1 + 1 + 1) 72 18 [some (.ref (ad 0)), some (.int key), some (.int sight), some (.ref f), some (.int (nI l))] [] hh (some (.ref (e_sk E key sight (ad 1) C fl c m l f (v2 2)).1)) h' ∧ vs_V z h' ad tt rr aa R C fl c tk cb tb sb g S En E (va_up v2 2 (e_sk E key sight (ad 1) C fl c m l f (v2 2)).2) ∧ En (e_sk E key sight (ad 1) C fl c m l f (v2 2)).1 ∧ h'.2 = hh.2 := by
  intro m
  induction m with
  | zero =>
    intro l f hh v2 hm hf hV
    have hl3 : l = 3 := by omega
    subst hl3
    refine ⟨hh, ?_, by rw [e_sk, va_up_id]; exact hV, hf, rfl⟩
    have e1 : (3 : Int32) ≤ nI 3 := by decide
    rw [am_R_eq, cxh_72_18]
    simp only [am_R_eq, cx_72, en_72, rt_72, rx_aload_n, rx_areturn, rx_astore_n, rx_getfield, ev_gf, rx_goto, rx_iconst, rx_icmp_ge, rx_if_eq, rx_iinc, ev_inc, rx_iload, rx_iload_n, rx_invv, ev_cv, rx_istore, rx_putfield, ev_pf, ev_w1, ev_KW, am_fok, am_ftv, kl_45, kl_73, kl_74, kl_75, ev_K, ev_pI, ev_pR, ev_pVi, ev_pVr, ev_sI, ev_sR, ev_KC, ev_k, ev_ko, ev_pop0, ev_pops, am_ld, am_sv, am_at, am_st, am_g, List.length_cons, List.length_nil, Nat.reduceAdd, Nat.reduceLT, Nat.zero_add, if_true, if_false, and_self, true_or, or_true, true_and, and_true, not_true_eq_false, not_false_eq_true, reduceCtorEq, eq_self, Option.toList_some, Option.toList_none, List.cons_append, List.nil_append, Bool.false_eq_true, e1, e_sk]
  | succ m ih =>
    intro l f hh v2 hm hf hV
    have hl : l < 3 := by omega
    have hV0 := hV
    obtain ⟨v0, v1, v2', v3, v4, v5, v6, v7, v8⟩ := hV
    have f1 := (v1 f hf).1
    have l0 := (v4 l hl).1.1
    have q2 := en_isBlank z (d + 1 + 1 + 1) f1
    have e1 : ¬ (3 : Int32) ≤ nI l := nI_ge (b := 3) hl (by omega)
    rw [e_sk]
    by_cases hbk : E f 0 = -1
    · rw [if_pos hbk]
      rw [if_pos hbk] at q2
      have q3 := vl_levelAt (d + 1 + 1 + 1) hl hV0
      obtain ⟨h2, a1, a2, a3, a4⟩ := vl_seekInLevel d hl (key := key) (sight := sight) (fun k hk => hC l k hl hk) hV0
      generalize e_sl E key sight (ad 1) (C l) (fl l) (c l) 0 (ad 1) (v2 2) = p at *
      obtain ⟨h', i1, i2, i3, i4⟩ := ih (l + 1) p.1 h2 _ (by omega) a3 a2
      rw [va_up_self] at i1 i2 i3
      rw [bx_uu] at i2
      refine ⟨h', ?_, i2, i3, by rw [i4, a4]⟩
      rw [am_R_eq] at i1
      rw [am_R_eq, cxh_72_18]
      simp only [am_R_eq, cx_72, en_72, rt_72, rx_aload_n, rx_areturn, rx_astore_n, rx_getfield, ev_gf, rx_goto, rx_iconst, rx_icmp_ge, rx_if_eq, rx_iinc, ev_inc, rx_iload, rx_iload_n, rx_invv, ev_cv, rx_istore, rx_putfield, ev_pf, ev_w1, ev_KW, am_fok, am_ftv, kl_45, kl_73, kl_74, kl_75, ev_K, ev_pI, ev_pR, ev_pVi, ev_pVr, ev_sI, ev_sR, ev_KC, ev_k, ev_ko, ev_pop0, ev_pops, am_ld, am_sv, am_at, am_st, am_g, List.length_cons, List.length_nil, Nat.reduceAdd, Nat.reduceLT, Nat.zero_add, if_true, if_false, and_self, true_or, or_true, true_and, and_true, not_true_eq_false, not_false_eq_true, reduceCtorEq, eq_self, Option.toList_some, Option.toList_none, List.cons_append, List.nil_append, Bool.false_eq_true, e1, f1]
      refine am_CL_of q2 ?_
      simp only [am_R_eq, cx_72, en_72, rt_72, rx_aload_n, rx_areturn, rx_astore_n, rx_getfield, ev_gf, rx_goto, rx_iconst, rx_icmp_ge, rx_if_eq, rx_iinc, ev_inc, rx_iload, rx_iload_n, rx_invv, ev_cv, rx_istore, rx_putfield, ev_pf, ev_w1, ev_KW, am_fok, am_ftv, kl_45, kl_73, kl_74, kl_75, ev_K, ev_pI, ev_pR, ev_pVi, ev_pVr, ev_sI, ev_sR, ev_KC, ev_k, ev_ko, ev_pop0, ev_pops, am_ld, am_sv, am_at, am_st, am_g, List.length_cons, List.length_nil, Nat.reduceAdd, Nat.reduceLT, Nat.zero_add, if_true, if_false, and_self, true_or, or_true, true_and, and_true, not_true_eq_false, not_false_eq_true, reduceCtorEq, eq_self, Option.toList_some, Option.toList_none, List.cons_append, List.nil_append, Bool.false_eq_true, i_10, v0]
      refine am_CL_of q3 ?_
      simp only [am_R_eq, cx_72, en_72, rt_72, rx_aload_n, rx_areturn, rx_astore_n, rx_getfield, ev_gf, rx_goto, rx_iconst, rx_icmp_ge, rx_if_eq, rx_iinc, ev_inc, rx_iload, rx_iload_n, rx_invv, ev_cv, rx_istore, rx_putfield, ev_pf, ev_w1, ev_KW, am_fok, am_ftv, kl_45, kl_73, kl_74, kl_75, ev_K, ev_pI, ev_pR, ev_pVi, ev_pVr, ev_sI, ev_sR, ev_KC, ev_k, ev_ko, ev_pop0, ev_pops, am_ld, am_sv, am_at, am_st, am_g, List.length_cons, List.length_nil, Nat.reduceAdd, Nat.reduceLT, Nat.zero_add, if_true, if_false, and_self, true_or, or_true, true_and, and_true, not_true_eq_false, not_false_eq_true, reduceCtorEq, eq_self, Option.toList_some, Option.toList_none, List.cons_append, List.nil_append, Bool.false_eq_true, v0]
      refine am_CL_of a1 ?_
      simp only [am_R_eq, cx_72, en_72, rt_72, rx_aload_n, rx_areturn, rx_astore_n, rx_getfield, ev_gf, rx_goto, rx_iconst, rx_icmp_ge, rx_if_eq, rx_iinc, ev_inc, rx_iload, rx_iload_n, rx_invv, ev_cv, rx_istore, rx_putfield, ev_pf, ev_w1, ev_KW, am_fok, am_ftv, kl_45, kl_73, kl_74, kl_75, ev_K, ev_pI, ev_pR, ev_pVi, ev_pVr, ev_sI, ev_sR, ev_KC, ev_k, ev_ko, ev_pop0, ev_pops, am_ld, am_sv, am_at, am_st, am_g, List.length_cons, List.length_nil, Nat.reduceAdd, Nat.reduceLT, Nat.zero_add, if_true, if_false, and_self, true_or, or_true, true_and, and_true, not_true_eq_false, not_false_eq_true, reduceCtorEq, eq_self, Option.toList_some, Option.toList_none, List.cons_append, List.nil_append, Bool.false_eq_true, nI_ofs]
      exact i1
    · rw [if_neg hbk]
      rw [if_neg hbk] at q2
      refine ⟨hh, ?_, by rw [va_up_id]; exact hV0, hf, rfl⟩
      rw [am_R_eq, cxh_72_18]
      simp only [am_R_eq, cx_72, en_72, rt_72, rx_aload_n, rx_areturn, rx_astore_n, rx_getfield, ev_gf, rx_goto, rx_iconst, rx_icmp_ge, rx_if_eq, rx_iinc, ev_inc, rx_iload, rx_iload_n, rx_invv, ev_cv, rx_istore, rx_putfield, ev_pf, ev_w1, ev_KW, am_fok, am_ftv, kl_45, kl_73, kl_74, kl_75, ev_K, ev_pI, ev_pR, ev_pVi, ev_pVr, ev_sI, ev_sR, ev_KC, ev_k, ev_ko, ev_pop0, ev_pops, am_ld, am_sv, am_at, am_st, am_g, List.length_cons, List.length_nil, Nat.reduceAdd, Nat.reduceLT, Nat.zero_add, if_true, if_false, and_self, true_or, or_true, true_and, and_true, not_true_eq_false, not_false_eq_true, reduceCtorEq, eq_self, Option.toList_some, Option.toList_none, List.cons_append, List.nil_append, Bool.false_eq_true, e1, f1]
      refine am_CL_of q2 ?_
      simp only [am_R_eq, cx_72, en_72, rt_72, rx_aload_n, rx_areturn, rx_astore_n, rx_getfield, ev_gf, rx_goto, rx_iconst, rx_icmp_ge, rx_if_eq, rx_iinc, ev_inc, rx_iload, rx_iload_n, rx_invv, ev_cv, rx_istore, rx_putfield, ev_pf, ev_w1, ev_KW, am_fok, am_ftv, kl_45, kl_73, kl_74, kl_75, ev_K, ev_pI, ev_pR, ev_pVi, ev_pVr, ev_sI, ev_sR, ev_KC, ev_k, ev_ko, ev_pop0, ev_pops, am_ld, am_sv, am_at, am_st, am_g, List.length_cons, List.length_nil, Nat.reduceAdd, Nat.reduceLT, Nat.zero_add, if_true, if_false, and_self, true_or, or_true, true_and, and_true, not_true_eq_false, not_false_eq_true, reduceCtorEq, eq_self, Option.toList_some, Option.toList_none, List.cons_append, List.nil_append, Bool.false_eq_true]
def e_se (E : Nat → Nat → Int32) (key sight : Int32) (bl : Nat) (M : List Nat) (C : Nat → Nat → List Nat) (fl : Nat → Nat → Int32) (c : Nat → Nat) : Nat × Int32 := e_sk E key sight bl C fl c 3 0 (M.foldl (e_ns E key sight) bl) 0
theorem vl_seek (d : Nat) {key sight : Int32} (hC : ∀ l k, l < 3 → k < c l → C l k ≠ []) (hV : vs_V z h ad tt rr aa R C fl c tk cb tb sb g S En E v) :
    ∃ h', am_M z (d + 1 + 1 + 1 + 1 + 1) 72 [.ref (ad 0), .int key, .int sight] h (some (.ref (e_se E key sight (ad 1) (R 1) C fl c).1)) h' ∧ vs_V z h' ad tt rr aa R C fl c tk cb tb sb g S En E (va_up v 2 (e_se E key sight (ad 1) (R 1) C fl c).2) ∧ En (e_se E key sight (ad 1) (R 1) C fl c).1 ∧ h'.2 = h.2 := by
  have hA := hV.fld (va_up v 2 0)
  obtain ⟨v0, v1, v2', v3, v4, v5, v6, v7, v8⟩ := hV
  have hA0 := hA
  obtain ⟨w0, w1, w2, w3, w4, w5, w6, w7, w8⟩ := hA
  have r1 := (w3 1 (by omega)).1
  have p1 := r1.1
  have q1 := ro_newestSeen z (d + 1 + 1 + 1) (E := E) (key := key) (sight := sight) r1 (w1 _ w2).1 (fun x hx => (w1 x ((w3 1 (by omega)).2 x hx)).1)
  have hf : En ((R 1).foldl (e_ns E key sight) (ad 1)) := by
    rcases e_ns_mem E key sight (R 1) (ad 1) with q | q
    · rw [q]; exact v2'
    · exact (w3 1 (by omega)).2 _ q
  obtain ⟨h', i1, i2, i3, i4⟩ := vl_seekLoop d (key := key) (sight := sight) hC 3 0 _ _ _ rfl hf hA0
  rw [va_up_self] at i1 i2 i3
  rw [bx_uu] at i2
  refine ⟨h', ?_, i2, i3, by rw [i4]; rfl⟩
  have z1 := v7.2.1 0 (by omega)
  have z0 : nI 0 = 0 := rfl
  rw [z0] at i1
  rw [am_R_eq] at i1
  unfold e_se
  rw [vo_2] at i1 q1 p1 w0
  rw [am_M_eq]
  simp only [am_R_eq, cx_72, en_72, rt_72, rx_aload_n, rx_areturn, rx_astore_n, rx_getfield, ev_gf, rx_goto, rx_iconst, rx_icmp_ge, rx_if_eq, rx_iinc, ev_inc, rx_iload, rx_iload_n, rx_invv, ev_cv, rx_istore, rx_putfield, ev_pf, ev_w1, ev_KW, am_fok, am_ftv, kl_45, kl_73, kl_74, kl_75, ev_K, ev_pI, ev_pR, ev_pVi, ev_pVr, ev_sI, ev_sR, ev_KC, ev_k, ev_ko, ev_pop0, ev_pops, am_ld, am_sv, am_at, am_st, am_g, List.length_cons, List.length_nil, Nat.reduceAdd, Nat.reduceLT, Nat.zero_add, if_true, if_false, and_self, true_or, or_true, true_and, and_true, not_true_eq_false, not_false_eq_true, reduceCtorEq, eq_self, Option.toList_some, Option.toList_none, List.cons_append, List.nil_append, Bool.false_eq_true, v0, z1, w0, p1, Nat.reduceLeDiff, beq_self_eq_true]
  refine am_CL_of q1 ?_
  simp only [am_R_eq, cx_72, en_72, rt_72, rx_aload_n, rx_areturn, rx_astore_n, rx_getfield, ev_gf, rx_goto, rx_iconst, rx_icmp_ge, rx_if_eq, rx_iinc, ev_inc, rx_iload, rx_iload_n, rx_invv, ev_cv, rx_istore, rx_putfield, ev_pf, ev_w1, ev_KW, am_fok, am_ftv, kl_45, kl_73, kl_74, kl_75, ev_K, ev_pI, ev_pR, ev_pVi, ev_pVr, ev_sI, ev_sR, ev_KC, ev_k, ev_ko, ev_pop0, ev_pops, am_ld, am_sv, am_at, am_st, am_g, List.length_cons, List.length_nil, Nat.reduceAdd, Nat.reduceLT, Nat.zero_add, if_true, if_false, and_self, true_or, or_true, true_and, and_true, not_true_eq_false, not_false_eq_true, reduceCtorEq, eq_self, Option.toList_some, Option.toList_none, List.cons_append, List.nil_append, Bool.false_eq_true]
  exact i1
theorem vl_getNo (d : Nat) {s key : Int32} (hk : e_sg S (v 1) s = -1 ∨ key < 0 ∨ 32 ≤ key) (hV : vs_V z h ad tt rr aa R C fl c tk cb tb sb g S En E v) : am_M z (d + 1 + 1 + 1) 70 [.ref (ad 0), .int s, .int key] h (some (.ref (ad 1))) h := by
  have q1 := vl_sightOf (d) (s := s) hV
  have q2 := vl_isKey z (d + 1) h key
  obtain ⟨v0, -⟩ := hV
  generalize e_sg S (v 1) s = sg at *
  rw [am_M_eq]
  simp only [am_R_eq, cx_70, en_70, rt_70, rx_aload, rx_aload_n, rx_areturn, rx_astore, rx_getfield, ev_gf, rx_iconst, rx_icmp_eq, rx_if_ne, rx_iload_n, rx_invs, rx_max2, rx_min2, rx_copy2, rx_invv, ev_cv, rx_istore_n, rx_putfield, ev_pf, ev_w1, ev_KW, am_fok, am_ftv, kl_10, kl_71, kl_72, ev_K, ev_pI, ev_pR, ev_pVi, ev_pVr, ev_sI, ev_sR, ev_KC, ev_k, ev_ko, ev_pop0, ev_pops, am_ld, am_sv, am_at, am_st, am_g, List.length_cons, List.length_nil, Nat.reduceAdd, Nat.reduceLT, Nat.zero_add, if_true, if_false, and_self, true_or, or_true, true_and, and_true, not_true_eq_false, not_false_eq_true, reduceCtorEq, eq_self, Option.toList_some, Option.toList_none, List.cons_append, List.nil_append, Bool.false_eq_true, v0]
  refine am_CL_of q1 ?_
  by_cases c1 : sg = -1
  · simp only [am_R_eq, cx_70, en_70, rt_70, rx_aload, rx_aload_n, rx_areturn, rx_astore, rx_getfield, ev_gf, rx_iconst, rx_icmp_eq, rx_if_ne, rx_iload_n, rx_invs, rx_max2, rx_min2, rx_copy2, rx_invv, ev_cv, rx_istore_n, rx_putfield, ev_pf, ev_w1, ev_KW, am_fok, am_ftv, kl_10, kl_71, kl_72, ev_K, ev_pI, ev_pR, ev_pVi, ev_pVr, ev_sI, ev_sR, ev_KC, ev_k, ev_ko, ev_pop0, ev_pops, am_ld, am_sv, am_at, am_st, am_g, List.length_cons, List.length_nil, Nat.reduceAdd, Nat.reduceLT, Nat.zero_add, if_true, if_false, and_self, true_or, or_true, true_and, and_true, not_true_eq_false, not_false_eq_true, reduceCtorEq, eq_self, Option.toList_some, Option.toList_none, List.cons_append, List.nil_append, Bool.false_eq_true, c1, v0]
  · have c2 := hk.resolve_left c1
    simp only [am_R_eq, cx_70, en_70, rt_70, rx_aload, rx_aload_n, rx_areturn, rx_astore, rx_getfield, ev_gf, rx_iconst, rx_icmp_eq, rx_if_ne, rx_iload_n, rx_invs, rx_max2, rx_min2, rx_copy2, rx_invv, ev_cv, rx_istore_n, rx_putfield, ev_pf, ev_w1, ev_KW, am_fok, am_ftv, kl_10, kl_71, kl_72, ev_K, ev_pI, ev_pR, ev_pVi, ev_pVr, ev_sI, ev_sR, ev_KC, ev_k, ev_ko, ev_pop0, ev_pops, am_ld, am_sv, am_at, am_st, am_g, List.length_cons, List.length_nil, Nat.reduceAdd, Nat.reduceLT, Nat.zero_add, if_true, if_false, and_self, true_or, or_true, true_and, and_true, not_true_eq_false, not_false_eq_true, reduceCtorEq, eq_self, Option.toList_some, Option.toList_none, List.cons_append, List.nil_append, Bool.false_eq_true, c1]
    refine am_CL_of q2 ?_
    simp only [am_R_eq, cx_70, en_70, rt_70, rx_aload, rx_aload_n, rx_areturn, rx_astore, rx_getfield, ev_gf, rx_iconst, rx_icmp_eq, rx_if_ne, rx_iload_n, rx_invs, rx_max2, rx_min2, rx_copy2, rx_invv, ev_cv, rx_istore_n, rx_putfield, ev_pf, ev_w1, ev_KW, am_fok, am_ftv, kl_10, kl_71, kl_72, ev_K, ev_pI, ev_pR, ev_pVi, ev_pVr, ev_sI, ev_sR, ev_KC, ev_k, ev_ko, ev_pop0, ev_pops, am_ld, am_sv, am_at, am_st, am_g, List.length_cons, List.length_nil, Nat.reduceAdd, Nat.reduceLT, Nat.zero_add, if_true, if_false, and_self, true_or, or_true, true_and, and_true, not_true_eq_false, not_false_eq_true, reduceCtorEq, eq_self, Option.toList_some, Option.toList_none, List.cons_append, List.nil_append, Bool.false_eq_true, c2, v0]
theorem vl_getEntry (d : Nat) {s key : Int32} (hs : ¬ e_sg S (v 1) s = -1) (hk : ¬ (key < 0 ∨ 32 ≤ key)) (hC : ∀ l k, l < 3 → k < c l → C l k ≠ []) (hV : vs_V z h ad tt rr aa R C fl c tk cb tb sb g S En E v) :
    ∃ h', am_M z (d + 1 + 1 + 1 + 1 + 1 + 1) 70 [.ref (ad 0), .int s, .int key] h (some (.ref (e_se E key (e_sg S (v 1) s) (ad 1) (R 1) C fl c).1)) h' ∧ vs_V z h' ad tt rr aa R C fl c tk cb tb sb g S En E (va_up (va_up v 2 (e_se E key (e_sg S (v 1) s) (ad 1) (R 1) C fl c).2) 3 (e_se E key (e_sg S (v 1) s) (ad 1) (R 1) C fl c).2) ∧ En (e_se E key (e_sg S (v 1) s) (ad 1) (R 1) C fl c).1 ∧ h'.2 = h.2 := by
  have q1 := vl_sightOf (d + 1 + 1 + 1) (s := s) hV
  have q2 := vl_isKey z (d + 1 + 1 + 1 + 1) h key
  generalize e_sg S (v 1) s = sg at *
  obtain ⟨h2, a1, a2, a3, a4⟩ := vl_seek d (key := key) (sight := sg) hC hV
  obtain ⟨v0, v1, v2', v3, v4, v5, v6, v7, v8⟩ := hV
  generalize e_se E key sg (ad 1) (R 1) C fl c = p at *
  have hB := a2.fld (va_up (va_up v 2 p.2) 3 p.2)
  refine ⟨_, ?_, hB, a3, a4⟩
  obtain ⟨w0, -⟩ := a2
  have z1 := v7.2.1 0 (by omega)
  rw [vo_2] at w0
  have e1 : vs_vo ad (va_up (va_up v 2 p.2) 3 p.2) = .inr (0, [.ref (ad 1), .ref (ad 10), .ref (ad 11), .ref (ad 4), .ref (ad 5), .ref (ad 6), .ref (ad 12), .ref (ad 13), .ref (ad 2), .ref (ad 3), .int (v 0), .int (v 1), .int p.2, .int p.2]) := rfl
  rw [e1]
  rw [am_M_eq]
  simp only [am_R_eq, cx_70, en_70, rt_70, rx_aload, rx_aload_n, rx_areturn, rx_astore, rx_getfield, ev_gf, rx_iconst, rx_icmp_eq, rx_if_ne, rx_iload_n, rx_invs, rx_max2, rx_min2, rx_copy2, rx_invv, ev_cv, rx_istore_n, rx_putfield, ev_pf, ev_w1, ev_KW, am_fok, am_ftv, kl_10, kl_71, kl_72, ev_K, ev_pI, ev_pR, ev_pVi, ev_pVr, ev_sI, ev_sR, ev_KC, ev_k, ev_ko, ev_pop0, ev_pops, am_ld, am_sv, am_at, am_st, am_g, List.length_cons, List.length_nil, Nat.reduceAdd, Nat.reduceLT, Nat.zero_add, if_true, if_false, and_self, true_or, or_true, true_and, and_true, not_true_eq_false, not_false_eq_true, reduceCtorEq, eq_self, Option.toList_some, Option.toList_none, List.cons_append, List.nil_append, Bool.false_eq_true, v0]
  refine am_CL_of q1 ?_
  simp only [am_R_eq, cx_70, en_70, rt_70, rx_aload, rx_aload_n, rx_areturn, rx_astore, rx_getfield, ev_gf, rx_iconst, rx_icmp_eq, rx_if_ne, rx_iload_n, rx_invs, rx_max2, rx_min2, rx_copy2, rx_invv, ev_cv, rx_istore_n, rx_putfield, ev_pf, ev_w1, ev_KW, am_fok, am_ftv, kl_10, kl_71, kl_72, ev_K, ev_pI, ev_pR, ev_pVi, ev_pVr, ev_sI, ev_sR, ev_KC, ev_k, ev_ko, ev_pop0, ev_pops, am_ld, am_sv, am_at, am_st, am_g, List.length_cons, List.length_nil, Nat.reduceAdd, Nat.reduceLT, Nat.zero_add, if_true, if_false, and_self, true_or, or_true, true_and, and_true, not_true_eq_false, not_false_eq_true, reduceCtorEq, eq_self, Option.toList_some, Option.toList_none, List.cons_append, List.nil_append, Bool.false_eq_true, hs]
  refine am_CL_of q2 ?_
  simp only [am_R_eq, cx_70, en_70, rt_70, rx_aload, rx_aload_n, rx_areturn, rx_astore, rx_getfield, ev_gf, rx_iconst, rx_icmp_eq, rx_if_ne, rx_iload_n, rx_invs, rx_max2, rx_min2, rx_copy2, rx_invv, ev_cv, rx_istore_n, rx_putfield, ev_pf, ev_w1, ev_KW, am_fok, am_ftv, kl_10, kl_71, kl_72, ev_K, ev_pI, ev_pR, ev_pVi, ev_pVr, ev_sI, ev_sR, ev_KC, ev_k, ev_ko, ev_pop0, ev_pops, am_ld, am_sv, am_at, am_st, am_g, List.length_cons, List.length_nil, Nat.reduceAdd, Nat.reduceLT, Nat.zero_add, if_true, if_false, and_self, true_or, or_true, true_and, and_true, not_true_eq_false, not_false_eq_true, reduceCtorEq, eq_self, Option.toList_some, Option.toList_none, List.cons_append, List.nil_append, Bool.false_eq_true, hk, i_10, v0]
  refine am_CL_of a1 ?_
  simp only [am_R_eq, cx_70, en_70, rt_70, rx_aload, rx_aload_n, rx_areturn, rx_astore, rx_getfield, ev_gf, rx_iconst, rx_icmp_eq, rx_if_ne, rx_iload_n, rx_invs, rx_max2, rx_min2, rx_copy2, rx_invv, ev_cv, rx_istore_n, rx_putfield, ev_pf, ev_w1, ev_KW, am_fok, am_ftv, kl_10, kl_71, kl_72, ev_K, ev_pI, ev_pR, ev_pVi, ev_pVr, ev_sI, ev_sR, ev_KC, ev_k, ev_ko, ev_pop0, ev_pops, am_ld, am_sv, am_at, am_st, am_g, List.length_cons, List.length_nil, Nat.reduceAdd, Nat.reduceLT, Nat.zero_add, if_true, if_false, and_self, true_or, or_true, true_and, and_true, not_true_eq_false, not_false_eq_true, reduceCtorEq, eq_self, Option.toList_some, Option.toList_none, List.cons_append, List.nil_append, Bool.false_eq_true, w0, z1, Nat.reduceLeDiff, beq_self_eq_true]
theorem vl_has (d : Nat) {s key : Int32} {e : Nat} {h' : am_H} {v' : Nat → Int32} (hv : v' 0 = v 0) (m1 : am_M z (d + 1) 70 [.ref (ad 0), .int s, .int key] h (some (.ref e)) h') (he : En e) (hV : vs_V z h ad tt rr aa R C fl c tk cb tb sb g S En E v) (hV' : vs_V z h' ad tt rr aa R C fl c tk cb tb sb g S En E v') : am_M z (d + 1 + 1) 69 [.ref (ad 0), .int s, .int key] h (some (.int (if e_gone E e (v 0) = true then 0 else 1))) h' := by
  obtain ⟨v0, -⟩ := hV
  obtain ⟨w0, w1, -⟩ := hV'
  have e1 := (w1 e he).1
  have q1 := en_isGone z d (now := v 0) e1
  rw [am_M_eq]
  simp only [am_R_eq, cx_69, en_69, rt_69, rx_aload_n, rx_getfield, ev_gf, rx_goto, rx_iconst, rx_if_ne, rx_iload_n, rx_invv, ev_cv, rx_ireturn, kl_31, kl_70, ev_K, ev_pI, ev_pR, ev_pVi, ev_pVr, ev_sI, ev_sR, ev_KC, ev_k, ev_ko, ev_pop0, ev_pops, am_ld, am_sv, am_at, am_st, am_g, List.length_cons, List.length_nil, Nat.reduceAdd, Nat.reduceLT, Nat.zero_add, if_true, if_false, and_self, true_or, or_true, true_and, and_true, not_true_eq_false, not_false_eq_true, reduceCtorEq, eq_self, Option.toList_some, Option.toList_none, List.cons_append, List.nil_append, Bool.false_eq_true, v0]
  refine am_CL_of m1 ?_
  simp only [am_R_eq, cx_69, en_69, rt_69, rx_aload_n, rx_getfield, ev_gf, rx_goto, rx_iconst, rx_if_ne, rx_iload_n, rx_invv, ev_cv, rx_ireturn, kl_31, kl_70, ev_K, ev_pI, ev_pR, ev_pVi, ev_pVr, ev_sI, ev_sR, ev_KC, ev_k, ev_ko, ev_pop0, ev_pops, am_ld, am_sv, am_at, am_st, am_g, List.length_cons, List.length_nil, Nat.reduceAdd, Nat.reduceLT, Nat.zero_add, if_true, if_false, and_self, true_or, or_true, true_and, and_true, not_true_eq_false, not_false_eq_true, reduceCtorEq, eq_self, Option.toList_some, Option.toList_none, List.cons_append, List.nil_append, Bool.false_eq_true, w0, hv, e1]
  refine am_CL_of q1 ?_
  by_cases c1 : e_gone E e (v 0) = true
  · simp only [am_R_eq, cx_69, en_69, rt_69, rx_aload_n, rx_getfield, ev_gf, rx_goto, rx_iconst, rx_if_ne, rx_iload_n, rx_invv, ev_cv, rx_ireturn, kl_31, kl_70, ev_K, ev_pI, ev_pR, ev_pVi, ev_pVr, ev_sI, ev_sR, ev_KC, ev_k, ev_ko, ev_pop0, ev_pops, am_ld, am_sv, am_at, am_st, am_g, List.length_cons, List.length_nil, Nat.reduceAdd, Nat.reduceLT, Nat.zero_add, if_true, if_false, and_self, true_or, or_true, true_and, and_true, not_true_eq_false, not_false_eq_true, reduceCtorEq, eq_self, Option.toList_some, Option.toList_none, List.cons_append, List.nil_append, Bool.false_eq_true, c1, i_10, b00]
  · simp only [am_R_eq, cx_69, en_69, rt_69, rx_aload_n, rx_getfield, ev_gf, rx_goto, rx_iconst, rx_if_ne, rx_iload_n, rx_invv, ev_cv, rx_ireturn, kl_31, kl_70, ev_K, ev_pI, ev_pR, ev_pVi, ev_pVr, ev_sI, ev_sR, ev_KC, ev_k, ev_ko, ev_pop0, ev_pops, am_ld, am_sv, am_at, am_st, am_g, List.length_cons, List.length_nil, Nat.reduceAdd, Nat.reduceLT, Nat.zero_add, if_true, if_false, and_self, true_or, or_true, true_and, and_true, not_true_eq_false, not_false_eq_true, reduceCtorEq, eq_self, Option.toList_some, Option.toList_none, List.cons_append, List.nil_append, Bool.false_eq_true, c1, i_10, b11]
theorem vl_get (d : Nat) {s key : Int32} {e : Nat} {h' : am_H} {v' : Nat → Int32} (hv : v' 0 = v 0) (m1 : am_M z (d + 1) 70 [.ref (ad 0), .int s, .int key] h (some (.ref e)) h') (he : En e) (hV : vs_V z h ad tt rr aa R C fl c tk cb tb sb g S En E v) (hV' : vs_V z h' ad tt rr aa R C fl c tk cb tb sb g S En E v') : am_M z (d + 1 + 1) 80 [.ref (ad 0), .int s, .int key] h (some (.int (if e_gone E e (v 0) = true then 0 else E e 1))) h' := by
  obtain ⟨v0, -⟩ := hV
  obtain ⟨w0, w1, -⟩ := hV'
  have e1 := (w1 e he).1
  have q1 := en_isGone z d (now := v 0) e1
  rw [am_M_eq]
  simp only [am_R_eq, cx_80, en_80, rt_80, rx_aload_n, rx_astore_n, rx_getfield, ev_gf, rx_goto, rx_iconst, rx_if_eq, rx_iload_n, rx_invv, ev_cv, rx_ireturn, kl_31, kl_70, ev_K, ev_pI, ev_pR, ev_pVi, ev_pVr, ev_sI, ev_sR, ev_KC, ev_k, ev_ko, ev_pop0, ev_pops, am_ld, am_sv, am_at, am_st, am_g, List.length_cons, List.length_nil, Nat.reduceAdd, Nat.reduceLT, Nat.zero_add, if_true, if_false, and_self, true_or, or_true, true_and, and_true, not_true_eq_false, not_false_eq_true, reduceCtorEq, eq_self, Option.toList_some, Option.toList_none, List.cons_append, List.nil_append, Bool.false_eq_true, v0]
  refine am_CL_of m1 ?_
  simp only [am_R_eq, cx_80, en_80, rt_80, rx_aload_n, rx_astore_n, rx_getfield, ev_gf, rx_goto, rx_iconst, rx_if_eq, rx_iload_n, rx_invv, ev_cv, rx_ireturn, kl_31, kl_70, ev_K, ev_pI, ev_pR, ev_pVi, ev_pVr, ev_sI, ev_sR, ev_KC, ev_k, ev_ko, ev_pop0, ev_pops, am_ld, am_sv, am_at, am_st, am_g, List.length_cons, List.length_nil, Nat.reduceAdd, Nat.reduceLT, Nat.zero_add, if_true, if_false, and_self, true_or, or_true, true_and, and_true, not_true_eq_false, not_false_eq_true, reduceCtorEq, eq_self, Option.toList_some, Option.toList_none, List.cons_append, List.nil_append, Bool.false_eq_true, w0, hv, e1]
  refine am_CL_of q1 ?_
  by_cases c1 : e_gone E e (v 0) = true
  · simp only [am_R_eq, cx_80, en_80, rt_80, rx_aload_n, rx_astore_n, rx_getfield, ev_gf, rx_goto, rx_iconst, rx_if_eq, rx_iload_n, rx_invv, ev_cv, rx_ireturn, kl_31, kl_70, ev_K, ev_pI, ev_pR, ev_pVi, ev_pVr, ev_sI, ev_sR, ev_KC, ev_k, ev_ko, ev_pop0, ev_pops, am_ld, am_sv, am_at, am_st, am_g, List.length_cons, List.length_nil, Nat.reduceAdd, Nat.reduceLT, Nat.zero_add, if_true, if_false, and_self, true_or, or_true, true_and, and_true, not_true_eq_false, not_false_eq_true, reduceCtorEq, eq_self, Option.toList_some, Option.toList_none, List.cons_append, List.nil_append, Bool.false_eq_true, c1, i_10, e1]
  · simp only [am_R_eq, cx_80, en_80, rt_80, rx_aload_n, rx_astore_n, rx_getfield, ev_gf, rx_goto, rx_iconst, rx_if_eq, rx_iload_n, rx_invv, ev_cv, rx_ireturn, kl_31, kl_70, ev_K, ev_pI, ev_pR, ev_pVi, ev_pVr, ev_sI, ev_sR, ev_KC, ev_k, ev_ko, ev_pop0, ev_pops, am_ld, am_sv, am_at, am_st, am_g, List.length_cons, List.length_nil, Nat.reduceAdd, Nat.reduceLT, Nat.zero_add, if_true, if_false, and_self, true_or, or_true, true_and, and_true, not_true_eq_false, not_false_eq_true, reduceCtorEq, eq_self, Option.toList_some, Option.toList_none, List.cons_append, List.nil_append, Bool.false_eq_true, c1, i_10, e1]
end VSL
