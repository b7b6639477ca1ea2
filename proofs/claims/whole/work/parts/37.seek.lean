section VSK
variable {z : Nat} {h : am_H} {ad : Nat → Nat} {tt rr aa : Nat → Nat → Nat} {R : Nat → List Nat} {C : Nat → Nat → List Nat} {fl : Nat → Nat → Int32} {c : Nat → Nat} {tk cb tb sb g : Nat → Nat} {S : Nat → Int32} {En : Nat → Prop} {E : Nat → Nat → Int32} {v : Nat → Int32}
def e_my (E : Nat → Nat → Int32) (F : Int32) (L : List Nat) (key : Int32) : Bool := e_may E F (L.getD 0 0) (L.getD (L.length - 1) 0) key
def e_sl (E : Nat → Nat → Int32) (key sight : Int32) (bl : Nat) (C : Nat → List Nat) (fl : Nat → Int32) : Nat → Nat → Nat → Int32 → Nat × Int32
  | 0, _, f, n => (f, n)
  | m + 1, k, f, n => if E f 0 = -1 then (if e_my E (fl k) (C k) key = true then e_sl E key sight bl C fl m (k + 1) ((C k).foldl (e_ns E key sight) bl) (n + 1) else e_sl E key sight bl C fl m (k + 1) f n) else (f, n)
theorem e_ns_mem (E : Nat → Nat → Int32) (key sight : Int32) : ∀ (L : List Nat) (b : Nat), L.foldl (e_ns E key sight) b = b ∨ L.foldl (e_ns E key sight) b ∈ L
  | [], b => Or.inl rfl
  | e :: t, b => by
    rw [List.foldl_cons]
    rcases e_ns_mem E key sight t (e_ns E key sight b e) with q | q
    · rw [q]
      unfold e_ns
      split
      · exact Or.inr List.mem_cons_self
      · exact Or.inl rfl
    · exact Or.inr (List.mem_cons_of_mem _ q)
theorem vo_2 (ad : Nat → Nat) (v : Nat → Int32) (s : Int32) : vs_vo ad (va_up v 2 s) = .inr (0, [.ref (ad 1), .ref (ad 10), .ref (ad 11), .ref (ad 4), .ref (ad 5), .ref (ad 6), .ref (ad 12), .ref (ad 13), .ref (ad 2), .ref (ad 3), .int (v 0), .int (v 1), .int s, .int (v 3)]) := rfl
theorem vo_3 (ad : Nat → Nat) (v : Nat → Int32) (s : Int32) : vs_vo ad (va_up v 3 s) = .inr (0, [.ref (ad 1), .ref (ad 10), .ref (ad 11), .ref (ad 4), .ref (ad 5), .ref (ad 6), .ref (ad 12), .ref (ad 13), .ref (ad 2), .ref (ad 3), .int (v 0), .int (v 1), .int (v 2), .int s]) := rfl
theorem vl_seekIn (d : Nat) {l : Nat} (hl : l < 3) {key sight : Int32} (hC : ∀ k, k < c l → C l k ≠ []) : ∀ (m k f : Nat) (hh : am_H) (v2 : Nat → Int32) (w : Option Value), m = c l - k → k ≤ c l → En f → vs_V z hh ad tt rr aa R C fl c tk cb tb sb g S En E v2 →
    ∃ h', am_R z (d + 1 + 1 + 1) 75 9 [some (.ref (ad 0)), some (.ref (ad (4 + l))), some (.int key), some (.int sight), some (.ref f), some (.int (nI k)), w] [] hh (some (.ref (e_sl E key sight (ad 1) (C l) (fl l) m k f (v2 2)).1)) h' ∧ vs_V z h' ad tt rr aa R C fl c tk cb tb sb g S En E (va_up v2 2 (e_sl E key sight (ad 1) (C l) (fl l) m k f (v2 2)).2) ∧ En (e_sl E key sight (ad 1) (C l) (fl l) m k f (v2 2)).1 ∧ h'.2 = hh.2 := by
  intro m
  induction m with
  | zero =>
    intro k f hh v2 w hm hk hf hV
    have hV0 := hV
    obtain ⟨v0, v1, v2', v3, v4, v5, v6, v7, v8⟩ := hV
    have lv := (v4 l hl).1
    have l0 := lv.1
    have hb : c l ≤ 30 := Nat.le_trans lv.2.1 lv.2.2.1
    have q1 := le_tableCount z (d + 1 + 1) lv
    refine ⟨hh, ?_, by rw [e_sl, va_up_id]; exact hV0, hf, rfl⟩
    have e1 : nI (c l) ≤ nI k := nI_le (by omega) (by omega)
    rw [am_R_eq, cxh_75_9]
    simp only [am_R_eq, cx_75, en_75, rt_75, rx_aload, rx_aload_n, rx_areturn, rx_astore, rx_dup_i, rx_dup_r, rx_getfield, ev_gf, rx_goto, rx_iadd, rx_iconst, rx_icmp_ge, rx_if_eq, rx_iinc, ev_inc, rx_iload, rx_iload_n, rx_invv, ev_cv, rx_istore, rx_putfield, ev_pf, ev_w1, ev_KW, am_fok, am_ftv, kl_19, kl_73, kl_74, kl_76, kl_77, ev_K, ev_pI, ev_pR, ev_pVi, ev_pVr, ev_sI, ev_sR, ev_KC, ev_k, ev_ko, ev_pop0, ev_pops, am_ld, am_sv, am_at, am_st, am_g, List.length_cons, List.length_nil, Nat.reduceAdd, Nat.reduceLT, Nat.zero_add, if_true, if_false, and_self, true_or, or_true, true_and, and_true, not_true_eq_false, not_false_eq_true, reduceCtorEq, eq_self, Option.toList_some, Option.toList_none, List.cons_append, List.nil_append, Bool.false_eq_true, l0]
    refine am_CL_of q1 ?_
    simp only [am_R_eq, cx_75, en_75, rt_75, rx_aload, rx_aload_n, rx_areturn, rx_astore, rx_dup_i, rx_dup_r, rx_getfield, ev_gf, rx_goto, rx_iadd, rx_iconst, rx_icmp_ge, rx_if_eq, rx_iinc, ev_inc, rx_iload, rx_iload_n, rx_invv, ev_cv, rx_istore, rx_putfield, ev_pf, ev_w1, ev_KW, am_fok, am_ftv, kl_19, kl_73, kl_74, kl_76, kl_77, ev_K, ev_pI, ev_pR, ev_pVi, ev_pVr, ev_sI, ev_sR, ev_KC, ev_k, ev_ko, ev_pop0, ev_pops, am_ld, am_sv, am_at, am_st, am_g, List.length_cons, List.length_nil, Nat.reduceAdd, Nat.reduceLT, Nat.zero_add, if_true, if_false, and_self, true_or, or_true, true_and, and_true, not_true_eq_false, not_false_eq_true, reduceCtorEq, eq_self, Option.toList_some, Option.toList_none, List.cons_append, List.nil_append, Bool.false_eq_true, e1, e_sl]
  | succ m ih =>
    intro k f hh v2 w hm hk hf hV
    have hV0 := hV
    obtain ⟨v0, v1, v2', v3, v4, v5, v6, v7, v8⟩ := hV
    have lv := (v4 l hl).1
    have l0 := lv.1
    have hcm : c l ≤ vm l := lv.2.1
    have hb : c l ≤ 30 := Nat.le_trans lv.2.1 lv.2.2.1
    have q1 := le_tableCount z (d + 1 + 1) lv
    have hlt : k < c l := by omega
    have e1 : ¬ nI (c l) ≤ nI k := nI_ge hlt (by omega)
    have f1 := (v1 f hf).1
    have q2 := en_isBlank z (d + 1 + 1) f1
    rw [e_sl]
    by_cases hbk : E f 0 = -1
    · rw [if_pos hbk]
      rw [if_pos hbk] at q2
      have q3 := le_tableAt z (d + 1 + 1) (k := k) lv (by omega)
      have t1 := lv.2.2.2.2.1 k (by omega)
      have rk := lv.2.2.2.2.2.1 k (by omega)
      have pk := rk.1
      have hne := hC k hlt
      have hEk := (v4 l hl).2 k (by omega)
      have hpos : 0 < (C l k).length := by
        cases hR : C l k with
        | nil => exact absurd hR hne
        | cons x t => simp
      have g0 : (C l k)[0]? = some ((C l k).getD 0 0) := by
        rw [List.getD_eq_getElem?_getD, List.getElem?_eq_getElem hpos]; rfl
      have g1 : (C l k)[(C l k).length - 1]? = some ((C l k).getD ((C l k).length - 1) 0) := by
        rw [List.getD_eq_getElem?_getD, List.getElem?_eq_getElem (by omega)]; rfl
      have q4 := ta_mayHold z d (E := E) (key := key) t1 rk g0 g1 (v1 _ (hEk _ (List.mem_of_getElem? g0))).1 (v1 _ (hEk _ (List.mem_of_getElem? g1))).1
      have z0 := v7.2.1 0 (by omega)
      by_cases hmy : e_my E (fl l k) (C l k) key = true
      · rw [if_pos hmy]
        have hmy' : e_may E (fl l k) ((C l k).getD 0 0) ((C l k).getD ((C l k).length - 1) 0) key = true := hmy
        rw [if_pos hmy'] at q4
        have hA := hV0.fld (va_up v2 2 (v2 2 + 1))
        have hA0 := hA
        obtain ⟨w0, w1, w2, w3, w4, w5, w6, w7, w8⟩ := hA
        have lv2 := (w4 l hl).1
        have t2 := lv2.2.2.2.2.1 k (by omega)
        have rk2 := lv2.2.2.2.2.2.1 k (by omega)
        have pk2 := rk2.1
        have q5 := ro_newestSeen z (d + 1 + 1) (E := E) (key := key) (sight := sight) rk2 (w1 _ w2).1 (fun x hx => (w1 x (hEk x hx)).1)
        have hf2 : En ((C l k).foldl (e_ns E key sight) (ad 1)) := by
          rcases e_ns_mem E key sight (C l k) (ad 1) with q | q
          · rw [q]; exact v2'
          · exact hEk _ q
        obtain ⟨h', i1, i2, i3, i4⟩ := ih (k + 1) _ _ _ (some (.ref (tt l k))) (by omega) (by omega) hf2 hA0
        rw [va_up_self] at i1 i2 i3
        rw [bx_uu] at i2
        refine ⟨h', ?_, i2, i3, by rw [i4]; rfl⟩
        rw [vo_2] at q5 i1 t2 pk2
        rw [am_R_eq] at i1
        rw [am_R_eq, cxh_75_9]
        simp only [am_R_eq, cx_75, en_75, rt_75, rx_aload, rx_aload_n, rx_areturn, rx_astore, rx_dup_i, rx_dup_r, rx_getfield, ev_gf, rx_goto, rx_iadd, rx_iconst, rx_icmp_ge, rx_if_eq, rx_iinc, ev_inc, rx_iload, rx_iload_n, rx_invv, ev_cv, rx_istore, rx_putfield, ev_pf, ev_w1, ev_KW, am_fok, am_ftv, kl_19, kl_73, kl_74, kl_76, kl_77, ev_K, ev_pI, ev_pR, ev_pVi, ev_pVr, ev_sI, ev_sR, ev_KC, ev_k, ev_ko, ev_pop0, ev_pops, am_ld, am_sv, am_at, am_st, am_g, List.length_cons, List.length_nil, Nat.reduceAdd, Nat.reduceLT, Nat.zero_add, if_true, if_false, and_self, true_or, or_true, true_and, and_true, not_true_eq_false, not_false_eq_true, reduceCtorEq, eq_self, Option.toList_some, Option.toList_none, List.cons_append, List.nil_append, Bool.false_eq_true, l0]
        refine am_CL_of q1 ?_
        simp only [am_R_eq, cx_75, en_75, rt_75, rx_aload, rx_aload_n, rx_areturn, rx_astore, rx_dup_i, rx_dup_r, rx_getfield, ev_gf, rx_goto, rx_iadd, rx_iconst, rx_icmp_ge, rx_if_eq, rx_iinc, ev_inc, rx_iload, rx_iload_n, rx_invv, ev_cv, rx_istore, rx_putfield, ev_pf, ev_w1, ev_KW, am_fok, am_ftv, kl_19, kl_73, kl_74, kl_76, kl_77, ev_K, ev_pI, ev_pR, ev_pVi, ev_pVr, ev_sI, ev_sR, ev_KC, ev_k, ev_ko, ev_pop0, ev_pops, am_ld, am_sv, am_at, am_st, am_g, List.length_cons, List.length_nil, Nat.reduceAdd, Nat.reduceLT, Nat.zero_add, if_true, if_false, and_self, true_or, or_true, true_and, and_true, not_true_eq_false, not_false_eq_true, reduceCtorEq, eq_self, Option.toList_some, Option.toList_none, List.cons_append, List.nil_append, Bool.false_eq_true, e1, f1]
        refine am_CL_of q2 ?_
        simp only [am_R_eq, cx_75, en_75, rt_75, rx_aload, rx_aload_n, rx_areturn, rx_astore, rx_dup_i, rx_dup_r, rx_getfield, ev_gf, rx_goto, rx_iadd, rx_iconst, rx_icmp_ge, rx_if_eq, rx_iinc, ev_inc, rx_iload, rx_iload_n, rx_invv, ev_cv, rx_istore, rx_putfield, ev_pf, ev_w1, ev_KW, am_fok, am_ftv, kl_19, kl_73, kl_74, kl_76, kl_77, ev_K, ev_pI, ev_pR, ev_pVi, ev_pVr, ev_sI, ev_sR, ev_KC, ev_k, ev_ko, ev_pop0, ev_pops, am_ld, am_sv, am_at, am_st, am_g, List.length_cons, List.length_nil, Nat.reduceAdd, Nat.reduceLT, Nat.zero_add, if_true, if_false, and_self, true_or, or_true, true_and, and_true, not_true_eq_false, not_false_eq_true, reduceCtorEq, eq_self, Option.toList_some, Option.toList_none, List.cons_append, List.nil_append, Bool.false_eq_true, i_10, l0]
        refine am_CL_of q3 ?_
        simp only [am_R_eq, cx_75, en_75, rt_75, rx_aload, rx_aload_n, rx_areturn, rx_astore, rx_dup_i, rx_dup_r, rx_getfield, ev_gf, rx_goto, rx_iadd, rx_iconst, rx_icmp_ge, rx_if_eq, rx_iinc, ev_inc, rx_iload, rx_iload_n, rx_invv, ev_cv, rx_istore, rx_putfield, ev_pf, ev_w1, ev_KW, am_fok, am_ftv, kl_19, kl_73, kl_74, kl_76, kl_77, ev_K, ev_pI, ev_pR, ev_pVi, ev_pVr, ev_sI, ev_sR, ev_KC, ev_k, ev_ko, ev_pop0, ev_pops, am_ld, am_sv, am_at, am_st, am_g, List.length_cons, List.length_nil, Nat.reduceAdd, Nat.reduceLT, Nat.zero_add, if_true, if_false, and_self, true_or, or_true, true_and, and_true, not_true_eq_false, not_false_eq_true, reduceCtorEq, eq_self, Option.toList_some, Option.toList_none, List.cons_append, List.nil_append, Bool.false_eq_true, t1]
        refine am_CL_of q4 ?_
        simp only [am_R_eq, cx_75, en_75, rt_75, rx_aload, rx_aload_n, rx_areturn, rx_astore, rx_dup_i, rx_dup_r, rx_getfield, ev_gf, rx_goto, rx_iadd, rx_iconst, rx_icmp_ge, rx_if_eq, rx_iinc, ev_inc, rx_iload, rx_iload_n, rx_invv, ev_cv, rx_istore, rx_putfield, ev_pf, ev_w1, ev_KW, am_fok, am_ftv, kl_19, kl_73, kl_74, kl_76, kl_77, ev_K, ev_pI, ev_pR, ev_pVi, ev_pVr, ev_sI, ev_sR, ev_KC, ev_k, ev_ko, ev_pop0, ev_pops, am_ld, am_sv, am_at, am_st, am_g, List.length_cons, List.length_nil, Nat.reduceAdd, Nat.reduceLT, Nat.zero_add, if_true, if_false, and_self, true_or, or_true, true_and, and_true, not_true_eq_false, not_false_eq_true, reduceCtorEq, eq_self, Option.toList_some, Option.toList_none, List.cons_append, List.nil_append, Bool.false_eq_true, i_10, v0, z0, t2, pk2, Nat.reduceLeDiff, beq_self_eq_true]
        refine am_CL_of q5 ?_
        simp only [am_R_eq, cx_75, en_75, rt_75, rx_aload, rx_aload_n, rx_areturn, rx_astore, rx_dup_i, rx_dup_r, rx_getfield, ev_gf, rx_goto, rx_iadd, rx_iconst, rx_icmp_ge, rx_if_eq, rx_iinc, ev_inc, rx_iload, rx_iload_n, rx_invv, ev_cv, rx_istore, rx_putfield, ev_pf, ev_w1, ev_KW, am_fok, am_ftv, kl_19, kl_73, kl_74, kl_76, kl_77, ev_K, ev_pI, ev_pR, ev_pVi, ev_pVr, ev_sI, ev_sR, ev_KC, ev_k, ev_ko, ev_pop0, ev_pops, am_ld, am_sv, am_at, am_st, am_g, List.length_cons, List.length_nil, Nat.reduceAdd, Nat.reduceLT, Nat.zero_add, if_true, if_false, and_self, true_or, or_true, true_and, and_true, not_true_eq_false, not_false_eq_true, reduceCtorEq, eq_self, Option.toList_some, Option.toList_none, List.cons_append, List.nil_append, Bool.false_eq_true, nI_ofs]
        exact i1
      · rw [if_neg hmy]
        have hmy' : ¬ e_may E (fl l k) ((C l k).getD 0 0) ((C l k).getD ((C l k).length - 1) 0) key = true := hmy
        rw [if_neg hmy'] at q4
        obtain ⟨h', i1, i2, i3, i4⟩ := ih (k + 1) f hh v2 (some (.ref (tt l k))) (by omega) (by omega) hf hV0
        refine ⟨h', ?_, i2, i3, i4⟩
        rw [am_R_eq] at i1
        rw [am_R_eq, cxh_75_9]
        simp only [am_R_eq, cx_75, en_75, rt_75, rx_aload, rx_aload_n, rx_areturn, rx_astore, rx_dup_i, rx_dup_r, rx_getfield, ev_gf, rx_goto, rx_iadd, rx_iconst, rx_icmp_ge, rx_if_eq, rx_iinc, ev_inc, rx_iload, rx_iload_n, rx_invv, ev_cv, rx_istore, rx_putfield, ev_pf, ev_w1, ev_KW, am_fok, am_ftv, kl_19, kl_73, kl_74, kl_76, kl_77, ev_K, ev_pI, ev_pR, ev_pVi, ev_pVr, ev_sI, ev_sR, ev_KC, ev_k, ev_ko, ev_pop0, ev_pops, am_ld, am_sv, am_at, am_st, am_g, List.length_cons, List.length_nil, Nat.reduceAdd, Nat.reduceLT, Nat.zero_add, if_true, if_false, and_self, true_or, or_true, true_and, and_true, not_true_eq_false, not_false_eq_true, reduceCtorEq, eq_self, Option.toList_some, Option.toList_none, List.cons_append, List.nil_append, Bool.false_eq_true, l0]
        refine am_CL_of q1 ?_
        simp only [am_R_eq, cx_75, en_75, rt_75, rx_aload, rx_aload_n, rx_areturn, rx_astore, rx_dup_i, rx_dup_r, rx_getfield, ev_gf, rx_goto, rx_iadd, rx_iconst, rx_icmp_ge, rx_if_eq, rx_iinc, ev_inc, rx_iload, rx_iload_n, rx_invv, ev_cv, rx_istore, rx_putfield, ev_pf, ev_w1, ev_KW, am_fok, am_ftv, kl_19, kl_73, kl_74, kl_76, kl_77, ev_K, ev_pI, ev_pR, ev_pVi, ev_pVr, ev_sI, ev_sR, ev_KC, ev_k, ev_ko, ev_pop0, ev_pops, am_ld, am_sv, am_at, am_st, am_g, List.length_cons, List.length_nil, Nat.reduceAdd, Nat.reduceLT, Nat.zero_add, if_true, if_false, and_self, true_or, or_true, true_and, and_true, not_true_eq_false, not_false_eq_true, reduceCtorEq, eq_self, Option.toList_some, Option.toList_none, List.cons_append, List.nil_append, Bool.false_eq_true, e1, f1]
        refine am_CL_of q2 ?_
        simp only [am_R_eq, cx_75, en_75, rt_75, rx_aload, rx_aload_n, rx_areturn, rx_astore, rx_dup_i, rx_dup_r, rx_getfield, ev_gf, rx_goto, rx_iadd, rx_iconst, rx_icmp_ge, rx_if_eq, rx_iinc, ev_inc, rx_iload, rx_iload_n, rx_invv, ev_cv, rx_istore, rx_putfield, ev_pf, ev_w1, ev_KW, am_fok, am_ftv, kl_19, kl_73, kl_74, kl_76, kl_77, ev_K, ev_pI, ev_pR, ev_pVi, ev_pVr, ev_sI, ev_sR, ev_KC, ev_k, ev_ko, ev_pop0, ev_pops, am_ld, am_sv, am_at, am_st, am_g, List.length_cons, List.length_nil, Nat.reduceAdd, Nat.reduceLT, Nat.zero_add, if_true, if_false, and_self, true_or, or_true, true_and, and_true, not_true_eq_false, not_false_eq_true, reduceCtorEq, eq_self, Option.toList_some, Option.toList_none, List.cons_append, List.nil_append, Bool.false_eq_true, i_10, l0]
        refine am_CL_of q3 ?_
        simp only [am_R_eq, cx_75, en_75, rt_75, rx_aload, rx_aload_n, rx_areturn, rx_astore, rx_dup_i, rx_dup_r, rx_getfield, ev_gf, rx_goto, rx_iadd, rx_iconst, rx_icmp_ge, rx_if_eq, rx_iinc, ev_inc, rx_iload, rx_iload_n, rx_invv, ev_cv, rx_istore, rx_putfield, ev_pf, ev_w1, ev_KW, am_fok, am_ftv, kl_19, kl_73, kl_74, kl_76, kl_77, ev_K, ev_pI, ev_pR, ev_pVi, ev_pVr, ev_sI, ev_sR, ev_KC, ev_k, ev_ko, ev_pop0, ev_pops, am_ld, am_sv, am_at, am_st, am_g, List.length_cons, List.length_nil, Nat.reduceAdd, Nat.reduceLT, Nat.zero_add, if_true, if_false, and_self, true_or, or_true, true_and, and_true, not_true_eq_false, not_false_eq_true, reduceCtorEq, eq_self, Option.toList_some, Option.toList_none, List.cons_append, List.nil_append, Bool.false_eq_true, t1]
        refine am_CL_of q4 ?_
        simp only [am_R_eq, cx_75, en_75, rt_75, rx_aload, rx_aload_n, rx_areturn, rx_astore, rx_dup_i, rx_dup_r, rx_getfield, ev_gf, rx_goto, rx_iadd, rx_iconst, rx_icmp_ge, rx_if_eq, rx_iinc, ev_inc, rx_iload, rx_iload_n, rx_invv, ev_cv, rx_istore, rx_putfield, ev_pf, ev_w1, ev_KW, am_fok, am_ftv, kl_19, kl_73, kl_74, kl_76, kl_77, ev_K, ev_pI, ev_pR, ev_pVi, ev_pVr, ev_sI, ev_sR, ev_KC, ev_k, ev_ko, ev_pop0, ev_pops, am_ld, am_sv, am_at, am_st, am_g, List.length_cons, List.length_nil, Nat.reduceAdd, Nat.reduceLT, Nat.zero_add, if_true, if_false, and_self, true_or, or_true, true_and, and_true, not_true_eq_false, not_false_eq_true, reduceCtorEq, eq_self, Option.toList_some, Option.toList_none, List.cons_append, List.nil_append, Bool.false_eq_true, nI_ofs]
        exact i1
    · rw [if_neg hbk]
      rw [if_neg hbk] at q2
      refine ⟨hh, ?_, by rw [va_up_id]; exact hV0, hf, rfl⟩
      rw [am_R_eq, cxh_75_9]
      simp only [am_R_eq, cx_75, en_75, rt_75, rx_aload, rx_aload_n, rx_areturn, rx_astore, rx_dup_i, rx_dup_r, rx_getfield, ev_gf, rx_goto, rx_iadd, rx_iconst, rx_icmp_ge, rx_if_eq, rx_iinc, ev_inc, rx_iload, rx_iload_n, rx_invv, ev_cv, rx_istore, rx_putfield, ev_pf, ev_w1, ev_KW, am_fok, am_ftv, kl_19, kl_73, kl_74, kl_76, kl_77, ev_K, ev_pI, ev_pR, ev_pVi, ev_pVr, ev_sI, ev_sR, ev_KC, ev_k, ev_ko, ev_pop0, ev_pops, am_ld, am_sv, am_at, am_st, am_g, List.length_cons, List.length_nil, Nat.reduceAdd, Nat.reduceLT, Nat.zero_add, if_true, if_false, and_self, true_or, or_true, true_and, and_true, not_true_eq_false, not_false_eq_true, reduceCtorEq, eq_self, Option.toList_some, Option.toList_none, List.cons_append, List.nil_append, Bool.false_eq_true, l0]
      refine am_CL_of q1 ?_
      simp only [am_R_eq, cx_75, en_75, rt_75, rx_aload, rx_aload_n, rx_areturn, rx_astore, rx_dup_i, rx_dup_r, rx_getfield, ev_gf, rx_goto, rx_iadd, rx_iconst, rx_icmp_ge, rx_if_eq, rx_iinc, ev_inc, rx_iload, rx_iload_n, rx_invv, ev_cv, rx_istore, rx_putfield, ev_pf, ev_w1, ev_KW, am_fok, am_ftv, kl_19, kl_73, kl_74, kl_76, kl_77, ev_K, ev_pI, ev_pR, ev_pVi, ev_pVr, ev_sI, ev_sR, ev_KC, ev_k, ev_ko, ev_pop0, ev_pops, am_ld, am_sv, am_at, am_st, am_g, List.length_cons, List.length_nil, Nat.reduceAdd, Nat.reduceLT, Nat.zero_add, if_true, if_false, and_self, true_or, or_true, true_and, and_true, not_true_eq_false, not_false_eq_true, reduceCtorEq, eq_self, Option.toList_some, Option.toList_none, List.cons_append, List.nil_append, Bool.false_eq_true, e1, f1]
      refine am_CL_of q2 ?_
      simp only [am_R_eq, cx_75, en_75, rt_75, rx_aload, rx_aload_n, rx_areturn, rx_astore, rx_dup_i, rx_dup_r, rx_getfield, ev_gf, rx_goto, rx_iadd, rx_iconst, rx_icmp_ge, rx_if_eq, rx_iinc, ev_inc, rx_iload, rx_iload_n, rx_invv, ev_cv, rx_istore, rx_putfield, ev_pf, ev_w1, ev_KW, am_fok, am_ftv, kl_19, kl_73, kl_74, kl_76, kl_77, ev_K, ev_pI, ev_pR, ev_pVi, ev_pVr, ev_sI, ev_sR, ev_KC, ev_k, ev_ko, ev_pop0, ev_pops, am_ld, am_sv, am_at, am_st, am_g, List.length_cons, List.length_nil, Nat.reduceAdd, Nat.reduceLT, Nat.zero_add, if_true, if_false, and_self, true_or, or_true, true_and, and_true, not_true_eq_false, not_false_eq_true, reduceCtorEq, eq_self, Option.toList_some, Option.toList_none, List.cons_append, List.nil_append, Bool.false_eq_true]
theorem vl_seekInLevel (d : Nat) {l : Nat} (hl : l < 3) {key sight : Int32} (hC : ∀ k, k < c l → C l k ≠ []) (hV : vs_V z h ad tt rr aa R C fl c tk cb tb sb g S En E v) :
    ∃ h', am_M z (d + 1 + 1 + 1 + 1) 75 [.ref (ad 0), .ref (ad (4 + l)), .int key, .int sight] h (some (.ref (e_sl E key sight (ad 1) (C l) (fl l) (c l) 0 (ad 1) (v 2)).1)) h' ∧ vs_V z h' ad tt rr aa R C fl c tk cb tb sb g S En E (va_up v 2 (e_sl E key sight (ad 1) (C l) (fl l) (c l) 0 (ad 1) (v 2)).2) ∧ En (e_sl E key sight (ad 1) (C l) (fl l) (c l) 0 (ad 1) (v 2)).1 ∧ h'.2 = h.2 := by
  obtain ⟨h', i1, i2, i3, i4⟩ := vl_seekIn d hl (key := key) (sight := sight) hC (c l) 0 (ad 1) h v none (by omega) (Nat.zero_le _) hV.2.2.1 hV
  refine ⟨h', ?_, i2, i3, i4⟩
  obtain ⟨v0, -⟩ := hV
  have z0 : nI 0 = 0 := rfl
  rw [z0] at i1
  rw [am_R_eq] at i1
  rw [am_M_eq]
  simp only [am_R_eq, cx_75, en_75, rt_75, rx_aload, rx_aload_n, rx_areturn, rx_astore, rx_dup_i, rx_dup_r, rx_getfield, ev_gf, rx_goto, rx_iadd, rx_iconst, rx_icmp_ge, rx_if_eq, rx_iinc, ev_inc, rx_iload, rx_iload_n, rx_invv, ev_cv, rx_istore, rx_putfield, ev_pf, ev_w1, ev_KW, am_fok, am_ftv, kl_19, kl_73, kl_74, kl_76, kl_77, ev_K, ev_pI, ev_pR, ev_pVi, ev_pVr, ev_sI, ev_sR, ev_KC, ev_k, ev_ko, ev_pop0, ev_pops, am_ld, am_sv, am_at, am_st, am_g, List.length_cons, List.length_nil, Nat.reduceAdd, Nat.reduceLT, Nat.zero_add, if_true, if_false, and_self, true_or, or_true, true_and, and_true, not_true_eq_false, not_false_eq_true, reduceCtorEq, eq_self, Option.toList_some, Option.toList_none, List.cons_append, List.nil_append, Bool.false_eq_true, v0]
  exact i1
end VSK
