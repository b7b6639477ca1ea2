section VCO
variable {z : Nat} {h : am_H} {ad : Nat → Nat} {tt rr aa : Nat → Nat → Nat} {R : Nat → List Nat} {C : Nat → Nat → List Nat} {fl : Nat → Nat → Int32} {c : Nat → Nat} {tk cb tb sb g : Nat → Nat} {S : Nat → Int32} {En : Nat → Prop} {E : Nat → Nat → Int32} {v : Nat → Int32}
theorem e_ll_len (E : Nat → Nat → Int32) (s : Int32) : ∀ (M T : List Nat), (M.foldl (e_ll E s) T).length = T.length + M.countP (e_live E s)
  | [], T => rfl
  | e :: M, T => by
    rw [List.foldl_cons, e_ll_len E s M, List.countP_cons]
    unfold e_ll
    cases hb : e_live E s e with
    | true => simp only [if_true, e_ins_len]; omega
    | false => simp
theorem e_ll_mem (E : Nat → Nat → Int32) (s : Int32) (x : Nat) : ∀ (M T : List Nat), x ∈ M.foldl (e_ll E s) T ↔ (x ∈ M ∧ e_live E s x = true) ∨ x ∈ T
  | [], T => by simp
  | e :: M, T => by
    rw [List.foldl_cons, e_ll_mem E s x M]
    unfold e_ll
    cases hb : e_live E s e with
    | true =>
      simp only [if_true, e_ins_mem, List.mem_cons]
      constructor
      · rintro (⟨q1, q2⟩ | q | q)
        · exact Or.inl ⟨Or.inr q1, q2⟩
        · subst q; exact Or.inl ⟨Or.inl rfl, hb⟩
        · exact Or.inr q
      · rintro (⟨q1 | q1, q2⟩ | q)
        · exact Or.inr (Or.inl q1)
        · exact Or.inl ⟨q1, q2⟩
        · exact Or.inr (Or.inr q)
    | false =>
      simp only [List.mem_cons]
      constructor
      · rintro (⟨q1, q2⟩ | q)
        · exact Or.inl ⟨Or.inr q1, q2⟩
        · exact Or.inr q
      · rintro (⟨q1 | q1, q2⟩ | q)
        · subst q1; rw [hb] at q2; exact absurd q2 (by decide)
        · exact Or.inl ⟨q1, q2⟩
        · exact Or.inr q
theorem vl_listLv (d : Nat) {l : Nat} (hl : l < 3) {s : Int32} (hV : vs_V z h ad tt rr aa R C fl c tk cb tb sb g S En E v) (hroom : (R 3).length + (e_fl (C l) 0 (c l)).countP (e_live E s) ≤ 16) : ∃ h', am_M z (d + 1 + 1 + 1 + 1) 49 [.ref (ad (4 + l)), .int s, .ref (ad 13)] h none h' ∧ vs_V z h' ad tt rr aa (va_up R 3 ((e_fl (C l) 0 (c l)).foldl (e_ll E s) (R 3))) C fl c tk cb tb sb g S En E v ∧ h'.2 = h.2 := by
  have hV0 := hV
  obtain ⟨v0, v1, v2, v3, v4, v5, v6, v7, v8⟩ := hV
  have hcm : c l ≤ vm l := (v4 l hl).1.2.1
  obtain ⟨h', m1, m2, m3⟩ := le_listLive z d (E := E) (s := s) (v7.2.1 13 (by omega)) (v7.2.1 17 (by omega)) (v4 l hl).1 (v3 3 (by omega)).1 (fun k hk => ⟨(v7.2.2.2.1 l k 13 hl hk (by omega)).2.1, (v7.2.2.2.1 l k 17 hl hk (by omega)).2.2⟩) (fun k hk x hx => (v1 x ((v4 l hl).2 k (by omega) x hx)).1) (fun x hx => (v1 x ((v3 3 (by omega)).2 x hx)).1) hroom
  refine ⟨h', m1, hV0.row (i := 3) (by omega) m3 m2 ?_, m3.2⟩
  intro x hx
  rcases (e_ll_mem E s x _ _).mp hx with q | q
  · obtain ⟨i, i1, i2, i3⟩ := e_fl_mem _ _ _ _ q.1
    exact (v4 l hl).2 i (by omega) x i3
  · exact (v3 3 (by omega)).2 x q
def e_gl (E : Nat → Nat → Int32) (s : Int32) (f0 f1 f2 : List Nat) : List Nat := f2.foldl (e_ll E s) (f1.foldl (e_ll E s) (f0.foldl (e_ll E s) []))
theorem vl_gather (d : Nat) {f0 f1 f2 : List Nat} (h0 : e_fl (C 0) 0 (c 0) = f0) (h1 : e_fl (C 1) 0 (c 1) = f1) (h2 : e_fl (C 2) 0 (c 2) = f2) (hV : vs_V z h ad tt rr aa R C fl c tk cb tb sb g S En E v) (hroom : f0.countP (e_live E (nI (g 0))) + f1.countP (e_live E (nI (g 0))) + f2.countP (e_live E (nI (g 0))) ≤ 16) :
    ∃ h', am_M z (d + 1 + 1 + 1 + 1 + 1) 48 [.ref (ad 0)] h none h' ∧ vs_V z h' ad tt rr aa (va_up R 3 (e_gl E (nI (g 0)) f0 f1 f2)) C fl c tk cb tb sb g S En E v ∧ h'.2 = h.2 := by
  have e2 : ∀ x y : List Nat, va_up (va_up R 3 x) 3 y = va_up R 3 y := fun x y => bx_uu R 3 x y
  have step : ∀ l hh T, l < 3 → vs_V z hh ad tt rr aa (va_up R 3 T) C fl c tk cb tb sb g S En E v → T.length + (e_fl (C l) 0 (c l)).countP (e_live E (nI (g 0))) ≤ 16 → ∃ h2, vs_V z h2 ad tt rr aa (va_up R 3 ((e_fl (C l) 0 (c l)).foldl (e_ll E (nI (g 0))) T)) C fl c tk cb tb sb g S En E v ∧ h2.2 = hh.2 ∧ ∀ h', am_R z (d + 1 + 1 + 1 + 1) 48 9 [some (.ref (ad 0)), some (.int (nI (l + 1)))] [] h2 none h' → am_R z (d + 1 + 1 + 1 + 1) 48 9 [some (.ref (ad 0)), some (.int (nI l))] [] hh none h' := by
    intro l hh T hl hW hr
    obtain ⟨h3, a1, a2, a3⟩ := vl_listLv d hl (s := nI (g 0)) hW (by rw [va_up_self]; exact hr)
    rw [va_up_self, e2] at a2
    refine ⟨h3, a2, a3, ?_⟩
    intro h' k1
    have q1 := vl_levelAt (d + 1 + 1 + 1) hl hW
    obtain ⟨w0, w1, w2, w3, w4, w5, w6, w7, w8⟩ := hW
    have q2 := lg_numberOf z (d + 1 + 1 + 1) (k := 0) w5
    rw [Nat.add_zero] at q2
    have z0 : nI 0 = 0 := rfl
    rw [z0] at q2
    have lg0 := w5.1
    have l0 := (w4 l hl).1.1
    have e1 : ¬ (3 : Int32) ≤ nI l := nI_ge (b := 3) hl (by omega)
    rw [am_R_eq, cxh_48_9]
    simp only [am_R_eq, cx_48, en_48, rt_48, rx_aload_n, rx_getfield, ev_gf, rx_goto, rx_iconst, rx_icmp_ge, rx_iinc, ev_inc, rx_iload_n, rx_invv, ev_cv, rx_istore_n, rx_return, kl_22, kl_41, kl_45, kl_49, ev_K, ev_pI, ev_pR, ev_pVi, ev_pVr, ev_sI, ev_sR, ev_KC, ev_k, ev_ko, ev_pop0, ev_pops, am_ld, am_sv, am_at, am_st, am_g, List.length_cons, List.length_nil, Nat.reduceAdd, Nat.reduceLT, Nat.zero_add, if_true, if_false, and_self, true_or, or_true, true_and, and_true, not_true_eq_false, not_false_eq_true, reduceCtorEq, eq_self, Option.toList_some, Option.toList_none, List.cons_append, List.nil_append, Bool.false_eq_true, e1, w0]
    refine am_CL_of q1 ?_
    simp only [am_R_eq, cx_48, en_48, rt_48, rx_aload_n, rx_getfield, ev_gf, rx_goto, rx_iconst, rx_icmp_ge, rx_iinc, ev_inc, rx_iload_n, rx_invv, ev_cv, rx_istore_n, rx_return, kl_22, kl_41, kl_45, kl_49, ev_K, ev_pI, ev_pR, ev_pVi, ev_pVr, ev_sI, ev_sR, ev_KC, ev_k, ev_ko, ev_pop0, ev_pops, am_ld, am_sv, am_at, am_st, am_g, List.length_cons, List.length_nil, Nat.reduceAdd, Nat.reduceLT, Nat.zero_add, if_true, if_false, and_self, true_or, or_true, true_and, and_true, not_true_eq_false, not_false_eq_true, reduceCtorEq, eq_self, Option.toList_some, Option.toList_none, List.cons_append, List.nil_append, Bool.false_eq_true, w0, lg0]
    refine am_CL_of q2 ?_
    simp only [am_R_eq, cx_48, en_48, rt_48, rx_aload_n, rx_getfield, ev_gf, rx_goto, rx_iconst, rx_icmp_ge, rx_iinc, ev_inc, rx_iload_n, rx_invv, ev_cv, rx_istore_n, rx_return, kl_22, kl_41, kl_45, kl_49, ev_K, ev_pI, ev_pR, ev_pVi, ev_pVr, ev_sI, ev_sR, ev_KC, ev_k, ev_ko, ev_pop0, ev_pops, am_ld, am_sv, am_at, am_st, am_g, List.length_cons, List.length_nil, Nat.reduceAdd, Nat.reduceLT, Nat.zero_add, if_true, if_false, and_self, true_or, or_true, true_and, and_true, not_true_eq_false, not_false_eq_true, reduceCtorEq, eq_self, Option.toList_some, Option.toList_none, List.cons_append, List.nil_append, Bool.false_eq_true, w0, l0]
    refine am_CL_of a1 ?_
    rw [am_R_eq] at k1
    simp only [am_R_eq, cx_48, en_48, rt_48, rx_aload_n, rx_getfield, ev_gf, rx_goto, rx_iconst, rx_icmp_ge, rx_iinc, ev_inc, rx_iload_n, rx_invv, ev_cv, rx_istore_n, rx_return, kl_22, kl_41, kl_45, kl_49, ev_K, ev_pI, ev_pR, ev_pVi, ev_pVr, ev_sI, ev_sR, ev_KC, ev_k, ev_ko, ev_pop0, ev_pops, am_ld, am_sv, am_at, am_st, am_g, List.length_cons, List.length_nil, Nat.reduceAdd, Nat.reduceLT, Nat.zero_add, if_true, if_false, and_self, true_or, or_true, true_and, and_true, not_true_eq_false, not_false_eq_true, reduceCtorEq, eq_self, Option.toList_some, Option.toList_none, List.cons_append, List.nil_append, Bool.false_eq_true, nI_ofs]
    exact k1
  have hV0 := hV
  obtain ⟨v0, v1, v2, v3, v4, v5, v6, v7, v8⟩ := hV
  have r3 := (v3 3 (by omega)).1
  have p3 := r3.1
  obtain ⟨ha, a1, a2, a3⟩ := ro_clear' z (d + 1 + 1 + 1) (v7.2.1 13 (by omega)) r3
  have hA := hV0.row (i := 3) (by omega) a3 a2 (fun x hx => by cases hx)
  obtain ⟨hb, b1, b2, b3⟩ := step 0 ha [] (by omega) hA (by rw [h0, List.length_nil]; omega)
  rw [h0] at b1
  obtain ⟨hc, c1, c2, c3⟩ := step 1 hb _ (by omega) b1 (by rw [h1, e_ll_len, List.length_nil]; omega)
  rw [h1] at c1
  obtain ⟨hd, d1, d2, d3⟩ := step 2 hc _ (by omega) c1 (by rw [h2, e_ll_len, e_ll_len, List.length_nil]; omega)
  rw [h2] at d1
  refine ⟨hd, ?_, d1, by rw [d2, c2, b2, a3.2]⟩
  have fin : am_R z (d + 1 + 1 + 1 + 1) 48 9 [some (.ref (ad 0)), some (.int (nI 3))] [] hd none hd := by
    have e1 : (3 : Int32) ≤ nI 3 := by decide
    rw [am_R_eq, cxh_48_9]
    simp only [am_R_eq, cx_48, en_48, rt_48, rx_aload_n, rx_getfield, ev_gf, rx_goto, rx_iconst, rx_icmp_ge, rx_iinc, ev_inc, rx_iload_n, rx_invv, ev_cv, rx_istore_n, rx_return, kl_22, kl_41, kl_45, kl_49, ev_K, ev_pI, ev_pR, ev_pVi, ev_pVr, ev_sI, ev_sR, ev_KC, ev_k, ev_ko, ev_pop0, ev_pops, am_ld, am_sv, am_at, am_st, am_g, List.length_cons, List.length_nil, Nat.reduceAdd, Nat.reduceLT, Nat.zero_add, if_true, if_false, and_self, true_or, or_true, true_and, and_true, not_true_eq_false, not_false_eq_true, reduceCtorEq, eq_self, Option.toList_some, Option.toList_none, List.cons_append, List.nil_append, Bool.false_eq_true, e1]
  have k1 := b3 hd (c3 hd (d3 hd fin))
  rw [am_R_eq] at k1
  have z0 : nI 0 = 0 := rfl
  rw [z0] at k1
  rw [am_M_eq]
  simp only [am_R_eq, cx_48, en_48, rt_48, rx_aload_n, rx_getfield, ev_gf, rx_goto, rx_iconst, rx_icmp_ge, rx_iinc, ev_inc, rx_iload_n, rx_invv, ev_cv, rx_istore_n, rx_return, kl_22, kl_41, kl_45, kl_49, ev_K, ev_pI, ev_pR, ev_pVi, ev_pVr, ev_sI, ev_sR, ev_KC, ev_k, ev_ko, ev_pop0, ev_pops, am_ld, am_sv, am_at, am_st, am_g, List.length_cons, List.length_nil, Nat.reduceAdd, Nat.reduceLT, Nat.zero_add, if_true, if_false, and_self, true_or, or_true, true_and, and_true, not_true_eq_false, not_false_eq_true, reduceCtorEq, eq_self, Option.toList_some, Option.toList_none, List.cons_append, List.nil_append, Bool.false_eq_true, v0, p3]
  refine am_CL_of a1 ?_
  simp only [am_R_eq, cx_48, en_48, rt_48, rx_aload_n, rx_getfield, ev_gf, rx_goto, rx_iconst, rx_icmp_ge, rx_iinc, ev_inc, rx_iload_n, rx_invv, ev_cv, rx_istore_n, rx_return, kl_22, kl_41, kl_45, kl_49, ev_K, ev_pI, ev_pR, ev_pVi, ev_pVr, ev_sI, ev_sR, ev_KC, ev_k, ev_ko, ev_pop0, ev_pops, am_ld, am_sv, am_at, am_st, am_g, List.length_cons, List.length_nil, Nat.reduceAdd, Nat.reduceLT, Nat.zero_add, if_true, if_false, and_self, true_or, or_true, true_and, and_true, not_true_eq_false, not_false_eq_true, reduceCtorEq, eq_self, Option.toList_some, Option.toList_none, List.cons_append, List.nil_append, Bool.false_eq_true]
  exact k1
end VCO
