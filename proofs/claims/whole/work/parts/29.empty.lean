section VE
variable {z : Nat} {h : am_H} {ad : Nat → Nat} {tt rr aa : Nat → Nat → Nat} {R : Nat → List Nat} {C : Nat → Nat → List Nat} {fl : Nat → Nat → Int32} {c : Nat → Nat} {tk cb tb sb g : Nat → Nat} {S : Nat → Int32} {En : Nat → Prop} {E : Nat → Nat → Int32} {v : Nat → Int32}
theorem vl_insertSv (d : Nat) {e : Nat} (he : En e) (hV : vs_V z h ad tt rr aa R C fl c tk cb tb sb g S En E v) (hn : (R 2).length < 172) : ∃ h', am_M z (d + 1 + 1) 25 [.ref (ad 12), .ref e] h none h' ∧ vs_V z h' ad tt rr aa (va_up R 2 (e_ik E (R 2) e)) C fl c tk cb tb sb g S En E v ∧ h'.2 = h.2 := by
  have hV0 := hV
  obtain ⟨v0, v1, v2, v3, v4, v5, v6, v7, v8⟩ := hV
  obtain ⟨h', m1, m2, m3⟩ := ro_insertByKey z d (v7.2.1 12 (by omega)) (v7.2.1 16 (by omega)) (v3 2 (by omega)).1 (v1 e he).1 (fun x hx => (v1 x ((v3 2 (by omega)).2 x hx)).1) hn
  refine ⟨h', m1, hV0.row (i := 2) (by omega) m3 m2 ?_, m3.2⟩
  intro x hx
  rcases (e_ins_mem _ _ _ _).mp hx with q | q
  · rw [q]; exact he
  · exact (v3 2 (by omega)).2 x q
theorem va_cm2 {α : Type} (f : Nat → α) {i j : Nat} (x y : α) (hij : i ≠ j) : va_up (va_up f i x) j y = va_up (va_up f j y) i x := by
  funext k
  unfold va_up
  by_cases h1 : k = i
  · have h2 : ¬ k = j := by omega
    subst h1
    simp [h2]
  · simp [h1]
theorem vl_emptyRest (d : Nat) {w : Option Value} (hV : vs_V z h ad tt rr aa R C fl c tk cb tb sb g S En E v) (hc : c 0 < 4) :
    ∃ h', am_R z (d + 1 + 1 + 1) 18 30 [some (.ref (ad 0)), some (.int (nI (R 1).length)), w] [] h (some (.int (nI (R 1).length))) h' ∧
      vs_V z h' ad (va_up tt 0 (e_rot (c 0) (tt 0))) (va_up rr 0 (e_rot (c 0) (rr 0))) (va_up aa 0 (e_rot (c 0) (aa 0))) (va_up (va_up R 1 []) 2 (e_du E (e_ta S E) (ad 1) ((R 1).foldl (e_ik E) []))) (va_up C 0 (va_up (e_rot (c 0) (C 0)) 0 (e_du E (e_ta S E) (ad 1) ((R 1).foldl (e_ik E) [])))) (va_up fl 0 (va_up (e_rot (c 0) (fl 0)) 0 ((e_du E (e_ta S E) (ad 1) ((R 1).foldl (e_ik E) [])).foldl (e_ff E) 0))) (va_up c 0 (c 0 + 1)) tk cb tb sb (va_up g 2 0) S En E v ∧ h'.2 = h.2 := by
  have hV0 := hV
  obtain ⟨v0, v1, v2, v3, v4, v5, v6, v7, v8⟩ := hV
  have rM := (v3 1 (by omega)).1
  have hM8 : (R 1).length ≤ 8 := rM.2.1
  have r2 := (v3 2 (by omega)).1
  have p2 := r2.1
  have e2 : ∀ x y : List Nat, va_up (va_up R 2 x) 2 y = va_up R 2 y := fun x y => bx_uu R 2 x y
  -- behind the loop
  have tail : ∀ hh (w2 : Option Value), vs_V z hh ad tt rr aa (va_up R 2 ((R 1).foldl (e_ik E) [])) C fl c tk cb tb sb g S En E v → hh.2 = h.2 → ∃ h', am_R z (d + 1 + 1 + 1) 18 65 [some (.ref (ad 0)), some (.int (nI (R 1).length)), w2] [] hh (some (.int (nI (R 1).length))) h' ∧
      vs_V z h' ad (va_up tt 0 (e_rot (c 0) (tt 0))) (va_up rr 0 (e_rot (c 0) (rr 0))) (va_up aa 0 (e_rot (c 0) (aa 0))) (va_up (va_up R 1 []) 2 (e_du E (e_ta S E) (ad 1) ((R 1).foldl (e_ik E) []))) (va_up C 0 (va_up (e_rot (c 0) (C 0)) 0 (e_du E (e_ta S E) (ad 1) ((R 1).foldl (e_ik E) [])))) (va_up fl 0 (va_up (e_rot (c 0) (fl 0)) 0 ((e_du E (e_ta S E) (ad 1) ((R 1).foldl (e_ik E) [])).foldl (e_ff E) 0))) (va_up c 0 (c 0 + 1)) tk cb tb sb (va_up g 2 0) S En E v ∧ h'.2 = h.2 := by
    intro hh w2 hW hs
    have hlenT : ((R 1).foldl (e_ik E) []).length = (R 1).length := by rw [e_ik_len, List.length_nil, Nat.zero_add]
    generalize hT : (R 1).foldl (e_ik E) [] = T at *
    have hW0 := hW
    obtain ⟨w0, w1, w2', w3, w4, w5, w6, w7, w8⟩ := hW
    have q1 := (w3 1 (by omega)).1
    have q1' := q1.1
    obtain ⟨ha, a1, a2, a3⟩ := ro_clear' z (d + 1 + 1) (v7.2.1 11 (by omega)) q1
    have hA := hW0.row (i := 1) (by omega) a3 a2 (fun x hx => by cases hx)
    rw [va_cm2 _ _ _ (by decide)] at hA
    have hA0 := hA
    obtain ⟨x0, x1, x2, x3, x4, x5, x6, x7, x8⟩ := hA
    have r3 := (x3 2 (by omega)).1
    have hn3 := (x3 2 (by omega)).2
    rw [va_up_self] at r3 hn3
    have r3' := r3.1
    have s3 := x6.1
    obtain ⟨hb, b1, b2, b3⟩ := ro_dropUnseen z (d + 1) (E := E) (v7.2.1 12 (by omega)) (v7.2.1 16 (by omega)) r3 x6 (x1 _ x2).1 (fun x hx => (x1 x (hn3 x hx)).1)
    have hL2n : ∀ x ∈ e_du E (e_ta S E) (ad 1) T, En x := fun x hx => hn3 x (e_du_mem _ _ _ _ _ hx)
    have hlen2 := e_du_len E (e_ta S E) (ad 1) T
    have hB := hA0.row (i := 2) (by omega) b3 b2 hL2n
    have e3 : ∀ x y : List Nat, va_up (va_up (va_up R 1 []) 2 x) 2 y = va_up (va_up R 1 []) 2 y := fun x y => bx_uu _ 2 x y
    rw [e3] at hB
    generalize hF : e_du E (e_ta S E) (ad 1) T = F at *
    have hB0 := hB
    have hsv := hB.sv (l := 0) (by omega)
    obtain ⟨y0, y1, y2, y3, y4, y5, y6, y7, y8⟩ := hB
    have r4 := (y3 2 (by omega)).1
    rw [va_up_self] at r4
    have r4' := r4.1
    have lv0 := (y4 0 (by omega)).1.1
    obtain ⟨hc', c1, c2, c3⟩ := le_addNewest z d (E := E) (v7.2.1 4 (by omega)) (v7.2.1 7 (by omega)) (fun k hk => v7.2.2.1 0 k (by omega) hk) (y4 0 (by omega)).1 r4 hsv (fun x hx => (y1 x (hL2n x hx)).1) (by show F.length ≤ 8; omega) hc
    have hC := hB0.lev (l := 0) (by omega) c3 c2 (by
      intro k hk
      unfold e_rot
      by_cases h0 : k = 0
      · exact ⟨c 0, hc, by rw [if_pos h0], by rw [if_pos h0], by rw [if_pos h0]⟩
      · by_cases h1 : k ≤ c 0
        · exact ⟨k - 1, by omega, by rw [if_neg h0, if_pos h1], by rw [if_neg h0, if_pos h1], by rw [if_neg h0, if_pos h1]⟩
        · exact ⟨k, hk, by rw [if_neg h0, if_neg h1], by rw [if_neg h0, if_neg h1], by rw [if_neg h0, if_neg h1]⟩) (by
      intro k hk x hx
      by_cases h0 : k = 0
      · subst h0
        rw [va_up_self] at hx
        exact hL2n x hx
      · rw [va_up_ne _ _ h0] at hx
        unfold e_rot at hx
        rw [if_neg h0] at hx
        split at hx
        · exact (v4 0 (by omega)).2 (k - 1) (by omega) x hx
        · exact (v4 0 (by omega)).2 k hk x hx)
    have hC0 := hC
    obtain ⟨u0, u1, u2, u3, u4, u5, u6, u7, u8⟩ := hC
    have lg0 := u5.1
    obtain ⟨hd, d1, d2, d3⟩ := lg_syncAll z (d + 1 + 1) (v7.2.1 2 (by omega)) u5
    have hD := hC0.log (g' := va_up g 2 0) d3 d2
    refine ⟨hd, ?_, hD, by rw [d3.2, c3.2, b3.2, a3.2, hs]⟩
    simp only [am_R_eq, cx_18, en_18, rt_18, rx_aload_n, rx_getfield, ev_gf, rx_goto, rx_iconst, rx_icmp_ge, rx_icmp_lt, rx_if_ne, rx_iinc, ev_inc, rx_iload_n, rx_invv, ev_cv, rx_ireturn, rx_istore_n, rx_pop_i, rx_pop_r, kl_12, kl_19, kl_20, kl_22, kl_24, kl_25, kl_28, kl_35, kl_36, ev_K, ev_pI, ev_pR, ev_pVi, ev_pVr, ev_sI, ev_sR, ev_KC, ev_k, ev_ko, ev_pop0, ev_pops, am_ld, am_sv, am_at, am_st, am_g, List.length_cons, List.length_nil, Nat.reduceAdd, Nat.reduceLT, Nat.zero_add, if_true, if_false, and_self, true_or, or_true, true_and, and_true, not_true_eq_false, not_false_eq_true, reduceCtorEq, eq_self, Option.toList_some, Option.toList_none, List.cons_append, List.nil_append, Bool.false_eq_true, w0, q1']
    refine am_CL_of a1 ?_
    simp only [am_R_eq, cx_18, en_18, rt_18, rx_aload_n, rx_getfield, ev_gf, rx_goto, rx_iconst, rx_icmp_ge, rx_icmp_lt, rx_if_ne, rx_iinc, ev_inc, rx_iload_n, rx_invv, ev_cv, rx_ireturn, rx_istore_n, rx_pop_i, rx_pop_r, kl_12, kl_19, kl_20, kl_22, kl_24, kl_25, kl_28, kl_35, kl_36, ev_K, ev_pI, ev_pR, ev_pVi, ev_pVr, ev_sI, ev_sR, ev_KC, ev_k, ev_ko, ev_pop0, ev_pops, am_ld, am_sv, am_at, am_st, am_g, List.length_cons, List.length_nil, Nat.reduceAdd, Nat.reduceLT, Nat.zero_add, if_true, if_false, and_self, true_or, or_true, true_and, and_true, not_true_eq_false, not_false_eq_true, reduceCtorEq, eq_self, Option.toList_some, Option.toList_none, List.cons_append, List.nil_append, Bool.false_eq_true, x0, r3']
    refine am_CL_of b1 ?_
    simp only [am_R_eq, cx_18, en_18, rt_18, rx_aload_n, rx_getfield, ev_gf, rx_goto, rx_iconst, rx_icmp_ge, rx_icmp_lt, rx_if_ne, rx_iinc, ev_inc, rx_iload_n, rx_invv, ev_cv, rx_ireturn, rx_istore_n, rx_pop_i, rx_pop_r, kl_12, kl_19, kl_20, kl_22, kl_24, kl_25, kl_28, kl_35, kl_36, ev_K, ev_pI, ev_pR, ev_pVi, ev_pVr, ev_sI, ev_sR, ev_KC, ev_k, ev_ko, ev_pop0, ev_pops, am_ld, am_sv, am_at, am_st, am_g, List.length_cons, List.length_nil, Nat.reduceAdd, Nat.reduceLT, Nat.zero_add, if_true, if_false, and_self, true_or, or_true, true_and, and_true, not_true_eq_false, not_false_eq_true, reduceCtorEq, eq_self, Option.toList_some, Option.toList_none, List.cons_append, List.nil_append, Bool.false_eq_true, y0, lv0]
    refine am_CL_of c1 ?_
    simp only [am_R_eq, cx_18, en_18, rt_18, rx_aload_n, rx_getfield, ev_gf, rx_goto, rx_iconst, rx_icmp_ge, rx_icmp_lt, rx_if_ne, rx_iinc, ev_inc, rx_iload_n, rx_invv, ev_cv, rx_ireturn, rx_istore_n, rx_pop_i, rx_pop_r, kl_12, kl_19, kl_20, kl_22, kl_24, kl_25, kl_28, kl_35, kl_36, ev_K, ev_pI, ev_pR, ev_pVi, ev_pVr, ev_sI, ev_sR, ev_KC, ev_k, ev_ko, ev_pop0, ev_pops, am_ld, am_sv, am_at, am_st, am_g, List.length_cons, List.length_nil, Nat.reduceAdd, Nat.reduceLT, Nat.zero_add, if_true, if_false, and_self, true_or, or_true, true_and, and_true, not_true_eq_false, not_false_eq_true, reduceCtorEq, eq_self, Option.toList_some, Option.toList_none, List.cons_append, List.nil_append, Bool.false_eq_true, u0, lg0]
    refine am_CL_of d1 ?_
    simp only [am_R_eq, cx_18, en_18, rt_18, rx_aload_n, rx_getfield, ev_gf, rx_goto, rx_iconst, rx_icmp_ge, rx_icmp_lt, rx_if_ne, rx_iinc, ev_inc, rx_iload_n, rx_invv, ev_cv, rx_ireturn, rx_istore_n, rx_pop_i, rx_pop_r, kl_12, kl_19, kl_20, kl_22, kl_24, kl_25, kl_28, kl_35, kl_36, ev_K, ev_pI, ev_pR, ev_pVi, ev_pVr, ev_sI, ev_sR, ev_KC, ev_k, ev_ko, ev_pop0, ev_pops, am_ld, am_sv, am_at, am_st, am_g, List.length_cons, List.length_nil, Nat.reduceAdd, Nat.reduceLT, Nat.zero_add, if_true, if_false, and_self, true_or, or_true, true_and, and_true, not_true_eq_false, not_false_eq_true, reduceCtorEq, eq_self, Option.toList_some, Option.toList_none, List.cons_append, List.nil_append, Bool.false_eq_true]
  obtain ⟨h1, a1, a2, a3⟩ := ro_clear' z (d + 1 + 1) (v7.2.1 12 (by omega)) r2
  have hV1 := hV0.row (i := 2) (by omega) a3 a2 (fun x hx => by cases hx)
  have loop : ∀ m k T hh, m = (R 1).length - k → k ≤ (R 1).length → T.length + ((R 1).length - k) ≤ 172 → vs_V z hh ad tt rr aa (va_up R 2 T) C fl c tk cb tb sb g S En E v → hh.2 = h.2 → ((R 1).drop k).foldl (e_ik E) T = (R 1).foldl (e_ik E) [] →
      ∃ h', am_R z (d + 1 + 1 + 1) 18 39 [some (.ref (ad 0)), some (.int (nI (R 1).length)), some (.int (nI k))] [] hh (some (.int (nI (R 1).length))) h' ∧
      vs_V z h' ad (va_up tt 0 (e_rot (c 0) (tt 0))) (va_up rr 0 (e_rot (c 0) (rr 0))) (va_up aa 0 (e_rot (c 0) (aa 0))) (va_up (va_up R 1 []) 2 (e_du E (e_ta S E) (ad 1) ((R 1).foldl (e_ik E) []))) (va_up C 0 (va_up (e_rot (c 0) (C 0)) 0 (e_du E (e_ta S E) (ad 1) ((R 1).foldl (e_ik E) [])))) (va_up fl 0 (va_up (e_rot (c 0) (fl 0)) 0 ((e_du E (e_ta S E) (ad 1) ((R 1).foldl (e_ik E) [])).foldl (e_ff E) 0))) (va_up c 0 (c 0 + 1)) tk cb tb sb (va_up g 2 0) S En E v ∧ h'.2 = h.2 := by
    intro m
    induction m with
    | zero =>
      intro k T hh hm hk hT hW hs hf
      have hkl : k = (R 1).length := by omega
      subst hkl
      have e1 : nI (R 1).length ≤ nI (R 1).length := nI_le (Nat.le_refl _) (by omega)
      rw [List.drop_length, List.foldl_nil] at hf
      subst hf
      obtain ⟨h', t1, t2, t3⟩ := tail hh (some (.int (nI (R 1).length))) hW hs
      refine ⟨h', ?_, t2, t3⟩
      rw [am_R_eq, cxh_18_39]
      revert t1
      simp only [am_R_eq, cx_18, en_18, rt_18, rx_aload_n, rx_getfield, ev_gf, rx_goto, rx_iconst, rx_icmp_ge, rx_icmp_lt, rx_if_ne, rx_iinc, ev_inc, rx_iload_n, rx_invv, ev_cv, rx_ireturn, rx_istore_n, rx_pop_i, rx_pop_r, kl_12, kl_19, kl_20, kl_22, kl_24, kl_25, kl_28, kl_35, kl_36, ev_K, ev_pI, ev_pR, ev_pVi, ev_pVr, ev_sI, ev_sR, ev_KC, ev_k, ev_ko, ev_pop0, ev_pops, am_ld, am_sv, am_at, am_st, am_g, List.length_cons, List.length_nil, Nat.reduceAdd, Nat.reduceLT, Nat.zero_add, if_true, if_false, and_self, true_or, or_true, true_and, and_true, not_true_eq_false, not_false_eq_true, reduceCtorEq, eq_self, Option.toList_some, Option.toList_none, List.cons_append, List.nil_append, Bool.false_eq_true, e1]
      exact fun q => q
    | succ m ih =>
      intro k T hh hm hk hT hW hs hf
      have hlt : k < (R 1).length := by omega
      have e1 : ¬ nI (R 1).length ≤ nI k := nI_ge hlt (by omega)
      obtain ⟨x, hx⟩ : ∃ x, (R 1)[k]? = some x := ⟨(R 1)[k]'(by omega), List.getElem?_eq_getElem (by omega)⟩
      have hd : (R 1).drop k = x :: (R 1).drop (k + 1) := by
        rw [List.drop_eq_getElem_cons hlt]
        congr 1
        exact (List.getElem?_eq_some_iff.mp hx).2
      have hxE : En x := (v3 1 (by omega)).2 x (List.mem_of_getElem? hx)
      rw [hd, List.foldl_cons] at hf
      have hW0 := hW
      obtain ⟨w0, w1, w2', w3, w4, w5, w6, w7, w8⟩ := hW
      have q1 := (w3 1 (by omega)).1
      rw [va_up_ne _ _ (by decide)] at q1
      have q1' := q1.1
      have q2' := (w3 2 (by omega)).1.1
      obtain ⟨h2, m1, m2, m3⟩ := vl_insertSv (d + 1) hxE hW0 (by rw [va_up_self]; omega)
      rw [va_up_self, e2] at m2
      obtain ⟨h', i1, i2⟩ := ih (k + 1) (e_ik E T x) h2 (by omega) (by omega) (by rw [e_ik, e_ins_len]; omega) m2 (by rw [m3, hs]) hf
      rw [am_R_eq] at i1
      refine ⟨h', ?_, i2⟩
      rw [am_R_eq, cxh_18_39]
      simp only [am_R_eq, cx_18, en_18, rt_18, rx_aload_n, rx_getfield, ev_gf, rx_goto, rx_iconst, rx_icmp_ge, rx_icmp_lt, rx_if_ne, rx_iinc, ev_inc, rx_iload_n, rx_invv, ev_cv, rx_ireturn, rx_istore_n, rx_pop_i, rx_pop_r, kl_12, kl_19, kl_20, kl_22, kl_24, kl_25, kl_28, kl_35, kl_36, ev_K, ev_pI, ev_pR, ev_pVi, ev_pVr, ev_sI, ev_sR, ev_KC, ev_k, ev_ko, ev_pop0, ev_pops, am_ld, am_sv, am_at, am_st, am_g, List.length_cons, List.length_nil, Nat.reduceAdd, Nat.reduceLT, Nat.zero_add, if_true, if_false, and_self, true_or, or_true, true_and, and_true, not_true_eq_false, not_false_eq_true, reduceCtorEq, eq_self, Option.toList_some, Option.toList_none, List.cons_append, List.nil_append, Bool.false_eq_true, e1, w0, q1']
      refine am_CL_of (ro_at z (d + 1 + 1) q1 hx) ?_
      simp only [am_R_eq, cx_18, en_18, rt_18, rx_aload_n, rx_getfield, ev_gf, rx_goto, rx_iconst, rx_icmp_ge, rx_icmp_lt, rx_if_ne, rx_iinc, ev_inc, rx_iload_n, rx_invv, ev_cv, rx_ireturn, rx_istore_n, rx_pop_i, rx_pop_r, kl_12, kl_19, kl_20, kl_22, kl_24, kl_25, kl_28, kl_35, kl_36, ev_K, ev_pI, ev_pR, ev_pVi, ev_pVr, ev_sI, ev_sR, ev_KC, ev_k, ev_ko, ev_pop0, ev_pops, am_ld, am_sv, am_at, am_st, am_g, List.length_cons, List.length_nil, Nat.reduceAdd, Nat.reduceLT, Nat.zero_add, if_true, if_false, and_self, true_or, or_true, true_and, and_true, not_true_eq_false, not_false_eq_true, reduceCtorEq, eq_self, Option.toList_some, Option.toList_none, List.cons_append, List.nil_append, Bool.false_eq_true, q2']
      refine am_CL_of m1 ?_
      simp only [am_R_eq, cx_18, en_18, rt_18, rx_aload_n, rx_getfield, ev_gf, rx_goto, rx_iconst, rx_icmp_ge, rx_icmp_lt, rx_if_ne, rx_iinc, ev_inc, rx_iload_n, rx_invv, ev_cv, rx_ireturn, rx_istore_n, rx_pop_i, rx_pop_r, kl_12, kl_19, kl_20, kl_22, kl_24, kl_25, kl_28, kl_35, kl_36, ev_K, ev_pI, ev_pR, ev_pVi, ev_pVr, ev_sI, ev_sR, ev_KC, ev_k, ev_ko, ev_pop0, ev_pops, am_ld, am_sv, am_at, am_st, am_g, List.length_cons, List.length_nil, Nat.reduceAdd, Nat.reduceLT, Nat.zero_add, if_true, if_false, and_self, true_or, or_true, true_and, and_true, not_true_eq_false, not_false_eq_true, reduceCtorEq, eq_self, Option.toList_some, Option.toList_none, List.cons_append, List.nil_append, Bool.false_eq_true, nI_ofs]
      exact i1
  obtain ⟨h', i1, i2⟩ := loop (R 1).length 0 [] h1 (by omega) (Nat.zero_le _) (by rw [List.length_nil]; omega) hV1 a3.2 (by rw [List.drop_zero])
  rw [am_R_eq] at i1
  refine ⟨h', ?_, i2⟩
  simp only [am_R_eq, cx_18, en_18, rt_18, rx_aload_n, rx_getfield, ev_gf, rx_goto, rx_iconst, rx_icmp_ge, rx_icmp_lt, rx_if_ne, rx_iinc, ev_inc, rx_iload_n, rx_invv, ev_cv, rx_ireturn, rx_istore_n, rx_pop_i, rx_pop_r, kl_12, kl_19, kl_20, kl_22, kl_24, kl_25, kl_28, kl_35, kl_36, ev_K, ev_pI, ev_pR, ev_pVi, ev_pVr, ev_sI, ev_sR, ev_KC, ev_k, ev_ko, ev_pop0, ev_pops, am_ld, am_sv, am_at, am_st, am_g, List.length_cons, List.length_nil, Nat.reduceAdd, Nat.reduceLT, Nat.zero_add, if_true, if_false, and_self, true_or, or_true, true_and, and_true, not_true_eq_false, not_false_eq_true, reduceCtorEq, eq_self, Option.toList_some, Option.toList_none, List.cons_append, List.nil_append, Bool.false_eq_true, v0, p2]
  refine am_CL_of a1 ?_
  simp only [am_R_eq, cx_18, en_18, rt_18, rx_aload_n, rx_getfield, ev_gf, rx_goto, rx_iconst, rx_icmp_ge, rx_icmp_lt, rx_if_ne, rx_iinc, ev_inc, rx_iload_n, rx_invv, ev_cv, rx_ireturn, rx_istore_n, rx_pop_i, rx_pop_r, kl_12, kl_19, kl_20, kl_22, kl_24, kl_25, kl_28, kl_35, kl_36, ev_K, ev_pI, ev_pR, ev_pVi, ev_pVr, ev_sI, ev_sR, ev_KC, ev_k, ev_ko, ev_pop0, ev_pops, am_ld, am_sv, am_at, am_st, am_g, List.length_cons, List.length_nil, Nat.reduceAdd, Nat.reduceLT, Nat.zero_add, if_true, if_false, and_self, true_or, or_true, true_and, and_true, not_true_eq_false, not_false_eq_true, reduceCtorEq, eq_self, Option.toList_some, Option.toList_none, List.cons_append, List.nil_append, Bool.false_eq_true]
  exact i1
end VE
