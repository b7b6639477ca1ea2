section VC
variable {z : Nat} {h : am_H} {ad : Nat → Nat} {tt rr aa : Nat → Nat → Nat} {R : Nat → List Nat} {C : Nat → Nat → List Nat} {fl : Nat → Nat → Int32} {c : Nat → Nat} {tk cb tb sb g : Nat → Nat} {S : Nat → Int32} {En : Nat → Prop} {E : Nat → Nat → Int32} {v : Nat → Int32}
theorem vl_empty0 (d : Nat) (hV : vs_V z h ad tt rr aa R C fl c tk cb tb sb g S En E v) (hM : R 1 = []) : am_M z (d + 1 + 1) 18 [.ref (ad 0)] h (some (.int (nI 0))) h := by
  obtain ⟨v0, v1, v2, v3, v4, v5, v6, v7, v8⟩ := hV
  have rM := (v3 1 (by omega)).1
  have p1 := rM.1
  have q1 := ro_size z d rM
  rw [hM] at q1
  have e1 : nI ([] : List Nat).length = 0 := rfl
  have e2 : nI 0 = 0 := rfl
  rw [am_M_eq]
  simp only [am_R_eq, cx_18, en_18, rt_18, rx_aload_n, rx_getfield, ev_gf, rx_goto, rx_iconst, rx_icmp_ge, rx_icmp_lt, rx_if_ne, rx_iinc, ev_inc, rx_iload_n, rx_invv, ev_cv, rx_ireturn, rx_istore_n, rx_pop_i, rx_pop_r, kl_12, kl_19, kl_20, kl_22, kl_24, kl_25, kl_28, kl_35, kl_36, ev_K, ev_pI, ev_pR, ev_pVi, ev_pVr, ev_sI, ev_sR, ev_KC, ev_k, ev_ko, ev_pop0, ev_pops, am_ld, am_sv, am_at, am_st, am_g, List.length_cons, List.length_nil, Nat.reduceAdd, Nat.reduceLT, Nat.zero_add, if_true, if_false, and_self, true_or, or_true, true_and, and_true, not_true_eq_false, not_false_eq_true, reduceCtorEq, eq_self, Option.toList_some, Option.toList_none, List.cons_append, List.nil_append, Bool.false_eq_true, v0, p1]
  refine am_CL_of q1 ?_
  simp only [am_R_eq, cx_18, en_18, rt_18, rx_aload_n, rx_getfield, ev_gf, rx_goto, rx_iconst, rx_icmp_ge, rx_icmp_lt, rx_if_ne, rx_iinc, ev_inc, rx_iload_n, rx_invv, ev_cv, rx_ireturn, rx_istore_n, rx_pop_i, rx_pop_r, kl_12, kl_19, kl_20, kl_22, kl_24, kl_25, kl_28, kl_35, kl_36, ev_K, ev_pI, ev_pR, ev_pVi, ev_pVr, ev_sI, ev_sR, ev_KC, ev_k, ev_ko, ev_pop0, ev_pops, am_ld, am_sv, am_at, am_st, am_g, List.length_cons, List.length_nil, Nat.reduceAdd, Nat.reduceLT, Nat.zero_add, if_true, if_false, and_self, true_or, or_true, true_and, and_true, not_true_eq_false, not_false_eq_true, reduceCtorEq, eq_self, Option.toList_some, Option.toList_none, List.cons_append, List.nil_append, Bool.false_eq_true, e2]
def vs_em (E : Nat → Nat → Int32) (S : Nat → Int32) (now : Int32) (bl : Nat) (f0 f1 f2 : List Nat) (C C' : Nat → Nat → List Nat) (fl fl' : Nat → Nat → Int32) (c c' : Nat → Nat) : Prop :=
  if c 0 = 4 then ∃ r, vs_mt E S now bl f0 f1 f2 C C' fl fl' c c' r else C' = C ∧ fl' = fl ∧ c' = c
theorem vl_empty (d : Nat) {f0 f1 f2 : List Nat} (h0 : e_fl (C 0) 0 (c 0) = f0) (h1 : e_fl (C 1) 0 (c 1) = f1) (h2 : e_fl (C 2) 0 (c 2) = f2) (hV : vs_V z h ad tt rr aa R C fl c tk cb tb sb g S En E v) (hM : R 1 ≠ []) (r1 : c 0 = 4 → f0.length + f1.length ≤ 44) (r2 : c 0 = 4 → f2.length ≤ 128) (r3 : c 0 = 4 → 12 < (e_rs E S (v 0) (ad 1) 1 f0 f1).length → (e_rs E S (v 0) (ad 1) 2 (e_rs E S (v 0) (ad 1) 1 f0 f1) f2).length ≤ 132) :
    ∃ h' C1 fl1 c1, am_M z (d + 1 + 1 + 1 + 1 + 1 + 1) 18 [.ref (ad 0)] h (some (.int (nI (R 1).length))) h' ∧
      vs_V z h' ad (va_up tt 0 (e_rot (c1 0) (tt 0))) (va_up rr 0 (e_rot (c1 0) (rr 0))) (va_up aa 0 (e_rot (c1 0) (aa 0))) (va_up (va_up R 1 []) 2 (e_du E (e_ta S E) (ad 1) ((R 1).foldl (e_ik E) []))) (va_up C1 0 (va_up (e_rot (c1 0) (C1 0)) 0 (e_du E (e_ta S E) (ad 1) ((R 1).foldl (e_ik E) [])))) (va_up fl1 0 (va_up (e_rot (c1 0) (fl1 0)) 0 ((e_du E (e_ta S E) (ad 1) ((R 1).foldl (e_ik E) [])).foldl (e_ff E) 0))) (va_up c1 0 (c1 0 + 1)) tk cb tb sb (va_up g 2 0) S En E v ∧ h'.2 = h.2 ∧ vs_em E S (v 0) (ad 1) f0 f1 f2 C C1 fl fl1 c c1 := by
  have hV0 := hV
  obtain ⟨v0, v1, v2, v3, v4, v5, v6, v7, v8⟩ := hV
  have rM := (v3 1 (by omega)).1
  have p1 := rM.1
  have hM8 : (R 1).length ≤ 8 := rM.2.1
  have q1 := ro_size z (d + 1 + 1 + 1 + 1) rM
  have hpos : 0 < (R 1).length := by
    cases hR : R 1 with
    | nil => exact absurd hR hM
    | cons x t => simp
  have e1 : ¬ nI (R 1).length = 0 := nI_ne0 hpos (by omega)
  have hl0 := (v4 0 (by omega)).1
  have p0 := hl0.1
  have hc4 : c 0 ≤ 4 := hl0.2.1
  have q2 := le_tableCount z (d + 1 + 1 + 1 + 1) hl0
  by_cases hc : c 0 = 4
  · obtain ⟨ha, R2, C1, fl1, c1, r, a1, a2, a3, a4⟩ := vl_mergeTop d h0 h1 h2 hV0 (r1 hc) (r2 hc) (r3 hc)
    have hc0 : c1 0 = 0 := a4.1
    obtain ⟨h', b1, b2, b3⟩ := vl_emptyRest (d + 1 + 1) (w := none) a2 (by omega)
    have e3 : va_up R 2 R2 1 = R 1 := va_up_ne _ _ (by decide)
    have e4 : ∀ F : List Nat, va_up (va_up (va_up R 2 R2) 1 []) 2 F = va_up (va_up R 1 []) 2 F := by
      intro F
      rw [va_cm2 R R2 [] (by decide)]
      exact bx_uu _ 2 _ _
    rw [e3] at b1 b2
    rw [e4] at b2
    refine ⟨h', C1, fl1, c1, ?_, b2, by rw [b3, a3], ?_⟩
    · have e2 : ¬ nI (c 0) < 4 := by rw [hc]; decide
      have w0 := a2.1
      rw [am_M_eq]
      simp only [am_R_eq, cx_18, en_18, rt_18, rx_aload_n, rx_getfield, ev_gf, rx_goto, rx_iconst, rx_icmp_ge, rx_icmp_lt, rx_if_ne, rx_iinc, ev_inc, rx_iload_n, rx_invv, ev_cv, rx_ireturn, rx_istore_n, rx_pop_i, rx_pop_r, kl_12, kl_19, kl_20, kl_22, kl_24, kl_25, kl_28, kl_35, kl_36, ev_K, ev_pI, ev_pR, ev_pVi, ev_pVr, ev_sI, ev_sR, ev_KC, ev_k, ev_ko, ev_pop0, ev_pops, am_ld, am_sv, am_at, am_st, am_g, List.length_cons, List.length_nil, Nat.reduceAdd, Nat.reduceLT, Nat.zero_add, if_true, if_false, and_self, true_or, or_true, true_and, and_true, not_true_eq_false, not_false_eq_true, reduceCtorEq, eq_self, Option.toList_some, Option.toList_none, List.cons_append, List.nil_append, Bool.false_eq_true, v0, p1]
      refine am_CL_of q1 ?_
      simp only [am_R_eq, cx_18, en_18, rt_18, rx_aload_n, rx_getfield, ev_gf, rx_goto, rx_iconst, rx_icmp_ge, rx_icmp_lt, rx_if_ne, rx_iinc, ev_inc, rx_iload_n, rx_invv, ev_cv, rx_ireturn, rx_istore_n, rx_pop_i, rx_pop_r, kl_12, kl_19, kl_20, kl_22, kl_24, kl_25, kl_28, kl_35, kl_36, ev_K, ev_pI, ev_pR, ev_pVi, ev_pVr, ev_sI, ev_sR, ev_KC, ev_k, ev_ko, ev_pop0, ev_pops, am_ld, am_sv, am_at, am_st, am_g, List.length_cons, List.length_nil, Nat.reduceAdd, Nat.reduceLT, Nat.zero_add, if_true, if_false, and_self, true_or, or_true, true_and, and_true, not_true_eq_false, not_false_eq_true, reduceCtorEq, eq_self, Option.toList_some, Option.toList_none, List.cons_append, List.nil_append, Bool.false_eq_true, e1, v0, p0]
      refine am_CL_of q2 ?_
      simp only [am_R_eq, cx_18, en_18, rt_18, rx_aload_n, rx_getfield, ev_gf, rx_goto, rx_iconst, rx_icmp_ge, rx_icmp_lt, rx_if_ne, rx_iinc, ev_inc, rx_iload_n, rx_invv, ev_cv, rx_ireturn, rx_istore_n, rx_pop_i, rx_pop_r, kl_12, kl_19, kl_20, kl_22, kl_24, kl_25, kl_28, kl_35, kl_36, ev_K, ev_pI, ev_pR, ev_pVi, ev_pVr, ev_sI, ev_sR, ev_KC, ev_k, ev_ko, ev_pop0, ev_pops, am_ld, am_sv, am_at, am_st, am_g, List.length_cons, List.length_nil, Nat.reduceAdd, Nat.reduceLT, Nat.zero_add, if_true, if_false, and_self, true_or, or_true, true_and, and_true, not_true_eq_false, not_false_eq_true, reduceCtorEq, eq_self, Option.toList_some, Option.toList_none, List.cons_append, List.nil_append, Bool.false_eq_true, e2, v0]
      refine am_CL_of a1 ?_
      revert b1
      simp only [am_R_eq, cx_18, en_18, rt_18, rx_aload_n, rx_getfield, ev_gf, rx_goto, rx_iconst, rx_icmp_ge, rx_icmp_lt, rx_if_ne, rx_iinc, ev_inc, rx_iload_n, rx_invv, ev_cv, rx_ireturn, rx_istore_n, rx_pop_i, rx_pop_r, kl_12, kl_19, kl_20, kl_22, kl_24, kl_25, kl_28, kl_35, kl_36, ev_K, ev_pI, ev_pR, ev_pVi, ev_pVr, ev_sI, ev_sR, ev_KC, ev_k, ev_ko, ev_pop0, ev_pops, am_ld, am_sv, am_at, am_st, am_g, List.length_cons, List.length_nil, Nat.reduceAdd, Nat.reduceLT, Nat.zero_add, if_true, if_false, and_self, true_or, or_true, true_and, and_true, not_true_eq_false, not_false_eq_true, reduceCtorEq, eq_self, Option.toList_some, Option.toList_none, List.cons_append, List.nil_append, Bool.false_eq_true]
      exact fun q => q
    · unfold vs_em
      rw [if_pos hc]
      exact ⟨r, a4⟩
  · obtain ⟨h', b1, b2, b3⟩ := vl_emptyRest (d + 1 + 1) (w := none) hV0 (by omega)
    refine ⟨h', C, fl, c, ?_, b2, b3, ?_⟩
    · have e2 : nI (c 0) < 4 := nI_lt (b := 4) (by omega) (by omega)
      rw [am_M_eq]
      simp only [am_R_eq, cx_18, en_18, rt_18, rx_aload_n, rx_getfield, ev_gf, rx_goto, rx_iconst, rx_icmp_ge, rx_icmp_lt, rx_if_ne, rx_iinc, ev_inc, rx_iload_n, rx_invv, ev_cv, rx_ireturn, rx_istore_n, rx_pop_i, rx_pop_r, kl_12, kl_19, kl_20, kl_22, kl_24, kl_25, kl_28, kl_35, kl_36, ev_K, ev_pI, ev_pR, ev_pVi, ev_pVr, ev_sI, ev_sR, ev_KC, ev_k, ev_ko, ev_pop0, ev_pops, am_ld, am_sv, am_at, am_st, am_g, List.length_cons, List.length_nil, Nat.reduceAdd, Nat.reduceLT, Nat.zero_add, if_true, if_false, and_self, true_or, or_true, true_and, and_true, not_true_eq_false, not_false_eq_true, reduceCtorEq, eq_self, Option.toList_some, Option.toList_none, List.cons_append, List.nil_append, Bool.false_eq_true, v0, p1]
      refine am_CL_of q1 ?_
      simp only [am_R_eq, cx_18, en_18, rt_18, rx_aload_n, rx_getfield, ev_gf, rx_goto, rx_iconst, rx_icmp_ge, rx_icmp_lt, rx_if_ne, rx_iinc, ev_inc, rx_iload_n, rx_invv, ev_cv, rx_ireturn, rx_istore_n, rx_pop_i, rx_pop_r, kl_12, kl_19, kl_20, kl_22, kl_24, kl_25, kl_28, kl_35, kl_36, ev_K, ev_pI, ev_pR, ev_pVi, ev_pVr, ev_sI, ev_sR, ev_KC, ev_k, ev_ko, ev_pop0, ev_pops, am_ld, am_sv, am_at, am_st, am_g, List.length_cons, List.length_nil, Nat.reduceAdd, Nat.reduceLT, Nat.zero_add, if_true, if_false, and_self, true_or, or_true, true_and, and_true, not_true_eq_false, not_false_eq_true, reduceCtorEq, eq_self, Option.toList_some, Option.toList_none, List.cons_append, List.nil_append, Bool.false_eq_true, e1, v0, p0]
      refine am_CL_of q2 ?_
      revert b1
      simp only [am_R_eq, cx_18, en_18, rt_18, rx_aload_n, rx_getfield, ev_gf, rx_goto, rx_iconst, rx_icmp_ge, rx_icmp_lt, rx_if_ne, rx_iinc, ev_inc, rx_iload_n, rx_invv, ev_cv, rx_ireturn, rx_istore_n, rx_pop_i, rx_pop_r, kl_12, kl_19, kl_20, kl_22, kl_24, kl_25, kl_28, kl_35, kl_36, ev_K, ev_pI, ev_pR, ev_pVi, ev_pVr, ev_sI, ev_sR, ev_KC, ev_k, ev_ko, ev_pop0, ev_pops, am_ld, am_sv, am_at, am_st, am_g, List.length_cons, List.length_nil, Nat.reduceAdd, Nat.reduceLT, Nat.zero_add, if_true, if_false, and_self, true_or, or_true, true_and, and_true, not_true_eq_false, not_false_eq_true, reduceCtorEq, eq_self, Option.toList_some, Option.toList_none, List.cons_append, List.nil_append, Bool.false_eq_true, e2]
      exact fun q => q
    · unfold vs_em
      rw [if_neg hc]
      exact ⟨rfl, rfl, rfl⟩
def e_wr (E : Nat → Nat → Int32) (e : Nat) (s t sg ce : Int32) : Nat → Nat → Int32 := e_plc (e_up (e_up E e 4 s) e 5 (t + E e 2)) e sg ce
theorem e_wr_ne (E : Nat → Nat → Int32) {e a : Nat} (s t sg ce : Int32) (j : Nat) (ha : a ≠ e) : e_wr E e s t sg ce a j = E a j := by
  unfold e_wr
  rw [e_plc_ne _ _ _ _ ha, e_up_a _ _ _ _ ha, e_up_a _ _ _ _ ha]
def e_wrs (t : Int32) : List Nat → (Nat → Nat → Int32) → Nat → Nat → Nat → Nat → Nat → Int32
  | [], E, _, _, _ => E
  | e :: B, E, s, sg, k => e_wrs t B (e_wr E e (nI (s + 1)) t (nI sg) (nI k)) (s + 1) sg (k + 1)
theorem e_c4 (E : Nat → Nat → Int32) (e : Nat) (s : Int32) : vs_e (e_up E e 4 s) e = .inr (1, [.int (E e 0), .int (E e 1), .int (E e 2), .int (E e 3), .int s, .int (E e 5), .int (E e 6), .int (E e 7)]) := by simp [vs_e, e_up]
theorem e_c45 (E : Nat → Nat → Int32) (e : Nat) (s t : Int32) : vs_e (e_up (e_up E e 4 s) e 5 t) e = .inr (1, [.int (E e 0), .int (E e 1), .int (E e 2), .int (E e 3), .int s, .int t, .int (E e 6), .int (E e 7)]) := by simp [vs_e, e_up]
theorem vo_1 (ad : Nat → Nat) (v : Nat → Int32) (s : Int32) : vs_vo ad (va_up v 1 s) = .inr (0, [.ref (ad 1), .ref (ad 10), .ref (ad 11), .ref (ad 4), .ref (ad 5), .ref (ad 6), .ref (ad 12), .ref (ad 13), .ref (ad 2), .ref (ad 3), .int (v 0), .int s, .int (v 2), .int (v 3)]) := rfl
theorem vl_writeLoop (d : Nat) {last : Nat} : ∀ (m k : Nat) (hh : am_H) (E2 : Nat → Nat → Int32) (tk2 : Nat → Nat) (R2 : Nat → List Nat) (v2 : Nat → Int32) (w : Option Value), m = (R 0).length - k → k ≤ (R 0).length → R2 0 = R 0 → last + (R 0).length ≤ 100000 → v2 1 = nI (last + k) → (R2 1).length + ((R 0).length - k) ≤ 8 → tk2 (g 1 - 1) + ((R 0).length - k) < 90 → (∀ x ∈ R 0, x ≠ ad 1) → vs_V z hh ad tt rr aa R2 C fl c tk2 cb tb sb g S En E2 v2 →
    ∃ h', am_R z (d + 1 + 1) 37 27 [some (.ref (ad 0)), some (.int (nI k)), w] [] hh none h' ∧ vs_V z h' ad tt rr aa (va_up (va_up R2 1 (R2 1 ++ (R 0).drop k)) 0 []) C fl c (va_up tk2 (g 1 - 1) (tk2 (g 1 - 1) + ((R 0).length - k))) cb tb sb g S En (e_wrs (v2 0) ((R 0).drop k) E2 (last + k) (g 0 + (g 1 - 1)) (tk2 (g 1 - 1))) (va_up v2 1 (nI (last + (R 0).length))) ∧ h'.2 = hh.2 := by
  intro m
  induction m with
  | zero =>
    intro k hh E2 tk2 R2 v2 w hm hk hR0 hl hv hM ht hb hV
    have hkl : k = (R 0).length := by omega
    subst hkl
    have hV0 := hV
    obtain ⟨v0, v1, v2', v3, v4, v5, v6, v7, v8⟩ := hV
    have r0 := (v3 0 (by omega)).1
    have hb6 : (R2 0).length ≤ 6 := r0.2.1
    rw [hR0] at hb6
    have p0 := r0.1
    have q0 := ro_size z (d + 1) r0
    rw [hR0] at q0
    obtain ⟨h1, a1, a2, a3⟩ := ro_clear' z (d + 1) (v7.2.1 10 (by omega)) r0
    have hV1 := hV0.row (i := 0) (by omega) a3 a2 (fun x hx => by cases hx)
    have e1 : nI (R 0).length ≤ nI (R 0).length := nI_le (Nat.le_refl _) (by omega)
    have eT : tk2 (g 1 - 1) + ((R 0).length - (R 0).length) = tk2 (g 1 - 1) := by omega
    rw [List.drop_length, List.append_nil, eT, va_up_id, va_up_id, ← hv, va_up_id]
    refine ⟨h1, ?_, hV1, a3.2⟩
    rw [am_R_eq, cxh_37_27]
    simp only [am_R_eq, cx_37, en_37, rt_37, rx_aload_n, rx_astore_n, rx_dup_i, rx_dup_r, rx_getfield, ev_gf, rx_goto, rx_iadd, rx_iconst, rx_icmp_ge, rx_iinc, ev_inc, rx_iload_n, rx_invv, ev_cv, rx_istore_n, rx_putfield, ev_pf, ev_w1, ev_KW, am_fok, am_ftv, rx_return, kl_12, kl_13, kl_22, kl_24, kl_38, kl_39, kl_40, ev_K, ev_pI, ev_pR, ev_pVi, ev_pVr, ev_sI, ev_sR, ev_KC, ev_k, ev_ko, ev_pop0, ev_pops, am_ld, am_sv, am_at, am_st, am_g, List.length_cons, List.length_nil, Nat.reduceAdd, Nat.reduceLT, Nat.zero_add, if_true, if_false, and_self, true_or, or_true, true_and, and_true, not_true_eq_false, not_false_eq_true, reduceCtorEq, eq_self, Option.toList_some, Option.toList_none, List.cons_append, List.nil_append, Bool.false_eq_true, v0, p0]
    refine am_CL_of q0 ?_
    simp only [am_R_eq, cx_37, en_37, rt_37, rx_aload_n, rx_astore_n, rx_dup_i, rx_dup_r, rx_getfield, ev_gf, rx_goto, rx_iadd, rx_iconst, rx_icmp_ge, rx_iinc, ev_inc, rx_iload_n, rx_invv, ev_cv, rx_istore_n, rx_putfield, ev_pf, ev_w1, ev_KW, am_fok, am_ftv, rx_return, kl_12, kl_13, kl_22, kl_24, kl_38, kl_39, kl_40, ev_K, ev_pI, ev_pR, ev_pVi, ev_pVr, ev_sI, ev_sR, ev_KC, ev_k, ev_ko, ev_pop0, ev_pops, am_ld, am_sv, am_at, am_st, am_g, List.length_cons, List.length_nil, Nat.reduceAdd, Nat.reduceLT, Nat.zero_add, if_true, if_false, and_self, true_or, or_true, true_and, and_true, not_true_eq_false, not_false_eq_true, reduceCtorEq, eq_self, Option.toList_some, Option.toList_none, List.cons_append, List.nil_append, Bool.false_eq_true, e1, v0, p0]
    refine am_CL_of a1 ?_
    simp only [am_R_eq, cx_37, en_37, rt_37, rx_aload_n, rx_astore_n, rx_dup_i, rx_dup_r, rx_getfield, ev_gf, rx_goto, rx_iadd, rx_iconst, rx_icmp_ge, rx_iinc, ev_inc, rx_iload_n, rx_invv, ev_cv, rx_istore_n, rx_putfield, ev_pf, ev_w1, ev_KW, am_fok, am_ftv, rx_return, kl_12, kl_13, kl_22, kl_24, kl_38, kl_39, kl_40, ev_K, ev_pI, ev_pR, ev_pVi, ev_pVr, ev_sI, ev_sR, ev_KC, ev_k, ev_ko, ev_pop0, ev_pops, am_ld, am_sv, am_at, am_st, am_g, List.length_cons, List.length_nil, Nat.reduceAdd, Nat.reduceLT, Nat.zero_add, if_true, if_false, and_self, true_or, or_true, true_and, and_true, not_true_eq_false, not_false_eq_true, reduceCtorEq, eq_self, Option.toList_some, Option.toList_none, List.cons_append, List.nil_append, Bool.false_eq_true]
  | succ m ih =>
    intro k hh E2 tk2 R2 v2 w hm hk hR0 hl hv hM ht hb hV
    have hlt : k < (R 0).length := by omega
    have hV0 := hV
    have hV' := hV
    obtain ⟨v0, v1, v2', v3, v4, v5, v6, v7, v8⟩ := hV
    have r0 := (v3 0 (by omega)).1
    have hb6 : (R2 0).length ≤ 6 := r0.2.1
    rw [hR0] at hb6
    have p0 := r0.1
    have q0 := ro_size z (d + 1) r0
    rw [hR0] at q0
    obtain ⟨x, hx⟩ : ∃ x, (R 0)[k]? = some x := ⟨(R 0)[k]'(by omega), List.getElem?_eq_getElem (by omega)⟩
    have hd : (R 0).drop k = x :: (R 0).drop (k + 1) := by
      rw [List.drop_eq_getElem_cons hlt]
      congr 1
      exact (List.getElem?_eq_some_iff.mp hx).2
    have hxE : En x := (v3 0 (by omega)).2 x (by rw [hR0]; exact List.mem_of_getElem? hx)
    have hxb := hb x (List.mem_of_getElem? hx)
    have hxc := (v1 x hxE).1
    have hzx := (v1 x hxE).2
    have q1 := ro_at z (d + 1) r0 (k := k) (e := x) (by rw [hR0]; exact hx)
    have hx0 : x ≠ ad 0 := (hV'.ent hxE).1 0 (by omega) (by omega)
    -- latestSerial
    have s1 : nI (last + k) + 1 = nI (last + (k + 1)) := by rw [nI_1]; rfl
    have hV1 := hV0.fld (va_up v2 1 (nI (last + (k + 1))))
    have hV2 := hV1.upe hxE hxb (E' := e_up E2 x 4 (nI (last + (k + 1)))) (fun b j hbx => e_up_a _ _ _ _ hbx)
    have hV3 := hV2.upe hxE hxb (E' := e_up (e_up E2 x 4 (nI (last + (k + 1)))) x 5 (v2 0 + E2 x 2)) (fun b j hbx => e_up_a _ _ _ _ hbx)
    have hV3' := hV3
    obtain ⟨w0, w1, w2', w3, w4, w5, w6, w7, w8⟩ := hV3
    obtain ⟨h4, b1, b2, b3⟩ := lg_place z d (E := e_up (e_up E2 x 4 (nI (last + (k + 1)))) x 5 (v2 0 + E2 x 2)) hzx (v7.2.1 19 (by omega)) w5 (by omega) (w1 x hxE).1
    have hV4 := hV3'.upe hxE hxb (E' := e_wr E2 x (nI (last + (k + 1))) (v2 0) (nI (g 0 + (g 1 - 1))) (nI (tk2 (g 1 - 1)))) (fun b j hbx => by rw [e_wr_ne _ _ _ _ _ _ hbx, e_up_a _ _ _ _ hbx, e_up_a _ _ _ _ hbx])
    have hV5 : vs_V z h4 ad tt rr aa R2 C fl c (va_up tk2 (g 1 - 1) (tk2 (g 1 - 1) + 1)) cb tb sb g S En (e_wr E2 x (nI (last + (k + 1))) (v2 0) (nI (g 0 + (g 1 - 1))) (nI (tk2 (g 1 - 1)))) (va_up v2 1 (nI (last + (k + 1)))) := by
      refine hV4.log (hh := h4) ?_ b3
      rw [b2]
      refine ⟨fun q e1 e2 => ?_, rfl⟩
      exact am_up_ne _ _ (e2 0 (by omega))
    have hV5' := hV5
    obtain ⟨y0, y1, y2, y3, y4, y5, y6, y7, y8⟩ := hV5
    have r5 := (y3 1 (by omega)).1
    have p5 := r5.1
    obtain ⟨h5, c1, c2, c3⟩ := ro_append z (d + 1) (e := x) (v7.2.1 11 (by omega)) (v7.2.1 15 (by omega)) r5 (ko_of (y1 x hxE).1) (by show (R2 1).length < 8; omega)
    have hV6 := hV5'.row (i := 1) (by omega) c3 c2 (fun y hy => by
      rcases List.mem_append.mp hy with q | q
      · exact (v3 1 (by omega)).2 y q
      · rw [List.mem_singleton.mp q]; exact hxE)
    have hs5 : h5.2 = hh.2 := by rw [c3.2, b2]; rfl
    obtain ⟨h', i1, i2, i3⟩ := ih (k + 1) h5 _ _ _ _ (some (.ref x)) (by omega) (by omega) (by rw [va_up_ne _ _ (by decide)]; exact hR0) hl (by rw [va_up_self]) (by rw [va_up_self, List.length_append]; simp; omega) (by rw [va_up_self]; omega) hb hV6
    have eR : va_up (va_up (va_up R2 1 (R2 1 ++ [x])) 1 (va_up R2 1 (R2 1 ++ [x]) 1 ++ (R 0).drop (k + 1))) 0 [] = va_up (va_up R2 1 (R2 1 ++ (R 0).drop k)) 0 [] := by
      rw [va_up_self, bx_uu, hd, List.append_assoc]
      rfl
    have eT : va_up (va_up tk2 (g 1 - 1) (tk2 (g 1 - 1) + 1)) (g 1 - 1) (va_up tk2 (g 1 - 1) (tk2 (g 1 - 1) + 1) (g 1 - 1) + ((R 0).length - (k + 1))) = va_up tk2 (g 1 - 1) (tk2 (g 1 - 1) + ((R 0).length - k)) := by
      rw [va_up_self, bx_uu]
      congr 1
      omega
    have eE : e_wrs (va_up v2 1 (nI (last + (k + 1))) 0) ((R 0).drop (k + 1)) (e_wr E2 x (nI (last + (k + 1))) (v2 0) (nI (g 0 + (g 1 - 1))) (nI (tk2 (g 1 - 1)))) (last + (k + 1)) (g 0 + (g 1 - 1)) (va_up tk2 (g 1 - 1) (tk2 (g 1 - 1) + 1) (g 1 - 1)) = e_wrs (v2 0) ((R 0).drop k) E2 (last + k) (g 0 + (g 1 - 1)) (tk2 (g 1 - 1)) := by
      rw [hd, va_up_self, va_up_ne _ _ (by decide)]
      rfl
    have eV : va_up (va_up v2 1 (nI (last + (k + 1)))) 1 (nI (last + (R 0).length)) = va_up v2 1 (nI (last + (R 0).length)) := bx_uu _ _ _ _
    rw [eR, eT, eE, eV] at i2
    refine ⟨h', ?_, i2, by rw [i3, hs5]⟩
    rw [e_c45, e_c4, vo_1] at b1
    have e1 : ¬ nI (R 0).length ≤ nI k := nI_ge hlt (by omega)
    have z0 := v7.2.1 0 (by omega)
    have lg0 := w5.1
    rw [e_c45, e_c4, vo_1] at lg0
    rw [am_R_eq] at i1
    rw [am_R_eq, cxh_37_27]
    simp only [am_R_eq, cx_37, en_37, rt_37, rx_aload_n, rx_astore_n, rx_dup_i, rx_dup_r, rx_getfield, ev_gf, rx_goto, rx_iadd, rx_iconst, rx_icmp_ge, rx_iinc, ev_inc, rx_iload_n, rx_invv, ev_cv, rx_istore_n, rx_putfield, ev_pf, ev_w1, ev_KW, am_fok, am_ftv, rx_return, kl_12, kl_13, kl_22, kl_24, kl_38, kl_39, kl_40, ev_K, ev_pI, ev_pR, ev_pVi, ev_pVr, ev_sI, ev_sR, ev_KC, ev_k, ev_ko, ev_pop0, ev_pops, am_ld, am_sv, am_at, am_st, am_g, List.length_cons, List.length_nil, Nat.reduceAdd, Nat.reduceLT, Nat.zero_add, if_true, if_false, and_self, true_or, or_true, true_and, and_true, not_true_eq_false, not_false_eq_true, reduceCtorEq, eq_self, Option.toList_some, Option.toList_none, List.cons_append, List.nil_append, Bool.false_eq_true, v0, p0]
    refine am_CL_of q0 ?_
    simp only [am_R_eq, cx_37, en_37, rt_37, rx_aload_n, rx_astore_n, rx_dup_i, rx_dup_r, rx_getfield, ev_gf, rx_goto, rx_iadd, rx_iconst, rx_icmp_ge, rx_iinc, ev_inc, rx_iload_n, rx_invv, ev_cv, rx_istore_n, rx_putfield, ev_pf, ev_w1, ev_KW, am_fok, am_ftv, rx_return, kl_12, kl_13, kl_22, kl_24, kl_38, kl_39, kl_40, ev_K, ev_pI, ev_pR, ev_pVi, ev_pVr, ev_sI, ev_sR, ev_KC, ev_k, ev_ko, ev_pop0, ev_pops, am_ld, am_sv, am_at, am_st, am_g, List.length_cons, List.length_nil, Nat.reduceAdd, Nat.reduceLT, Nat.zero_add, if_true, if_false, and_self, true_or, or_true, true_and, and_true, not_true_eq_false, not_false_eq_true, reduceCtorEq, eq_self, Option.toList_some, Option.toList_none, List.cons_append, List.nil_append, Bool.false_eq_true, e1, v0, p0]
    refine am_CL_of q1 ?_
    simp only [am_R_eq, cx_37, en_37, rt_37, rx_aload_n, rx_astore_n, rx_dup_i, rx_dup_r, rx_getfield, ev_gf, rx_goto, rx_iadd, rx_iconst, rx_icmp_ge, rx_iinc, ev_inc, rx_iload_n, rx_invv, ev_cv, rx_istore_n, rx_putfield, ev_pf, ev_w1, ev_KW, am_fok, am_ftv, rx_return, kl_12, kl_13, kl_22, kl_24, kl_38, kl_39, kl_40, ev_K, ev_pI, ev_pR, ev_pVi, ev_pVr, ev_sI, ev_sR, ev_KC, ev_k, ev_ko, ev_pop0, ev_pops, am_ld, am_sv, am_at, am_st, am_g, List.length_cons, List.length_nil, Nat.reduceAdd, Nat.reduceLT, Nat.zero_add, if_true, if_false, and_self, true_or, or_true, true_and, and_true, not_true_eq_false, not_false_eq_true, reduceCtorEq, eq_self, Option.toList_some, Option.toList_none, List.cons_append, List.nil_append, Bool.false_eq_true, v0, hv, s1, z0, hzx, hxc, hx0, hx0.symm, am_up_at, am_up_ne, ne_eq, Nat.reduceLeDiff, beq_self_eq_true, lg0]
    refine am_CL_of b1 ?_
    simp only [am_R_eq, cx_37, en_37, rt_37, rx_aload_n, rx_astore_n, rx_dup_i, rx_dup_r, rx_getfield, ev_gf, rx_goto, rx_iadd, rx_iconst, rx_icmp_ge, rx_iinc, ev_inc, rx_iload_n, rx_invv, ev_cv, rx_istore_n, rx_putfield, ev_pf, ev_w1, ev_KW, am_fok, am_ftv, rx_return, kl_12, kl_13, kl_22, kl_24, kl_38, kl_39, kl_40, ev_K, ev_pI, ev_pR, ev_pVi, ev_pVr, ev_sI, ev_sR, ev_KC, ev_k, ev_ko, ev_pop0, ev_pops, am_ld, am_sv, am_at, am_st, am_g, List.length_cons, List.length_nil, Nat.reduceAdd, Nat.reduceLT, Nat.zero_add, if_true, if_false, and_self, true_or, or_true, true_and, and_true, not_true_eq_false, not_false_eq_true, reduceCtorEq, eq_self, Option.toList_some, Option.toList_none, List.cons_append, List.nil_append, Bool.false_eq_true, y0, p5]
    refine am_CL_of c1 ?_
    simp only [am_R_eq, cx_37, en_37, rt_37, rx_aload_n, rx_astore_n, rx_dup_i, rx_dup_r, rx_getfield, ev_gf, rx_goto, rx_iadd, rx_iconst, rx_icmp_ge, rx_iinc, ev_inc, rx_iload_n, rx_invv, ev_cv, rx_istore_n, rx_putfield, ev_pf, ev_w1, ev_KW, am_fok, am_ftv, rx_return, kl_12, kl_13, kl_22, kl_24, kl_38, kl_39, kl_40, ev_K, ev_pI, ev_pR, ev_pVi, ev_pVr, ev_sI, ev_sR, ev_KC, ev_k, ev_ko, ev_pop0, ev_pops, am_ld, am_sv, am_at, am_st, am_g, List.length_cons, List.length_nil, Nat.reduceAdd, Nat.reduceLT, Nat.zero_add, if_true, if_false, and_self, true_or, or_true, true_and, and_true, not_true_eq_false, not_false_eq_true, reduceCtorEq, eq_self, Option.toList_some, Option.toList_none, List.cons_append, List.nil_append, Bool.false_eq_true, nI_ofs]
    exact i1
end VC
