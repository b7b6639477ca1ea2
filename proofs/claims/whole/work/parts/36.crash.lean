section VCR
variable {z : Nat} {h : am_H} {ad : Nat → Nat} {tt rr aa : Nat → Nat → Nat} {R : Nat → List Nat} {C : Nat → Nat → List Nat} {fl : Nat → Nat → Int32} {c : Nat → Nat} {tk cb tb sb g : Nat → Nat} {S : Nat → Int32} {En : Nat → Prop} {E : Nat → Nat → Int32} {v : Nat → Int32}
def e_kp (un : Nat) (keep : Int32) : Nat := if keep < 0 then 0 else min keep.toNatClampNeg un
theorem e_kp_eq {un : Nat} (hu : un ≤ 8) (keep : Int32) : (if 0 < (if nI un < keep then nI un else keep) then (if nI un < keep then nI un else keep) else 0) = nI (e_kp un keep) := by
  unfold e_kp
  by_cases hn : keep < 0
  · have h1 : ¬ nI un < keep := by
      intro q
      have h2 := nI_pos' (n := un) (by omega)
      rw [Int32.lt_iff_toInt_lt] at q hn
      rw [Int32.le_iff_toInt_le] at h2
      omega
    have h3 : ¬ (0 : Int32) < keep := by
      intro q
      rw [Int32.lt_iff_toInt_lt] at q hn
      omega
    rw [if_pos hn, if_neg h1, if_neg h3]
    rfl
  · obtain ⟨j, hj, rfl⟩ := nI_of hn
    rw [if_neg hn, nI_clamp hj]
    by_cases hl : un < j
    · rw [if_pos (nI_lt hl hj), nI_mx0 (by omega), Nat.min_eq_right (by omega)]
    · rw [if_neg (nI_nlt (by omega) (by omega)), nI_mx0 hj, Nat.min_eq_left (by omega)]
theorem e_kp_le (un : Nat) (keep : Int32) : e_kp un keep ≤ un := by
  unfold e_kp
  split <;> omega
theorem vl_lose (d : Nat) {k last : Nat} (hk : k < g 2) (hl : last < 2 ^ 30) (hv : v 1 = nI last) (h1 : sb k ≤ last) (h2 : last - sb k ≤ (R 1).length) (h3 : 1 ≤ cb k ∧ cb k ≤ 8) (h4 : tb k ≤ 100) (hV : vs_V z h ad tt rr aa R C fl c tk cb tb sb g S En E v) :
    ∃ h', am_M z (d + 1 + 1) 65 [.ref (ad 0), .int (nI k)] h none h' ∧ vs_V z h' ad tt rr aa (va_up R 1 ((R 1).take ((R 1).length - (last - sb k)))) C fl c (va_up tk (cb k - 1) (tb k)) cb tb sb (e_lg (g 0) (cb k) k) S En E (va_up v 1 (nI (sb k))) ∧ h'.2 = h.2 := by
  have hV0 := hV
  obtain ⟨v0, v1, v2, v3, v4, v5, v6, v7, v8⟩ := hV
  have lg0 := v5.1
  have q1 := lg_latestSerialBefore z d hk v5
  have r1 := (v3 1 (by omega)).1
  have p1 := r1.1
  obtain ⟨ha, a1, a2, a3⟩ := ro_shorten z d (k := last - sb k) (v7.2.1 11 (by omega)) r1 h2
  have hA := hV0.row (i := 1) (by omega) a3 a2 (fun x hx => (v3 1 (by omega)).2 x (List.mem_of_mem_take hx))
  have hA0 := hA
  obtain ⟨w0, w1, w2, w3, w4, w5, w6, w7, w8⟩ := hA
  have hB := hA0.fld (va_up v 1 (nI (sb k)))
  have hB0 := hB
  obtain ⟨x0, x1, x2, x3, x4, x5, x6, x7, x8⟩ := hB
  have lg1 := x5.1
  obtain ⟨hc, c1, c2, c3⟩ := lg_rewindTo z d (k := k) (v7.2.1 2 (by omega)) (v7.2.1 19 (by omega)) x5 hk h3 h4
  have hC := hB0.log (g' := e_lg (g 0) (cb k) k) c3 c2
  refine ⟨hc, ?_, hC, by rw [c3.2]; exact a3.2⟩
  have e1 : nI last - nI (sb k) = nI (last - sb k) := pk_sub h1
  have z0 := v7.2.1 0 (by omega)
  rw [vo_1] at c1 lg1 x0
  rw [am_M_eq]
  simp only [am_R_eq, cx_65, en_65, rt_65, rx_aload_n, rx_getfield, ev_gf, rx_iload_n, rx_invv, ev_cv, rx_istore_n, rx_isub, rx_putfield, ev_pf, ev_w1, ev_KW, am_fok, am_ftv, rx_return, kl_66, kl_67, kl_68, ev_K, ev_pI, ev_pR, ev_pVi, ev_pVr, ev_sI, ev_sR, ev_KC, ev_k, ev_ko, ev_pop0, ev_pops, am_ld, am_sv, am_at, am_st, am_g, List.length_cons, List.length_nil, Nat.reduceAdd, Nat.reduceLT, Nat.zero_add, if_true, if_false, and_self, true_or, or_true, true_and, and_true, not_true_eq_false, not_false_eq_true, reduceCtorEq, eq_self, Option.toList_some, Option.toList_none, List.cons_append, List.nil_append, Bool.false_eq_true, v0, lg0]
  refine am_CL_of q1 ?_
  simp only [am_R_eq, cx_65, en_65, rt_65, rx_aload_n, rx_getfield, ev_gf, rx_iload_n, rx_invv, ev_cv, rx_istore_n, rx_isub, rx_putfield, ev_pf, ev_w1, ev_KW, am_fok, am_ftv, rx_return, kl_66, kl_67, kl_68, ev_K, ev_pI, ev_pR, ev_pVi, ev_pVr, ev_sI, ev_sR, ev_KC, ev_k, ev_ko, ev_pop0, ev_pops, am_ld, am_sv, am_at, am_st, am_g, List.length_cons, List.length_nil, Nat.reduceAdd, Nat.reduceLT, Nat.zero_add, if_true, if_false, and_self, true_or, or_true, true_and, and_true, not_true_eq_false, not_false_eq_true, reduceCtorEq, eq_self, Option.toList_some, Option.toList_none, List.cons_append, List.nil_append, Bool.false_eq_true, v0, p1, hv, e1]
  refine am_CL_of a1 ?_
  simp only [am_R_eq, cx_65, en_65, rt_65, rx_aload_n, rx_getfield, ev_gf, rx_iload_n, rx_invv, ev_cv, rx_istore_n, rx_isub, rx_putfield, ev_pf, ev_w1, ev_KW, am_fok, am_ftv, rx_return, kl_66, kl_67, kl_68, ev_K, ev_pI, ev_pR, ev_pVi, ev_pVr, ev_sI, ev_sR, ev_KC, ev_k, ev_ko, ev_pop0, ev_pops, am_ld, am_sv, am_at, am_st, am_g, List.length_cons, List.length_nil, Nat.reduceAdd, Nat.reduceLT, Nat.zero_add, if_true, if_false, and_self, true_or, or_true, true_and, and_true, not_true_eq_false, not_false_eq_true, reduceCtorEq, eq_self, Option.toList_some, Option.toList_none, List.cons_append, List.nil_append, Bool.false_eq_true, w0, z0, x0, lg1, Nat.reduceLeDiff, beq_self_eq_true]
  refine am_CL_of c1 ?_
  simp only [am_R_eq, cx_65, en_65, rt_65, rx_aload_n, rx_getfield, ev_gf, rx_iload_n, rx_invv, ev_cv, rx_istore_n, rx_isub, rx_putfield, ev_pf, ev_w1, ev_KW, am_fok, am_ftv, rx_return, kl_66, kl_67, kl_68, ev_K, ev_pI, ev_pR, ev_pVi, ev_pVr, ev_sI, ev_sR, ev_KC, ev_k, ev_ko, ev_pop0, ev_pops, am_ld, am_sv, am_at, am_st, am_g, List.length_cons, List.length_nil, Nat.reduceAdd, Nat.reduceLT, Nat.zero_add, if_true, if_false, and_self, true_or, or_true, true_and, and_true, not_true_eq_false, not_false_eq_true, reduceCtorEq, eq_self, Option.toList_some, Option.toList_none, List.cons_append, List.nil_append, Bool.false_eq_true]
theorem vl_crash0 (d : Nat) {keep : Int32} (hV : vs_V z h ad tt rr aa R C fl c tk cb tb sb g S En E v) : ∃ h', vs_V z h' ad tt rr aa (va_up R 0 []) C fl c tk cb tb sb g (fun i => if i < 3 then -1 else S i) En E v ∧ h'.2 = h.2 ∧ ∀ w hx, am_R z (d + 1 + 1) 62 32 [some (.ref (ad 0)), some (.int keep), some (.int (nI (g 2))), some (.int (nI (e_kp (g 2) keep)))] [] h' w hx → am_M z (d + 1 + 1 + 1) 62 [.ref (ad 0), .int keep] h w hx := by
  have hV0 := hV
  obtain ⟨v0, v1, v2, v3, v4, v5, v6, v7, v8⟩ := hV
  have s0 := v6.1
  have m1 := sn_closeAll z d (v7.2.1 18 (by omega)) v6
  have hA := hV0.snp (fun i => if i < 3 then -1 else S i)
  have hA0 := hA
  obtain ⟨w0, w1, w2, w3, w4, w5, w6, w7, w8⟩ := hA
  have r0 := (w3 0 (by omega)).1
  have p0 := r0.1
  obtain ⟨hb, b1, b2, b3⟩ := ro_clear' z (d + 1) (v7.2.1 10 (by omega)) r0
  have hB := hA0.row (i := 0) (by omega) b3 b2 (fun x hx => by cases hx)
  refine ⟨hb, hB, by rw [b3.2]; rfl, ?_⟩
  intro w hx k1
  obtain ⟨x0, x1, x2, x3, x4, x5, x6, x7, x8⟩ := hB
  have lg1 := x5.1
  have q1 := lg_unsyncedCount z (d + 1) x5
  have hu := v5.2.2.2.2.2.1
  have e1 := e_kp_eq (un := g 2) (by omega) keep
  rw [am_M_eq]
  simp only [am_R_eq, cx_62, en_62, rt_62, rx_aload_n, rx_getfield, ev_gf, rx_iconst, rx_icmp_ge, rx_iload_n, rx_invs, rx_max2, rx_min2, rx_copy2, rx_invv, ev_cv, rx_ireturn, rx_istore_n, rx_isub, rx_pop_i, rx_pop_r, kl_22, kl_36, kl_63, kl_64, kl_65, ev_K, ev_pI, ev_pR, ev_pVi, ev_pVr, ev_sI, ev_sR, ev_KC, ev_k, ev_ko, ev_pop0, ev_pops, am_ld, am_sv, am_at, am_st, am_g, List.length_cons, List.length_nil, Nat.reduceAdd, Nat.reduceLT, Nat.zero_add, if_true, if_false, and_self, true_or, or_true, true_and, and_true, not_true_eq_false, not_false_eq_true, reduceCtorEq, eq_self, Option.toList_some, Option.toList_none, List.cons_append, List.nil_append, Bool.false_eq_true, v0, s0]
  refine am_CL_of m1 ?_
  simp only [am_R_eq, cx_62, en_62, rt_62, rx_aload_n, rx_getfield, ev_gf, rx_iconst, rx_icmp_ge, rx_iload_n, rx_invs, rx_max2, rx_min2, rx_copy2, rx_invv, ev_cv, rx_ireturn, rx_istore_n, rx_isub, rx_pop_i, rx_pop_r, kl_22, kl_36, kl_63, kl_64, kl_65, ev_K, ev_pI, ev_pR, ev_pVi, ev_pVr, ev_sI, ev_sR, ev_KC, ev_k, ev_ko, ev_pop0, ev_pops, am_ld, am_sv, am_at, am_st, am_g, List.length_cons, List.length_nil, Nat.reduceAdd, Nat.reduceLT, Nat.zero_add, if_true, if_false, and_self, true_or, or_true, true_and, and_true, not_true_eq_false, not_false_eq_true, reduceCtorEq, eq_self, Option.toList_some, Option.toList_none, List.cons_append, List.nil_append, Bool.false_eq_true, w0, p0]
  refine am_CL_of b1 ?_
  simp only [am_R_eq, cx_62, en_62, rt_62, rx_aload_n, rx_getfield, ev_gf, rx_iconst, rx_icmp_ge, rx_iload_n, rx_invs, rx_max2, rx_min2, rx_copy2, rx_invv, ev_cv, rx_ireturn, rx_istore_n, rx_isub, rx_pop_i, rx_pop_r, kl_22, kl_36, kl_63, kl_64, kl_65, ev_K, ev_pI, ev_pR, ev_pVi, ev_pVr, ev_sI, ev_sR, ev_KC, ev_k, ev_ko, ev_pop0, ev_pops, am_ld, am_sv, am_at, am_st, am_g, List.length_cons, List.length_nil, Nat.reduceAdd, Nat.reduceLT, Nat.zero_add, if_true, if_false, and_self, true_or, or_true, true_and, and_true, not_true_eq_false, not_false_eq_true, reduceCtorEq, eq_self, Option.toList_some, Option.toList_none, List.cons_append, List.nil_append, Bool.false_eq_true, x0, lg1]
  refine am_CL_of q1 ?_
  revert k1
  simp only [am_R_eq, cx_62, en_62, rt_62, rx_aload_n, rx_getfield, ev_gf, rx_iconst, rx_icmp_ge, rx_iload_n, rx_invs, rx_max2, rx_min2, rx_copy2, rx_invv, ev_cv, rx_ireturn, rx_istore_n, rx_isub, rx_pop_i, rx_pop_r, kl_22, kl_36, kl_63, kl_64, kl_65, ev_K, ev_pI, ev_pR, ev_pVi, ev_pVr, ev_sI, ev_sR, ev_KC, ev_k, ev_ko, ev_pop0, ev_pops, am_ld, am_sv, am_at, am_st, am_g, List.length_cons, List.length_nil, Nat.reduceAdd, Nat.reduceLT, Nat.zero_add, if_true, if_false, and_self, true_or, or_true, true_and, and_true, not_true_eq_false, not_false_eq_true, reduceCtorEq, eq_self, Option.toList_some, Option.toList_none, List.cons_append, List.nil_append, Bool.false_eq_true, e1]
  exact fun q => q
theorem vl_crash1 (d : Nat) {keep : Int32} {un kp : Nat} (hu : un ≤ 8) (hle : kp ≤ un) (hV : vs_V z h ad tt rr aa R C fl c tk cb tb sb g S En E v) : ∃ h', am_R z (d + 1) 62 42 [some (.ref (ad 0)), some (.int keep), some (.int (nI un)), some (.int (nI kp))] [] h (some (.int (nI (un - kp)))) h' ∧ vs_V z h' ad tt rr aa R C fl c tk cb tb sb (va_up g 2 0) S En E v ∧ h'.2 = h.2 := by
  have hV0 := hV
  obtain ⟨v0, v1, v2, v3, v4, v5, v6, v7, v8⟩ := hV
  obtain ⟨h', m1, m2, m3⟩ := lg_syncAll z d (v7.2.1 2 (by omega)) v5
  have l0 := v5.1
  refine ⟨h', ?_, hV0.log m3 m2, m3.2⟩
  have e1 : nI un - nI kp = nI (un - kp) := pk_sub hle
  simp only [am_R_eq, cx_62, en_62, rt_62, rx_aload_n, rx_getfield, ev_gf, rx_iconst, rx_icmp_ge, rx_iload_n, rx_invs, rx_max2, rx_min2, rx_copy2, rx_invv, ev_cv, rx_ireturn, rx_istore_n, rx_isub, rx_pop_i, rx_pop_r, kl_22, kl_36, kl_63, kl_64, kl_65, ev_K, ev_pI, ev_pR, ev_pVi, ev_pVr, ev_sI, ev_sR, ev_KC, ev_k, ev_ko, ev_pop0, ev_pops, am_ld, am_sv, am_at, am_st, am_g, List.length_cons, List.length_nil, Nat.reduceAdd, Nat.reduceLT, Nat.zero_add, if_true, if_false, and_self, true_or, or_true, true_and, and_true, not_true_eq_false, not_false_eq_true, reduceCtorEq, eq_self, Option.toList_some, Option.toList_none, List.cons_append, List.nil_append, Bool.false_eq_true, v0, l0]
  refine am_CL_of m1 ?_
  simp only [am_R_eq, cx_62, en_62, rt_62, rx_aload_n, rx_getfield, ev_gf, rx_iconst, rx_icmp_ge, rx_iload_n, rx_invs, rx_max2, rx_min2, rx_copy2, rx_invv, ev_cv, rx_ireturn, rx_istore_n, rx_isub, rx_pop_i, rx_pop_r, kl_22, kl_36, kl_63, kl_64, kl_65, ev_K, ev_pI, ev_pR, ev_pVi, ev_pVr, ev_sI, ev_sR, ev_KC, ev_k, ev_ko, ev_pop0, ev_pops, am_ld, am_sv, am_at, am_st, am_g, List.length_cons, List.length_nil, Nat.reduceAdd, Nat.reduceLT, Nat.zero_add, if_true, if_false, and_self, true_or, or_true, true_and, and_true, not_true_eq_false, not_false_eq_true, reduceCtorEq, eq_self, Option.toList_some, Option.toList_none, List.cons_append, List.nil_append, Bool.false_eq_true, e1]
theorem vl_crashAll (d : Nat) {keep : Int32} (hk : e_kp (g 2) keep = g 2) (hV : vs_V z h ad tt rr aa R C fl c tk cb tb sb g S En E v) : ∃ h', am_M z (d + 1 + 1 + 1) 62 [.ref (ad 0), .int keep] h (some (.int (nI 0))) h' ∧ vs_V z h' ad tt rr aa (va_up R 0 []) C fl c tk cb tb sb (va_up g 2 0) (fun i => if i < 3 then -1 else S i) En E v ∧ h'.2 = h.2 := by
  have hu := hV.2.2.2.2.2.1.2.2.2.2.2.1
  obtain ⟨ha, a1, a2, a3⟩ := vl_crash0 d (keep := keep) hV
  rw [hk] at a3
  obtain ⟨hb, b1, b2, b3⟩ := vl_crash1 (d + 1) (keep := keep) (un := g 2) (kp := g 2) (by omega) (Nat.le_refl _) a1
  rw [Nat.sub_self] at b1
  refine ⟨hb, a3 _ _ ?_, b2, by rw [b3, a2]⟩
  have e1 : nI (g 2) ≤ nI (g 2) := nI_le (Nat.le_refl _) (by omega)
  revert b1
  simp only [am_R_eq, cx_62, en_62, rt_62, rx_aload_n, rx_getfield, ev_gf, rx_iconst, rx_icmp_ge, rx_iload_n, rx_invs, rx_max2, rx_min2, rx_copy2, rx_invv, ev_cv, rx_ireturn, rx_istore_n, rx_isub, rx_pop_i, rx_pop_r, kl_22, kl_36, kl_63, kl_64, kl_65, ev_K, ev_pI, ev_pR, ev_pVi, ev_pVr, ev_sI, ev_sR, ev_KC, ev_k, ev_ko, ev_pop0, ev_pops, am_ld, am_sv, am_at, am_st, am_g, List.length_cons, List.length_nil, Nat.reduceAdd, Nat.reduceLT, Nat.zero_add, if_true, if_false, and_self, true_or, or_true, true_and, and_true, not_true_eq_false, not_false_eq_true, reduceCtorEq, eq_self, Option.toList_some, Option.toList_none, List.cons_append, List.nil_append, Bool.false_eq_true, e1]
  exact fun q => q
theorem vl_crash (d : Nat) {keep : Int32} {last k : Nat} (hk : e_kp (g 2) keep = k) (hlt : k < g 2) (hl : last < 2 ^ 30) (hv : v 1 = nI last) (h1 : sb k ≤ last) (h2 : last - sb k ≤ (R 1).length) (h3 : 1 ≤ cb k ∧ cb k ≤ 8) (h4 : tb k ≤ 100) (hV : vs_V z h ad tt rr aa R C fl c tk cb tb sb g S En E v) : ∃ h', am_M z (d + 1 + 1 + 1) 62 [.ref (ad 0), .int keep] h (some (.int (nI (g 2 - k)))) h' ∧ vs_V z h' ad tt rr aa (va_up (va_up R 0 []) 1 ((R 1).take ((R 1).length - (last - sb k)))) C fl c (va_up tk (cb k - 1) (tb k)) cb tb sb (e_lg (g 0) (cb k) 0) (fun i => if i < 3 then -1 else S i) En E (va_up v 1 (nI (sb k))) ∧ h'.2 = h.2 := by
  have hu := hV.2.2.2.2.2.1.2.2.2.2.2.1
  obtain ⟨ha, a1, a2, a3⟩ := vl_crash0 d (keep := keep) hV
  rw [hk] at a3
  have e0 : va_up R 0 [] 1 = R 1 := va_up_ne _ _ (by decide)
  obtain ⟨hb, b1, b2, b3⟩ := vl_lose d (k := k) (last := last) hlt hl hv h1 (by rw [e0]; exact h2) h3 h4 a1
  rw [e0] at b2
  obtain ⟨hc, c1, c2, c3⟩ := vl_crash1 (d + 1) (keep := keep) (un := g 2) (kp := k) (by omega) (by omega) b2
  have eg : va_up (e_lg (g 0) (cb k) k) 2 0 = e_lg (g 0) (cb k) 0 ∨ True := Or.inr trivial
  have hC2 : vs_V z hc ad tt rr aa (va_up (va_up R 0 []) 1 ((R 1).take ((R 1).length - (last - sb k)))) C fl c (va_up tk (cb k - 1) (tb k)) cb tb sb (e_lg (g 0) (cb k) 0) (fun i => if i < 3 then -1 else S i) En E (va_up v 1 (nI (sb k))) := c2
  refine ⟨hc, a3 _ _ ?_, hC2, by rw [c3, b3, a2]⟩
  have e1 : ¬ nI (g 2) ≤ nI k := nI_ge hlt (by omega)
  obtain ⟨w0, -⟩ := a1
  simp only [am_R_eq, cx_62, en_62, rt_62, rx_aload_n, rx_getfield, ev_gf, rx_iconst, rx_icmp_ge, rx_iload_n, rx_invs, rx_max2, rx_min2, rx_copy2, rx_invv, ev_cv, rx_ireturn, rx_istore_n, rx_isub, rx_pop_i, rx_pop_r, kl_22, kl_36, kl_63, kl_64, kl_65, ev_K, ev_pI, ev_pR, ev_pVi, ev_pVr, ev_sI, ev_sR, ev_KC, ev_k, ev_ko, ev_pop0, ev_pops, am_ld, am_sv, am_at, am_st, am_g, List.length_cons, List.length_nil, Nat.reduceAdd, Nat.reduceLT, Nat.zero_add, if_true, if_false, and_self, true_or, or_true, true_and, and_true, not_true_eq_false, not_false_eq_true, reduceCtorEq, eq_self, Option.toList_some, Option.toList_none, List.cons_append, List.nil_append, Bool.false_eq_true, e1, w0]
  refine am_CL_of b1 ?_
  revert c1
  simp only [am_R_eq, cx_62, en_62, rt_62, rx_aload_n, rx_getfield, ev_gf, rx_iconst, rx_icmp_ge, rx_iload_n, rx_invs, rx_max2, rx_min2, rx_copy2, rx_invv, ev_cv, rx_ireturn, rx_istore_n, rx_isub, rx_pop_i, rx_pop_r, kl_22, kl_36, kl_63, kl_64, kl_65, ev_K, ev_pI, ev_pR, ev_pVi, ev_pVr, ev_sI, ev_sR, ev_KC, ev_k, ev_ko, ev_pop0, ev_pops, am_ld, am_sv, am_at, am_st, am_g, List.length_cons, List.length_nil, Nat.reduceAdd, Nat.reduceLT, Nat.zero_add, if_true, if_false, and_self, true_or, or_true, true_and, and_true, not_true_eq_false, not_false_eq_true, reduceCtorEq, eq_self, Option.toList_some, Option.toList_none, List.cons_append, List.nil_append, Bool.false_eq_true]
  exact fun q => q
end VCR
