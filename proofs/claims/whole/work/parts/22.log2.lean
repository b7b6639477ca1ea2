section LOG2
variable {h : am_H} {lg : Nat} {A : Nat → Nat} {tk cb tb sb : Nat → Nat} {tl c un : Nat} {E : Nat → Nat → Int32}
def e_up (E : Nat → Nat → Int32) (e k : Nat) (v : Int32) : Nat → Nat → Int32 := fun a j => if a = e ∧ j = k then v else E a j
theorem e_up_s (E : Nat → Nat → Int32) (e k : Nat) (v : Int32) : e_up E e k v e k = v := by simp [e_up]
theorem e_up_a (E : Nat → Nat → Int32) {e a : Nat} (k j : Nat) (v : Int32) (ha : a ≠ e) : e_up E e k v a j = E a j := by simp [e_up, ha]
theorem e_up_k (E : Nat → Nat → Int32) (e a : Nat) {k j : Nat} (v : Int32) (hj : j ≠ k) : e_up E e k v a j = E a j := by simp [e_up, hj]
def e_plc (E : Nat → Nat → Int32) (e : Nat) (s k : Int32) : Nat → Nat → Int32 := e_up (e_up E e 6 s) e 7 k
theorem e_plc_cell (E : Nat → Nat → Int32) (e : Nat) (s k : Int32) : vs_e (e_plc E e s k) e = .inr (1, [.int (E e 0), .int (E e 1), .int (E e 2), .int (E e 3), .int (E e 4), .int (E e 5), .int s, .int k]) := by
  simp [vs_e, e_plc, e_up]
theorem e_plc_ne (E : Nat → Nat → Int32) {e a : Nat} (s k : Int32) (j : Nat) (ha : a ≠ e) : e_plc E e s k a j = E a j := by simp [e_plc, e_up, ha]
theorem lg_place (z d : Nat) {e : Nat} (hze : z ≤ e) (hz0 : z ≤ A 0) (hl : vs_lg h lg A tk cb tb sb tl c un) (ht : tk (c - 1) < 90) (he : h.1 e = some (vs_e E e)) :
    ∃ h', am_M z (d + 1 + 1) 40 [.ref lg, .ref e] h none h' ∧ h' = am_up (am_up h e (vs_e (e_plc E e (nI (tl + (c - 1))) (nI (tk (c - 1)))) e)) (A 0) (vs_i 8 (va_up tk (c - 1) (tk (c - 1) + 1))) ∧ vs_lg h' lg A (va_up tk (c - 1) (tk (c - 1) + 1)) cb tb sb tl c un := by
  have hl0 := hl
  have hne := hl.ne
  obtain ⟨h0, h1, h2, h3, h4, hb, hk2, hA⟩ := hl
  have q1 := lg_numberOf z d (k := c - 1) hl0
  have nel : lg ≠ e := am_ne h0 he (by simp)
  have n0 : A 0 ≠ e := am_ne h1 he (by simp)
  have n1 : A 1 ≠ e := am_ne h2 he (by simp)
  have n2 : A 2 ≠ e := am_ne h3 he (by simp)
  have n3 : A 3 ≠ e := am_ne h4 he (by simp)
  refine ⟨_, ?_, rfl, ⟨?_, ?_, ?_, ?_, ?_, hb, ?_, hA⟩⟩
  · have e0 : nI c - 1 = nI (c - 1) := by
      rw [show c = (c - 1) + 1 by omega, nI_pred]; congr 1
    have e7 := ev_ri 0 8 (c - 1) (fun i => nI (tk i)) (nI (c - 1)) (ev_ix (by omega) (by omega))
    have e9 := ev_wi 0 8 (c - 1) (fun i => nI (tk i)) (nI (c - 1)) (nI (tk (c - 1) + 1)) (ev_ix (by omega) (by omega))
    rw [e_plc_cell, am_M_eq]
    simp only [am_R_eq, cx_40, en_40, rt_40, rx_aload_n, rx_dup2, rx_getfield, ev_gf, rx_iadd, rx_iaload, rx_iastore, ev_w1, ev_KW, rx_iconst, rx_invv, ev_cv, rx_isub, rx_putfield, ev_pf, am_fok, am_ftv, rx_return, kl_41, ev_K, ev_pI, ev_pR, ev_pVi, ev_pVr, ev_sI, ev_sR, ev_KC, ev_k, ev_ko, ev_pop0, ev_pops, am_ld, am_sv, am_at, am_st, am_g, List.length_cons, List.length_nil, Nat.reduceAdd, Nat.reduceLT, Nat.zero_add, if_true, if_false, and_self, true_or, or_true, true_and, and_true, not_true_eq_false, not_false_eq_true, reduceCtorEq, eq_self, Option.toList_some, Option.toList_none, List.cons_append, List.nil_append, Bool.false_eq_true, h0, e0]
    refine am_CL_of q1 ?_
    simp only [am_R_eq, cx_40, en_40, rt_40, rx_aload_n, rx_dup2, rx_getfield, ev_gf, rx_iadd, rx_iaload, rx_iastore, ev_w1, ev_KW, rx_iconst, rx_invv, ev_cv, rx_isub, rx_putfield, ev_pf, am_fok, am_ftv, rx_return, kl_41, ev_K, ev_pI, ev_pR, ev_pVi, ev_pVr, ev_sI, ev_sR, ev_KC, ev_k, ev_ko, ev_pop0, ev_pops, am_ld, am_sv, am_at, am_st, am_g, List.length_cons, List.length_nil, Nat.reduceAdd, Nat.reduceLT, Nat.zero_add, if_true, if_false, and_self, true_or, or_true, true_and, and_true, not_true_eq_false, not_false_eq_true, reduceCtorEq, eq_self, Option.toList_some, Option.toList_none, List.cons_append, List.nil_append, Bool.false_eq_true, h0, h1, he, e0, hze, hz0, nel, n0, am_up_at, am_up_ne, am_up_up, ne_eq, Nat.reduceLeDiff, beq_self_eq_true, e7, e9, nI_ofs, nI_upd]
  · rw [am_up_ne _ _ (hne 0 (by omega)), am_up_ne _ _ nel]; exact h0
  · rw [am_up_at]
  · rw [am_up_ne _ _ (hA 1 0 (by omega) (by omega) (by omega)), am_up_ne _ _ n1]; exact h2
  · rw [am_up_ne _ _ (hA 2 0 (by omega) (by omega) (by omega)), am_up_ne _ _ n2]; exact h3
  · rw [am_up_ne _ _ (hA 3 0 (by omega) (by omega) (by omega)), am_up_ne _ _ n3]; exact h4
  · intro i
    unfold va_up
    split
    · omega
    · exact hk2 i
theorem lg_dropTail (z d : Nat) (hz : z ≤ lg) (hz0 : z ≤ A 0) (hl : vs_lg h lg A tk cb tb sb tl c un) (hc : 2 ≤ c) (htl : tl < 10000) :
    ∃ h' tk', am_M z (d + 1) 55 [.ref lg] h none h' ∧ vs_lg h' lg A tk' cb tb sb (tl + 1) (c - 1) un ∧ (∀ i, i < c - 1 → tk' i = tk (i + 1)) ∧ vs_chg h h' lg A := by
  have hl0 := hl
  have hne := hl.ne
  obtain ⟨h0, h1, h2, h3, h4, hb, hk2, hA⟩ := hl
  have n0 := hne 0 (by omega)
  have hcp : va_cpy (fun i => nI (tk i)) (fun i => nI (tk i)) 1 0 (c - 1) = fun i => nI (va_cpy tk tk 1 0 (c - 1) i) := by
    funext i
    unfold va_cpy
    split <;> rfl
  obtain ⟨p1, p2⟩ := hl0.set0 (tk' := va_cpy tk tk 1 0 (c - 1)) (c' := c - 1) (un' := un) (tl' := tl + 1) ⟨by omega, by omega, hb.2.2.1, by omega⟩ (by intro i; unfold va_cpy; split <;> exact hk2 _)
  refine ⟨_, va_cpy tk tk 1 0 (c - 1), ?_, p1, ?_, p2⟩
  · have e0 : nI c - 1 = nI (c - 1) := by
      rw [show c = (c - 1) + 1 by omega, nI_pred]; congr 1
    have e1 : (1 : Int32) < nI c := nI_lt (a := 1) (by omega) (by omega)
    have c1 : (1 : Int32).toNatClampNeg = 1 := by decide
    have c0 : (0 : Int32).toNatClampNeg = 0 := by decide
    have c2 : (nI (c - 1)).toNatClampNeg = c - 1 := nI_clamp (by omega)
    have e2 : am_cp (some (vs_i 8 tk)) 1 0 (nI (c - 1)) = some (vs_i 8 (va_cpy tk tk 1 0 (c - 1))) := by
      simp only [am_cp, c0, c1, c2]
      rw [if_pos ⟨trivial, by decide, by decide, nI_pos (by omega), by omega, by omega⟩, hcp]
    have e3 : am_up (am_up h lg (vs_lgo A (tl + 1) (c - 1) un)) (A 0) (vs_i 8 (va_cpy tk tk 1 0 (c - 1))) = am_up (am_up h (A 0) (vs_i 8 (va_cpy tk tk 1 0 (c - 1)))) lg (vs_lgo A (tl + 1) (c - 1) un) := am_up_cm _ _ _ n0
    rw [am_M_eq]
    simp only [am_R_eq, cx_55, en_55, rt_55, rx_aload_n, rx_dup_i, rx_dup_r, rx_getfield, ev_gf, rx_iadd, rx_iconst, rx_icmp_gt, rx_invs, rx_max2, rx_min2, rx_copy2, rx_isub, rx_putfield, ev_pf, ev_w1, ev_KW, am_fok, am_ftv, rx_return, ev_K, ev_pI, ev_pR, ev_pVi, ev_pVr, ev_sI, ev_sR, ev_KC, ev_k, ev_ko, ev_pop0, ev_pops, am_ld, am_sv, am_at, am_st, am_g, List.length_cons, List.length_nil, Nat.reduceAdd, Nat.reduceLT, Nat.zero_add, if_true, if_false, and_self, true_or, or_true, true_and, and_true, not_true_eq_false, not_false_eq_true, reduceCtorEq, eq_self, Option.toList_some, Option.toList_none, List.cons_append, List.nil_append, Bool.false_eq_true, h0, e0, e1, hz, nI_ofs, am_up_at, am_up_up, am_up_ne, n0.symm, h1, ne_eq, Nat.reduceLeDiff, beq_self_eq_true, e2, hz0, e3]
  · intro i hi
    unfold va_cpy
    rw [if_pos ⟨Nat.zero_le _, by omega⟩, Nat.sub_zero, Nat.add_comm]
theorem vs_lg.upi {h : am_H} {x : Nat} {f : Nat → Nat} (hx : x < 4) (hl : vs_lg h lg A tk cb tb sb tl c un) (hf : ∀ i, f i ≤ 100) : vs_lg (am_up h (A x) (vs_i 8 f)) lg A (if x = 0 then f else tk) (if x = 1 then f else cb) (if x = 2 then f else tb) (if x = 3 then f else sb) tl c un := by
  have hne := hl.ne
  obtain ⟨h0, h1, h2, h3, h4, hb, hk2, hA⟩ := hl
  refine ⟨by rw [am_up_ne _ _ (hne x hx)]; exact h0, ?_, ?_, ?_, ?_, hb, ?_, hA⟩
  · by_cases q : x = 0
    · subst q; rw [am_up_at, if_pos rfl]
    · rw [if_neg q, am_up_ne _ _ (hA 0 x (by omega) hx (Ne.symm q))]; exact h1
  · by_cases q : x = 1
    · subst q; rw [am_up_at, if_pos rfl]
    · rw [if_neg q, am_up_ne _ _ (hA 1 x (by omega) hx (Ne.symm q))]; exact h2
  · by_cases q : x = 2
    · subst q; rw [am_up_at, if_pos rfl]
    · rw [if_neg q, am_up_ne _ _ (hA 2 x (by omega) hx (Ne.symm q))]; exact h3
  · by_cases q : x = 3
    · subst q; rw [am_up_at, if_pos rfl]
    · rw [if_neg q, am_up_ne _ _ (hA 3 x (by omega) hx (Ne.symm q))]; exact h4
  · intro i
    split
    · exact hf i
    · exact hk2 i
theorem lg_markUnsynced (z d : Nat) {v : Nat} (hz : z ≤ lg) (hzA : ∀ i, i < 4 → z ≤ A i) (hl : vs_lg h lg A tk cb tb sb tl c un) (hu : un < 8) :
    ∃ h', am_M z (d + 1) 38 [.ref lg, .int (nI v)] h none h' ∧ vs_lg h' lg A tk (va_up cb un c) (va_up tb un (tk (c - 1))) (va_up sb un v) tl c (un + 1) ∧ vs_chg h h' lg A := by
  have hl0 := hl
  have hne := hl.ne
  obtain ⟨h0, h1, h2, h3, h4, hb, hk2, hA⟩ := hl
  have n0 := hne 0 (by omega)
  have n1 := hne 1 (by omega)
  have n2 := hne 2 (by omega)
  have n3 := hne 3 (by omega)
  have a01 := hA 0 1 (by omega) (by omega) (by omega)
  have a02 := hA 0 2 (by omega) (by omega) (by omega)
  have a03 := hA 0 3 (by omega) (by omega) (by omega)
  have a12 := hA 1 2 (by omega) (by omega) (by omega)
  have a13 := hA 1 3 (by omega) (by omega) (by omega)
  have a23 := hA 2 3 (by omega) (by omega) (by omega)
  refine ⟨am_up (am_up (am_up (am_up h (A 1) (vs_i 8 (va_up cb un c))) (A 2) (vs_i 8 (va_up tb un (tk (c - 1))))) (A 3) (vs_i 8 (va_up sb un v))) lg (vs_lgo A tl c (un + 1)), ?_, ⟨am_up_at _ _ _, ?_, ?_, ?_, ?_, ⟨hb.1, hb.2.1, by omega, hb.2.2.2⟩, hk2, hA⟩, ⟨fun q e1 e2 => ?_, rfl⟩⟩
  · have e0 : nI c - 1 = nI (c - 1) := by
      rw [show c = (c - 1) + 1 by omega, nI_pred]; congr 1
    have e1 : nI un < 8 := nI_lt (b := 8) hu (by omega)
    have e3 := ev_wi 0 8 un (fun i => nI (cb i)) (nI un) (nI c) (ev_ix (by omega) (by omega))
    have e4 := ev_wi 0 8 un (fun i => nI (tb i)) (nI un) (nI (tk (c - 1))) (ev_ix (by omega) (by omega))
    have e5 := ev_wi 0 8 un (fun i => nI (sb i)) (nI un) (nI v) (ev_ix (by omega) (by omega))
    have e7 := ev_ri 0 8 (c - 1) (fun i => nI (tk i)) (nI (c - 1)) (ev_ix (by omega) (by omega))
    have z1 := hzA 1 (by omega)
    have z2 := hzA 2 (by omega)
    have z3 := hzA 3 (by omega)
    rw [am_M_eq]
    simp only [am_R_eq, cx_38, en_38, rt_38, rx_aload_n, rx_bipush, rx_dup_i, rx_dup_r, rx_getfield, ev_gf, rx_iadd, rx_iaload, rx_iastore, ev_w1, ev_KW, rx_iconst, rx_icmp_lt, rx_iload_n, rx_isub, rx_putfield, ev_pf, am_fok, am_ftv, rx_return, ev_K, ev_pI, ev_pR, ev_pVi, ev_pVr, ev_sI, ev_sR, ev_KC, ev_k, ev_ko, ev_pop0, ev_pops, am_ld, am_sv, am_at, am_st, am_g, List.length_cons, List.length_nil, Nat.reduceAdd, Nat.reduceLT, Nat.zero_add, if_true, if_false, and_self, true_or, or_true, true_and, and_true, not_true_eq_false, not_false_eq_true, reduceCtorEq, eq_self, Option.toList_some, Option.toList_none, List.cons_append, List.nil_append, Bool.false_eq_true, h0, h1, h2, h3, h4, e0, e1, e3, e4, e5, e7, hz, z1, z2, z3, nI_upd, nI_ofs, am_up_at, am_up_ne, n0, n1, n2, n3, a01, a02, a03, a12, a13, a23, a12.symm, a13.symm, a23.symm, ne_eq, Nat.reduceLeDiff, beq_self_eq_true]
  · rw [am_up_ne _ _ n0.symm, am_up_ne _ _ a03, am_up_ne _ _ a02, am_up_ne _ _ a01]; exact h1
  · rw [am_up_ne _ _ n1.symm, am_up_ne _ _ a13, am_up_ne _ _ a12, am_up_at]
  · rw [am_up_ne _ _ n2.symm, am_up_ne _ _ a23, am_up_at]
  · rw [am_up_ne _ _ n3.symm, am_up_at]
  · rw [am_up_ne _ _ e1, am_up_ne _ _ (e2 3 (by omega)), am_up_ne _ _ (e2 2 (by omega)), am_up_ne _ _ (e2 1 (by omega))]
theorem lg_rewindTo (z d : Nat) {k : Nat} (hz : z ≤ lg) (hz0 : z ≤ A 0) (hl : vs_lg h lg A tk cb tb sb tl c un) (hk : k < un) (hc : 1 ≤ cb k ∧ cb k ≤ 8) (ht : tb k ≤ 100) :
    ∃ h', am_M z (d + 1) 68 [.ref lg, .int (nI k)] h none h' ∧ vs_lg h' lg A (va_up tk (cb k - 1) (tb k)) cb tb sb tl (cb k) k ∧ vs_chg h h' lg A := by
  have hl0 := hl
  have hne := hl.ne
  obtain ⟨h0, h1, h2, h3, h4, hb, hk2, hA⟩ := hl
  have n0 := hne 0 (by omega)
  have n1 := hne 1 (by omega)
  have n2 := hne 2 (by omega)
  have a02 := hA 0 2 (by omega) (by omega) (by omega)
  obtain ⟨p1, p2⟩ := hl0.set0 (tk' := va_up tk (cb k - 1) (tb k)) (c' := cb k) (un' := k) (tl' := tl) ⟨hc.1, hc.2, by omega, hb.2.2.2⟩ (by intro i; unfold va_up; split; exact ht; exact hk2 i)
  refine ⟨_, ?_, p1, p2⟩
  have e1 : ¬ nI k < 0 := nI_pos (by omega)
  have e2 : nI k < nI un := nI_lt hk (by omega)
  have e0 : nI (cb k) - 1 = nI (cb k - 1) := by
    rw [show cb k = (cb k - 1) + 1 by omega, nI_pred]; congr 1
  have e3 := ev_ri 0 8 k (fun i => nI (cb i)) (nI k) (ev_ix (by omega) (by omega))
  have e4 := ev_ri 0 8 k (fun i => nI (tb i)) (nI k) (ev_ix (by omega) (by omega))
  have e5 := ev_wi 0 8 (cb k - 1) (fun i => nI (tk i)) (nI (cb k - 1)) (nI (tb k)) (ev_ix (by omega) (by omega))
  have e6 : am_up (am_up (am_up h lg (vs_lgo A tl (cb k) un)) (A 0) (vs_i 8 (va_up tk (cb k - 1) (tb k)))) lg (vs_lgo A tl (cb k) k) = am_up (am_up h (A 0) (vs_i 8 (va_up tk (cb k - 1) (tb k)))) lg (vs_lgo A tl (cb k) k) := by
    rw [am_up_cm h _ _ n0, am_up_up]
  rw [am_M_eq]
  simp only [am_R_eq, cx_68, en_68, rt_68, rx_aload_n, rx_getfield, ev_gf, rx_iaload, rx_iastore, ev_w1, ev_KW, rx_iconst, rx_icmp_lt, rx_if_lt, rx_iload_n, rx_isub, rx_putfield, ev_pf, am_fok, am_ftv, rx_return, ev_K, ev_pI, ev_pR, ev_pVi, ev_pVr, ev_sI, ev_sR, ev_KC, ev_k, ev_ko, ev_pop0, ev_pops, am_ld, am_sv, am_at, am_st, am_g, List.length_cons, List.length_nil, Nat.reduceAdd, Nat.reduceLT, Nat.zero_add, if_true, if_false, and_self, true_or, or_true, true_and, and_true, not_true_eq_false, not_false_eq_true, reduceCtorEq, eq_self, Option.toList_some, Option.toList_none, List.cons_append, List.nil_append, Bool.false_eq_true, h0, h1, h2, h3, e0, e1, e2, e3, e4, e5, e6, hz, hz0, nI_upd, am_up_at, am_up_ne, n0, n0.symm, n1.symm, n2.symm, a02.symm, ne_eq, Nat.reduceLeDiff, beq_self_eq_true]
def e_sw : Nat → Nat → Nat → Nat → Nat
  | 0, segs, _, _ => segs
  | q + 1, segs, room, l => if l = 0 then segs else if room < 1 + min l 6 then e_sw q (segs + 1) (16 - (1 + min l 6)) (l - 6) else e_sw q segs (room - (1 + min l 6)) (l - 6)
theorem lg_segmentsWith (z d : Nat) {v : Nat} (hl : vs_lg h lg A tk cb tb sb tl c un) (hv : v ≤ 100) (ht : tk (c - 1) ≤ 16) : am_M z (d + 1) 53 [.ref lg, .int (nI v)] h (some (.int (nI (e_sw (v + 1) c (16 - tk (c - 1)) v)))) h := by
  obtain ⟨h0, h1, h2, h3, h4, hb, hk2, hA⟩ := hl
  have loop : ∀ q segs room l x (w : Option Value), l < q → segs ≤ 1000 - q → q ≤ 101 → room ≤ 16 → (l = 0 → x ≤ 0) → (0 < l → x = nI l) → am_R z d 53 23 [some (.ref lg), some (.int (nI v)), some (.int (nI segs)), some (.int (nI room)), some (.int x), w] [] h (some (.int (nI (e_sw q segs room l)))) h := by
    intro q
    induction q with
    | zero => intro segs room l x w hl; omega
    | succ q ih =>
      intro segs room l x w hlq hs hq hr hx0 hx1
      by_cases hl0 : l = 0
      · have e1 : x ≤ 0 := hx0 hl0
        have e2 : e_sw (q + 1) segs room l = segs := by simp [e_sw, hl0]
        rw [e2]
        rw [am_R_eq, cxh_53_23]
        simp only [am_R_eq, cx_53, en_53, rt_53, rx_aload_n, rx_bipush, rx_getfield, ev_gf, rx_goto, rx_iadd, rx_iaload, rx_iconst, rx_icmp_le, rx_if_le, rx_iinc, ev_inc, rx_iload, rx_iload_n, rx_invs, rx_max2, rx_min2, rx_copy2, rx_ireturn, rx_istore, rx_istore_n, rx_isub, ev_K, ev_pI, ev_pR, ev_pVi, ev_pVr, ev_sI, ev_sR, ev_KC, ev_k, ev_ko, ev_pop0, ev_pops, am_ld, am_sv, am_at, am_st, am_g, List.length_cons, List.length_nil, Nat.reduceAdd, Nat.reduceLT, Nat.zero_add, if_true, if_false, and_self, true_or, or_true, true_and, and_true, not_true_eq_false, not_false_eq_true, reduceCtorEq, eq_self, Option.toList_some, Option.toList_none, List.cons_append, List.nil_append, Bool.false_eq_true, e1]
      · have hx := hx1 (by omega)
        subst hx
        have e1 : ¬ nI l ≤ 0 := nI_nle (by omega) (by omega)
        have e3 : (if (6 : Int32) < nI l then (6 : Int32) else nI l) = nI (min l 6) := by
          by_cases g : 6 < l
          · rw [if_pos (show (6 : Int32) < nI l from nI_lt (a := 6) g (by omega)), Nat.min_eq_right (by omega)]
            rfl
          · rw [if_neg (show ¬ (6 : Int32) < nI l from nI_nlt (a := 6) (b := l) (by omega) (by omega)), Nat.min_eq_left (by omega)]
        have e4 : (1 : Int32) + nI (min l 6) = nI (1 + min l 6) := by rw [show (1 : Int32) = nI 1 from rfl, nI_add]
        have hnx : (l - 6 = 0 → nI l + -6 ≤ 0) ∧ (0 < l - 6 → nI l + -6 = nI (l - 6)) := by
          have e : nI l + -6 = nI l - nI 6 := by rw [Int32.sub_eq_add_neg]; rfl
          constructor
          · intro g
            rw [e]
            have hh : (nI l - nI 6).toInt = (l : Int) - 6 := pk_sub_toInt (by omega) (by omega)
            rw [Int32.le_iff_toInt_le, hh]
            have : (0 : Int32).toInt = 0 := by decide
            omega
          · intro g
            rw [e, pk_sub (by omega)]
        by_cases c1 : room < 1 + min l 6
        · have e5 : ¬ nI (1 + min l 6) ≤ nI room := nI_ge c1 (by omega)
          have e6 : (16 : Int32) - nI (1 + min l 6) = nI (16 - (1 + min l 6)) := by rw [show (16 : Int32) = nI 16 from rfl, pk_sub (by omega)]
          have e2 : e_sw (q + 1) segs room l = e_sw q (segs + 1) (16 - (1 + min l 6)) (l - 6) := by simp [e_sw, hl0, c1]
          have ih1 := ih (segs + 1) (16 - (1 + min l 6)) (l - 6) (nI l + -6) (some (.int (nI (1 + min l 6)))) (by omega) (by omega) (by omega) (by omega) hnx.1 hnx.2
          rw [am_R_eq] at ih1
          rw [e2]
          rw [am_R_eq, cxh_53_23]
          simp only [am_R_eq, cx_53, en_53, rt_53, rx_aload_n, rx_bipush, rx_getfield, ev_gf, rx_goto, rx_iadd, rx_iaload, rx_iconst, rx_icmp_le, rx_if_le, rx_iinc, ev_inc, rx_iload, rx_iload_n, rx_invs, rx_max2, rx_min2, rx_copy2, rx_ireturn, rx_istore, rx_istore_n, rx_isub, ev_K, ev_pI, ev_pR, ev_pVi, ev_pVr, ev_sI, ev_sR, ev_KC, ev_k, ev_ko, ev_pop0, ev_pops, am_ld, am_sv, am_at, am_st, am_g, List.length_cons, List.length_nil, Nat.reduceAdd, Nat.reduceLT, Nat.zero_add, if_true, if_false, and_self, true_or, or_true, true_and, and_true, not_true_eq_false, not_false_eq_true, reduceCtorEq, eq_self, Option.toList_some, Option.toList_none, List.cons_append, List.nil_append, Bool.false_eq_true, e1, e3, e4, e5, e6, nI_ofs]
          exact ih1
        · have e5 : nI (1 + min l 6) ≤ nI room := nI_le (by omega) (by omega)
          have e6 : nI room - nI (1 + min l 6) = nI (room - (1 + min l 6)) := pk_sub (by omega)
          have e2 : e_sw (q + 1) segs room l = e_sw q segs (room - (1 + min l 6)) (l - 6) := by simp [e_sw, hl0, c1]
          have ih1 := ih segs (room - (1 + min l 6)) (l - 6) (nI l + -6) (some (.int (nI (1 + min l 6)))) (by omega) (by omega) (by omega) (by omega) hnx.1 hnx.2
          rw [am_R_eq] at ih1
          rw [e2]
          rw [am_R_eq, cxh_53_23]
          simp only [am_R_eq, cx_53, en_53, rt_53, rx_aload_n, rx_bipush, rx_getfield, ev_gf, rx_goto, rx_iadd, rx_iaload, rx_iconst, rx_icmp_le, rx_if_le, rx_iinc, ev_inc, rx_iload, rx_iload_n, rx_invs, rx_max2, rx_min2, rx_copy2, rx_ireturn, rx_istore, rx_istore_n, rx_isub, ev_K, ev_pI, ev_pR, ev_pVi, ev_pVr, ev_sI, ev_sR, ev_KC, ev_k, ev_ko, ev_pop0, ev_pops, am_ld, am_sv, am_at, am_st, am_g, List.length_cons, List.length_nil, Nat.reduceAdd, Nat.reduceLT, Nat.zero_add, if_true, if_false, and_self, true_or, or_true, true_and, and_true, not_true_eq_false, not_false_eq_true, reduceCtorEq, eq_self, Option.toList_some, Option.toList_none, List.cons_append, List.nil_append, Bool.false_eq_true, e1, e3, e4, e5, e6, nI_ofs]
          exact ih1
  have e0 : nI c - 1 = nI (c - 1) := by
    rw [show c = (c - 1) + 1 by omega, nI_pred]; congr 1
  have e7 := ev_ri 0 8 (c - 1) (fun i => nI (tk i)) (nI (c - 1)) (ev_ix (by omega) (by omega))
  have e8 : (16 : Int32) - nI (tk (c - 1)) = nI (16 - tk (c - 1)) := by rw [show (16 : Int32) = nI 16 from rfl, pk_sub ht]
  have l0 := loop (v + 1) c (16 - tk (c - 1)) v (nI v) none (by omega) (by omega) (by omega) (by omega) (fun g => by rw [g]; decide) (fun _ => rfl)
  rw [am_R_eq] at l0
  rw [am_M_eq]
  simp only [am_R_eq, cx_53, en_53, rt_53, rx_aload_n, rx_bipush, rx_getfield, ev_gf, rx_goto, rx_iadd, rx_iaload, rx_iconst, rx_icmp_le, rx_if_le, rx_iinc, ev_inc, rx_iload, rx_iload_n, rx_invs, rx_max2, rx_min2, rx_copy2, rx_ireturn, rx_istore, rx_istore_n, rx_isub, ev_K, ev_pI, ev_pR, ev_pVi, ev_pVr, ev_sI, ev_sR, ev_KC, ev_k, ev_ko, ev_pop0, ev_pops, am_ld, am_sv, am_at, am_st, am_g, List.length_cons, List.length_nil, Nat.reduceAdd, Nat.reduceLT, Nat.zero_add, if_true, if_false, and_self, true_or, or_true, true_and, and_true, not_true_eq_false, not_false_eq_true, reduceCtorEq, eq_self, Option.toList_some, Option.toList_none, List.cons_append, List.nil_append, Bool.false_eq_true, h0, h1, e0, e7, e8]
  exact l0
end LOG2
