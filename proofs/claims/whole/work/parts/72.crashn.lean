section MCT
variable {z : Nat} {h : am_H} {x : Nat} {A : Nat → Nat} {w : Nat → Int32} {F : Nat → Nat → Int32}
def m_cw4 (w : Nat → Int32) (F : Nat → Nat → Int32) (un c : Nat) : Int32 := if c < un then F 17 c - 1 else w 4
theorem mo_crash1 (d : Nat) {un st : Nat} {hds : Nat → Nat} {keep l3 : Int32} (hub : un ≤ 16) (hhb : ∀ j, j ≤ un → hds j ≤ 10000) (hch : ∀ j, j < un → if F 19 j = 0 then hds (j + 1) = hds j else hds (j + 1) = hds j + 1) (zx : z ≤ x) (zs : ∀ i, i < 20 → z ≤ A i) : ∀ m c hh, m + st = c → c ≤ un → vs_M z hh x A (va_up (va_up w 7 (nI (hds c))) 4 (m_cw4 w F un c)) (va_up F 16 (m_cu F hds un (un - c))) →
    ∃ h', vs_M z h' x A (va_up (va_up w 7 (nI (hds st))) 4 (m_cw4 w F un st)) (va_up F 16 (m_cu F hds un (un - st))) ∧ h'.2 = hh.2 ∧ ∀ r hx, am_R z d 124 123 [some (.ref x), some (.int keep), some (.int (nI st)), some (.int l3), some (.int 0)] [] h' r hx → am_R z d 124 40 [some (.ref x), some (.int keep), some (.int (nI st)), some (.int l3), some (.int (nI c - 1))] [] hh r hx := by
  intro m
  induction m with
  | zero =>
    intro c hh hc hcu hW
    have hcs : c = st := by omega
    subst hcs
    refine ⟨hh, hW, rfl, fun r hx k1 => ?_⟩
    have e1 : nI c - 1 < nI c := by
      cases c with
      | zero => decide
      | succ c => rw [nI_pred]; exact nI_lt (by omega) (by omega)
    rw [am_R_eq] at k1
    rw [am_R_eq, cxh_124_40]
    simp only [am_R_eq, cx_124, en_124, rt_124, rx_aload_n, rx_baload, rx_bastore, ev_w1, ev_KW, rx_bipush, rx_dup_i, rx_dup_r, rx_getfield, ev_gf, rx_goto, rx_iaload, rx_iastore, rx_iconst, rx_icmp_ge, rx_icmp_le, rx_icmp_lt, rx_icmp_ne, rx_if_eq, rx_if_ge, rx_iinc, ev_inc, rx_iload, rx_iload_n, rx_irem, rx_ireturn, rx_istore, rx_istore_n, rx_isub, rx_putfield, ev_pf, am_fok, am_ftv, ev_K, ev_pI, ev_pR, ev_pVi, ev_pVr, ev_sI, ev_sR, ev_KC, ev_k, ev_ko, ev_pop0, ev_pops, am_ld, am_sv, am_at, am_st, am_g, List.length_cons, List.length_nil, Nat.reduceAdd, Nat.reduceLT, Nat.zero_add, if_true, if_false, and_self, true_or, or_true, true_and, and_true, not_true_eq_false, not_false_eq_true, reduceCtorEq, eq_self, Option.toList_some, Option.toList_none, List.cons_append, List.nil_append, Bool.false_eq_true, e1]
    exact k1
  | succ m ih =>
    intro c hh hc hcu hW
    obtain ⟨j, rfl⟩ : ∃ j, c = j + 1 := ⟨c - 1, by omega⟩
    have e1 : ¬ nI j < nI st := nI_nlt (by omega) (by omega)
    have hjm : un - j = un - (j + 1) + 1 := by omega
    have hj1 : un - 1 - (un - (j + 1)) = j := by omega
    have hj2 : un - (un - (j + 1)) = j + 1 := by omega
    have hc1 := hch j (by omega)
    have hb1 := hhb (j + 1) (by omega)
    have m0 := hW.ob
    have k16 : hh.1 (A 16) = some (.inl (0, 8, .inl (m_cu F hds un (un - (j + 1))))) := hW.ar 16 (by omega)
    have k17 : hh.1 (A 17) = some (.inl (0, 16, .inl (F 17))) := hW.ar 17 (by omega)
    have k18 : hh.1 (A 18) = some (.inl (0, 16, .inl (F 18))) := hW.ar 18 (by omega)
    have k19 : hh.1 (A 19) = some (.inl (1, 16, .inl (F 19))) := hW.ar 19 (by omega)
    have ix := m_ri (n := 16) (k := j) (by omega) (by omega)
    have w4j : m_cw4 w F un j = F 17 j - 1 := by unfold m_cw4; rw [if_pos (by omega)]
    have z16 := zs 16 (by omega)
    have hw7 : va_up (va_up w 7 (nI (hds (j + 1)))) 4 (m_cw4 w F un (j + 1)) 7 = nI (hds (j + 1)) := rfl
    by_cases c1 : F 19 j = 0
    · rw [if_pos c1] at hc1
      have hcu' : m_cu F hds un (un - j) = upd (m_cu F hds un (un - (j + 1))) (hds (j + 1) % 8) (m_cu F hds un (un - (j + 1)) (hds (j + 1) % 8) - F 18 j) := by
        rw [hjm, m_cu, hj1, hj2, if_pos c1]
      have er : nI (hds (j + 1)) - nI (hds (j + 1)) / 8 * 8 = nI (hds (j + 1) % 8) := pk_rem (a := hds (j + 1)) (d := 8) (by omega) (by omega) (by omega)
      have ix8 := m_ri (n := 8) (k := hds (j + 1) % 8) (by omega) (by omega)
      have iw8 := m_wi (n := 8) (k := hds (j + 1) % 8) (by omega) (by omega)
      have nx : x ≠ A 16 := (hW.ne (i := 16) (by omega)).symm
      have n17 : A 17 ≠ A 16 := hW.dj 17 16 (by omega) (by omega) (by omega)
      have hW2 := (hW.arr (i := 16) (by omega) (m_cu F hds un (un - j))).fld (va_up (va_up w 7 (nI (hds j))) 4 (m_cw4 w F un j))
      have e16 : (va_up (va_up F 16 (m_cu F hds un (un - (j + 1)))) 16 (m_cu F hds un (un - j))) = va_up F 16 (m_cu F hds un (un - j)) := bx_uu _ _ _ _
      rw [e16] at hW2
      obtain ⟨h', i1, i2, i3⟩ := ih j _ (by omega) (by omega) hW2
      refine ⟨h', i1, i2, fun r hx k1 => ?_⟩
      have i4 := i3 r hx k1
      rw [am_R_eq, hcu', vmo_4, w4j] at i4
      rw [← hc1] at i4
      rw [nI_pred]
      rw [am_R_eq, cxh_124_40]
      simp only [am_R_eq, cx_124, en_124, rt_124, rx_aload_n, rx_baload, rx_bastore, ev_w1, ev_KW, rx_bipush, rx_dup_i, rx_dup_r, rx_getfield, ev_gf, rx_goto, rx_iaload, rx_iastore, rx_iconst, rx_icmp_ge, rx_icmp_le, rx_icmp_lt, rx_icmp_ne, rx_if_eq, rx_if_ge, rx_iinc, ev_inc, rx_iload, rx_iload_n, rx_irem, rx_ireturn, rx_istore, rx_istore_n, rx_isub, rx_putfield, ev_pf, am_fok, am_ftv, ev_K, ev_pI, ev_pR, ev_pVi, ev_pVr, ev_sI, ev_sR, ev_KC, ev_k, ev_ko, ev_pop0, ev_pops, am_ld, am_sv, am_at, am_st, am_g, List.length_cons, List.length_nil, Nat.reduceAdd, Nat.reduceLT, Nat.zero_add, if_true, if_false, and_self, true_or, or_true, true_and, and_true, not_true_eq_false, not_false_eq_true, reduceCtorEq, eq_self, Option.toList_some, Option.toList_none, List.cons_append, List.nil_append, Bool.false_eq_true, m0, e1, k19, k18, k17, k16, ix, c1, hw7, er, i_8, ix8, iw8, z16, nx, n17, zx, am_ft7, am_up_at, am_up_ne, ne_eq, nI_pm, Nat.reduceLeDiff, beq_self_eq_true]
      exact i4
    · rw [if_neg c1] at hc1
      have hcu' : m_cu F hds un (un - j) = m_cu F hds un (un - (j + 1)) := by
        rw [hjm, m_cu, hj1, if_neg c1]
      have hW2 := (hW.fld (va_up (va_up w 7 (nI (hds j))) 4 (m_cw4 w F un (j + 1)))).fld (va_up (va_up w 7 (nI (hds j))) 4 (m_cw4 w F un j))
      rw [← hcu'] at hW2
      obtain ⟨h', i1, i2, i3⟩ := ih j _ (by omega) (by omega) hW2
      refine ⟨h', i1, i2, fun r hx k1 => ?_⟩
      have i4 := i3 r hx k1
      have eh : nI (hds (j + 1)) - 1 = nI (hds j) := by rw [hc1, nI_pred]
      have n17 : A 17 ≠ x := hW.ne (i := 17) (by omega)
      rw [am_R_eq, am_up_up, vmo_4, w4j] at i4
      rw [nI_pred]
      rw [am_R_eq, cxh_124_40]
      simp only [am_R_eq, cx_124, en_124, rt_124, rx_aload_n, rx_baload, rx_bastore, ev_w1, ev_KW, rx_bipush, rx_dup_i, rx_dup_r, rx_getfield, ev_gf, rx_goto, rx_iaload, rx_iastore, rx_iconst, rx_icmp_ge, rx_icmp_le, rx_icmp_lt, rx_icmp_ne, rx_if_eq, rx_if_ge, rx_iinc, ev_inc, rx_iload, rx_iload_n, rx_irem, rx_ireturn, rx_istore, rx_istore_n, rx_isub, rx_putfield, ev_pf, am_fok, am_ftv, ev_K, ev_pI, ev_pR, ev_pVi, ev_pVr, ev_sI, ev_sR, ev_KC, ev_k, ev_ko, ev_pop0, ev_pops, am_ld, am_sv, am_at, am_st, am_g, List.length_cons, List.length_nil, Nat.reduceAdd, Nat.reduceLT, Nat.zero_add, if_true, if_false, and_self, true_or, or_true, true_and, and_true, not_true_eq_false, not_false_eq_true, reduceCtorEq, eq_self, Option.toList_some, Option.toList_none, List.cons_append, List.nil_append, Bool.false_eq_true, m0, e1, k19, k18, k17, ix, c1, hw7, eh, n17, zx, am_ft7, am_up_at, am_up_ne, am_up_up, ne_eq, nI_pm, Nat.reduceLeDiff, beq_self_eq_true]
      exact i4
theorem mo_crash (d : Nat) {n un st : Nat} {keep : Int32} {hds : Nat → Nat} (hn : w 1 = nI n) (hb : n ≤ 520) (hu : w 8 = nI un) (hub : un ≤ 16) (hk : e_kp un keep = st) (hh : w 7 = nI (hds un)) (hhb : ∀ j, j ≤ un → hds j ≤ 10000) (hch : ∀ j, j < un → if F 19 j = 0 then hds (j + 1) = hds j else hds (j + 1) = hds j + 1) (hM : vs_M z h x A w F) : ∃ h', am_M z (d + 1) 124 [.ref x, .int keep] h (some (.int (nI (un - st)))) h' ∧ vs_M z h' x A (va_up (va_up (va_up (va_up w 7 (nI (hds st))) 4 (if st < un then F 17 st - 1 else w 4)) 8 0) 5 0) (m_cF F hds un st (if st < un then F 17 st - 1 else w 4) n) ∧ h'.2 = h.2 := by
  have hst : st ≤ un := by
    rw [← hk]
    unfold e_kp
    by_cases h : keep < 0
    · rw [if_pos h]; omega
    · rw [if_neg h]; omega
  have w4u : m_cw4 w F un un = w 4 := by unfold m_cw4; rw [if_neg (by omega)]
  have ew : va_up (va_up w 7 (nI (hds un))) 4 (m_cw4 w F un un) = w := by
    rw [← hh, va_up_id, w4u, va_up_id]
  have eF : va_up F 16 (m_cu F hds un (un - un)) = F := by
    rw [Nat.sub_self]
    exact va_up_id F 16
  obtain ⟨h1, i1, i2, i3⟩ := mo_crash1 d (w := w) (F := F) (keep := keep) (l3 := nI (un - st)) (st := st) (hds := hds) hub hhb hch hM.zx hM.za (un - st) un h (by omega) (Nat.le_refl _) (by rw [ew, eF]; exact hM)
  obtain ⟨h', j1, j2, j3⟩ := mo_crash2 d (n := n) (l3 := nI (un - st)) (v1 := some (.int keep)) (v2 := some (.int (nI st))) (w := va_up (va_up w 7 (nI (hds st))) 4 (m_cw4 w F un st)) (F := va_up F 16 (m_cu F hds un (un - st))) hn hb hM.zx hM.za n 0 h1 (by omega) (by
    rw [m_fill_0, va_up_id]
    exact i1)
  have k1 := i3 _ _ j1
  refine ⟨h', ?_, j2, by rw [j3, i2]⟩
  have m0 := hM.ob
  have el : nI un - nI st = nI (un - st) := by
    have : nI un = nI (un - st) + nI st := by rw [nI_add]; congr 1; omega
    rw [this, Int32.add_sub_cancel]
  rw [am_R_eq] at k1
  rw [am_M_eq]
  unfold e_kp at hk
  by_cases c1 : keep < 0
  · rw [if_pos c1] at hk
    subst hk
    have c2 : ¬ 0 ≤ keep := by
      rw [Int32.le_iff_toInt_le]; rw [Int32.lt_iff_toInt_lt] at c1; omega
    have el' : nI un - 0 = nI (un - 0) := el
    simp only [am_R_eq, cx_124, en_124, rt_124, rx_aload_n, rx_baload, rx_bastore, ev_w1, ev_KW, rx_bipush, rx_dup_i, rx_dup_r, rx_getfield, ev_gf, rx_goto, rx_iaload, rx_iastore, rx_iconst, rx_icmp_ge, rx_icmp_le, rx_icmp_lt, rx_icmp_ne, rx_if_eq, rx_if_ge, rx_iinc, ev_inc, rx_iload, rx_iload_n, rx_irem, rx_ireturn, rx_istore, rx_istore_n, rx_isub, rx_putfield, ev_pf, am_fok, am_ftv, ev_K, ev_pI, ev_pR, ev_pVi, ev_pVr, ev_sI, ev_sR, ev_KC, ev_k, ev_ko, ev_pop0, ev_pops, am_ld, am_sv, am_at, am_st, am_g, List.length_cons, List.length_nil, Nat.reduceAdd, Nat.reduceLT, Nat.zero_add, if_true, if_false, and_self, true_or, or_true, true_and, and_true, not_true_eq_false, not_false_eq_true, reduceCtorEq, eq_self, Option.toList_some, Option.toList_none, List.cons_append, List.nil_append, Bool.false_eq_true, m0, c2, hu, el']
    exact k1
  · rw [if_neg c1] at hk
    have c2 : 0 ≤ keep := by
      rw [Int32.le_iff_toInt_le]; rw [Int32.lt_iff_toInt_lt] at c1; omega
    obtain ⟨q, q1, q2⟩ := nI_of c1
    rw [q2, nI_clamp q1] at hk
    by_cases c3 : q ≤ un
    · have hq : st = q := by omega
      subst hq
      have c4 : keep ≤ nI un := by rw [q2]; exact nI_le c3 (by omega)
      have el' : nI un - keep = nI (un - st) := by rw [q2]; exact el
      rw [← q2] at k1
      simp only [am_R_eq, cx_124, en_124, rt_124, rx_aload_n, rx_baload, rx_bastore, ev_w1, ev_KW, rx_bipush, rx_dup_i, rx_dup_r, rx_getfield, ev_gf, rx_goto, rx_iaload, rx_iastore, rx_iconst, rx_icmp_ge, rx_icmp_le, rx_icmp_lt, rx_icmp_ne, rx_if_eq, rx_if_ge, rx_iinc, ev_inc, rx_iload, rx_iload_n, rx_irem, rx_ireturn, rx_istore, rx_istore_n, rx_isub, rx_putfield, ev_pf, am_fok, am_ftv, ev_K, ev_pI, ev_pR, ev_pVi, ev_pVr, ev_sI, ev_sR, ev_KC, ev_k, ev_ko, ev_pop0, ev_pops, am_ld, am_sv, am_at, am_st, am_g, List.length_cons, List.length_nil, Nat.reduceAdd, Nat.reduceLT, Nat.zero_add, if_true, if_false, and_self, true_or, or_true, true_and, and_true, not_true_eq_false, not_false_eq_true, reduceCtorEq, eq_self, Option.toList_some, Option.toList_none, List.cons_append, List.nil_append, Bool.false_eq_true, m0, c2, c4, hu, el']
      exact k1
    · have hq : st = un := by omega
      subst hq
      have c4 : ¬ keep ≤ nI st := by rw [q2]; exact nI_ge (by omega) (by omega)
      simp only [am_R_eq, cx_124, en_124, rt_124, rx_aload_n, rx_baload, rx_bastore, ev_w1, ev_KW, rx_bipush, rx_dup_i, rx_dup_r, rx_getfield, ev_gf, rx_goto, rx_iaload, rx_iastore, rx_iconst, rx_icmp_ge, rx_icmp_le, rx_icmp_lt, rx_icmp_ne, rx_if_eq, rx_if_ge, rx_iinc, ev_inc, rx_iload, rx_iload_n, rx_irem, rx_ireturn, rx_istore, rx_istore_n, rx_isub, rx_putfield, ev_pf, am_fok, am_ftv, ev_K, ev_pI, ev_pR, ev_pVi, ev_pVr, ev_sI, ev_sR, ev_KC, ev_k, ev_ko, ev_pop0, ev_pops, am_ld, am_sv, am_at, am_st, am_g, List.length_cons, List.length_nil, Nat.reduceAdd, Nat.reduceLT, Nat.zero_add, if_true, if_false, and_self, true_or, or_true, true_and, and_true, not_true_eq_false, not_false_eq_true, reduceCtorEq, eq_self, Option.toList_some, Option.toList_none, List.cons_append, List.nil_append, Bool.false_eq_true, m0, c2, c4, hu, el]
      exact k1
end MCT
