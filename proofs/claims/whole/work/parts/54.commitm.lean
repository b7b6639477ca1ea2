section MX
variable {z : Nat} {h : am_H} {x : Nat} {A : Nat → Nat} {w : Nat → Int32} {F : Nat → Nat → Int32}
def m_we (F : Nat → Nat → Int32) (e : Nat) (ky sr dl vl ex lv sg ce : Int32) : Nat → Nat → Int32 := va_up (va_up (va_up (va_up (va_up (va_up (va_up (va_up F 0 (upd (F 0) e ky)) 1 (upd (F 1) e sr)) 3 (upd (F 3) e dl)) 2 (upd (F 2) e vl)) 4 (upd (F 4) e ex)) 5 (upd (F 5) e lv)) 7 (upd (F 7) e sg)) 8 (upd (F 8) e ce)
theorem m_we_hi (F : Nat → Nat → Int32) (e : Nat) (ky sr dl vl ex lv sg ce : Int32) {i : Nat} (hi : 9 ≤ i) : m_we F e ky sr dl vl ex lv sg ce i = F i := by
  unfold m_we
  rw [va_up_ne _ _ (by omega), va_up_ne _ _ (by omega), va_up_ne _ _ (by omega), va_up_ne _ _ (by omega), va_up_ne _ _ (by omega), va_up_ne _ _ (by omega), va_up_ne _ _ (by omega), va_up_ne _ _ (by omega)]
def m_wh (h : am_H) (x : Nat) (A : Nat → Nat) (w2 : Nat → Int32) (F : Nat → Nat → Int32) (e : Nat) (ky sr dl vl ex lv sg ce : Int32) : am_H := (am_up (am_up (am_up (am_up (am_up (am_up (am_up (am_up (am_up h x (vm_o A w2)) (A 0) (.inl (0, 520, .inl (upd (F 0) e ky)))) (A 1) (.inl (0, 520, .inl (upd (F 1) e sr)))) (A 3) (.inl (1, 520, .inl (upd (F 3) e dl)))) (A 2) (.inl (0, 520, .inl (upd (F 2) e vl)))) (A 4) (.inl (0, 520, .inl (upd (F 4) e ex)))) (A 5) (.inl (0, 520, .inl (upd (F 5) e lv)))) (A 7) (.inl (0, 520, .inl (upd (F 7) e sg)))) (A 8) (.inl (0, 520, .inl (upd (F 8) e ce))))
theorem vs_M.we (hM : vs_M z h x A w F) (w2 : Nat → Int32) (e : Nat) (ky sr dl vl ex lv sg ce : Int32) : vs_M z (m_wh h x A w2 F e ky sr dl vl ex lv sg ce) x A w2 (m_we F e ky sr dl vl ex lv sg ce) := by
  have g0 := hM.fld w2
  have g1 : vs_M z (am_up (am_up h x (vm_o A w2)) (A 0) (.inl (0, 520, .inl (upd (F 0) e ky)))) x A w2 (va_up F 0 (upd (F 0) e ky)) := g0.arr (i := 0) (by omega) _
  have g2 : vs_M z (am_up (am_up (am_up h x (vm_o A w2)) (A 0) (.inl (0, 520, .inl (upd (F 0) e ky)))) (A 1) (.inl (0, 520, .inl (upd (F 1) e sr)))) x A w2 (va_up (va_up F 0 (upd (F 0) e ky)) 1 (upd (F 1) e sr)) := g1.arr (i := 1) (by omega) _
  have g3 : vs_M z (am_up (am_up (am_up (am_up h x (vm_o A w2)) (A 0) (.inl (0, 520, .inl (upd (F 0) e ky)))) (A 1) (.inl (0, 520, .inl (upd (F 1) e sr)))) (A 3) (.inl (1, 520, .inl (upd (F 3) e dl)))) x A w2 (va_up (va_up (va_up F 0 (upd (F 0) e ky)) 1 (upd (F 1) e sr)) 3 (upd (F 3) e dl)) := g2.arr (i := 3) (by omega) _
  have g4 : vs_M z (am_up (am_up (am_up (am_up (am_up h x (vm_o A w2)) (A 0) (.inl (0, 520, .inl (upd (F 0) e ky)))) (A 1) (.inl (0, 520, .inl (upd (F 1) e sr)))) (A 3) (.inl (1, 520, .inl (upd (F 3) e dl)))) (A 2) (.inl (0, 520, .inl (upd (F 2) e vl)))) x A w2 (va_up (va_up (va_up (va_up F 0 (upd (F 0) e ky)) 1 (upd (F 1) e sr)) 3 (upd (F 3) e dl)) 2 (upd (F 2) e vl)) := g3.arr (i := 2) (by omega) _
  have g5 : vs_M z (am_up (am_up (am_up (am_up (am_up (am_up h x (vm_o A w2)) (A 0) (.inl (0, 520, .inl (upd (F 0) e ky)))) (A 1) (.inl (0, 520, .inl (upd (F 1) e sr)))) (A 3) (.inl (1, 520, .inl (upd (F 3) e dl)))) (A 2) (.inl (0, 520, .inl (upd (F 2) e vl)))) (A 4) (.inl (0, 520, .inl (upd (F 4) e ex)))) x A w2 (va_up (va_up (va_up (va_up (va_up F 0 (upd (F 0) e ky)) 1 (upd (F 1) e sr)) 3 (upd (F 3) e dl)) 2 (upd (F 2) e vl)) 4 (upd (F 4) e ex)) := g4.arr (i := 4) (by omega) _
  have g6 : vs_M z (am_up (am_up (am_up (am_up (am_up (am_up (am_up h x (vm_o A w2)) (A 0) (.inl (0, 520, .inl (upd (F 0) e ky)))) (A 1) (.inl (0, 520, .inl (upd (F 1) e sr)))) (A 3) (.inl (1, 520, .inl (upd (F 3) e dl)))) (A 2) (.inl (0, 520, .inl (upd (F 2) e vl)))) (A 4) (.inl (0, 520, .inl (upd (F 4) e ex)))) (A 5) (.inl (0, 520, .inl (upd (F 5) e lv)))) x A w2 (va_up (va_up (va_up (va_up (va_up (va_up F 0 (upd (F 0) e ky)) 1 (upd (F 1) e sr)) 3 (upd (F 3) e dl)) 2 (upd (F 2) e vl)) 4 (upd (F 4) e ex)) 5 (upd (F 5) e lv)) := g5.arr (i := 5) (by omega) _
  have g7 : vs_M z (am_up (am_up (am_up (am_up (am_up (am_up (am_up (am_up h x (vm_o A w2)) (A 0) (.inl (0, 520, .inl (upd (F 0) e ky)))) (A 1) (.inl (0, 520, .inl (upd (F 1) e sr)))) (A 3) (.inl (1, 520, .inl (upd (F 3) e dl)))) (A 2) (.inl (0, 520, .inl (upd (F 2) e vl)))) (A 4) (.inl (0, 520, .inl (upd (F 4) e ex)))) (A 5) (.inl (0, 520, .inl (upd (F 5) e lv)))) (A 7) (.inl (0, 520, .inl (upd (F 7) e sg)))) x A w2 (va_up (va_up (va_up (va_up (va_up (va_up (va_up F 0 (upd (F 0) e ky)) 1 (upd (F 1) e sr)) 3 (upd (F 3) e dl)) 2 (upd (F 2) e vl)) 4 (upd (F 4) e ex)) 5 (upd (F 5) e lv)) 7 (upd (F 7) e sg)) := g6.arr (i := 7) (by omega) _
  have g8 : vs_M z (am_up (am_up (am_up (am_up (am_up (am_up (am_up (am_up (am_up h x (vm_o A w2)) (A 0) (.inl (0, 520, .inl (upd (F 0) e ky)))) (A 1) (.inl (0, 520, .inl (upd (F 1) e sr)))) (A 3) (.inl (1, 520, .inl (upd (F 3) e dl)))) (A 2) (.inl (0, 520, .inl (upd (F 2) e vl)))) (A 4) (.inl (0, 520, .inl (upd (F 4) e ex)))) (A 5) (.inl (0, 520, .inl (upd (F 5) e lv)))) (A 7) (.inl (0, 520, .inl (upd (F 7) e sg)))) (A 8) (.inl (0, 520, .inl (upd (F 8) e ce)))) x A w2 (va_up (va_up (va_up (va_up (va_up (va_up (va_up (va_up F 0 (upd (F 0) e ky)) 1 (upd (F 1) e sr)) 3 (upd (F 3) e dl)) 2 (upd (F 2) e vl)) 4 (upd (F 4) e ex)) 5 (upd (F 5) e lv)) 7 (upd (F 7) e sg)) 8 (upd (F 8) e ce)) := g7.arr (i := 8) (by omega) _
  exact g8
def m_cw (F : Nat → Nat → Int32) (t : Int32) (hd a0 n last : Nat) : Nat → Nat → Nat → Int32
  | 0 => F
  | k + 1 => m_we (m_cw F t hd a0 n last k) (n + k) (F 11 k) (nI (last + k + 1)) (if F 13 k < 0 then 1 else 0) (F 12 k) (if F 13 k ≤ 0 then 0 else t + F 13 k) (-1) (nI hd) (nI (a0 + k))
theorem m_cw_hi (F : Nat → Nat → Int32) (t : Int32) (hd a0 n last : Nat) {i : Nat} (hi : 9 ≤ i) : ∀ k, m_cw F t hd a0 n last k i = F i
  | 0 => rfl
  | k + 1 => by
    rw [m_cw, m_we_hi _ _ _ _ _ _ _ _ _ _ hi]
    exact m_cw_hi F t hd a0 n last hi k

theorem vmo_14 (A : Nat → Nat) (w : Nat → Int32) (s t : Int32) : vm_o A (va_up (va_up w 4 s) 1 t) = .inr (7, [.int (w 0), .int t, .ref (A 0), .ref (A 1), .ref (A 2), .ref (A 3), .ref (A 4), .ref (A 5), .ref (A 6), .ref (A 7), .ref (A 8), .ref (A 9), .ref (A 10), .int (w 2), .int (w 3), .int s, .int (w 5), .ref (A 11), .ref (A 12), .ref (A 13), .ref (A 14), .ref (A 15), .int (w 6), .int (w 7), .ref (A 16), .int (w 8), .ref (A 17), .ref (A 18), .ref (A 19), .int (w 9)]) := rfl
theorem mo_commitLoop (d : Nat) {n last r hd a0 : Nat} (hb : n + r ≤ 520) (hr6 : r ≤ 6) (hlb : last ≤ 5000) (z0 : z ≤ x) (zs : ∀ i, i < 20 → z ≤ A i) : ∀ m k hh (w2 : Nat → Int32) (v3 : Option Value), m + k = r → w2 1 = nI (n + k) → w2 4 = nI (last + k) → w2 5 = nI r → w2 0 = w 0 → w2 7 = nI hd → vs_M z hh x A w2 (m_cw F (w 0) hd a0 n last k) →
    ∃ h', am_R z d 98 127 [some (.ref x), some (.int (nI a0)), some (.int (nI k)), v3] [] hh (some (.int (nI r))) h' ∧ vs_M z h' x A (va_up (va_up (va_up w2 4 (nI (last + r))) 1 (nI (n + r))) 5 0) (m_cw F (w 0) hd a0 n last r) ∧ h'.2 = hh.2 := by
  intro m
  induction m with
  | zero =>
    intro k hh w2 v3 hk h1 h4 h5 h0 h7 hW
    have hkr : k = r := by omega
    subst hkr
    have e1 : nI k ≤ nI k := nI_le (Nat.le_refl _) (by omega)
    have m0 := hW.ob
    have ew : va_up (va_up (va_up w2 4 (nI (last + k))) 1 (nI (n + k))) 5 0 = va_up w2 5 0 := by
      rw [← h4, va_up_id, ← h1, va_up_id]
    rw [ew]
    refine ⟨_, ?_, hW.fld (va_up w2 5 0), rfl⟩
    rw [vmo_5]
    rw [am_R_eq, cxh_98_127]
    simp only [am_R_eq, cx_98, en_98, rt_98, rx_aload_n, rx_bastore, ev_w1, ev_KW, rx_bipush, rx_dup_i, rx_dup_r, rx_getfield, ev_gf, rx_goto, rx_iadd, rx_iaload, rx_iastore, rx_iconst, rx_icmp_ge, rx_icmp_le, rx_icmp_lt, rx_if_eq, rx_if_ge, rx_if_le, rx_if_ne, rx_iinc, ev_inc, rx_iload_n, rx_invv, ev_cv, rx_ireturn, rx_istore_n, rx_isub, rx_putfield, ev_pf, am_fok, am_ftv, kl_99, kl_100, kl_101, kl_112, ev_K, ev_pI, ev_pR, ev_pVi, ev_pVr, ev_sI, ev_sR, ev_KC, ev_k, ev_ko, ev_pop0, ev_pops, am_ld, am_sv, am_at, am_st, am_g, List.length_cons, List.length_nil, Nat.reduceAdd, Nat.reduceLT, Nat.zero_add, if_true, if_false, and_self, true_or, or_true, true_and, and_true, not_true_eq_false, not_false_eq_true, reduceCtorEq, eq_self, Option.toList_some, Option.toList_none, List.cons_append, List.nil_append, Bool.false_eq_true, m0, h5, e1, z0, am_ft7, Nat.reduceLeDiff, beq_self_eq_true]
  | succ m ih =>
    intro k hh w2 v3 hk h1 h4 h5 h0 h7 hW
    have e1 : ¬ nI r ≤ nI k := nI_ge (by omega) (by omega)
    have m0 := hW.ob
    have nes := hW.nes
    have nxs := hW.nxs
    have hW2 := hW.we (va_up (va_up w2 4 (nI (last + k + 1))) 1 (nI (n + k + 1))) (n + k) (F 11 k) (nI (last + k + 1)) (if F 13 k < 0 then 1 else 0) (F 12 k) (if F 13 k ≤ 0 then 0 else w 0 + F 13 k) (-1) (nI hd) (nI (a0 + k))
    have hW3 : vs_M z _ x A _ (m_cw F (w 0) hd a0 n last (k + 1)) := hW2
    obtain ⟨h', i1, i2, i3⟩ := ih (k + 1) _ (va_up (va_up w2 4 (nI (last + k + 1))) 1 (nI (n + k + 1))) (some (.int (nI (n + k)))) (by omega) (by rw [va_up_self]; rfl) (by rw [va_up_ne _ _ (by decide), va_up_self]; rfl) h5 h0 h7 hW3
    have ew : va_up (va_up (va_up (va_up (va_up w2 4 (nI (last + k + 1))) 1 (nI (n + k + 1))) 4 (nI (last + r))) 1 (nI (n + r))) 5 0 = va_up (va_up (va_up w2 4 (nI (last + r))) 1 (nI (n + r))) 5 0 := by
      rw [va_cm2 (va_up w2 4 (nI (last + k + 1))) _ _ (show (1 : Nat) ≠ 4 by decide), bx_uu, bx_uu]
    rw [ew] at i2
    refine ⟨h', ?_, i2, by rw [i3]; rfl⟩
    have kk := fun i (hi : i < 20) => hW.ar i hi
    generalize hG : m_cw F (w 0) hd a0 n last k = G at *
    have g11 : G 11 = F 11 := by rw [← hG]; exact m_cw_hi F _ _ _ _ _ (by omega) k
    have g12 : G 12 = F 12 := by rw [← hG]; exact m_cw_hi F _ _ _ _ _ (by omega) k
    have g13 : G 13 = F 13 := by rw [← hG]; exact m_cw_hi F _ _ _ _ _ (by omega) k
    have k0 : hh.1 (A 0) = some (.inl (0, 520, .inl (G 0))) := kk 0 (by omega)
    have k1 : hh.1 (A 1) = some (.inl (0, 520, .inl (G 1))) := kk 1 (by omega)
    have k2 : hh.1 (A 2) = some (.inl (0, 520, .inl (G 2))) := kk 2 (by omega)
    have k3 : hh.1 (A 3) = some (.inl (1, 520, .inl (G 3))) := kk 3 (by omega)
    have k4 : hh.1 (A 4) = some (.inl (0, 520, .inl (G 4))) := kk 4 (by omega)
    have k5 : hh.1 (A 5) = some (.inl (0, 520, .inl (G 5))) := kk 5 (by omega)
    have k7 : hh.1 (A 7) = some (.inl (0, 520, .inl (G 7))) := kk 7 (by omega)
    have k8 : hh.1 (A 8) = some (.inl (0, 520, .inl (G 8))) := kk 8 (by omega)
    have k11 : hh.1 (A 11) = some (.inl (0, 6, .inl (F 11))) := by rw [← g11]; exact kk 11 (by omega)
    have k12 : hh.1 (A 12) = some (.inl (0, 6, .inl (F 12))) := by rw [← g12]; exact kk 12 (by omega)
    have k13 : hh.1 (A 13) = some (.inl (0, 6, .inl (F 13))) := by rw [← g13]; exact kk 13 (by omega)
    have y0 := zs 0 (by omega)
    have y1 := zs 1 (by omega)
    have y2 := zs 2 (by omega)
    have y3 := zs 3 (by omega)
    have y4 := zs 4 (by omega)
    have y5 := zs 5 (by omega)
    have y7 := zs 7 (by omega)
    have y8 := zs 8 (by omega)
    have ix := m_ri (n := 6) (k := k) (by omega) (by omega)
    have iw := m_wi (n := 520) (k := n + k) (by omega) (by omega)
    unfold m_wh at i1
    rw [vmo_14, h0, h5, h7] at i1
    rw [am_R_eq] at i1
    by_cases c1 : F 13 k < 0
    · have c2 : ¬ 0 ≤ F 13 k := by
        intro q
        rw [Int32.lt_iff_toInt_lt] at c1
        rw [Int32.le_iff_toInt_le] at q
        omega
      have c3 : F 13 k ≤ 0 := by
        rw [Int32.lt_iff_toInt_lt] at c1
        rw [Int32.le_iff_toInt_le]
        omega
      rw [if_pos c1, if_pos c3] at i1
      rw [am_R_eq, cxh_98_127]
      simp only [am_R_eq, cx_98, en_98, rt_98, rx_aload_n, rx_bastore, ev_w1, ev_KW, rx_bipush, rx_dup_i, rx_dup_r, rx_getfield, ev_gf, rx_goto, rx_iadd, rx_iaload, rx_iastore, rx_iconst, rx_icmp_ge, rx_icmp_le, rx_icmp_lt, rx_if_eq, rx_if_ge, rx_if_le, rx_if_ne, rx_iinc, ev_inc, rx_iload_n, rx_invv, ev_cv, rx_ireturn, rx_istore_n, rx_isub, rx_putfield, ev_pf, am_fok, am_ftv, kl_99, kl_100, kl_101, kl_112, ev_K, ev_pI, ev_pR, ev_pVi, ev_pVr, ev_sI, ev_sR, ev_KC, ev_k, ev_ko, ev_pop0, ev_pops, am_ld, am_sv, am_at, am_st, am_g, List.length_cons, List.length_nil, Nat.reduceAdd, Nat.reduceLT, Nat.zero_add, if_true, if_false, and_self, true_or, or_true, true_and, and_true, not_true_eq_false, not_false_eq_true, reduceCtorEq, eq_self, Option.toList_some, Option.toList_none, List.cons_append, List.nil_append, Bool.false_eq_true, m0, h5, h1, h4, h0, h7, e1, z0, am_ft7, nI_ofs, nI_add, nes, nxs, k0, k1, k2, k3, k4, k5, k7, k8, k11, k12, k13, y0, y1, y2, y3, y4, y5, y7, y8, ix, iw, c1, c2, c3, b11, am_up_at, am_up_ne, am_up_up, ne_eq, not_false_eq_true, Nat.reduceLeDiff, beq_self_eq_true]
      exact i1
    · have c2 : 0 ≤ F 13 k := by
        rw [Int32.lt_iff_toInt_lt] at c1
        rw [Int32.le_iff_toInt_le]
        omega
      rw [if_neg c1] at i1
      by_cases c3 : F 13 k ≤ 0
      · rw [if_pos c3] at i1
        rw [am_R_eq, cxh_98_127]
        simp only [am_R_eq, cx_98, en_98, rt_98, rx_aload_n, rx_bastore, ev_w1, ev_KW, rx_bipush, rx_dup_i, rx_dup_r, rx_getfield, ev_gf, rx_goto, rx_iadd, rx_iaload, rx_iastore, rx_iconst, rx_icmp_ge, rx_icmp_le, rx_icmp_lt, rx_if_eq, rx_if_ge, rx_if_le, rx_if_ne, rx_iinc, ev_inc, rx_iload_n, rx_invv, ev_cv, rx_ireturn, rx_istore_n, rx_isub, rx_putfield, ev_pf, am_fok, am_ftv, kl_99, kl_100, kl_101, kl_112, ev_K, ev_pI, ev_pR, ev_pVi, ev_pVr, ev_sI, ev_sR, ev_KC, ev_k, ev_ko, ev_pop0, ev_pops, am_ld, am_sv, am_at, am_st, am_g, List.length_cons, List.length_nil, Nat.reduceAdd, Nat.reduceLT, Nat.zero_add, if_true, if_false, and_self, true_or, or_true, true_and, and_true, not_true_eq_false, not_false_eq_true, reduceCtorEq, eq_self, Option.toList_some, Option.toList_none, List.cons_append, List.nil_append, Bool.false_eq_true, m0, h5, h1, h4, h0, h7, e1, z0, am_ft7, nI_ofs, nI_add, nes, nxs, k0, k1, k2, k3, k4, k5, k7, k8, k11, k12, k13, y0, y1, y2, y3, y4, y5, y7, y8, ix, iw, c1, c2, c3, b00, am_up_at, am_up_ne, am_up_up, ne_eq, not_false_eq_true, Nat.reduceLeDiff, beq_self_eq_true]
        exact i1
      · rw [if_neg c3] at i1
        rw [am_R_eq, cxh_98_127]
        simp only [am_R_eq, cx_98, en_98, rt_98, rx_aload_n, rx_bastore, ev_w1, ev_KW, rx_bipush, rx_dup_i, rx_dup_r, rx_getfield, ev_gf, rx_goto, rx_iadd, rx_iaload, rx_iastore, rx_iconst, rx_icmp_ge, rx_icmp_le, rx_icmp_lt, rx_if_eq, rx_if_ge, rx_if_le, rx_if_ne, rx_iinc, ev_inc, rx_iload_n, rx_invv, ev_cv, rx_ireturn, rx_istore_n, rx_isub, rx_putfield, ev_pf, am_fok, am_ftv, kl_99, kl_100, kl_101, kl_112, ev_K, ev_pI, ev_pR, ev_pVi, ev_pVr, ev_sI, ev_sR, ev_KC, ev_k, ev_ko, ev_pop0, ev_pops, am_ld, am_sv, am_at, am_st, am_g, List.length_cons, List.length_nil, Nat.reduceAdd, Nat.reduceLT, Nat.zero_add, if_true, if_false, and_self, true_or, or_true, true_and, and_true, not_true_eq_false, not_false_eq_true, reduceCtorEq, eq_self, Option.toList_some, Option.toList_none, List.cons_append, List.nil_append, Bool.false_eq_true, m0, h5, h1, h4, h0, h7, e1, z0, am_ft7, nI_ofs, nI_add, nes, nxs, k0, k1, k2, k3, k4, k5, k7, k8, k11, k12, k13, y0, y1, y2, y3, y4, y5, y7, y8, ix, iw, c1, c2, c3, b00, am_up_at, am_up_ne, am_up_up, ne_eq, not_false_eq_true, Nat.reduceLeDiff, beq_self_eq_true]
        exact i1
end MX
