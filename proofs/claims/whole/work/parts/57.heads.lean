section NA
variable {z : Nat} {h : am_H} {x : Nat} {A : Nat → Nat} {w : Nat → Int32} {F : Nat → Nat → Int32}
def m_hf : Nat → Nat → Nat → Nat → Nat
  | 0, s, _, _ => s
  | q + 1, s, f, l => if l = 0 then s else if 16 < f + (1 + min l 6) then m_hf q (s + 1) (1 + min l 6) (l - 6) else m_hf q s (f + (1 + min l 6)) (l - 6)
theorem mo_headsFor (d : Nat) {hd u v : Nat} (hh : w 7 = nI hd) (hb : hd ≤ 10000) (hu : F 16 (hd % 8) = nI u) (hub : u ≤ 16) (hv : v ≤ 100) (hM : vs_M z h x A w F) : am_M z (d + 1) 119 [.ref x, .int (nI v)] h (some (.int (nI (m_hf (v + 1) 0 u v)))) h := by
  have m0 := hM.ob
  have k16 : h.1 (A 16) = some (.inl (0, 8, .inl (F 16))) := hM.ar 16 (by omega)
  have er : nI hd - nI hd / 8 * 8 = nI (hd % 8) := pk_rem (a := hd) (d := 8) (by omega) (by omega) (by omega)
  have ix := m_ri (n := 8) (k := hd % 8) (by omega) (by omega)
  have loop : ∀ q segs fill l y (w5 : Option Value), l < q → segs ≤ 1000 - q → q ≤ 101 → fill ≤ 16 → (l = 0 → y ≤ 0) → (0 < l → y = nI l) → am_R z d 119 18 [some (.ref x), some (.int (nI v)), some (.int (nI segs)), some (.int (nI fill)), some (.int y), w5] [] h (some (.int (nI (m_hf q segs fill l)))) h := by
    intro q
    induction q with
    | zero => intro segs fill l y w5 hl; omega
    | succ q ih =>
      intro segs fill l y w5 hlq hs hq hr hx0 hx1
      by_cases hl0 : l = 0
      · have e1 : y ≤ 0 := hx0 hl0
        have e2 : m_hf (q + 1) segs fill l = segs := by simp [m_hf, hl0]
        rw [e2]
        rw [am_R_eq, cxh_119_18]
        simp only [am_R_eq, cx_119, en_119, rt_119, rx_aload_n, rx_bipush, rx_getfield, ev_gf, rx_goto, rx_iadd, rx_iaload, rx_iconst, rx_icmp_ge, rx_icmp_le, rx_if_le, rx_iinc, ev_inc, rx_iload, rx_iload_n, rx_irem, rx_ireturn, rx_istore, rx_istore_n, rx_isub, ev_K, ev_pI, ev_pR, ev_pVi, ev_pVr, ev_sI, ev_sR, ev_KC, ev_k, ev_ko, ev_pop0, ev_pops, am_ld, am_sv, am_at, am_st, am_g, List.length_cons, List.length_nil, Nat.reduceAdd, Nat.reduceLT, Nat.zero_add, if_true, if_false, and_self, true_or, or_true, true_and, and_true, not_true_eq_false, not_false_eq_true, reduceCtorEq, eq_self, Option.toList_some, Option.toList_none, List.cons_append, List.nil_append, Bool.false_eq_true, e1]
      · have hx := hx1 (by omega)
        subst hx
        have e1 : ¬ nI l ≤ 0 := nI_nle (by omega) (by omega)
        have hnx : (l - 6 = 0 → nI l - 6 ≤ 0) ∧ (0 < l - 6 → nI l - 6 = nI (l - 6)) := by
          have e : nI l - 6 = nI l - nI 6 := rfl
          constructor
          · intro g
            rw [e]
            have hh : (nI l - nI 6).toInt = (l : Int) - 6 := pk_sub_toInt (by omega) (by omega)
            rw [Int32.le_iff_toInt_le, hh]
            have : (0 : Int32).toInt = 0 := by decide
            omega
          · intro g
            rw [e, pk_sub (by omega)]
        have e4 : (1 : Int32) + nI (min l 6) = nI (1 + min l 6) := by rw [show (1 : Int32) = nI 1 from rfl, nI_add]
        have e5 : nI fill + nI (1 + min l 6) = nI (fill + (1 + min l 6)) := nI_add _ _
        have e6 : (0 : Int32) + nI (1 + min l 6) = nI (1 + min l 6) := by rw [show (0 : Int32) = nI 0 from rfl, nI_add, Nat.zero_add]
        have go : ∀ (s2 f2 : Nat), m_hf (q + 1) segs fill l = m_hf q s2 f2 (l - 6) → s2 ≤ 1000 - q → f2 ≤ 16 → ((16 < fill + (1 + min l 6) ∧ s2 = segs + 1 ∧ f2 = 1 + min l 6) ∨ (¬ 16 < fill + (1 + min l 6) ∧ s2 = segs ∧ f2 = fill + (1 + min l 6))) → am_R z d 119 18 [some (.ref x), some (.int (nI v)), some (.int (nI segs)), some (.int (nI fill)), some (.int (nI l)), w5] [] h (some (.int (nI (m_hf (q + 1) segs fill l)))) h := by
          intro s2 f2 e2 hs2 hf2 hcase
          have ih1 := ih s2 f2 (l - 6) (nI l - 6) (some (.int (nI (1 + min l 6)))) (by omega) (by omega) (by omega) hf2 hnx.1 hnx.2
          rw [am_R_eq] at ih1
          rw [e2]
          have a1 : (6 : Int32) = nI 6 := rfl
          rcases hcase with ⟨c1, c2, c3⟩ | ⟨c1, c2, c3⟩
          · subst c2 c3
            have c4 : ¬ nI (fill + (1 + min l 6)) ≤ 16 := nI_ge (a := 16) c1 (by omega)
            by_cases c5 : 6 ≤ l
            · have c6 : (6 : Int32) ≤ nI l := nI_le (a := 6) c5 (by omega)
              have em : min l 6 = 6 := by omega
              have e4' : (1 : Int32) + 6 = nI (1 + min l 6) := by rw [em]; rfl
              rw [am_R_eq, cxh_119_18]
              simp only [am_R_eq, cx_119, en_119, rt_119, rx_aload_n, rx_bipush, rx_getfield, ev_gf, rx_goto, rx_iadd, rx_iaload, rx_iconst, rx_icmp_ge, rx_icmp_le, rx_if_le, rx_iinc, ev_inc, rx_iload, rx_iload_n, rx_irem, rx_ireturn, rx_istore, rx_istore_n, rx_isub, ev_K, ev_pI, ev_pR, ev_pVi, ev_pVr, ev_sI, ev_sR, ev_KC, ev_k, ev_ko, ev_pop0, ev_pops, am_ld, am_sv, am_at, am_st, am_g, List.length_cons, List.length_nil, Nat.reduceAdd, Nat.reduceLT, Nat.zero_add, if_true, if_false, and_self, true_or, or_true, true_and, and_true, not_true_eq_false, not_false_eq_true, reduceCtorEq, eq_self, Option.toList_some, Option.toList_none, List.cons_append, List.nil_append, Bool.false_eq_true, e1, c6, e4', e5, c4, e6, nI_ofs]
              exact ih1
            · have c6 : ¬ (6 : Int32) ≤ nI l := nI_ge (b := 6) (by omega) (by omega)
              have em : min l 6 = l := by omega
              have e4' : (1 : Int32) + nI l = nI (1 + min l 6) := by rw [em]; rw [em] at e4; exact e4
              rw [am_R_eq, cxh_119_18]
              simp only [am_R_eq, cx_119, en_119, rt_119, rx_aload_n, rx_bipush, rx_getfield, ev_gf, rx_goto, rx_iadd, rx_iaload, rx_iconst, rx_icmp_ge, rx_icmp_le, rx_if_le, rx_iinc, ev_inc, rx_iload, rx_iload_n, rx_irem, rx_ireturn, rx_istore, rx_istore_n, rx_isub, ev_K, ev_pI, ev_pR, ev_pVi, ev_pVr, ev_sI, ev_sR, ev_KC, ev_k, ev_ko, ev_pop0, ev_pops, am_ld, am_sv, am_at, am_st, am_g, List.length_cons, List.length_nil, Nat.reduceAdd, Nat.reduceLT, Nat.zero_add, if_true, if_false, and_self, true_or, or_true, true_and, and_true, not_true_eq_false, not_false_eq_true, reduceCtorEq, eq_self, Option.toList_some, Option.toList_none, List.cons_append, List.nil_append, Bool.false_eq_true, e1, c6, e4', e5, c4, e6, nI_ofs]
              exact ih1
          · subst c2 c3
            have c4 : nI (fill + (1 + min l 6)) ≤ 16 := nI_le (b := 16) (by omega) (by omega)
            by_cases c5 : 6 ≤ l
            · have c6 : (6 : Int32) ≤ nI l := nI_le (a := 6) c5 (by omega)
              have em : min l 6 = 6 := by omega
              have e4' : (1 : Int32) + 6 = nI (1 + min l 6) := by rw [em]; rfl
              rw [am_R_eq, cxh_119_18]
              simp only [am_R_eq, cx_119, en_119, rt_119, rx_aload_n, rx_bipush, rx_getfield, ev_gf, rx_goto, rx_iadd, rx_iaload, rx_iconst, rx_icmp_ge, rx_icmp_le, rx_if_le, rx_iinc, ev_inc, rx_iload, rx_iload_n, rx_irem, rx_ireturn, rx_istore, rx_istore_n, rx_isub, ev_K, ev_pI, ev_pR, ev_pVi, ev_pVr, ev_sI, ev_sR, ev_KC, ev_k, ev_ko, ev_pop0, ev_pops, am_ld, am_sv, am_at, am_st, am_g, List.length_cons, List.length_nil, Nat.reduceAdd, Nat.reduceLT, Nat.zero_add, if_true, if_false, and_self, true_or, or_true, true_and, and_true, not_true_eq_false, not_false_eq_true, reduceCtorEq, eq_self, Option.toList_some, Option.toList_none, List.cons_append, List.nil_append, Bool.false_eq_true, e1, c6, e4', e5, c4]
              exact ih1
            · have c6 : ¬ (6 : Int32) ≤ nI l := nI_ge (b := 6) (by omega) (by omega)
              have em : min l 6 = l := by omega
              have e4' : (1 : Int32) + nI l = nI (1 + min l 6) := by rw [em]; rw [em] at e4; exact e4
              rw [am_R_eq, cxh_119_18]
              simp only [am_R_eq, cx_119, en_119, rt_119, rx_aload_n, rx_bipush, rx_getfield, ev_gf, rx_goto, rx_iadd, rx_iaload, rx_iconst, rx_icmp_ge, rx_icmp_le, rx_if_le, rx_iinc, ev_inc, rx_iload, rx_iload_n, rx_irem, rx_ireturn, rx_istore, rx_istore_n, rx_isub, ev_K, ev_pI, ev_pR, ev_pVi, ev_pVr, ev_sI, ev_sR, ev_KC, ev_k, ev_ko, ev_pop0, ev_pops, am_ld, am_sv, am_at, am_st, am_g, List.length_cons, List.length_nil, Nat.reduceAdd, Nat.reduceLT, Nat.zero_add, if_true, if_false, and_self, true_or, or_true, true_and, and_true, not_true_eq_false, not_false_eq_true, reduceCtorEq, eq_self, Option.toList_some, Option.toList_none, List.cons_append, List.nil_append, Bool.false_eq_true, e1, c6, e4', e5, c4]
              exact ih1
        by_cases c1 : 16 < fill + (1 + min l 6)
        · exact go (segs + 1) (1 + min l 6) (by rw [m_hf, if_neg hl0, if_pos c1]) (by omega) (by omega) (Or.inl ⟨c1, rfl, rfl⟩)
        · exact go segs (fill + (1 + min l 6)) (by rw [m_hf, if_neg hl0, if_neg c1]) (by omega) (by omega) (Or.inr ⟨c1, rfl, rfl⟩)
  have i1 := loop (v + 1) 0 u v (nI v) none (by omega) (by omega) (by omega) hub (fun q => by subst q; decide) (fun _ => rfl)
  rw [am_R_eq] at i1
  have z0 : nI 0 = 0 := rfl
  rw [z0] at i1
  rw [am_M_eq]
  simp only [am_R_eq, cx_119, en_119, rt_119, rx_aload_n, rx_bipush, rx_getfield, ev_gf, rx_goto, rx_iadd, rx_iaload, rx_iconst, rx_icmp_ge, rx_icmp_le, rx_if_le, rx_iinc, ev_inc, rx_iload, rx_iload_n, rx_irem, rx_ireturn, rx_istore, rx_istore_n, rx_isub, ev_K, ev_pI, ev_pR, ev_pVi, ev_pVr, ev_sI, ev_sR, ev_KC, ev_k, ev_ko, ev_pop0, ev_pops, am_ld, am_sv, am_at, am_st, am_g, List.length_cons, List.length_nil, Nat.reduceAdd, Nat.reduceLT, Nat.zero_add, if_true, if_false, and_self, true_or, or_true, true_and, and_true, not_true_eq_false, not_false_eq_true, reduceCtorEq, eq_self, Option.toList_some, Option.toList_none, List.cons_append, List.nil_append, Bool.false_eq_true, m0, hh, k16, er, i_8, ix, hu]
  exact i1
theorem m_cn_one {P Q : Nat → Bool} {e : Nat} (hQ : ∀ i, i ≠ e → Q i = P i) (h1 : P e = true) (h2 : Q e = false) : ∀ n, e < n → m_cn Q n + 1 = m_cn P n
  | 0, h => absurd h (Nat.not_lt_zero _)
  | n + 1, h => by
    rw [m_cn, m_cn]
    by_cases hen : e = n
    · subst hen
      have hsame : ∀ k, k ≤ e → m_cn Q k = m_cn P k := by
        intro k
        induction k with
        | zero => intro _; rfl
        | succ k ih =>
          intro hk
          rw [m_cn, m_cn, ih (by omega), hQ k (by omega)]
      rw [hsame e (Nat.le_refl _), h1, h2]
      simp
    · have := m_cn_one hQ h1 h2 n (by omega)
      rw [hQ n (by omega)]
      omega
theorem m_arg_ex (P : Nat → Bool) (bt : Nat → Nat → Bool) : ∀ n, 0 < m_cn P n → ∃ e, m_arg P bt n = some e
  | 0, h => absurd h (Nat.not_lt_zero _)
  | n + 1, h => by
    rw [m_cn] at h
    by_cases hP : P n = true
    · cases ho : m_arg P bt n with
      | none => exact ⟨n, m_arg_N _ _ hP ho⟩
      | some b =>
        by_cases hq : bt n b = true
        · exact ⟨n, m_arg_B _ _ hP ho hq⟩
        · exact ⟨b, m_arg_K _ _ hP ho hq⟩
    · rw [if_neg hP] at h
      obtain ⟨e, he⟩ := m_arg_ex P bt n (by omega)
      exact ⟨e, by rw [m_arg_F _ _ hP]; exact he⟩
end NA
