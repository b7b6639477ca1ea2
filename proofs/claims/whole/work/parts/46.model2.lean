section MP
variable {z : Nat} {h : am_H} {x : Nat} {A : Nat → Nat} {w : Nat → Int32} {F : Nat → Nat → Int32}
def m_arg (P : Nat → Bool) (bt : Nat → Nat → Bool) : Nat → Option Nat
  | 0 => none
  | n + 1 => if P n = true then (match m_arg P bt n with
    | none => some n
    | some b => if bt n b = true then some n else some b) else m_arg P bt n
def m_oi (o : Option Nat) : Int32 := match o with
  | none => -1
  | some b => nI b
theorem m_arg_lt (P : Nat → Bool) (bt : Nat → Nat → Bool) : ∀ n b, m_arg P bt n = some b → b < n ∧ P b = true
  | 0, b, hb => by cases hb
  | n + 1, b, hb => by
    have ih := m_arg_lt P bt n
    rw [m_arg] at hb
    split at hb
    · rename_i hP
      cases ho : m_arg P bt n with
      | none => rw [ho] at hb; cases hb; exact ⟨by omega, hP⟩
      | some c =>
        rw [ho] at hb
        dsimp only at hb
        split at hb
        · cases hb; exact ⟨by omega, hP⟩
        · cases hb
          have := ih _ ho
          exact ⟨by omega, this.2⟩
    · have := ih b hb
      exact ⟨by omega, this.2⟩
theorem m_arg_F (P : Nat → Bool) (bt : Nat → Nat → Bool) {n : Nat} (hP : ¬ P n = true) : m_arg P bt (n + 1) = m_arg P bt n := by rw [m_arg, if_neg hP]
theorem m_arg_N (P : Nat → Bool) (bt : Nat → Nat → Bool) {n : Nat} (hP : P n = true) (ho : m_arg P bt n = none) : m_arg P bt (n + 1) = some n := by rw [m_arg, if_pos hP, ho]
theorem m_arg_B (P : Nat → Bool) (bt : Nat → Nat → Bool) {n b : Nat} (hP : P n = true) (ho : m_arg P bt n = some b) (hb : bt n b = true) : m_arg P bt (n + 1) = some n := by
  rw [m_arg, if_pos hP, ho]
  exact if_pos hb
theorem m_arg_K (P : Nat → Bool) (bt : Nat → Nat → Bool) {n b : Nat} (hP : P n = true) (ho : m_arg P bt n = some b) (hb : ¬ bt n b = true) : m_arg P bt (n + 1) = some b := by
  rw [m_arg, if_pos hP, ho]
  exact if_neg hb
theorem m1_neg : (-1 : Int32) < 0 := by decide
def m_abP (F : Nat → Nat → Int32) (e f : Nat) : Bool := !decide (F 9 f = 0) && (decide (F 0 f = F 0 e) && !decide (F 1 f ≤ F 1 e))
def m_lo (F : Nat → Nat → Int32) (f b : Nat) : Bool := !decide (F 1 b ≤ F 1 f)
theorem mo_above (d : Nat) {n e : Nat} (hn : w 1 = nI n) (hb : n ≤ 520) (he : e < 520) (hM : vs_M z h x A w F) : am_M z (d + 1) 105 [.ref x, .int (nI e)] h (some (.int (m_oi (m_arg (m_abP F e) (m_lo F) n)))) h := by
  obtain ⟨k0, k1, k2, k3, k4, k5, k6, k7, k8, k9, -⟩ := hM.all
  have m0 := hM.ob
  have ie := m_ix he
  have loop : ∀ m k (v4 : Option Value), m + k = n → am_R z d 105 4 [some (.ref x), some (.int (nI e)), some (.int (m_oi (m_arg (m_abP F e) (m_lo F) k))), some (.int (nI k)), v4] [] h (some (.int (m_oi (m_arg (m_abP F e) (m_lo F) n)))) h := by
    intro m
    induction m with
    | zero =>
      intro k v4 hk
      have hkn : k = n := by omega
      subst hkn
      have e1 : nI k ≤ nI k := nI_le (Nat.le_refl _) (by omega)
      rw [am_R_eq, cxh_105_4]
      simp only [am_R_eq, cx_105, en_105, rt_105, rx_aload_n, rx_baload, rx_getfield, ev_gf, rx_goto, rx_iaload, rx_iconst, rx_icmp_ge, rx_icmp_le, rx_icmp_ne, rx_if_eq, rx_if_lt, rx_iinc, ev_inc, rx_iload, rx_iload_n, rx_ireturn, rx_istore, rx_istore_n, ev_K, ev_pI, ev_pR, ev_pVi, ev_pVr, ev_sI, ev_sR, ev_KC, ev_k, ev_ko, ev_pop0, ev_pops, am_ld, am_sv, am_at, am_st, am_g, List.length_cons, List.length_nil, Nat.reduceAdd, Nat.reduceLT, Nat.zero_add, if_true, if_false, and_self, true_or, or_true, true_and, and_true, not_true_eq_false, not_false_eq_true, reduceCtorEq, eq_self, Option.toList_some, Option.toList_none, List.cons_append, List.nil_append, Bool.false_eq_true, m0, hn, e1]
    | succ m ih =>
      intro k v4 hk
      have e1 : ¬ nI n ≤ nI k := nI_ge (by omega) (by omega)
      have ix := m_ix (k := k) (by omega)
      by_cases hP : m_abP F e k = true
      · have i1 := ih (k + 1) (some (.int 1)) (by omega)
        have hQ := hP
        unfold m_abP at hQ
        rw [Bool.and_eq_true, Bool.and_eq_true, Bool.not_eq_true', Bool.not_eq_true', decide_eq_false_iff_not, decide_eq_false_iff_not, decide_eq_true_iff] at hQ
        obtain ⟨c1, c2, c3⟩ := hQ
        cases ho : m_arg (m_abP F e) (m_lo F) k with
        | none =>
          rw [m_arg_N _ _ hP ho, am_R_eq] at i1
          rw [am_R_eq, cxh_105_4]
          simp only [am_R_eq, cx_105, en_105, rt_105, rx_aload_n, rx_baload, rx_getfield, ev_gf, rx_goto, rx_iaload, rx_iconst, rx_icmp_ge, rx_icmp_le, rx_icmp_ne, rx_if_eq, rx_if_lt, rx_iinc, ev_inc, rx_iload, rx_iload_n, rx_ireturn, rx_istore, rx_istore_n, ev_K, ev_pI, ev_pR, ev_pVi, ev_pVr, ev_sI, ev_sR, ev_KC, ev_k, ev_ko, ev_pop0, ev_pops, am_ld, am_sv, am_at, am_st, am_g, List.length_cons, List.length_nil, Nat.reduceAdd, Nat.reduceLT, Nat.zero_add, if_true, if_false, and_self, true_or, or_true, true_and, and_true, not_true_eq_false, not_false_eq_true, reduceCtorEq, eq_self, Option.toList_some, Option.toList_none, List.cons_append, List.nil_append, Bool.false_eq_true, m0, hn, e1, k9, k0, k1, ix, ie, c1, c2, c3, i_10, m_oi, m1_neg, nI_ofs]
          exact i1
        | some b =>
          have hlt := (m_arg_lt _ _ _ _ ho).1
          have ib := m_ix (k := b) (by omega)
          have nb : ¬ nI b < 0 := nI_pos (by omega)
          by_cases hq : m_lo F k b = true
          · rw [m_arg_B _ _ hP ho hq, am_R_eq] at i1
            have c4 : ¬ F 1 b ≤ F 1 k := by
              unfold m_lo at hq
              rw [Bool.not_eq_true', decide_eq_false_iff_not] at hq
              exact hq
            rw [am_R_eq, cxh_105_4]
            simp only [am_R_eq, cx_105, en_105, rt_105, rx_aload_n, rx_baload, rx_getfield, ev_gf, rx_goto, rx_iaload, rx_iconst, rx_icmp_ge, rx_icmp_le, rx_icmp_ne, rx_if_eq, rx_if_lt, rx_iinc, ev_inc, rx_iload, rx_iload_n, rx_ireturn, rx_istore, rx_istore_n, ev_K, ev_pI, ev_pR, ev_pVi, ev_pVr, ev_sI, ev_sR, ev_KC, ev_k, ev_ko, ev_pop0, ev_pops, am_ld, am_sv, am_at, am_st, am_g, List.length_cons, List.length_nil, Nat.reduceAdd, Nat.reduceLT, Nat.zero_add, if_true, if_false, and_self, true_or, or_true, true_and, and_true, not_true_eq_false, not_false_eq_true, reduceCtorEq, eq_self, Option.toList_some, Option.toList_none, List.cons_append, List.nil_append, Bool.false_eq_true, m0, hn, e1, k9, k0, k1, ix, ie, ib, nb, c1, c2, c3, c4, i_10, m_oi, nI_ofs]
            exact i1
          · rw [m_arg_K _ _ hP ho hq, am_R_eq] at i1
            have c4 : F 1 b ≤ F 1 k := by
              unfold m_lo at hq
              rw [Bool.not_eq_true', decide_eq_false_iff_not] at hq
              exact Classical.not_not.mp hq
            rw [am_R_eq, cxh_105_4]
            simp only [am_R_eq, cx_105, en_105, rt_105, rx_aload_n, rx_baload, rx_getfield, ev_gf, rx_goto, rx_iaload, rx_iconst, rx_icmp_ge, rx_icmp_le, rx_icmp_ne, rx_if_eq, rx_if_lt, rx_iinc, ev_inc, rx_iload, rx_iload_n, rx_ireturn, rx_istore, rx_istore_n, ev_K, ev_pI, ev_pR, ev_pVi, ev_pVr, ev_sI, ev_sR, ev_KC, ev_k, ev_ko, ev_pop0, ev_pops, am_ld, am_sv, am_at, am_st, am_g, List.length_cons, List.length_nil, Nat.reduceAdd, Nat.reduceLT, Nat.zero_add, if_true, if_false, and_self, true_or, or_true, true_and, and_true, not_true_eq_false, not_false_eq_true, reduceCtorEq, eq_self, Option.toList_some, Option.toList_none, List.cons_append, List.nil_append, Bool.false_eq_true, m0, hn, e1, k9, k0, k1, ix, ie, ib, nb, c1, c2, c3, c4, i_10, m_oi, nI_ofs]
            exact i1
      · have i1 := ih (k + 1) (some (.int 0)) (by omega)
        rw [m_arg_F _ _ hP, am_R_eq] at i1
        by_cases c1 : F 9 k = 0
        · rw [am_R_eq, cxh_105_4]
          simp only [am_R_eq, cx_105, en_105, rt_105, rx_aload_n, rx_baload, rx_getfield, ev_gf, rx_goto, rx_iaload, rx_iconst, rx_icmp_ge, rx_icmp_le, rx_icmp_ne, rx_if_eq, rx_if_lt, rx_iinc, ev_inc, rx_iload, rx_iload_n, rx_ireturn, rx_istore, rx_istore_n, ev_K, ev_pI, ev_pR, ev_pVi, ev_pVr, ev_sI, ev_sR, ev_KC, ev_k, ev_ko, ev_pop0, ev_pops, am_ld, am_sv, am_at, am_st, am_g, List.length_cons, List.length_nil, Nat.reduceAdd, Nat.reduceLT, Nat.zero_add, if_true, if_false, and_self, true_or, or_true, true_and, and_true, not_true_eq_false, not_false_eq_true, reduceCtorEq, eq_self, Option.toList_some, Option.toList_none, List.cons_append, List.nil_append, Bool.false_eq_true, m0, hn, e1, k9, k0, k1, ix, ie, c1, nI_ofs]
          exact i1
        · by_cases c2 : F 0 k = F 0 e
          · have c3 : F 1 k ≤ F 1 e := by
              apply Classical.byContradiction
              intro q
              apply hP
              unfold m_abP
              simp [c1, c2, q]
            rw [am_R_eq, cxh_105_4]
            simp only [am_R_eq, cx_105, en_105, rt_105, rx_aload_n, rx_baload, rx_getfield, ev_gf, rx_goto, rx_iaload, rx_iconst, rx_icmp_ge, rx_icmp_le, rx_icmp_ne, rx_if_eq, rx_if_lt, rx_iinc, ev_inc, rx_iload, rx_iload_n, rx_ireturn, rx_istore, rx_istore_n, ev_K, ev_pI, ev_pR, ev_pVi, ev_pVr, ev_sI, ev_sR, ev_KC, ev_k, ev_ko, ev_pop0, ev_pops, am_ld, am_sv, am_at, am_st, am_g, List.length_cons, List.length_nil, Nat.reduceAdd, Nat.reduceLT, Nat.zero_add, if_true, if_false, and_self, true_or, or_true, true_and, and_true, not_true_eq_false, not_false_eq_true, reduceCtorEq, eq_self, Option.toList_some, Option.toList_none, List.cons_append, List.nil_append, Bool.false_eq_true, m0, hn, e1, k9, k0, k1, ix, ie, c1, c2, c3, nI_ofs]
            exact i1
          · rw [am_R_eq, cxh_105_4]
            simp only [am_R_eq, cx_105, en_105, rt_105, rx_aload_n, rx_baload, rx_getfield, ev_gf, rx_goto, rx_iaload, rx_iconst, rx_icmp_ge, rx_icmp_le, rx_icmp_ne, rx_if_eq, rx_if_lt, rx_iinc, ev_inc, rx_iload, rx_iload_n, rx_ireturn, rx_istore, rx_istore_n, ev_K, ev_pI, ev_pR, ev_pVi, ev_pVr, ev_sI, ev_sR, ev_KC, ev_k, ev_ko, ev_pop0, ev_pops, am_ld, am_sv, am_at, am_st, am_g, List.length_cons, List.length_nil, Nat.reduceAdd, Nat.reduceLT, Nat.zero_add, if_true, if_false, and_self, true_or, or_true, true_and, and_true, not_true_eq_false, not_false_eq_true, reduceCtorEq, eq_self, Option.toList_some, Option.toList_none, List.cons_append, List.nil_append, Bool.false_eq_true, m0, hn, e1, k9, k0, k1, ix, ie, c1, c2, nI_ofs]
            exact i1
  have i1 := loop n 0 none rfl
  rw [am_R_eq] at i1
  have z0 : nI 0 = 0 := rfl
  have z1 : m_oi (m_arg (m_abP F e) (m_lo F) 0) = -1 := rfl
  rw [z1, z0] at i1
  rw [am_M_eq]
  simp only [am_R_eq, cx_105, en_105, rt_105, rx_aload_n, rx_baload, rx_getfield, ev_gf, rx_goto, rx_iaload, rx_iconst, rx_icmp_ge, rx_icmp_le, rx_icmp_ne, rx_if_eq, rx_if_lt, rx_iinc, ev_inc, rx_iload, rx_iload_n, rx_ireturn, rx_istore, rx_istore_n, ev_K, ev_pI, ev_pR, ev_pVi, ev_pVr, ev_sI, ev_sR, ev_KC, ev_k, ev_ko, ev_pop0, ev_pops, am_ld, am_sv, am_at, am_st, am_g, List.length_cons, List.length_nil, Nat.reduceAdd, Nat.reduceLT, Nat.zero_add, if_true, if_false, and_self, true_or, or_true, true_and, and_true, not_true_eq_false, not_false_eq_true, reduceCtorEq, eq_self, Option.toList_some, Option.toList_none, List.cons_append, List.nil_append, Bool.false_eq_true]
  exact i1
def m_pt (F : Nat → Nat → Int32) (e f : Nat) : Nat → Bool
  | 0 => false
  | s + 1 => m_pt F e f s || (!decide (F 14 s = 0) && (!decide (F 15 s < F 1 e) && !decide (F 1 f ≤ F 15 s)))
theorem mo_parted (d : Nat) {e f : Nat} (he : e < 520) (hf : f < 520) (hM : vs_M z h x A w F) : am_M z (d + 1) 106 [.ref x, .int (nI e), .int (nI f)] h (some (.int (if m_pt F e f 3 = true then 1 else 0))) h := by
  obtain ⟨k0, k1, k2, k3, k4, k5, k6, k7, k8, k9, k10, k11, k12, k13, k14, k15, -⟩ := hM.all
  have m0 := hM.ob
  have ie := m_ix he
  have jf := m_ix hf
  have loop : ∀ m k, m + k = 3 → am_R z d 106 5 [some (.ref x), some (.int (nI e)), some (.int (nI f)), some (.int (if m_pt F e f k = true then 1 else 0)), some (.int (nI k))] [] h (some (.int (if m_pt F e f 3 = true then 1 else 0))) h := by
    intro m
    induction m with
    | zero =>
      intro k hk
      have hkn : k = 3 := by omega
      subst hkn
      have e1 : (3 : Int32) ≤ nI 3 := by decide
      rw [am_R_eq, cxh_106_5]
      by_cases hq : m_pt F e f 3 = true
      · simp only [am_R_eq, cx_106, en_106, rt_106, rx_aload_n, rx_baload, rx_getfield, ev_gf, rx_goto, rx_iaload, rx_iconst, rx_icmp_ge, rx_icmp_gt, rx_if_eq, rx_if_ne, rx_iinc, ev_inc, rx_iload, rx_iload_n, rx_ireturn, rx_istore, rx_istore_n, ev_K, ev_pI, ev_pR, ev_pVi, ev_pVr, ev_sI, ev_sR, ev_KC, ev_k, ev_ko, ev_pop0, ev_pops, am_ld, am_sv, am_at, am_st, am_g, List.length_cons, List.length_nil, Nat.reduceAdd, Nat.reduceLT, Nat.zero_add, if_true, if_false, and_self, true_or, or_true, true_and, and_true, not_true_eq_false, not_false_eq_true, reduceCtorEq, eq_self, Option.toList_some, Option.toList_none, List.cons_append, List.nil_append, Bool.false_eq_true, e1, hq, b11]
      · simp only [am_R_eq, cx_106, en_106, rt_106, rx_aload_n, rx_baload, rx_getfield, ev_gf, rx_goto, rx_iaload, rx_iconst, rx_icmp_ge, rx_icmp_gt, rx_if_eq, rx_if_ne, rx_iinc, ev_inc, rx_iload, rx_iload_n, rx_ireturn, rx_istore, rx_istore_n, ev_K, ev_pI, ev_pR, ev_pVi, ev_pVr, ev_sI, ev_sR, ev_KC, ev_k, ev_ko, ev_pop0, ev_pops, am_ld, am_sv, am_at, am_st, am_g, List.length_cons, List.length_nil, Nat.reduceAdd, Nat.reduceLT, Nat.zero_add, if_true, if_false, and_self, true_or, or_true, true_and, and_true, not_true_eq_false, not_false_eq_true, reduceCtorEq, eq_self, Option.toList_some, Option.toList_none, List.cons_append, List.nil_append, Bool.false_eq_true, e1, hq, b00]
    | succ m ih =>
      intro k hk
      have e1 : ¬ (3 : Int32) ≤ nI k := nI_ge (b := 3) (by omega) (by omega)
      have ix := m_ri (n := 3) (k := k) (by omega) (by omega)
      have i1 := ih (k + 1) (by omega)
      rw [m_pt, am_R_eq] at i1
      by_cases hq : m_pt F e f k = true
      · rw [hq, Bool.true_or, if_pos rfl] at i1
        rw [am_R_eq, cxh_106_5]
        simp only [am_R_eq, cx_106, en_106, rt_106, rx_aload_n, rx_baload, rx_getfield, ev_gf, rx_goto, rx_iaload, rx_iconst, rx_icmp_ge, rx_icmp_gt, rx_if_eq, rx_if_ne, rx_iinc, ev_inc, rx_iload, rx_iload_n, rx_ireturn, rx_istore, rx_istore_n, ev_K, ev_pI, ev_pR, ev_pVi, ev_pVr, ev_sI, ev_sR, ev_KC, ev_k, ev_ko, ev_pop0, ev_pops, am_ld, am_sv, am_at, am_st, am_g, List.length_cons, List.length_nil, Nat.reduceAdd, Nat.reduceLT, Nat.zero_add, if_true, if_false, and_self, true_or, or_true, true_and, and_true, not_true_eq_false, not_false_eq_true, reduceCtorEq, eq_self, Option.toList_some, Option.toList_none, List.cons_append, List.nil_append, Bool.false_eq_true, e1, hq, i_10, nI_ofs]
        exact i1
      · have hq' : m_pt F e f k = false := by simpa using hq
        rw [hq', Bool.false_or] at i1
        by_cases c1 : F 14 k = 0
        · rw [decide_eq_true c1, Bool.not_true, Bool.false_and, if_neg (by decide)] at i1
          rw [am_R_eq, cxh_106_5]
          simp only [am_R_eq, cx_106, en_106, rt_106, rx_aload_n, rx_baload, rx_getfield, ev_gf, rx_goto, rx_iaload, rx_iconst, rx_icmp_ge, rx_icmp_gt, rx_if_eq, rx_if_ne, rx_iinc, ev_inc, rx_iload, rx_iload_n, rx_ireturn, rx_istore, rx_istore_n, ev_K, ev_pI, ev_pR, ev_pVi, ev_pVr, ev_sI, ev_sR, ev_KC, ev_k, ev_ko, ev_pop0, ev_pops, am_ld, am_sv, am_at, am_st, am_g, List.length_cons, List.length_nil, Nat.reduceAdd, Nat.reduceLT, Nat.zero_add, if_true, if_false, and_self, true_or, or_true, true_and, and_true, not_true_eq_false, not_false_eq_true, reduceCtorEq, eq_self, Option.toList_some, Option.toList_none, List.cons_append, List.nil_append, Bool.false_eq_true, e1, hq, m0, k14, ix, c1, nI_ofs]
          exact i1
        · rw [decide_eq_false c1, Bool.not_false, Bool.true_and] at i1
          by_cases c2 : F 15 k < F 1 e
          · rw [decide_eq_true c2, Bool.not_true, Bool.false_and, if_neg (by decide)] at i1
            rw [am_R_eq, cxh_106_5]
            simp only [am_R_eq, cx_106, en_106, rt_106, rx_aload_n, rx_baload, rx_getfield, ev_gf, rx_goto, rx_iaload, rx_iconst, rx_icmp_ge, rx_icmp_gt, rx_if_eq, rx_if_ne, rx_iinc, ev_inc, rx_iload, rx_iload_n, rx_ireturn, rx_istore, rx_istore_n, ev_K, ev_pI, ev_pR, ev_pVi, ev_pVr, ev_sI, ev_sR, ev_KC, ev_k, ev_ko, ev_pop0, ev_pops, am_ld, am_sv, am_at, am_st, am_g, List.length_cons, List.length_nil, Nat.reduceAdd, Nat.reduceLT, Nat.zero_add, if_true, if_false, and_self, true_or, or_true, true_and, and_true, not_true_eq_false, not_false_eq_true, reduceCtorEq, eq_self, Option.toList_some, Option.toList_none, List.cons_append, List.nil_append, Bool.false_eq_true, e1, hq, m0, k14, k15, k1, ix, ie, c1, c2, nI_ofs]
            exact i1
          · rw [decide_eq_false c2, Bool.not_false, Bool.true_and] at i1
            by_cases c3 : F 1 f ≤ F 15 k
            · rw [decide_eq_true c3, Bool.not_true, if_neg (by decide)] at i1
              rw [am_R_eq, cxh_106_5]
              simp only [am_R_eq, cx_106, en_106, rt_106, rx_aload_n, rx_baload, rx_getfield, ev_gf, rx_goto, rx_iaload, rx_iconst, rx_icmp_ge, rx_icmp_gt, rx_if_eq, rx_if_ne, rx_iinc, ev_inc, rx_iload, rx_iload_n, rx_ireturn, rx_istore, rx_istore_n, ev_K, ev_pI, ev_pR, ev_pVi, ev_pVr, ev_sI, ev_sR, ev_KC, ev_k, ev_ko, ev_pop0, ev_pops, am_ld, am_sv, am_at, am_st, am_g, List.length_cons, List.length_nil, Nat.reduceAdd, Nat.reduceLT, Nat.zero_add, if_true, if_false, and_self, true_or, or_true, true_and, and_true, not_true_eq_false, not_false_eq_true, reduceCtorEq, eq_self, Option.toList_some, Option.toList_none, List.cons_append, List.nil_append, Bool.false_eq_true, e1, hq, m0, k14, k15, k1, ix, ie, jf, c1, c2, c3, nI_ofs]
              exact i1
            · rw [decide_eq_false c3, Bool.not_false, if_pos rfl] at i1
              rw [am_R_eq, cxh_106_5]
              simp only [am_R_eq, cx_106, en_106, rt_106, rx_aload_n, rx_baload, rx_getfield, ev_gf, rx_goto, rx_iaload, rx_iconst, rx_icmp_ge, rx_icmp_gt, rx_if_eq, rx_if_ne, rx_iinc, ev_inc, rx_iload, rx_iload_n, rx_ireturn, rx_istore, rx_istore_n, ev_K, ev_pI, ev_pR, ev_pVi, ev_pVr, ev_sI, ev_sR, ev_KC, ev_k, ev_ko, ev_pop0, ev_pops, am_ld, am_sv, am_at, am_st, am_g, List.length_cons, List.length_nil, Nat.reduceAdd, Nat.reduceLT, Nat.zero_add, if_true, if_false, and_self, true_or, or_true, true_and, and_true, not_true_eq_false, not_false_eq_true, reduceCtorEq, eq_self, Option.toList_some, Option.toList_none, List.cons_append, List.nil_append, Bool.false_eq_true, e1, hq, m0, k14, k15, k1, ix, ie, jf, c1, c2, c3, nI_ofs]
              exact i1
  have i1 := loop 3 0 rfl
  rw [m_pt, if_neg (by decide), am_R_eq] at i1
  have z0 : nI 0 = 0 := rfl
  rw [z0] at i1
  rw [am_M_eq]
  simp only [am_R_eq, cx_106, en_106, rt_106, rx_aload_n, rx_baload, rx_getfield, ev_gf, rx_goto, rx_iaload, rx_iconst, rx_icmp_ge, rx_icmp_gt, rx_if_eq, rx_if_ne, rx_iinc, ev_inc, rx_iload, rx_iload_n, rx_ireturn, rx_istore, rx_istore_n, ev_K, ev_pI, ev_pR, ev_pVi, ev_pVr, ev_sI, ev_sR, ev_KC, ev_k, ev_ko, ev_pop0, ev_pops, am_ld, am_sv, am_at, am_st, am_g, List.length_cons, List.length_nil, Nat.reduceAdd, Nat.reduceLT, Nat.zero_add, if_true, if_false, and_self, true_or, or_true, true_and, and_true, not_true_eq_false, not_false_eq_true, reduceCtorEq, eq_self, Option.toList_some, Option.toList_none, List.cons_append, List.nil_append, Bool.false_eq_true]
  exact i1
def m_lwP (F : Nat → Nat → Int32) (e f : Nat) : Bool := !decide (F 9 f = 0) && (decide (F 10 f = 0) && (decide (F 0 f = F 0 e) && !decide (F 1 e ≤ F 1 f)))
def m_lw (F : Nat → Nat → Int32) (e : Nat) : Nat → Bool
  | 0 => true
  | n + 1 => m_lw F e n && !m_lwP F e n
theorem mo_isLowest (d : Nat) {n e : Nat} (hn : w 1 = nI n) (hb : n ≤ 520) (he : e < 520) (hM : vs_M z h x A w F) : am_M z (d + 1) 108 [.ref x, .int (nI e)] h (some (.int (if m_lw F e n = true then 1 else 0))) h := by
  obtain ⟨k0, k1, k2, k3, k4, k5, k6, k7, k8, k9, k10, -⟩ := hM.all
  have m0 := hM.ob
  have ie := m_ix he
  have loop : ∀ m k, m + k = n → am_R z d 108 4 [some (.ref x), some (.int (nI e)), some (.int (if m_lw F e k = true then 1 else 0)), some (.int (nI k))] [] h (some (.int (if m_lw F e n = true then 1 else 0))) h := by
    intro m
    induction m with
    | zero =>
      intro k hk
      have hkn : k = n := by omega
      subst hkn
      have e1 : nI k ≤ nI k := nI_le (Nat.le_refl _) (by omega)
      rw [am_R_eq, cxh_108_4]
      by_cases hq : m_lw F e k = true
      · simp only [am_R_eq, cx_108, en_108, rt_108, rx_aload_n, rx_baload, rx_getfield, ev_gf, rx_goto, rx_iaload, rx_iconst, rx_icmp_ge, rx_icmp_ne, rx_if_eq, rx_if_ne, rx_iinc, ev_inc, rx_iload_n, rx_ireturn, rx_istore_n, ev_K, ev_pI, ev_pR, ev_pVi, ev_pVr, ev_sI, ev_sR, ev_KC, ev_k, ev_ko, ev_pop0, ev_pops, am_ld, am_sv, am_at, am_st, am_g, List.length_cons, List.length_nil, Nat.reduceAdd, Nat.reduceLT, Nat.zero_add, if_true, if_false, and_self, true_or, or_true, true_and, and_true, not_true_eq_false, not_false_eq_true, reduceCtorEq, eq_self, Option.toList_some, Option.toList_none, List.cons_append, List.nil_append, Bool.false_eq_true, m0, hn, e1, hq, b11]
      · simp only [am_R_eq, cx_108, en_108, rt_108, rx_aload_n, rx_baload, rx_getfield, ev_gf, rx_goto, rx_iaload, rx_iconst, rx_icmp_ge, rx_icmp_ne, rx_if_eq, rx_if_ne, rx_iinc, ev_inc, rx_iload_n, rx_ireturn, rx_istore_n, ev_K, ev_pI, ev_pR, ev_pVi, ev_pVr, ev_sI, ev_sR, ev_KC, ev_k, ev_ko, ev_pop0, ev_pops, am_ld, am_sv, am_at, am_st, am_g, List.length_cons, List.length_nil, Nat.reduceAdd, Nat.reduceLT, Nat.zero_add, if_true, if_false, and_self, true_or, or_true, true_and, and_true, not_true_eq_false, not_false_eq_true, reduceCtorEq, eq_self, Option.toList_some, Option.toList_none, List.cons_append, List.nil_append, Bool.false_eq_true, m0, hn, e1, hq, b00]
    | succ m ih =>
      intro k hk
      have e1 : ¬ nI n ≤ nI k := nI_ge (by omega) (by omega)
      have ix := m_ix (k := k) (by omega)
      have i1 := ih (k + 1) (by omega)
      rw [m_lw, am_R_eq] at i1
      by_cases hP : m_lwP F e k = true
      · have hQ := hP
        unfold m_lwP at hQ
        rw [Bool.and_eq_true, Bool.and_eq_true, Bool.and_eq_true, Bool.not_eq_true', Bool.not_eq_true', decide_eq_false_iff_not, decide_eq_false_iff_not, decide_eq_true_iff, decide_eq_true_iff] at hQ
        obtain ⟨c1, c2, c3, c4⟩ := hQ
        rw [hP, Bool.not_true, Bool.and_false, if_neg (by decide)] at i1
        rw [am_R_eq, cxh_108_4]
        simp only [am_R_eq, cx_108, en_108, rt_108, rx_aload_n, rx_baload, rx_getfield, ev_gf, rx_goto, rx_iaload, rx_iconst, rx_icmp_ge, rx_icmp_ne, rx_if_eq, rx_if_ne, rx_iinc, ev_inc, rx_iload_n, rx_ireturn, rx_istore_n, ev_K, ev_pI, ev_pR, ev_pVi, ev_pVr, ev_sI, ev_sR, ev_KC, ev_k, ev_ko, ev_pop0, ev_pops, am_ld, am_sv, am_at, am_st, am_g, List.length_cons, List.length_nil, Nat.reduceAdd, Nat.reduceLT, Nat.zero_add, if_true, if_false, and_self, true_or, or_true, true_and, and_true, not_true_eq_false, not_false_eq_true, reduceCtorEq, eq_self, Option.toList_some, Option.toList_none, List.cons_append, List.nil_append, Bool.false_eq_true, m0, hn, e1, k9, k10, k0, k1, ix, ie, c1, c2, c3, c4, nI_ofs]
        exact i1
      · have hP' : m_lwP F e k = false := by simpa using hP
        rw [hP', Bool.not_false, Bool.and_true] at i1
        by_cases c1 : F 9 k = 0
        · rw [am_R_eq, cxh_108_4]
          simp only [am_R_eq, cx_108, en_108, rt_108, rx_aload_n, rx_baload, rx_getfield, ev_gf, rx_goto, rx_iaload, rx_iconst, rx_icmp_ge, rx_icmp_ne, rx_if_eq, rx_if_ne, rx_iinc, ev_inc, rx_iload_n, rx_ireturn, rx_istore_n, ev_K, ev_pI, ev_pR, ev_pVi, ev_pVr, ev_sI, ev_sR, ev_KC, ev_k, ev_ko, ev_pop0, ev_pops, am_ld, am_sv, am_at, am_st, am_g, List.length_cons, List.length_nil, Nat.reduceAdd, Nat.reduceLT, Nat.zero_add, if_true, if_false, and_self, true_or, or_true, true_and, and_true, not_true_eq_false, not_false_eq_true, reduceCtorEq, eq_self, Option.toList_some, Option.toList_none, List.cons_append, List.nil_append, Bool.false_eq_true, m0, hn, e1, k9, k10, k0, k1, ix, ie, c1, nI_ofs]
          exact i1
        · by_cases c2 : F 10 k = 0
          · by_cases c3 : F 0 k = F 0 e
            · have c4 : F 1 e ≤ F 1 k := by
                apply Classical.byContradiction
                intro q
                apply hP
                unfold m_lwP
                simp [c1, c2, c3, q]
              rw [am_R_eq, cxh_108_4]
              simp only [am_R_eq, cx_108, en_108, rt_108, rx_aload_n, rx_baload, rx_getfield, ev_gf, rx_goto, rx_iaload, rx_iconst, rx_icmp_ge, rx_icmp_ne, rx_if_eq, rx_if_ne, rx_iinc, ev_inc, rx_iload_n, rx_ireturn, rx_istore_n, ev_K, ev_pI, ev_pR, ev_pVi, ev_pVr, ev_sI, ev_sR, ev_KC, ev_k, ev_ko, ev_pop0, ev_pops, am_ld, am_sv, am_at, am_st, am_g, List.length_cons, List.length_nil, Nat.reduceAdd, Nat.reduceLT, Nat.zero_add, if_true, if_false, and_self, true_or, or_true, true_and, and_true, not_true_eq_false, not_false_eq_true, reduceCtorEq, eq_self, Option.toList_some, Option.toList_none, List.cons_append, List.nil_append, Bool.false_eq_true, m0, hn, e1, k9, k10, k0, k1, ix, ie, c1, c2, c3, c4, nI_ofs]
              exact i1
            · rw [am_R_eq, cxh_108_4]
              simp only [am_R_eq, cx_108, en_108, rt_108, rx_aload_n, rx_baload, rx_getfield, ev_gf, rx_goto, rx_iaload, rx_iconst, rx_icmp_ge, rx_icmp_ne, rx_if_eq, rx_if_ne, rx_iinc, ev_inc, rx_iload_n, rx_ireturn, rx_istore_n, ev_K, ev_pI, ev_pR, ev_pVi, ev_pVr, ev_sI, ev_sR, ev_KC, ev_k, ev_ko, ev_pop0, ev_pops, am_ld, am_sv, am_at, am_st, am_g, List.length_cons, List.length_nil, Nat.reduceAdd, Nat.reduceLT, Nat.zero_add, if_true, if_false, and_self, true_or, or_true, true_and, and_true, not_true_eq_false, not_false_eq_true, reduceCtorEq, eq_self, Option.toList_some, Option.toList_none, List.cons_append, List.nil_append, Bool.false_eq_true, m0, hn, e1, k9, k10, k0, k1, ix, ie, c1, c2, c3, nI_ofs]
              exact i1
          · rw [am_R_eq, cxh_108_4]
            simp only [am_R_eq, cx_108, en_108, rt_108, rx_aload_n, rx_baload, rx_getfield, ev_gf, rx_goto, rx_iaload, rx_iconst, rx_icmp_ge, rx_icmp_ne, rx_if_eq, rx_if_ne, rx_iinc, ev_inc, rx_iload_n, rx_ireturn, rx_istore_n, ev_K, ev_pI, ev_pR, ev_pVi, ev_pVr, ev_sI, ev_sR, ev_KC, ev_k, ev_ko, ev_pop0, ev_pops, am_ld, am_sv, am_at, am_st, am_g, List.length_cons, List.length_nil, Nat.reduceAdd, Nat.reduceLT, Nat.zero_add, if_true, if_false, and_self, true_or, or_true, true_and, and_true, not_true_eq_false, not_false_eq_true, reduceCtorEq, eq_self, Option.toList_some, Option.toList_none, List.cons_append, List.nil_append, Bool.false_eq_true, m0, hn, e1, k9, k10, k0, k1, ix, ie, c1, c2, nI_ofs]
            exact i1
  have i1 := loop n 0 rfl
  rw [m_lw, if_pos rfl, am_R_eq] at i1
  have z0 : nI 0 = 0 := rfl
  rw [z0] at i1
  rw [am_M_eq]
  simp only [am_R_eq, cx_108, en_108, rt_108, rx_aload_n, rx_baload, rx_getfield, ev_gf, rx_goto, rx_iaload, rx_iconst, rx_icmp_ge, rx_icmp_ne, rx_if_eq, rx_if_ne, rx_iinc, ev_inc, rx_iload_n, rx_ireturn, rx_istore_n, ev_K, ev_pI, ev_pR, ev_pVi, ev_pVr, ev_sI, ev_sR, ev_KC, ev_k, ev_ko, ev_pop0, ev_pops, am_ld, am_sv, am_at, am_st, am_g, List.length_cons, List.length_nil, Nat.reduceAdd, Nat.reduceLT, Nat.zero_add, if_true, if_false, and_self, true_or, or_true, true_and, and_true, not_true_eq_false, not_false_eq_true, reduceCtorEq, eq_self, Option.toList_some, Option.toList_none, List.cons_append, List.nil_append, Bool.false_eq_true]
  exact i1
end MP
