section MQ
variable {z : Nat} {h : am_H} {x : Nat} {A : Nat → Nat} {w : Nat → Int32} {F : Nat → Nat → Int32}
def m_fill (g0 v : Nat → Int32) (k : Nat) : Nat → Int32 := fun e => if e < k then v e else g0 e
theorem m_fill_0 (g0 v : Nat → Int32) : m_fill g0 v 0 = g0 := by
  funext e
  simp [m_fill]
theorem m_fill_k (g0 v : Nat → Int32) (k : Nat) : m_fill g0 v k k = g0 k := by simp [m_fill]
theorem m_fill_s (g0 v : Nat → Int32) (k : Nat) : upd (m_fill g0 v k) k (v k) = m_fill g0 v (k + 1) := by
  funext e
  unfold upd m_fill
  by_cases h1 : e = k
  · subst h1; simp
  · by_cases h2 : e < k
    · have : e < k + 1 := by omega
      simp [h1, h2, this]
    · have : ¬ e < k + 1 := by omega
      simp [h1, h2, this]
theorem m_fill_i (g0 v : Nat → Int32) {k : Nat} (hv : v k = g0 k) : m_fill g0 v (k + 1) = m_fill g0 v k := by
  funext e
  unfold m_fill
  by_cases h1 : e = k
  · subst h1
    have : e < e + 1 := by omega
    simp [hv]
  · by_cases h2 : e < k
    · have : e < k + 1 := by omega
      simp [h2, this]
    · have : ¬ e < k + 1 := by omega
      simp [h2, this]
theorem m_uu (g : Nat → Int32) (k : Nat) (a b : Int32) : upd (upd g k a) k b = upd g k b := by
  funext e
  unfold upd
  by_cases h1 : e = k
  · simp [h1]
  · simp [h1]
def m_chV (F : Nat → Nat → Int32) (a b : Int32) (e : Nat) : Int32 := if F 5 e = a ∨ F 5 e = b then 1 else 0
theorem mo_choose (d : Nat) {n : Nat} {a b : Int32} (hn : w 1 = nI n) (hb : n ≤ 520) (hM : vs_M z h x A w F) : ∃ h', am_M z (d + 1) 103 [.ref x, .int a, .int b] h none h' ∧ vs_M z h' x A w (va_up F 9 (m_fill (F 9) (m_chV F a b) n)) ∧ h'.2 = h.2 := by
  have z9 := hM.za 9 (by omega)
  have loop : ∀ m k hh, m + k = n → vs_M z hh x A w (va_up F 9 (m_fill (F 9) (m_chV F a b) k)) → ∃ h', am_R z d 103 2 [some (.ref x), some (.int a), some (.int b), some (.int (nI k))] [] hh none h' ∧ vs_M z h' x A w (va_up F 9 (m_fill (F 9) (m_chV F a b) n)) ∧ h'.2 = hh.2 := by
    intro m
    induction m with
    | zero =>
      intro k hh hk hW
      have hkn : k = n := by omega
      subst hkn
      have e1 : nI k ≤ nI k := nI_le (Nat.le_refl _) (by omega)
      have m0 := hW.ob
      refine ⟨hh, ?_, hW, rfl⟩
      rw [am_R_eq, cxh_103_2]
      simp only [am_R_eq, cx_103, en_103, rt_103, rx_aload_n, rx_bastore, ev_w1, ev_KW, rx_getfield, ev_gf, rx_goto, rx_iaload, rx_iconst, rx_icmp_eq, rx_icmp_ge, rx_icmp_ne, rx_iinc, ev_inc, rx_iload_n, rx_istore_n, rx_return, ev_K, ev_pI, ev_pR, ev_pVi, ev_pVr, ev_sI, ev_sR, ev_KC, ev_k, ev_ko, ev_pop0, ev_pops, am_ld, am_sv, am_at, am_st, am_g, List.length_cons, List.length_nil, Nat.reduceAdd, Nat.reduceLT, Nat.zero_add, if_true, if_false, and_self, true_or, or_true, true_and, and_true, not_true_eq_false, not_false_eq_true, reduceCtorEq, eq_self, Option.toList_some, Option.toList_none, List.cons_append, List.nil_append, Bool.false_eq_true, m0, hn, e1]
    | succ m ih =>
      intro k hh hk hW
      have e1 : ¬ nI n ≤ nI k := nI_ge (by omega) (by omega)
      have ix := m_ix (k := k) (by omega)
      have iw := m_wi (n := 520) (k := k) (by omega) (by omega)
      have m0 := hW.ob
      have k5 : hh.1 (A 5) = some (.inl (0, 520, .inl (F 5))) := hW.ar 5 (by omega)
      have k9 : hh.1 (A 9) = some (.inl (1, 520, .inl (m_fill (F 9) (m_chV F a b) k))) := hW.ar 9 (by omega)
      have hW2 : vs_M z (am_up hh (A 9) (.inl (1, 520, .inl (m_fill (F 9) (m_chV F a b) (k + 1))))) x A w (va_up (va_up F 9 (m_fill (F 9) (m_chV F a b) k)) 9 (m_fill (F 9) (m_chV F a b) (k + 1))) := hW.arr (i := 9) (by omega) _
      rw [bx_uu] at hW2
      obtain ⟨h', i1, i2, i3⟩ := ih (k + 1) _ (by omega) hW2
      refine ⟨h', ?_, i2, i3⟩
      rw [am_R_eq] at i1
      have fs := m_fill_s (F 9) (m_chV F a b) k
      by_cases c1 : F 5 k = a
      · have ev : m_chV F a b k = 1 := by unfold m_chV; rw [if_pos (Or.inl c1)]
        rw [ev] at fs
        rw [am_R_eq, cxh_103_2]
        simp only [am_R_eq, cx_103, en_103, rt_103, rx_aload_n, rx_bastore, ev_w1, ev_KW, rx_getfield, ev_gf, rx_goto, rx_iaload, rx_iconst, rx_icmp_eq, rx_icmp_ge, rx_icmp_ne, rx_iinc, ev_inc, rx_iload_n, rx_istore_n, rx_return, ev_K, ev_pI, ev_pR, ev_pVi, ev_pVr, ev_sI, ev_sR, ev_KC, ev_k, ev_ko, ev_pop0, ev_pops, am_ld, am_sv, am_at, am_st, am_g, List.length_cons, List.length_nil, Nat.reduceAdd, Nat.reduceLT, Nat.zero_add, if_true, if_false, and_self, true_or, or_true, true_and, and_true, not_true_eq_false, not_false_eq_true, reduceCtorEq, eq_self, Option.toList_some, Option.toList_none, List.cons_append, List.nil_append, Bool.false_eq_true, m0, hn, e1, k5, k9, ix, iw, c1, b11, z9, fs, nI_ofs]
        exact i1
      · by_cases c2 : F 5 k = b
        · have ev : m_chV F a b k = 1 := by unfold m_chV; rw [if_pos (Or.inr c2)]
          rw [ev] at fs
          have c1' : ¬ b = a := by rw [← c2]; exact c1
          rw [am_R_eq, cxh_103_2]
          simp only [am_R_eq, cx_103, en_103, rt_103, rx_aload_n, rx_bastore, ev_w1, ev_KW, rx_getfield, ev_gf, rx_goto, rx_iaload, rx_iconst, rx_icmp_eq, rx_icmp_ge, rx_icmp_ne, rx_iinc, ev_inc, rx_iload_n, rx_istore_n, rx_return, ev_K, ev_pI, ev_pR, ev_pVi, ev_pVr, ev_sI, ev_sR, ev_KC, ev_k, ev_ko, ev_pop0, ev_pops, am_ld, am_sv, am_at, am_st, am_g, List.length_cons, List.length_nil, Nat.reduceAdd, Nat.reduceLT, Nat.zero_add, if_true, if_false, and_self, true_or, or_true, true_and, and_true, not_true_eq_false, not_false_eq_true, reduceCtorEq, eq_self, Option.toList_some, Option.toList_none, List.cons_append, List.nil_append, Bool.false_eq_true, m0, hn, e1, k5, k9, ix, iw, c2, c1', b11, z9, fs, nI_ofs]
          exact i1
        · have ev : m_chV F a b k = 0 := by unfold m_chV; rw [if_neg (by simp [c1, c2])]
          rw [ev] at fs
          rw [am_R_eq, cxh_103_2]
          simp only [am_R_eq, cx_103, en_103, rt_103, rx_aload_n, rx_bastore, ev_w1, ev_KW, rx_getfield, ev_gf, rx_goto, rx_iaload, rx_iconst, rx_icmp_eq, rx_icmp_ge, rx_icmp_ne, rx_iinc, ev_inc, rx_iload_n, rx_istore_n, rx_return, ev_K, ev_pI, ev_pR, ev_pVi, ev_pVr, ev_sI, ev_sR, ev_KC, ev_k, ev_ko, ev_pop0, ev_pops, am_ld, am_sv, am_at, am_st, am_g, List.length_cons, List.length_nil, Nat.reduceAdd, Nat.reduceLT, Nat.zero_add, if_true, if_false, and_self, true_or, or_true, true_and, and_true, not_true_eq_false, not_false_eq_true, reduceCtorEq, eq_self, Option.toList_some, Option.toList_none, List.cons_append, List.nil_append, Bool.false_eq_true, m0, hn, e1, k5, k9, ix, iw, c1, c2, b00, z9, fs, nI_ofs]
          exact i1
  obtain ⟨h', i1, i2, i3⟩ := loop n 0 h rfl (by rw [m_fill_0, va_up_id]; exact hM)
  refine ⟨h', ?_, i2, i3⟩
  rw [am_R_eq] at i1
  have z0 : nI 0 = 0 := rfl
  rw [z0] at i1
  rw [am_M_eq]
  simp only [am_R_eq, cx_103, en_103, rt_103, rx_aload_n, rx_bastore, ev_w1, ev_KW, rx_getfield, ev_gf, rx_goto, rx_iaload, rx_iconst, rx_icmp_eq, rx_icmp_ge, rx_icmp_ne, rx_iinc, ev_inc, rx_iload_n, rx_istore_n, rx_return, ev_K, ev_pI, ev_pR, ev_pVi, ev_pVr, ev_sI, ev_sR, ev_KC, ev_k, ev_ko, ev_pop0, ev_pops, am_ld, am_sv, am_at, am_st, am_g, List.length_cons, List.length_nil, Nat.reduceAdd, Nat.reduceLT, Nat.zero_add, if_true, if_false, and_self, true_or, or_true, true_and, and_true, not_true_eq_false, not_false_eq_true, reduceCtorEq, eq_self, Option.toList_some, Option.toList_none, List.cons_append, List.nil_append, Bool.false_eq_true]
  exact i1
def m_arV (F : Nat → Nat → Int32) (n e : Nat) : Int32 := if F 5 e = 1 ∨ F 5 e = 2 then nI (m_cn (fun f => decide (F 5 f = F 5 e) && m_bf F f e) n) else F 6 e
theorem mo_arrange (d : Nat) {n : Nat} (hn : w 1 = nI n) (hb : n ≤ 520) (hM : vs_M z h x A w F) : ∃ h', am_M z (d + 1 + 1) 110 [.ref x] h none h' ∧ vs_M z h' x A w (va_up F 6 (m_fill (F 6) (m_arV F n) n)) ∧ h'.2 = h.2 := by
  have z6 := hM.za 6 (by omega)
  have inner : ∀ k hh g, k < 520 → vs_M z hh x A w (va_up F 6 g) → ∀ m f, m + f = n → ∀ hx, am_R z (d + 1) 110 2 [some (.ref x), some (.int (nI (k + 1))), some (.int (nI (m_cn (fun f => decide (F 5 f = F 5 k) && m_bf F f k) n))), some (.int (nI n))] [] (am_up hh (A 6) (.inl (0, 520, .inl (upd g k (nI (m_cn (fun f => decide (F 5 f = F 5 k) && m_bf F f k) n)))))) none hx → am_R z (d + 1) 110 37 [some (.ref x), some (.int (nI k)), some (.int (nI (m_cn (fun f => decide (F 5 f = F 5 k) && m_bf F f k) f))), some (.int (nI f))] [] hh none hx := by
    intro k hh g hk hW m
    have m0 := hW.ob
    have k5 : hh.1 (A 5) = some (.inl (0, 520, .inl (F 5))) := hW.ar 5 (by omega)
    have k6 : hh.1 (A 6) = some (.inl (0, 520, .inl g)) := hW.ar 6 (by omega)
    have jk := m_ix hk
    have iw := m_wi (n := 520) (k := k) (by omega) (by omega)
    induction m with
    | zero =>
      intro f hf hx i1
      have hkn : f = n := by omega
      subst hkn
      have e1 : nI f ≤ nI f := nI_le (Nat.le_refl _) (by omega)
      rw [am_R_eq] at i1
      rw [am_R_eq, cxh_110_37]
      simp only [am_R_eq, cx_110, en_110, rt_110, rx_aload_n, rx_getfield, ev_gf, rx_goto, rx_iaload, rx_iastore, ev_w1, ev_KW, rx_iconst, rx_icmp_eq, rx_icmp_ge, rx_icmp_ne, rx_if_eq, rx_iinc, ev_inc, rx_iload_n, rx_invv, ev_cv, rx_istore_n, rx_return, kl_111, ev_K, ev_pI, ev_pR, ev_pVi, ev_pVr, ev_sI, ev_sR, ev_KC, ev_k, ev_ko, ev_pop0, ev_pops, am_ld, am_sv, am_at, am_st, am_g, List.length_cons, List.length_nil, Nat.reduceAdd, Nat.reduceLT, Nat.zero_add, if_true, if_false, and_self, true_or, or_true, true_and, and_true, not_true_eq_false, not_false_eq_true, reduceCtorEq, eq_self, Option.toList_some, Option.toList_none, List.cons_append, List.nil_append, Bool.false_eq_true, m0, hn, e1, k6, iw, z6, nI_ofs]
      exact i1
    | succ m ih =>
      intro f hf hx k1
      have e1 : ¬ nI n ≤ nI f := nI_ge (by omega) (by omega)
      have ix := m_ix (k := f) (by omega)
      have i1 := ih (f + 1) (by omega) hx k1
      rw [m_cn, am_R_eq] at i1
      have q1 : am_M z (d + 1) 111 [.ref x, .int (nI f), .int (nI k)] hh (some (.int (if m_bf F f k = true then 1 else 0))) hh := mo_before (F := va_up F 6 g) d (a := f) (b := k) (by omega) (by omega) hW
      by_cases c1 : F 5 f = F 5 k
      · rw [decide_eq_true c1, Bool.true_and] at i1
        by_cases c2 : m_bf F f k = true
        · rw [if_pos c2] at i1 q1
          rw [am_R_eq, cxh_110_37]
          simp only [am_R_eq, cx_110, en_110, rt_110, rx_aload_n, rx_getfield, ev_gf, rx_goto, rx_iaload, rx_iastore, ev_w1, ev_KW, rx_iconst, rx_icmp_eq, rx_icmp_ge, rx_icmp_ne, rx_if_eq, rx_iinc, ev_inc, rx_iload_n, rx_invv, ev_cv, rx_istore_n, rx_return, kl_111, ev_K, ev_pI, ev_pR, ev_pVi, ev_pVr, ev_sI, ev_sR, ev_KC, ev_k, ev_ko, ev_pop0, ev_pops, am_ld, am_sv, am_at, am_st, am_g, List.length_cons, List.length_nil, Nat.reduceAdd, Nat.reduceLT, Nat.zero_add, if_true, if_false, and_self, true_or, or_true, true_and, and_true, not_true_eq_false, not_false_eq_true, reduceCtorEq, eq_self, Option.toList_some, Option.toList_none, List.cons_append, List.nil_append, Bool.false_eq_true, m0, hn, e1, k5, ix, jk, c1]
          refine am_CL_of q1 ?_
          simp only [am_R_eq, cx_110, en_110, rt_110, rx_aload_n, rx_getfield, ev_gf, rx_goto, rx_iaload, rx_iastore, ev_w1, ev_KW, rx_iconst, rx_icmp_eq, rx_icmp_ge, rx_icmp_ne, rx_if_eq, rx_iinc, ev_inc, rx_iload_n, rx_invv, ev_cv, rx_istore_n, rx_return, kl_111, ev_K, ev_pI, ev_pR, ev_pVi, ev_pVr, ev_sI, ev_sR, ev_KC, ev_k, ev_ko, ev_pop0, ev_pops, am_ld, am_sv, am_at, am_st, am_g, List.length_cons, List.length_nil, Nat.reduceAdd, Nat.reduceLT, Nat.zero_add, if_true, if_false, and_self, true_or, or_true, true_and, and_true, not_true_eq_false, not_false_eq_true, reduceCtorEq, eq_self, Option.toList_some, Option.toList_none, List.cons_append, List.nil_append, Bool.false_eq_true, i_10, nI_ofs]
          exact i1
        · rw [if_neg c2] at i1 q1
          rw [am_R_eq, cxh_110_37]
          simp only [am_R_eq, cx_110, en_110, rt_110, rx_aload_n, rx_getfield, ev_gf, rx_goto, rx_iaload, rx_iastore, ev_w1, ev_KW, rx_iconst, rx_icmp_eq, rx_icmp_ge, rx_icmp_ne, rx_if_eq, rx_iinc, ev_inc, rx_iload_n, rx_invv, ev_cv, rx_istore_n, rx_return, kl_111, ev_K, ev_pI, ev_pR, ev_pVi, ev_pVr, ev_sI, ev_sR, ev_KC, ev_k, ev_ko, ev_pop0, ev_pops, am_ld, am_sv, am_at, am_st, am_g, List.length_cons, List.length_nil, Nat.reduceAdd, Nat.reduceLT, Nat.zero_add, if_true, if_false, and_self, true_or, or_true, true_and, and_true, not_true_eq_false, not_false_eq_true, reduceCtorEq, eq_self, Option.toList_some, Option.toList_none, List.cons_append, List.nil_append, Bool.false_eq_true, m0, hn, e1, k5, ix, jk, c1]
          refine am_CL_of q1 ?_
          simp only [am_R_eq, cx_110, en_110, rt_110, rx_aload_n, rx_getfield, ev_gf, rx_goto, rx_iaload, rx_iastore, ev_w1, ev_KW, rx_iconst, rx_icmp_eq, rx_icmp_ge, rx_icmp_ne, rx_if_eq, rx_iinc, ev_inc, rx_iload_n, rx_invv, ev_cv, rx_istore_n, rx_return, kl_111, ev_K, ev_pI, ev_pR, ev_pVi, ev_pVr, ev_sI, ev_sR, ev_KC, ev_k, ev_ko, ev_pop0, ev_pops, am_ld, am_sv, am_at, am_st, am_g, List.length_cons, List.length_nil, Nat.reduceAdd, Nat.reduceLT, Nat.zero_add, if_true, if_false, and_self, true_or, or_true, true_and, and_true, not_true_eq_false, not_false_eq_true, reduceCtorEq, eq_self, Option.toList_some, Option.toList_none, List.cons_append, List.nil_append, Bool.false_eq_true, nI_ofs]
          exact i1
      · rw [decide_eq_false c1, Bool.false_and, if_neg (by decide)] at i1
        rw [am_R_eq, cxh_110_37]
        simp only [am_R_eq, cx_110, en_110, rt_110, rx_aload_n, rx_getfield, ev_gf, rx_goto, rx_iaload, rx_iastore, ev_w1, ev_KW, rx_iconst, rx_icmp_eq, rx_icmp_ge, rx_icmp_ne, rx_if_eq, rx_iinc, ev_inc, rx_iload_n, rx_invv, ev_cv, rx_istore_n, rx_return, kl_111, ev_K, ev_pI, ev_pR, ev_pVi, ev_pVr, ev_sI, ev_sR, ev_KC, ev_k, ev_ko, ev_pop0, ev_pops, am_ld, am_sv, am_at, am_st, am_g, List.length_cons, List.length_nil, Nat.reduceAdd, Nat.reduceLT, Nat.zero_add, if_true, if_false, and_self, true_or, or_true, true_and, and_true, not_true_eq_false, not_false_eq_true, reduceCtorEq, eq_self, Option.toList_some, Option.toList_none, List.cons_append, List.nil_append, Bool.false_eq_true, m0, hn, e1, k5, ix, jk, c1, nI_ofs]
        exact i1
  have loop : ∀ m k hh (v2 v3 : Option Value), m + k = n → vs_M z hh x A w (va_up F 6 (m_fill (F 6) (m_arV F n) k)) → ∃ h', am_R z (d + 1) 110 2 [some (.ref x), some (.int (nI k)), v2, v3] [] hh none h' ∧ vs_M z h' x A w (va_up F 6 (m_fill (F 6) (m_arV F n) n)) ∧ h'.2 = hh.2 := by
    intro m
    induction m with
    | zero =>
      intro k hh v2 v3 hk hW
      have hkn : k = n := by omega
      subst hkn
      have e1 : nI k ≤ nI k := nI_le (Nat.le_refl _) (by omega)
      have m0 := hW.ob
      refine ⟨hh, ?_, hW, rfl⟩
      rw [am_R_eq, cxh_110_2]
      simp only [am_R_eq, cx_110, en_110, rt_110, rx_aload_n, rx_getfield, ev_gf, rx_goto, rx_iaload, rx_iastore, ev_w1, ev_KW, rx_iconst, rx_icmp_eq, rx_icmp_ge, rx_icmp_ne, rx_if_eq, rx_iinc, ev_inc, rx_iload_n, rx_invv, ev_cv, rx_istore_n, rx_return, kl_111, ev_K, ev_pI, ev_pR, ev_pVi, ev_pVr, ev_sI, ev_sR, ev_KC, ev_k, ev_ko, ev_pop0, ev_pops, am_ld, am_sv, am_at, am_st, am_g, List.length_cons, List.length_nil, Nat.reduceAdd, Nat.reduceLT, Nat.zero_add, if_true, if_false, and_self, true_or, or_true, true_and, and_true, not_true_eq_false, not_false_eq_true, reduceCtorEq, eq_self, Option.toList_some, Option.toList_none, List.cons_append, List.nil_append, Bool.false_eq_true, m0, hn, e1]
    | succ m ih =>
      intro k hh v2 v3 hk hW
      have e1 : ¬ nI n ≤ nI k := nI_ge (by omega) (by omega)
      have ix := m_ix (k := k) (by omega)
      have m0 := hW.ob
      have k5 : hh.1 (A 5) = some (.inl (0, 520, .inl (F 5))) := hW.ar 5 (by omega)
      have z0 : nI 0 = 0 := rfl
      by_cases c0 : F 5 k = 1 ∨ F 5 k = 2
      · have ev : m_arV F n k = nI (m_cn (fun f => decide (F 5 f = F 5 k) && m_bf F f k) n) := by unfold m_arV; rw [if_pos c0]
        have hW2 : vs_M z (am_up hh (A 6) (.inl (0, 520, .inl (m_fill (F 6) (m_arV F n) (k + 1))))) x A w (va_up (va_up F 6 (m_fill (F 6) (m_arV F n) k)) 6 (m_fill (F 6) (m_arV F n) (k + 1))) := hW.arr (i := 6) (by omega) _
        rw [bx_uu] at hW2
        obtain ⟨h', i1, i2, i3⟩ := ih (k + 1) _ (some (.int (nI (m_cn (fun f => decide (F 5 f = F 5 k) && m_bf F f k) n)))) (some (.int (nI n))) (by omega) hW2
        refine ⟨h', ?_, i2, i3⟩
        have fs := m_fill_s (F 6) (m_arV F n) k
        rw [← fs, ev] at i1
        have k1 := inner k hh _ (by omega) hW n 0 (by omega) h' i1
        rw [m_cn, z0, am_R_eq] at k1
        by_cases c1 : F 5 k = 1
        · rw [am_R_eq, cxh_110_2]
          simp only [am_R_eq, cx_110, en_110, rt_110, rx_aload_n, rx_getfield, ev_gf, rx_goto, rx_iaload, rx_iastore, ev_w1, ev_KW, rx_iconst, rx_icmp_eq, rx_icmp_ge, rx_icmp_ne, rx_if_eq, rx_iinc, ev_inc, rx_iload_n, rx_invv, ev_cv, rx_istore_n, rx_return, kl_111, ev_K, ev_pI, ev_pR, ev_pVi, ev_pVr, ev_sI, ev_sR, ev_KC, ev_k, ev_ko, ev_pop0, ev_pops, am_ld, am_sv, am_at, am_st, am_g, List.length_cons, List.length_nil, Nat.reduceAdd, Nat.reduceLT, Nat.zero_add, if_true, if_false, and_self, true_or, or_true, true_and, and_true, not_true_eq_false, not_false_eq_true, reduceCtorEq, eq_self, Option.toList_some, Option.toList_none, List.cons_append, List.nil_append, Bool.false_eq_true, m0, hn, e1, k5, ix, c1]
          exact k1
        · have c2 := c0.resolve_left c1
          rw [am_R_eq, cxh_110_2]
          have c3 : ¬ (2 : Int32) = 1 := by decide
          simp only [am_R_eq, cx_110, en_110, rt_110, rx_aload_n, rx_getfield, ev_gf, rx_goto, rx_iaload, rx_iastore, ev_w1, ev_KW, rx_iconst, rx_icmp_eq, rx_icmp_ge, rx_icmp_ne, rx_if_eq, rx_iinc, ev_inc, rx_iload_n, rx_invv, ev_cv, rx_istore_n, rx_return, kl_111, ev_K, ev_pI, ev_pR, ev_pVi, ev_pVr, ev_sI, ev_sR, ev_KC, ev_k, ev_ko, ev_pop0, ev_pops, am_ld, am_sv, am_at, am_st, am_g, List.length_cons, List.length_nil, Nat.reduceAdd, Nat.reduceLT, Nat.zero_add, if_true, if_false, and_self, true_or, or_true, true_and, and_true, not_true_eq_false, not_false_eq_true, reduceCtorEq, eq_self, Option.toList_some, Option.toList_none, List.cons_append, List.nil_append, Bool.false_eq_true, m0, hn, e1, k5, ix, c2, c3]
          exact k1
      · have ev : m_arV F n k = F 6 k := by unfold m_arV; rw [if_neg c0]
        have fi := m_fill_i (F 6) (m_arV F n) (k := k) ev
        obtain ⟨h', i1, i2, i3⟩ := ih (k + 1) hh v2 v3 (by omega) (by rw [fi]; exact hW)
        refine ⟨h', ?_, i2, i3⟩
        rw [am_R_eq] at i1
        have c1 : ¬ F 5 k = 1 := fun q => c0 (Or.inl q)
        have c2 : ¬ F 5 k = 2 := fun q => c0 (Or.inr q)
        rw [am_R_eq, cxh_110_2]
        simp only [am_R_eq, cx_110, en_110, rt_110, rx_aload_n, rx_getfield, ev_gf, rx_goto, rx_iaload, rx_iastore, ev_w1, ev_KW, rx_iconst, rx_icmp_eq, rx_icmp_ge, rx_icmp_ne, rx_if_eq, rx_iinc, ev_inc, rx_iload_n, rx_invv, ev_cv, rx_istore_n, rx_return, kl_111, ev_K, ev_pI, ev_pR, ev_pVi, ev_pVr, ev_sI, ev_sR, ev_KC, ev_k, ev_ko, ev_pop0, ev_pops, am_ld, am_sv, am_at, am_st, am_g, List.length_cons, List.length_nil, Nat.reduceAdd, Nat.reduceLT, Nat.zero_add, if_true, if_false, and_self, true_or, or_true, true_and, and_true, not_true_eq_false, not_false_eq_true, reduceCtorEq, eq_self, Option.toList_some, Option.toList_none, List.cons_append, List.nil_append, Bool.false_eq_true, m0, hn, e1, k5, ix, c1, c2, nI_ofs]
        exact i1
  obtain ⟨h', i1, i2, i3⟩ := loop n 0 h none none rfl (by rw [m_fill_0, va_up_id]; exact hM)
  refine ⟨h', ?_, i2, i3⟩
  rw [am_R_eq] at i1
  have z0 : nI 0 = 0 := rfl
  rw [z0] at i1
  rw [am_M_eq]
  simp only [am_R_eq, cx_110, en_110, rt_110, rx_aload_n, rx_getfield, ev_gf, rx_goto, rx_iaload, rx_iastore, ev_w1, ev_KW, rx_iconst, rx_icmp_eq, rx_icmp_ge, rx_icmp_ne, rx_if_eq, rx_iinc, ev_inc, rx_iload_n, rx_invv, ev_cv, rx_istore_n, rx_return, kl_111, ev_K, ev_pI, ev_pR, ev_pVi, ev_pVr, ev_sI, ev_sR, ev_KC, ev_k, ev_ko, ev_pop0, ev_pops, am_ld, am_sv, am_at, am_st, am_g, List.length_cons, List.length_nil, Nat.reduceAdd, Nat.reduceLT, Nat.zero_add, if_true, if_false, and_self, true_or, or_true, true_and, and_true, not_true_eq_false, not_false_eq_true, reduceCtorEq, eq_self, Option.toList_some, Option.toList_none, List.cons_append, List.nil_append, Bool.false_eq_true]
  exact i1
end MQ
