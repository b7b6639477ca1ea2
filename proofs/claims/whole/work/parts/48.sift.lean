section MS
variable {z : Nat} {h : am_H} {x : Nat} {A : Nat → Nat} {w : Nat → Int32} {F : Nat → Nat → Int32}
def m_f1 (F : Nat → Nat → Int32) (n e : Nat) : Int32 := if F 9 e = 0 then 0 else match m_arg (m_abP F e) (m_lo F) n with
  | none => 0
  | some f => if m_pt F e f 3 = true then 0 else 1
theorem mo_sift1 (d : Nat) {n : Nat} {l : Int32} (hn : w 1 = nI n) (hb : n ≤ 520) (zA : z ≤ A 10) : ∀ m k hh (v3 : Option Value), m + k = n → vs_M z hh x A w (va_up F 10 (m_fill (F 10) (m_f1 F n) k)) →
    ∃ h', vs_M z h' x A w (va_up F 10 (m_fill (F 10) (m_f1 F n) n)) ∧ h'.2 = hh.2 ∧ ∀ r hx, (∀ v, am_R z (d + 1) 104 67 [some (.ref x), some (.int l), some (.int 1), v] [] h' r hx) → am_R z (d + 1) 104 2 [some (.ref x), some (.int l), some (.int (nI k)), v3] [] hh r hx := by
  intro m
  induction m with
  | zero =>
    intro k hh v3 hk hW
    have hkn : k = n := by omega
    subst hkn
    have e1 : nI k ≤ nI k := nI_le (Nat.le_refl _) (by omega)
    have m0 := hW.ob
    refine ⟨hh, hW, rfl, ?_⟩
    intro r hx K
    have k1 := K v3
    rw [am_R_eq] at k1
    rw [am_R_eq, cxh_104_2]
    simp only [am_R_eq, cx_104, en_104, rt_104, rx_aload_n, rx_baload, rx_bastore, ev_w1, ev_KW, rx_bipush, rx_getfield, ev_gf, rx_goto, rx_iadd, rx_iaload, rx_iastore, rx_iconst, rx_icmp_ge, rx_icmp_gt, rx_icmp_ne, rx_if_eq, rx_if_lt, rx_if_ne, rx_iinc, ev_inc, rx_iload_n, rx_invv, ev_cv, rx_ireturn, rx_istore_n, kl_105, kl_106, kl_107, kl_108, ev_K, ev_pI, ev_pR, ev_pVi, ev_pVr, ev_sI, ev_sR, ev_KC, ev_k, ev_ko, ev_pop0, ev_pops, am_ld, am_sv, am_at, am_st, am_g, List.length_cons, List.length_nil, Nat.reduceAdd, Nat.reduceLT, Nat.zero_add, if_true, if_false, and_self, true_or, or_true, true_and, and_true, not_true_eq_false, not_false_eq_true, reduceCtorEq, eq_self, Option.toList_some, Option.toList_none, List.cons_append, List.nil_append, Bool.false_eq_true, m0, hn, e1]
    exact k1
  | succ m ih =>
    intro k hh v3 hk hW
    have e1 : ¬ nI n ≤ nI k := nI_ge (by omega) (by omega)
    have ix := m_ix (k := k) (by omega)
    have iw := m_wi (n := 520) (k := k) (by omega) (by omega)
    have m0 := hW.ob
    have k10 : hh.1 (A 10) = some (.inl (1, 520, .inl (m_fill (F 10) (m_f1 F n) k))) := hW.ar 10 (by omega)
    have k9 : hh.1 (A 9) = some (.inl (1, 520, .inl (F 9))) := hW.ar 9 (by omega)
    have n9 : A 9 ≠ A 10 := hW.dj 9 10 (by omega) (by omega) (by omega)
    have nx : x ≠ A 10 := (hW.ne (i := 10) (by omega)).symm
    have hW1 : vs_M z (am_up hh (A 10) (.inl (1, 520, .inl (upd (m_fill (F 10) (m_f1 F n) k) k 0)))) x A w (va_up (va_up F 10 (m_fill (F 10) (m_f1 F n) k)) 10 (upd (m_fill (F 10) (m_f1 F n) k) k 0)) := hW.arr (i := 10) (by omega) _
    rw [bx_uu] at hW1
    have hW2 : vs_M z (am_up hh (A 10) (.inl (1, 520, .inl (m_fill (F 10) (m_f1 F n) (k + 1))))) x A w (va_up (va_up F 10 (m_fill (F 10) (m_f1 F n) k)) 10 (m_fill (F 10) (m_f1 F n) (k + 1))) := hW.arr (i := 10) (by omega) _
    rw [bx_uu] at hW2
    have fs := m_fill_s (F 10) (m_f1 F n) k
    by_cases c1 : F 9 k = 0
    · obtain ⟨h', i2, i3, i4⟩ := ih (k + 1) _ v3 (by omega) hW2
      refine ⟨h', i2, i3, ?_⟩
      intro r hx K
      have i1 := i4 r hx K
      have ev : m_f1 F n k = 0 := by unfold m_f1; rw [if_pos c1]
      rw [ev] at fs
      rw [am_R_eq] at i1
      rw [am_R_eq, cxh_104_2]
      simp only [am_R_eq, cx_104, en_104, rt_104, rx_aload_n, rx_baload, rx_bastore, ev_w1, ev_KW, rx_bipush, rx_getfield, ev_gf, rx_goto, rx_iadd, rx_iaload, rx_iastore, rx_iconst, rx_icmp_ge, rx_icmp_gt, rx_icmp_ne, rx_if_eq, rx_if_lt, rx_if_ne, rx_iinc, ev_inc, rx_iload_n, rx_invv, ev_cv, rx_ireturn, rx_istore_n, kl_105, kl_106, kl_107, kl_108, ev_K, ev_pI, ev_pR, ev_pVi, ev_pVr, ev_sI, ev_sR, ev_KC, ev_k, ev_ko, ev_pop0, ev_pops, am_ld, am_sv, am_at, am_st, am_g, List.length_cons, List.length_nil, Nat.reduceAdd, Nat.reduceLT, Nat.zero_add, if_true, if_false, and_self, true_or, or_true, true_and, and_true, not_true_eq_false, not_false_eq_true, reduceCtorEq, eq_self, Option.toList_some, Option.toList_none, List.cons_append, List.nil_append, Bool.false_eq_true, m0, hn, e1, k10, k9, n9, nx, ix, iw, c1, b00, zA, fs, am_up_at, am_up_ne, ne_eq, nI_ofs]
      exact i1
    · have q1 : am_M z (d + 1) 105 [.ref x, .int (nI k)] _ (some (.int (m_oi (m_arg (m_abP F k) (m_lo F) n)))) _ := mo_above (F := va_up F 10 (upd (m_fill (F 10) (m_f1 F n) k) k 0)) d hn hb (e := k) (by omega) hW1
      have m1 := hW1.ob
      have kk9 : (am_up hh (A 10) (.inl (1, 520, .inl (upd (m_fill (F 10) (m_f1 F n) k) k 0)))).1 (A 10) = some (.inl (1, 520, .inl (upd (m_fill (F 10) (m_f1 F n) k) k 0))) := am_up_at _ _ _
      cases ho : m_arg (m_abP F k) (m_lo F) n with
      | none =>
        rw [ho] at q1
        obtain ⟨h', i2, i3, i4⟩ := ih (k + 1) _ (some (.int (-1))) (by omega) hW2
        refine ⟨h', i2, i3, ?_⟩
        intro r hx K
        have i1 := i4 r hx K
        have ev : m_f1 F n k = 0 := by unfold m_f1; rw [if_neg c1, ho]
        rw [ev] at fs
        rw [am_R_eq] at i1
        rw [am_R_eq, cxh_104_2]
        simp only [am_R_eq, cx_104, en_104, rt_104, rx_aload_n, rx_baload, rx_bastore, ev_w1, ev_KW, rx_bipush, rx_getfield, ev_gf, rx_goto, rx_iadd, rx_iaload, rx_iastore, rx_iconst, rx_icmp_ge, rx_icmp_gt, rx_icmp_ne, rx_if_eq, rx_if_lt, rx_if_ne, rx_iinc, ev_inc, rx_iload_n, rx_invv, ev_cv, rx_ireturn, rx_istore_n, kl_105, kl_106, kl_107, kl_108, ev_K, ev_pI, ev_pR, ev_pVi, ev_pVr, ev_sI, ev_sR, ev_KC, ev_k, ev_ko, ev_pop0, ev_pops, am_ld, am_sv, am_at, am_st, am_g, List.length_cons, List.length_nil, Nat.reduceAdd, Nat.reduceLT, Nat.zero_add, if_true, if_false, and_self, true_or, or_true, true_and, and_true, not_true_eq_false, not_false_eq_true, reduceCtorEq, eq_self, Option.toList_some, Option.toList_none, List.cons_append, List.nil_append, Bool.false_eq_true, m0, m1, hn, e1, k10, k9, n9, nx, ix, iw, c1, b00, zA, am_up_at, am_up_ne, ne_eq]
        refine am_CL_of q1 ?_
        simp only [am_R_eq, cx_104, en_104, rt_104, rx_aload_n, rx_baload, rx_bastore, ev_w1, ev_KW, rx_bipush, rx_getfield, ev_gf, rx_goto, rx_iadd, rx_iaload, rx_iastore, rx_iconst, rx_icmp_ge, rx_icmp_gt, rx_icmp_ne, rx_if_eq, rx_if_lt, rx_if_ne, rx_iinc, ev_inc, rx_iload_n, rx_invv, ev_cv, rx_ireturn, rx_istore_n, kl_105, kl_106, kl_107, kl_108, ev_K, ev_pI, ev_pR, ev_pVi, ev_pVr, ev_sI, ev_sR, ev_KC, ev_k, ev_ko, ev_pop0, ev_pops, am_ld, am_sv, am_at, am_st, am_g, List.length_cons, List.length_nil, Nat.reduceAdd, Nat.reduceLT, Nat.zero_add, if_true, if_false, and_self, true_or, or_true, true_and, and_true, not_true_eq_false, not_false_eq_true, reduceCtorEq, eq_self, Option.toList_some, Option.toList_none, List.cons_append, List.nil_append, Bool.false_eq_true, m_oi, m1_neg, m0, nx, kk9, ix, iw, b00, zA, m_uu, am_up_at, am_up_ne, am_up_up, ne_eq, nI_ofs]
        rw [fs]
        exact i1
      | some f =>
        rw [ho] at q1
        have hlt := (m_arg_lt _ _ _ _ ho).1
        have nb : ¬ nI f < 0 := nI_pos (by omega)
        have q2 : am_M z (d + 1) 106 [.ref x, .int (nI k), .int (nI f)] _ (some (.int (if m_pt F k f 3 = true then 1 else 0))) _ := mo_parted (F := va_up F 10 (upd (m_fill (F 10) (m_f1 F n) k) k 0)) d (e := k) (f := f) (by omega) (by omega) hW1
        obtain ⟨h', i2, i3, i4⟩ := ih (k + 1) _ (some (.int (nI f))) (by omega) hW2
        refine ⟨h', i2, i3, ?_⟩
        intro r hx K
        have i1 := i4 r hx K
        rw [am_R_eq] at i1
        by_cases c2 : m_pt F k f 3 = true
        · have ev : m_f1 F n k = 0 := by unfold m_f1; rw [if_neg c1, ho]; exact if_pos c2
          rw [ev] at fs
          rw [if_pos c2] at q2
          rw [am_R_eq, cxh_104_2]
          simp only [am_R_eq, cx_104, en_104, rt_104, rx_aload_n, rx_baload, rx_bastore, ev_w1, ev_KW, rx_bipush, rx_getfield, ev_gf, rx_goto, rx_iadd, rx_iaload, rx_iastore, rx_iconst, rx_icmp_ge, rx_icmp_gt, rx_icmp_ne, rx_if_eq, rx_if_lt, rx_if_ne, rx_iinc, ev_inc, rx_iload_n, rx_invv, ev_cv, rx_ireturn, rx_istore_n, kl_105, kl_106, kl_107, kl_108, ev_K, ev_pI, ev_pR, ev_pVi, ev_pVr, ev_sI, ev_sR, ev_KC, ev_k, ev_ko, ev_pop0, ev_pops, am_ld, am_sv, am_at, am_st, am_g, List.length_cons, List.length_nil, Nat.reduceAdd, Nat.reduceLT, Nat.zero_add, if_true, if_false, and_self, true_or, or_true, true_and, and_true, not_true_eq_false, not_false_eq_true, reduceCtorEq, eq_self, Option.toList_some, Option.toList_none, List.cons_append, List.nil_append, Bool.false_eq_true, m0, m1, hn, e1, k10, k9, n9, nx, ix, iw, c1, b00, zA, am_up_at, am_up_ne, ne_eq]
          refine am_CL_of q1 ?_
          simp only [am_R_eq, cx_104, en_104, rt_104, rx_aload_n, rx_baload, rx_bastore, ev_w1, ev_KW, rx_bipush, rx_getfield, ev_gf, rx_goto, rx_iadd, rx_iaload, rx_iastore, rx_iconst, rx_icmp_ge, rx_icmp_gt, rx_icmp_ne, rx_if_eq, rx_if_lt, rx_if_ne, rx_iinc, ev_inc, rx_iload_n, rx_invv, ev_cv, rx_ireturn, rx_istore_n, kl_105, kl_106, kl_107, kl_108, ev_K, ev_pI, ev_pR, ev_pVi, ev_pVr, ev_sI, ev_sR, ev_KC, ev_k, ev_ko, ev_pop0, ev_pops, am_ld, am_sv, am_at, am_st, am_g, List.length_cons, List.length_nil, Nat.reduceAdd, Nat.reduceLT, Nat.zero_add, if_true, if_false, and_self, true_or, or_true, true_and, and_true, not_true_eq_false, not_false_eq_true, reduceCtorEq, eq_self, Option.toList_some, Option.toList_none, List.cons_append, List.nil_append, Bool.false_eq_true, m_oi, nb, m0, nx, am_up_ne, ne_eq]
          refine am_CL_of q2 ?_
          simp only [am_R_eq, cx_104, en_104, rt_104, rx_aload_n, rx_baload, rx_bastore, ev_w1, ev_KW, rx_bipush, rx_getfield, ev_gf, rx_goto, rx_iadd, rx_iaload, rx_iastore, rx_iconst, rx_icmp_ge, rx_icmp_gt, rx_icmp_ne, rx_if_eq, rx_if_lt, rx_if_ne, rx_iinc, ev_inc, rx_iload_n, rx_invv, ev_cv, rx_ireturn, rx_istore_n, kl_105, kl_106, kl_107, kl_108, ev_K, ev_pI, ev_pR, ev_pVi, ev_pVr, ev_sI, ev_sR, ev_KC, ev_k, ev_ko, ev_pop0, ev_pops, am_ld, am_sv, am_at, am_st, am_g, List.length_cons, List.length_nil, Nat.reduceAdd, Nat.reduceLT, Nat.zero_add, if_true, if_false, and_self, true_or, or_true, true_and, and_true, not_true_eq_false, not_false_eq_true, reduceCtorEq, eq_self, Option.toList_some, Option.toList_none, List.cons_append, List.nil_append, Bool.false_eq_true, i_10, m0, nx, kk9, ix, iw, b00, zA, m_uu, am_up_at, am_up_ne, am_up_up, ne_eq, nI_ofs]
          rw [fs]
          exact i1
        · have ev : m_f1 F n k = 1 := by unfold m_f1; rw [if_neg c1, ho]; exact if_neg c2
          rw [ev] at fs
          rw [if_neg c2] at q2
          rw [am_R_eq, cxh_104_2]
          simp only [am_R_eq, cx_104, en_104, rt_104, rx_aload_n, rx_baload, rx_bastore, ev_w1, ev_KW, rx_bipush, rx_getfield, ev_gf, rx_goto, rx_iadd, rx_iaload, rx_iastore, rx_iconst, rx_icmp_ge, rx_icmp_gt, rx_icmp_ne, rx_if_eq, rx_if_lt, rx_if_ne, rx_iinc, ev_inc, rx_iload_n, rx_invv, ev_cv, rx_ireturn, rx_istore_n, kl_105, kl_106, kl_107, kl_108, ev_K, ev_pI, ev_pR, ev_pVi, ev_pVr, ev_sI, ev_sR, ev_KC, ev_k, ev_ko, ev_pop0, ev_pops, am_ld, am_sv, am_at, am_st, am_g, List.length_cons, List.length_nil, Nat.reduceAdd, Nat.reduceLT, Nat.zero_add, if_true, if_false, and_self, true_or, or_true, true_and, and_true, not_true_eq_false, not_false_eq_true, reduceCtorEq, eq_self, Option.toList_some, Option.toList_none, List.cons_append, List.nil_append, Bool.false_eq_true, m0, m1, hn, e1, k10, k9, n9, nx, ix, iw, c1, b00, zA, am_up_at, am_up_ne, ne_eq]
          refine am_CL_of q1 ?_
          simp only [am_R_eq, cx_104, en_104, rt_104, rx_aload_n, rx_baload, rx_bastore, ev_w1, ev_KW, rx_bipush, rx_getfield, ev_gf, rx_goto, rx_iadd, rx_iaload, rx_iastore, rx_iconst, rx_icmp_ge, rx_icmp_gt, rx_icmp_ne, rx_if_eq, rx_if_lt, rx_if_ne, rx_iinc, ev_inc, rx_iload_n, rx_invv, ev_cv, rx_ireturn, rx_istore_n, kl_105, kl_106, kl_107, kl_108, ev_K, ev_pI, ev_pR, ev_pVi, ev_pVr, ev_sI, ev_sR, ev_KC, ev_k, ev_ko, ev_pop0, ev_pops, am_ld, am_sv, am_at, am_st, am_g, List.length_cons, List.length_nil, Nat.reduceAdd, Nat.reduceLT, Nat.zero_add, if_true, if_false, and_self, true_or, or_true, true_and, and_true, not_true_eq_false, not_false_eq_true, reduceCtorEq, eq_self, Option.toList_some, Option.toList_none, List.cons_append, List.nil_append, Bool.false_eq_true, m_oi, nb, m0, nx, am_up_ne, ne_eq]
          refine am_CL_of q2 ?_
          simp only [am_R_eq, cx_104, en_104, rt_104, rx_aload_n, rx_baload, rx_bastore, ev_w1, ev_KW, rx_bipush, rx_getfield, ev_gf, rx_goto, rx_iadd, rx_iaload, rx_iastore, rx_iconst, rx_icmp_ge, rx_icmp_gt, rx_icmp_ne, rx_if_eq, rx_if_lt, rx_if_ne, rx_iinc, ev_inc, rx_iload_n, rx_invv, ev_cv, rx_ireturn, rx_istore_n, kl_105, kl_106, kl_107, kl_108, ev_K, ev_pI, ev_pR, ev_pVi, ev_pVr, ev_sI, ev_sR, ev_KC, ev_k, ev_ko, ev_pop0, ev_pops, am_ld, am_sv, am_at, am_st, am_g, List.length_cons, List.length_nil, Nat.reduceAdd, Nat.reduceLT, Nat.zero_add, if_true, if_false, and_self, true_or, or_true, true_and, and_true, not_true_eq_false, not_false_eq_true, reduceCtorEq, eq_self, Option.toList_some, Option.toList_none, List.cons_append, List.nil_append, Bool.false_eq_true, i_10, m0, nx, kk9, ix, iw, b11, zA, m_uu, fs, am_up_at, am_up_ne, am_up_up, ne_eq, nI_ofs]
          exact i1
def m_s2 (F : Nat → Nat → Int32) (t : Int32) (n : Nat) (s : Int32) (g : Nat → Int32) (e : Nat) : Bool := !decide (F 9 e = 0) && (decide (F 1 e = s) && (decide (g e = 0) && (m_gone F t e && m_lw (va_up F 10 g) e n)))
def m_fs (F : Nat → Nat → Int32) (t : Int32) (n : Nat) (s : Int32) (g : Nat → Int32) : Nat → Nat → Int32
  | 0 => g
  | k + 1 => if m_s2 F t n s (m_fs F t n s g k) k = true then upd (m_fs F t n s g k) k 1 else m_fs F t n s g k
def m_fo (F : Nat → Nat → Int32) (t : Int32) (n : Nat) (g : Nat → Int32) : Nat → Nat → Int32
  | 0 => g
  | s + 1 => m_fs F t n (nI (s + 1)) (m_fo F t n g s) n
theorem mo_siftIn (d : Nat) {n S : Nat} {l : Int32} {g : Nat → Int32} (hn : w 1 = nI n) (hb : n ≤ 520) (zA : z ≤ A 10) : ∀ m k hh, m + k = n → vs_M z hh x A w (va_up F 10 (m_fs F (w 0) n (nI S) g k)) →
    ∃ h', vs_M z h' x A w (va_up F 10 (m_fs F (w 0) n (nI S) g n)) ∧ h'.2 = hh.2 ∧ ∀ r hx, am_R z (d + 1) 104 67 [some (.ref x), some (.int l), some (.int (nI (S + 1))), some (.int (nI n))] [] h' r hx → am_R z (d + 1) 104 82 [some (.ref x), some (.int l), some (.int (nI S)), some (.int (nI k))] [] hh r hx := by
  intro m
  induction m with
  | zero =>
    intro k hh hk hW
    have hkn : k = n := by omega
    subst hkn
    have e1 : nI k ≤ nI k := nI_le (Nat.le_refl _) (by omega)
    have m0 := hW.ob
    refine ⟨hh, hW, rfl, ?_⟩
    intro r hx k1
    rw [am_R_eq] at k1
    rw [am_R_eq, cxh_104_82]
    simp only [am_R_eq, cx_104, en_104, rt_104, rx_aload_n, rx_baload, rx_bastore, ev_w1, ev_KW, rx_bipush, rx_getfield, ev_gf, rx_goto, rx_iadd, rx_iaload, rx_iastore, rx_iconst, rx_icmp_ge, rx_icmp_gt, rx_icmp_ne, rx_if_eq, rx_if_lt, rx_if_ne, rx_iinc, ev_inc, rx_iload_n, rx_invv, ev_cv, rx_ireturn, rx_istore_n, kl_105, kl_106, kl_107, kl_108, ev_K, ev_pI, ev_pR, ev_pVi, ev_pVr, ev_sI, ev_sR, ev_KC, ev_k, ev_ko, ev_pop0, ev_pops, am_ld, am_sv, am_at, am_st, am_g, List.length_cons, List.length_nil, Nat.reduceAdd, Nat.reduceLT, Nat.zero_add, if_true, if_false, and_self, true_or, or_true, true_and, and_true, not_true_eq_false, not_false_eq_true, reduceCtorEq, eq_self, Option.toList_some, Option.toList_none, List.cons_append, List.nil_append, Bool.false_eq_true, m0, hn, e1, nI_ofs]
    exact k1
  | succ m ih =>
    intro k hh hk hW
    have e1 : ¬ nI n ≤ nI k := nI_ge (by omega) (by omega)
    have ix := m_ix (k := k) (by omega)
    have iw := m_wi (n := 520) (k := k) (by omega) (by omega)
    have m0 := hW.ob
    generalize hG : m_fs F (w 0) n (nI S) g k = G at *
    have k10 : hh.1 (A 10) = some (.inl (1, 520, .inl G)) := hW.ar 10 (by omega)
    have k9 : hh.1 (A 9) = some (.inl (1, 520, .inl (F 9))) := hW.ar 9 (by omega)
    have k1 : hh.1 (A 1) = some (.inl (0, 520, .inl (F 1))) := hW.ar 1 (by omega)
    have q1 : am_M z (d + 1) 107 [.ref x, .int (nI k)] hh (some (.int (if m_gone F (w 0) k = true then 1 else 0))) hh := mo_gone (F := va_up F 10 G) d (e := k) (by omega) hW
    have q2 := mo_isLowest d hn hb (e := k) (by omega) hW
    by_cases hP : m_s2 F (w 0) n (nI S) G k = true
    · have hW2 : vs_M z (am_up hh (A 10) (.inl (1, 520, .inl (upd G k 1)))) x A w (va_up (va_up F 10 G) 10 (upd G k 1)) := hW.arr (i := 10) (by omega) _
      rw [bx_uu] at hW2
      have ef : m_fs F (w 0) n (nI S) g (k + 1) = upd G k 1 := by rw [m_fs, hG, if_pos hP]
      rw [← ef] at hW2
      obtain ⟨h', i2, i3, i4⟩ := ih (k + 1) _ (by omega) hW2
      refine ⟨h', i2, i3, ?_⟩
      intro r hx K
      have i1 := i4 r hx K
      rw [ef, am_R_eq] at i1
      unfold m_s2 at hP
      rw [Bool.and_eq_true, Bool.and_eq_true, Bool.and_eq_true, Bool.and_eq_true, Bool.not_eq_true', decide_eq_false_iff_not, decide_eq_true_iff, decide_eq_true_iff] at hP
      obtain ⟨c1, c2, c3, c4, c5⟩ := hP
      rw [if_pos c4] at q1
      rw [if_pos c5] at q2
      rw [am_R_eq, cxh_104_82]
      simp only [am_R_eq, cx_104, en_104, rt_104, rx_aload_n, rx_baload, rx_bastore, ev_w1, ev_KW, rx_bipush, rx_getfield, ev_gf, rx_goto, rx_iadd, rx_iaload, rx_iastore, rx_iconst, rx_icmp_ge, rx_icmp_gt, rx_icmp_ne, rx_if_eq, rx_if_lt, rx_if_ne, rx_iinc, ev_inc, rx_iload_n, rx_invv, ev_cv, rx_ireturn, rx_istore_n, kl_105, kl_106, kl_107, kl_108, ev_K, ev_pI, ev_pR, ev_pVi, ev_pVr, ev_sI, ev_sR, ev_KC, ev_k, ev_ko, ev_pop0, ev_pops, am_ld, am_sv, am_at, am_st, am_g, List.length_cons, List.length_nil, Nat.reduceAdd, Nat.reduceLT, Nat.zero_add, if_true, if_false, and_self, true_or, or_true, true_and, and_true, not_true_eq_false, not_false_eq_true, reduceCtorEq, eq_self, Option.toList_some, Option.toList_none, List.cons_append, List.nil_append, Bool.false_eq_true, m0, hn, e1, k10, k9, k1, ix, c1, c2, c3]
      refine am_CL_of q1 ?_
      simp only [am_R_eq, cx_104, en_104, rt_104, rx_aload_n, rx_baload, rx_bastore, ev_w1, ev_KW, rx_bipush, rx_getfield, ev_gf, rx_goto, rx_iadd, rx_iaload, rx_iastore, rx_iconst, rx_icmp_ge, rx_icmp_gt, rx_icmp_ne, rx_if_eq, rx_if_lt, rx_if_ne, rx_iinc, ev_inc, rx_iload_n, rx_invv, ev_cv, rx_ireturn, rx_istore_n, kl_105, kl_106, kl_107, kl_108, ev_K, ev_pI, ev_pR, ev_pVi, ev_pVr, ev_sI, ev_sR, ev_KC, ev_k, ev_ko, ev_pop0, ev_pops, am_ld, am_sv, am_at, am_st, am_g, List.length_cons, List.length_nil, Nat.reduceAdd, Nat.reduceLT, Nat.zero_add, if_true, if_false, and_self, true_or, or_true, true_and, and_true, not_true_eq_false, not_false_eq_true, reduceCtorEq, eq_self, Option.toList_some, Option.toList_none, List.cons_append, List.nil_append, Bool.false_eq_true, i_10, m0]
      refine am_CL_of q2 ?_
      simp only [am_R_eq, cx_104, en_104, rt_104, rx_aload_n, rx_baload, rx_bastore, ev_w1, ev_KW, rx_bipush, rx_getfield, ev_gf, rx_goto, rx_iadd, rx_iaload, rx_iastore, rx_iconst, rx_icmp_ge, rx_icmp_gt, rx_icmp_ne, rx_if_eq, rx_if_lt, rx_if_ne, rx_iinc, ev_inc, rx_iload_n, rx_invv, ev_cv, rx_ireturn, rx_istore_n, kl_105, kl_106, kl_107, kl_108, ev_K, ev_pI, ev_pR, ev_pVi, ev_pVr, ev_sI, ev_sR, ev_KC, ev_k, ev_ko, ev_pop0, ev_pops, am_ld, am_sv, am_at, am_st, am_g, List.length_cons, List.length_nil, Nat.reduceAdd, Nat.reduceLT, Nat.zero_add, if_true, if_false, and_self, true_or, or_true, true_and, and_true, not_true_eq_false, not_false_eq_true, reduceCtorEq, eq_self, Option.toList_some, Option.toList_none, List.cons_append, List.nil_append, Bool.false_eq_true, i_10, m0, k10, iw, b11, zA, nI_ofs]
      exact i1
    · have ef : m_fs F (w 0) n (nI S) g (k + 1) = G := by rw [m_fs, hG, if_neg hP]
      rw [← ef] at hW
      obtain ⟨h', i2, i3, i4⟩ := ih (k + 1) _ (by omega) hW
      refine ⟨h', i2, i3, ?_⟩
      intro r hx K
      have i1 := i4 r hx K
      rw [am_R_eq] at i1
      by_cases c1 : F 9 k = 0
      · rw [am_R_eq, cxh_104_82]
        simp only [am_R_eq, cx_104, en_104, rt_104, rx_aload_n, rx_baload, rx_bastore, ev_w1, ev_KW, rx_bipush, rx_getfield, ev_gf, rx_goto, rx_iadd, rx_iaload, rx_iastore, rx_iconst, rx_icmp_ge, rx_icmp_gt, rx_icmp_ne, rx_if_eq, rx_if_lt, rx_if_ne, rx_iinc, ev_inc, rx_iload_n, rx_invv, ev_cv, rx_ireturn, rx_istore_n, kl_105, kl_106, kl_107, kl_108, ev_K, ev_pI, ev_pR, ev_pVi, ev_pVr, ev_sI, ev_sR, ev_KC, ev_k, ev_ko, ev_pop0, ev_pops, am_ld, am_sv, am_at, am_st, am_g, List.length_cons, List.length_nil, Nat.reduceAdd, Nat.reduceLT, Nat.zero_add, if_true, if_false, and_self, true_or, or_true, true_and, and_true, not_true_eq_false, not_false_eq_true, reduceCtorEq, eq_self, Option.toList_some, Option.toList_none, List.cons_append, List.nil_append, Bool.false_eq_true, m0, hn, e1, k10, k9, k1, ix, c1, nI_ofs]
        exact i1
      · by_cases c2 : F 1 k = nI S
        · by_cases c3 : G k = 0
          · by_cases c4 : m_gone F (w 0) k = true
            · have c5 : ¬ m_lw (va_up F 10 G) k n = true := by
                intro q
                apply hP
                unfold m_s2
                simp [c1, c2, c3, c4, q]
              rw [if_pos c4] at q1
              rw [if_neg c5] at q2
              rw [am_R_eq, cxh_104_82]
              simp only [am_R_eq, cx_104, en_104, rt_104, rx_aload_n, rx_baload, rx_bastore, ev_w1, ev_KW, rx_bipush, rx_getfield, ev_gf, rx_goto, rx_iadd, rx_iaload, rx_iastore, rx_iconst, rx_icmp_ge, rx_icmp_gt, rx_icmp_ne, rx_if_eq, rx_if_lt, rx_if_ne, rx_iinc, ev_inc, rx_iload_n, rx_invv, ev_cv, rx_ireturn, rx_istore_n, kl_105, kl_106, kl_107, kl_108, ev_K, ev_pI, ev_pR, ev_pVi, ev_pVr, ev_sI, ev_sR, ev_KC, ev_k, ev_ko, ev_pop0, ev_pops, am_ld, am_sv, am_at, am_st, am_g, List.length_cons, List.length_nil, Nat.reduceAdd, Nat.reduceLT, Nat.zero_add, if_true, if_false, and_self, true_or, or_true, true_and, and_true, not_true_eq_false, not_false_eq_true, reduceCtorEq, eq_self, Option.toList_some, Option.toList_none, List.cons_append, List.nil_append, Bool.false_eq_true, m0, hn, e1, k10, k9, k1, ix, c1, c2, c3]
              refine am_CL_of q1 ?_
              simp only [am_R_eq, cx_104, en_104, rt_104, rx_aload_n, rx_baload, rx_bastore, ev_w1, ev_KW, rx_bipush, rx_getfield, ev_gf, rx_goto, rx_iadd, rx_iaload, rx_iastore, rx_iconst, rx_icmp_ge, rx_icmp_gt, rx_icmp_ne, rx_if_eq, rx_if_lt, rx_if_ne, rx_iinc, ev_inc, rx_iload_n, rx_invv, ev_cv, rx_ireturn, rx_istore_n, kl_105, kl_106, kl_107, kl_108, ev_K, ev_pI, ev_pR, ev_pVi, ev_pVr, ev_sI, ev_sR, ev_KC, ev_k, ev_ko, ev_pop0, ev_pops, am_ld, am_sv, am_at, am_st, am_g, List.length_cons, List.length_nil, Nat.reduceAdd, Nat.reduceLT, Nat.zero_add, if_true, if_false, and_self, true_or, or_true, true_and, and_true, not_true_eq_false, not_false_eq_true, reduceCtorEq, eq_self, Option.toList_some, Option.toList_none, List.cons_append, List.nil_append, Bool.false_eq_true, i_10, m0]
              refine am_CL_of q2 ?_
              simp only [am_R_eq, cx_104, en_104, rt_104, rx_aload_n, rx_baload, rx_bastore, ev_w1, ev_KW, rx_bipush, rx_getfield, ev_gf, rx_goto, rx_iadd, rx_iaload, rx_iastore, rx_iconst, rx_icmp_ge, rx_icmp_gt, rx_icmp_ne, rx_if_eq, rx_if_lt, rx_if_ne, rx_iinc, ev_inc, rx_iload_n, rx_invv, ev_cv, rx_ireturn, rx_istore_n, kl_105, kl_106, kl_107, kl_108, ev_K, ev_pI, ev_pR, ev_pVi, ev_pVr, ev_sI, ev_sR, ev_KC, ev_k, ev_ko, ev_pop0, ev_pops, am_ld, am_sv, am_at, am_st, am_g, List.length_cons, List.length_nil, Nat.reduceAdd, Nat.reduceLT, Nat.zero_add, if_true, if_false, and_self, true_or, or_true, true_and, and_true, not_true_eq_false, not_false_eq_true, reduceCtorEq, eq_self, Option.toList_some, Option.toList_none, List.cons_append, List.nil_append, Bool.false_eq_true, nI_ofs]
              exact i1
            · rw [if_neg c4] at q1
              rw [am_R_eq, cxh_104_82]
              simp only [am_R_eq, cx_104, en_104, rt_104, rx_aload_n, rx_baload, rx_bastore, ev_w1, ev_KW, rx_bipush, rx_getfield, ev_gf, rx_goto, rx_iadd, rx_iaload, rx_iastore, rx_iconst, rx_icmp_ge, rx_icmp_gt, rx_icmp_ne, rx_if_eq, rx_if_lt, rx_if_ne, rx_iinc, ev_inc, rx_iload_n, rx_invv, ev_cv, rx_ireturn, rx_istore_n, kl_105, kl_106, kl_107, kl_108, ev_K, ev_pI, ev_pR, ev_pVi, ev_pVr, ev_sI, ev_sR, ev_KC, ev_k, ev_ko, ev_pop0, ev_pops, am_ld, am_sv, am_at, am_st, am_g, List.length_cons, List.length_nil, Nat.reduceAdd, Nat.reduceLT, Nat.zero_add, if_true, if_false, and_self, true_or, or_true, true_and, and_true, not_true_eq_false, not_false_eq_true, reduceCtorEq, eq_self, Option.toList_some, Option.toList_none, List.cons_append, List.nil_append, Bool.false_eq_true, m0, hn, e1, k10, k9, k1, ix, c1, c2, c3]
              refine am_CL_of q1 ?_
              simp only [am_R_eq, cx_104, en_104, rt_104, rx_aload_n, rx_baload, rx_bastore, ev_w1, ev_KW, rx_bipush, rx_getfield, ev_gf, rx_goto, rx_iadd, rx_iaload, rx_iastore, rx_iconst, rx_icmp_ge, rx_icmp_gt, rx_icmp_ne, rx_if_eq, rx_if_lt, rx_if_ne, rx_iinc, ev_inc, rx_iload_n, rx_invv, ev_cv, rx_ireturn, rx_istore_n, kl_105, kl_106, kl_107, kl_108, ev_K, ev_pI, ev_pR, ev_pVi, ev_pVr, ev_sI, ev_sR, ev_KC, ev_k, ev_ko, ev_pop0, ev_pops, am_ld, am_sv, am_at, am_st, am_g, List.length_cons, List.length_nil, Nat.reduceAdd, Nat.reduceLT, Nat.zero_add, if_true, if_false, and_self, true_or, or_true, true_and, and_true, not_true_eq_false, not_false_eq_true, reduceCtorEq, eq_self, Option.toList_some, Option.toList_none, List.cons_append, List.nil_append, Bool.false_eq_true, nI_ofs]
              exact i1
          · rw [am_R_eq, cxh_104_82]
            simp only [am_R_eq, cx_104, en_104, rt_104, rx_aload_n, rx_baload, rx_bastore, ev_w1, ev_KW, rx_bipush, rx_getfield, ev_gf, rx_goto, rx_iadd, rx_iaload, rx_iastore, rx_iconst, rx_icmp_ge, rx_icmp_gt, rx_icmp_ne, rx_if_eq, rx_if_lt, rx_if_ne, rx_iinc, ev_inc, rx_iload_n, rx_invv, ev_cv, rx_ireturn, rx_istore_n, kl_105, kl_106, kl_107, kl_108, ev_K, ev_pI, ev_pR, ev_pVi, ev_pVr, ev_sI, ev_sR, ev_KC, ev_k, ev_ko, ev_pop0, ev_pops, am_ld, am_sv, am_at, am_st, am_g, List.length_cons, List.length_nil, Nat.reduceAdd, Nat.reduceLT, Nat.zero_add, if_true, if_false, and_self, true_or, or_true, true_and, and_true, not_true_eq_false, not_false_eq_true, reduceCtorEq, eq_self, Option.toList_some, Option.toList_none, List.cons_append, List.nil_append, Bool.false_eq_true, m0, hn, e1, k10, k9, k1, ix, c1, c2, c3, nI_ofs]
            exact i1
        · rw [am_R_eq, cxh_104_82]
          simp only [am_R_eq, cx_104, en_104, rt_104, rx_aload_n, rx_baload, rx_bastore, ev_w1, ev_KW, rx_bipush, rx_getfield, ev_gf, rx_goto, rx_iadd, rx_iaload, rx_iastore, rx_iconst, rx_icmp_ge, rx_icmp_gt, rx_icmp_ne, rx_if_eq, rx_if_lt, rx_if_ne, rx_iinc, ev_inc, rx_iload_n, rx_invv, ev_cv, rx_ireturn, rx_istore_n, kl_105, kl_106, kl_107, kl_108, ev_K, ev_pI, ev_pR, ev_pVi, ev_pVr, ev_sI, ev_sR, ev_KC, ev_k, ev_ko, ev_pop0, ev_pops, am_ld, am_sv, am_at, am_st, am_g, List.length_cons, List.length_nil, Nat.reduceAdd, Nat.reduceLT, Nat.zero_add, if_true, if_false, and_self, true_or, or_true, true_and, and_true, not_true_eq_false, not_false_eq_true, reduceCtorEq, eq_self, Option.toList_some, Option.toList_none, List.cons_append, List.nil_append, Bool.false_eq_true, m0, hn, e1, k10, k9, k1, ix, c1, c2, nI_ofs]
          exact i1
theorem mo_siftOut (d : Nat) {n last : Nat} {g : Nat → Int32} (hn : w 1 = nI n) (hb : n ≤ 520) (hl : w 4 = nI last) (hlb : last ≤ 5000) (zA : z ≤ A 10) : ∀ m s hh (v3 : Option Value), m + s = last → vs_M z hh x A w (va_up F 10 (m_fo F (w 0) n g s)) →
    ∃ h', vs_M z h' x A w (va_up F 10 (m_fo F (w 0) n g last)) ∧ h'.2 = hh.2 ∧ ∀ r hx, am_R z (d + 1) 104 157 [some (.ref x), some (.int 2), some (.int 0), some (.int 0)] [] h' r hx → am_R z (d + 1) 104 67 [some (.ref x), some (.int 2), some (.int (nI (s + 1))), v3] [] hh r hx := by
  intro m
  induction m with
  | zero =>
    intro s hh v3 hk hW
    have hkn : s = last := by omega
    subst hkn
    have e1 : nI s < nI (s + 1) := nI_lt (by omega) (by omega)
    have m0 := hW.ob
    refine ⟨hh, hW, rfl, ?_⟩
    intro r hx k1
    rw [am_R_eq] at k1
    rw [am_R_eq, cxh_104_67]
    simp only [am_R_eq, cx_104, en_104, rt_104, rx_aload_n, rx_baload, rx_bastore, ev_w1, ev_KW, rx_bipush, rx_getfield, ev_gf, rx_goto, rx_iadd, rx_iaload, rx_iastore, rx_iconst, rx_icmp_ge, rx_icmp_gt, rx_icmp_ne, rx_if_eq, rx_if_lt, rx_if_ne, rx_iinc, ev_inc, rx_iload_n, rx_invv, ev_cv, rx_ireturn, rx_istore_n, kl_105, kl_106, kl_107, kl_108, ev_K, ev_pI, ev_pR, ev_pVi, ev_pVr, ev_sI, ev_sR, ev_KC, ev_k, ev_ko, ev_pop0, ev_pops, am_ld, am_sv, am_at, am_st, am_g, List.length_cons, List.length_nil, Nat.reduceAdd, Nat.reduceLT, Nat.zero_add, if_true, if_false, and_self, true_or, or_true, true_and, and_true, not_true_eq_false, not_false_eq_true, reduceCtorEq, eq_self, Option.toList_some, Option.toList_none, List.cons_append, List.nil_append, Bool.false_eq_true, m0, hl, e1]
    exact k1
  | succ m ih =>
    intro s hh v3 hk hW
    have e1 : ¬ nI last < nI (s + 1) := nI_nlt (by omega) (by omega)
    have m0 := hW.ob
    obtain ⟨h2, a1, a2, a3⟩ := mo_siftIn (l := 2) d (S := s + 1) (g := m_fo F (w 0) n g s) hn hb zA n 0 hh rfl hW
    obtain ⟨h', i2, i3, i4⟩ := ih (s + 1) h2 (some (.int (nI n))) (by omega) a1
    refine ⟨h', i2, by rw [i3, a2], ?_⟩
    intro r hx K
    have i1 := a3 r hx (i4 r hx K)
    have z0 : nI 0 = 0 := rfl
    rw [z0] at i1
    rw [am_R_eq] at i1
    rw [am_R_eq, cxh_104_67]
    simp only [am_R_eq, cx_104, en_104, rt_104, rx_aload_n, rx_baload, rx_bastore, ev_w1, ev_KW, rx_bipush, rx_getfield, ev_gf, rx_goto, rx_iadd, rx_iaload, rx_iastore, rx_iconst, rx_icmp_ge, rx_icmp_gt, rx_icmp_ne, rx_if_eq, rx_if_lt, rx_if_ne, rx_iinc, ev_inc, rx_iload_n, rx_invv, ev_cv, rx_ireturn, rx_istore_n, kl_105, kl_106, kl_107, kl_108, ev_K, ev_pI, ev_pR, ev_pVi, ev_pVr, ev_sI, ev_sR, ev_KC, ev_k, ev_ko, ev_pop0, ev_pops, am_ld, am_sv, am_at, am_st, am_g, List.length_cons, List.length_nil, Nat.reduceAdd, Nat.reduceLT, Nat.zero_add, if_true, if_false, and_self, true_or, or_true, true_and, and_true, not_true_eq_false, not_false_eq_true, reduceCtorEq, eq_self, Option.toList_some, Option.toList_none, List.cons_append, List.nil_append, Bool.false_eq_true, m0, hl, e1]
    exact i1
theorem mo_siftSkip (d : Nat) {last : Nat} {l : Int32} {r : Option Value} {hx : am_H} {v3 : Option Value} (hl : w 4 = nI last) (hl2 : ¬ l = 2) (hM : vs_M z h x A w F) (k1 : am_R z (d + 1) 104 157 [some (.ref x), some (.int l), some (.int 0), some (.int 0)] [] h r hx) : am_R z (d + 1) 104 67 [some (.ref x), some (.int l), some (.int 1), v3] [] h r hx := by
  have m0 := hM.ob
  rw [am_R_eq] at k1
  rw [am_R_eq, cxh_104_67]
  by_cases c1 : nI last < 1
  · simp only [am_R_eq, cx_104, en_104, rt_104, rx_aload_n, rx_baload, rx_bastore, ev_w1, ev_KW, rx_bipush, rx_getfield, ev_gf, rx_goto, rx_iadd, rx_iaload, rx_iastore, rx_iconst, rx_icmp_ge, rx_icmp_gt, rx_icmp_ne, rx_if_eq, rx_if_lt, rx_if_ne, rx_iinc, ev_inc, rx_iload_n, rx_invv, ev_cv, rx_ireturn, rx_istore_n, kl_105, kl_106, kl_107, kl_108, ev_K, ev_pI, ev_pR, ev_pVi, ev_pVr, ev_sI, ev_sR, ev_KC, ev_k, ev_ko, ev_pop0, ev_pops, am_ld, am_sv, am_at, am_st, am_g, List.length_cons, List.length_nil, Nat.reduceAdd, Nat.reduceLT, Nat.zero_add, if_true, if_false, and_self, true_or, or_true, true_and, and_true, not_true_eq_false, not_false_eq_true, reduceCtorEq, eq_self, Option.toList_some, Option.toList_none, List.cons_append, List.nil_append, Bool.false_eq_true, m0, hl, c1]
    exact k1
  · simp only [am_R_eq, cx_104, en_104, rt_104, rx_aload_n, rx_baload, rx_bastore, ev_w1, ev_KW, rx_bipush, rx_getfield, ev_gf, rx_goto, rx_iadd, rx_iaload, rx_iastore, rx_iconst, rx_icmp_ge, rx_icmp_gt, rx_icmp_ne, rx_if_eq, rx_if_lt, rx_if_ne, rx_iinc, ev_inc, rx_iload_n, rx_invv, ev_cv, rx_ireturn, rx_istore_n, kl_105, kl_106, kl_107, kl_108, ev_K, ev_pI, ev_pR, ev_pVi, ev_pVr, ev_sI, ev_sR, ev_KC, ev_k, ev_ko, ev_pop0, ev_pops, am_ld, am_sv, am_at, am_st, am_g, List.length_cons, List.length_nil, Nat.reduceAdd, Nat.reduceLT, Nat.zero_add, if_true, if_false, and_self, true_or, or_true, true_and, and_true, not_true_eq_false, not_false_eq_true, reduceCtorEq, eq_self, Option.toList_some, Option.toList_none, List.cons_append, List.nil_append, Bool.false_eq_true, m0, hl, c1, hl2]
    exact k1
theorem mo_siftOutV (d : Nat) {n last : Nat} {g : Nat → Int32} {r : Option Value} {hx : am_H} {v3 v3' : Option Value} (hn : w 1 = nI n) (hb : n ≤ 520) (hl : w 4 = nI last) (hlb : last ≤ 5000) (zA : z ≤ A 10) (hM : vs_M z h x A w (va_up F 10 g)) (k1 : am_R z (d + 1) 104 67 [some (.ref x), some (.int 2), some (.int 1), v3'] [] h r hx) : am_R z (d + 1) 104 67 [some (.ref x), some (.int 2), some (.int 1), v3] [] h r hx := by
  have m0 := hM.ob
  revert k1
  rw [am_R_eq, am_R_eq, cxh_104_67]
  by_cases c1 : nI last < 1
  · simp only [am_R_eq, cx_104, en_104, rt_104, rx_aload_n, rx_baload, rx_bastore, ev_w1, ev_KW, rx_bipush, rx_getfield, ev_gf, rx_goto, rx_iadd, rx_iaload, rx_iastore, rx_iconst, rx_icmp_ge, rx_icmp_gt, rx_icmp_ne, rx_if_eq, rx_if_lt, rx_if_ne, rx_iinc, ev_inc, rx_iload_n, rx_invv, ev_cv, rx_ireturn, rx_istore_n, kl_105, kl_106, kl_107, kl_108, ev_K, ev_pI, ev_pR, ev_pVi, ev_pVr, ev_sI, ev_sR, ev_KC, ev_k, ev_ko, ev_pop0, ev_pops, am_ld, am_sv, am_at, am_st, am_g, List.length_cons, List.length_nil, Nat.reduceAdd, Nat.reduceLT, Nat.zero_add, if_true, if_false, and_self, true_or, or_true, true_and, and_true, not_true_eq_false, not_false_eq_true, reduceCtorEq, eq_self, Option.toList_some, Option.toList_none, List.cons_append, List.nil_append, Bool.false_eq_true, m0, hl, c1]
    exact fun q => q
  · simp only [am_R_eq, cx_104, en_104, rt_104, rx_aload_n, rx_baload, rx_bastore, ev_w1, ev_KW, rx_bipush, rx_getfield, ev_gf, rx_goto, rx_iadd, rx_iaload, rx_iastore, rx_iconst, rx_icmp_ge, rx_icmp_gt, rx_icmp_ne, rx_if_eq, rx_if_lt, rx_if_ne, rx_iinc, ev_inc, rx_iload_n, rx_invv, ev_cv, rx_ireturn, rx_istore_n, kl_105, kl_106, kl_107, kl_108, ev_K, ev_pI, ev_pR, ev_pVi, ev_pVr, ev_sI, ev_sR, ev_KC, ev_k, ev_ko, ev_pop0, ev_pops, am_ld, am_sv, am_at, am_st, am_g, List.length_cons, List.length_nil, Nat.reduceAdd, Nat.reduceLT, Nat.zero_add, if_true, if_false, and_self, true_or, or_true, true_and, and_true, not_true_eq_false, not_false_eq_true, reduceCtorEq, eq_self, Option.toList_some, Option.toList_none, List.cons_append, List.nil_append, Bool.false_eq_true, m0, hl, c1]
    exact fun q => q
def m_l3 (F : Nat → Nat → Int32) (g : Nat → Int32) (l : Int32) (e : Nat) : Int32 := if F 9 e = 0 then F 5 e else if g e = 0 then l else 9
def m_c3 (F : Nat → Nat → Int32) (g : Nat → Int32) (e : Nat) : Bool := !decide (F 9 e = 0) && !decide (g e = 0)
theorem mo_sift3 (d : Nat) {n : Nat} {l : Int32} {g : Nat → Int32} (hn : w 1 = nI n) (hb : n ≤ 520) (zA : z ≤ A 5) : ∀ m k hh, m + k = n → vs_M z hh x A w (va_up (va_up F 10 g) 5 (m_fill (F 5) (m_l3 F g l) k)) →
    ∃ h', am_R z (d + 1) 104 157 [some (.ref x), some (.int l), some (.int (nI (m_cn (m_c3 F g) k))), some (.int (nI k))] [] hh (some (.int (nI (m_cn (m_c3 F g) n)))) h' ∧ vs_M z h' x A w (va_up (va_up F 10 g) 5 (m_fill (F 5) (m_l3 F g l) n)) ∧ h'.2 = hh.2 := by
  intro m
  induction m with
  | zero =>
    intro k hh hk hW
    have hkn : k = n := by omega
    subst hkn
    have e1 : nI k ≤ nI k := nI_le (Nat.le_refl _) (by omega)
    have m0 := hW.ob
    refine ⟨hh, ?_, hW, rfl⟩
    rw [am_R_eq, cxh_104_157]
    simp only [am_R_eq, cx_104, en_104, rt_104, rx_aload_n, rx_baload, rx_bastore, ev_w1, ev_KW, rx_bipush, rx_getfield, ev_gf, rx_goto, rx_iadd, rx_iaload, rx_iastore, rx_iconst, rx_icmp_ge, rx_icmp_gt, rx_icmp_ne, rx_if_eq, rx_if_lt, rx_if_ne, rx_iinc, ev_inc, rx_iload_n, rx_invv, ev_cv, rx_ireturn, rx_istore_n, kl_105, kl_106, kl_107, kl_108, ev_K, ev_pI, ev_pR, ev_pVi, ev_pVr, ev_sI, ev_sR, ev_KC, ev_k, ev_ko, ev_pop0, ev_pops, am_ld, am_sv, am_at, am_st, am_g, List.length_cons, List.length_nil, Nat.reduceAdd, Nat.reduceLT, Nat.zero_add, if_true, if_false, and_self, true_or, or_true, true_and, and_true, not_true_eq_false, not_false_eq_true, reduceCtorEq, eq_self, Option.toList_some, Option.toList_none, List.cons_append, List.nil_append, Bool.false_eq_true, m0, hn, e1]
  | succ m ih =>
    intro k hh hk hW
    have e1 : ¬ nI n ≤ nI k := nI_ge (by omega) (by omega)
    have ix := m_ix (k := k) (by omega)
    have iw := m_wi (n := 520) (k := k) (by omega) (by omega)
    have m0 := hW.ob
    have k10 : hh.1 (A 10) = some (.inl (1, 520, .inl g)) := hW.ar 10 (by omega)
    have k9 : hh.1 (A 9) = some (.inl (1, 520, .inl (F 9))) := hW.ar 9 (by omega)
    have k5 : hh.1 (A 5) = some (.inl (0, 520, .inl (m_fill (F 5) (m_l3 F g l) k))) := hW.ar 5 (by omega)
    have n10 : A 10 ≠ A 5 := hW.dj 10 5 (by omega) (by omega) (by omega)
    have nx : x ≠ A 5 := (hW.ne (i := 5) (by omega)).symm
    have fs := m_fill_s (F 5) (m_l3 F g l) k
    have hW2 : vs_M z (am_up hh (A 5) (.inl (0, 520, .inl (m_fill (F 5) (m_l3 F g l) (k + 1))))) x A w (va_up (va_up (va_up F 10 g) 5 (m_fill (F 5) (m_l3 F g l) k)) 5 (m_fill (F 5) (m_l3 F g l) (k + 1))) := hW.arr (i := 5) (by omega) _
    rw [bx_uu] at hW2
    by_cases c1 : F 9 k = 0
    · have ev : m_l3 F g l k = F 5 k := by unfold m_l3; rw [if_pos c1]
      have fi := m_fill_i (F 5) (m_l3 F g l) (k := k) ev
      rw [← fi] at hW
      obtain ⟨h', i1, i2, i3⟩ := ih (k + 1) hh (by omega) hW
      refine ⟨h', ?_, i2, i3⟩
      have ec : m_c3 F g k = false := by unfold m_c3; simp [c1]
      rw [m_cn, ec, if_neg (by decide), Nat.add_zero, am_R_eq] at i1
      rw [am_R_eq, cxh_104_157]
      simp only [am_R_eq, cx_104, en_104, rt_104, rx_aload_n, rx_baload, rx_bastore, ev_w1, ev_KW, rx_bipush, rx_getfield, ev_gf, rx_goto, rx_iadd, rx_iaload, rx_iastore, rx_iconst, rx_icmp_ge, rx_icmp_gt, rx_icmp_ne, rx_if_eq, rx_if_lt, rx_if_ne, rx_iinc, ev_inc, rx_iload_n, rx_invv, ev_cv, rx_ireturn, rx_istore_n, kl_105, kl_106, kl_107, kl_108, ev_K, ev_pI, ev_pR, ev_pVi, ev_pVr, ev_sI, ev_sR, ev_KC, ev_k, ev_ko, ev_pop0, ev_pops, am_ld, am_sv, am_at, am_st, am_g, List.length_cons, List.length_nil, Nat.reduceAdd, Nat.reduceLT, Nat.zero_add, if_true, if_false, and_self, true_or, or_true, true_and, and_true, not_true_eq_false, not_false_eq_true, reduceCtorEq, eq_self, Option.toList_some, Option.toList_none, List.cons_append, List.nil_append, Bool.false_eq_true, m0, hn, e1, k9, ix, c1, nI_ofs]
      exact i1
    · obtain ⟨h', i1, i2, i3⟩ := ih (k + 1) _ (by omega) hW2
      refine ⟨h', ?_, i2, i3⟩
      by_cases c2 : g k = 0
      · have ec : m_c3 F g k = false := by unfold m_c3; simp [c2]
        have ev : m_l3 F g l k = l := by unfold m_l3; rw [if_neg c1, if_pos c2]
        rw [ev] at fs
        rw [m_cn, ec, if_neg (by decide), Nat.add_zero, am_R_eq] at i1
        rw [am_R_eq, cxh_104_157]
        simp only [am_R_eq, cx_104, en_104, rt_104, rx_aload_n, rx_baload, rx_bastore, ev_w1, ev_KW, rx_bipush, rx_getfield, ev_gf, rx_goto, rx_iadd, rx_iaload, rx_iastore, rx_iconst, rx_icmp_ge, rx_icmp_gt, rx_icmp_ne, rx_if_eq, rx_if_lt, rx_if_ne, rx_iinc, ev_inc, rx_iload_n, rx_invv, ev_cv, rx_ireturn, rx_istore_n, kl_105, kl_106, kl_107, kl_108, ev_K, ev_pI, ev_pR, ev_pVi, ev_pVr, ev_sI, ev_sR, ev_KC, ev_k, ev_ko, ev_pop0, ev_pops, am_ld, am_sv, am_at, am_st, am_g, List.length_cons, List.length_nil, Nat.reduceAdd, Nat.reduceLT, Nat.zero_add, if_true, if_false, and_self, true_or, or_true, true_and, and_true, not_true_eq_false, not_false_eq_true, reduceCtorEq, eq_self, Option.toList_some, Option.toList_none, List.cons_append, List.nil_append, Bool.false_eq_true, m0, hn, e1, k9, k5, k10, n10, nx, ix, iw, c1, c2, zA, fs, am_up_at, am_up_ne, ne_eq, nI_ofs]
        exact i1
      · have ec : m_c3 F g k = true := by unfold m_c3; simp [c1, c2]
        have ev : m_l3 F g l k = 9 := by unfold m_l3; rw [if_neg c1, if_neg c2]
        rw [ev] at fs
        rw [m_cn, ec, if_pos rfl, am_R_eq] at i1
        rw [am_R_eq, cxh_104_157]
        simp only [am_R_eq, cx_104, en_104, rt_104, rx_aload_n, rx_baload, rx_bastore, ev_w1, ev_KW, rx_bipush, rx_getfield, ev_gf, rx_goto, rx_iadd, rx_iaload, rx_iastore, rx_iconst, rx_icmp_ge, rx_icmp_gt, rx_icmp_ne, rx_if_eq, rx_if_lt, rx_if_ne, rx_iinc, ev_inc, rx_iload_n, rx_invv, ev_cv, rx_ireturn, rx_istore_n, kl_105, kl_106, kl_107, kl_108, ev_K, ev_pI, ev_pR, ev_pVi, ev_pVr, ev_sI, ev_sR, ev_KC, ev_k, ev_ko, ev_pop0, ev_pops, am_ld, am_sv, am_at, am_st, am_g, List.length_cons, List.length_nil, Nat.reduceAdd, Nat.reduceLT, Nat.zero_add, if_true, if_false, and_self, true_or, or_true, true_and, and_true, not_true_eq_false, not_false_eq_true, reduceCtorEq, eq_self, Option.toList_some, Option.toList_none, List.cons_append, List.nil_append, Bool.false_eq_true, m0, hn, e1, k9, k5, k10, n10, nx, ix, iw, c1, c2, zA, fs, am_up_at, am_up_ne, ne_eq, nI_ofs]
        exact i1
def m_fa (F : Nat → Nat → Int32) (t : Int32) (n last : Nat) (l : Int32) : Nat → Int32 := if l = 2 then m_fo F t n (m_fill (F 10) (m_f1 F n) n) last else m_fill (F 10) (m_f1 F n) n
def m_sf (F : Nat → Nat → Int32) (t : Int32) (n last : Nat) (l : Int32) : Nat → Nat → Int32 := va_up (va_up F 10 (m_fa F t n last l)) 5 (m_fill (F 5) (m_l3 F (m_fa F t n last l) l) n)
theorem mo_sift (d : Nat) {n last : Nat} {l : Int32} (hn : w 1 = nI n) (hb : n ≤ 520) (hl : w 4 = nI last) (hlb : last ≤ 5000) (hM : vs_M z h x A w F) : ∃ h', am_M z (d + 1 + 1) 104 [.ref x, .int l] h (some (.int (nI (m_cn (m_c3 F (m_fa F (w 0) n last l)) n)))) h' ∧ vs_M z h' x A w (m_sf F (w 0) n last l) ∧ h'.2 = h.2 := by
  have z10 := hM.za 10 (by omega)
  have z5 := hM.za 5 (by omega)
  have z0 : nI 0 = 0 := rfl
  obtain ⟨h1, a1, a2, a3⟩ := mo_sift1 (l := l) d hn hb z10 n 0 h none rfl (by rw [m_fill_0, va_up_id]; exact hM)
  have second : ∃ h2, vs_M z h2 x A w (va_up F 10 (m_fa F (w 0) n last l)) ∧ h2.2 = h1.2 ∧ ∀ r hx, am_R z (d + 1) 104 157 [some (.ref x), some (.int l), some (.int 0), some (.int 0)] [] h2 r hx → ∀ v3, am_R z (d + 1) 104 67 [some (.ref x), some (.int l), some (.int 1), v3] [] h1 r hx := by
    by_cases c1 : l = 2
    · subst c1
      obtain ⟨h2, b1, b2, b3⟩ := mo_siftOut (g := m_fill (F 10) (m_f1 F n) n) d hn hb hl hlb z10 last 0 h1 none rfl a1
      refine ⟨h2, by unfold m_fa; rw [if_pos rfl]; exact b1, b2, ?_⟩
      intro r hx K v3
      obtain ⟨h3, d1, d2, d3⟩ := mo_siftOut (g := m_fill (F 10) (m_f1 F n) n) d hn hb hl hlb z10 last 0 h1 v3 rfl a1
      have e3 : h3 = h2 ∨ True := Or.inr trivial
      exact mo_siftOutV d hn hb hl hlb z10 a1 (v3 := v3) (v3' := none) (b3 r hx K)
    · refine ⟨h1, by unfold m_fa; rw [if_neg c1]; exact a1, rfl, ?_⟩
      intro r hx K v3
      exact mo_siftSkip d hl c1 a1 K
  obtain ⟨h2, b1, b2, b3⟩ := second
  obtain ⟨h3, d1, d2, d3⟩ := mo_sift3 (l := l) (F := F) d hn hb z5 n 0 h2 rfl (by
    have e1 : m_fill (F 5) (m_l3 F (m_fa F (w 0) n last l) l) 0 = va_up F 10 (m_fa F (w 0) n last l) 5 := m_fill_0 _ _
    rw [e1, va_up_id]; exact b1)
  refine ⟨h3, ?_, d2, by rw [d3, b2, a2]⟩
  rw [m_cn, z0] at d1
  have k1 := a3 _ _ (b3 _ _ d1)
  rw [z0] at k1
  rw [am_R_eq] at k1
  rw [am_M_eq]
  simp only [am_R_eq, cx_104, en_104, rt_104, rx_aload_n, rx_baload, rx_bastore, ev_w1, ev_KW, rx_bipush, rx_getfield, ev_gf, rx_goto, rx_iadd, rx_iaload, rx_iastore, rx_iconst, rx_icmp_ge, rx_icmp_gt, rx_icmp_ne, rx_if_eq, rx_if_lt, rx_if_ne, rx_iinc, ev_inc, rx_iload_n, rx_invv, ev_cv, rx_ireturn, rx_istore_n, kl_105, kl_106, kl_107, kl_108, ev_K, ev_pI, ev_pR, ev_pVi, ev_pVr, ev_sI, ev_sR, ev_KC, ev_k, ev_ko, ev_pop0, ev_pops, am_ld, am_sv, am_at, am_st, am_g, List.length_cons, List.length_nil, Nat.reduceAdd, Nat.reduceLT, Nat.zero_add, if_true, if_false, and_self, true_or, or_true, true_and, and_true, not_true_eq_false, not_false_eq_true, reduceCtorEq, eq_self, Option.toList_some, Option.toList_none, List.cons_append, List.nil_append, Bool.false_eq_true]
  exact k1
end MS
