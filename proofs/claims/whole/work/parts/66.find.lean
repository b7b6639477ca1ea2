section NJ
variable {z : Nat} {h : am_H} {x : Nat} {A : Nat → Nat} {w : Nat → Int32} {F : Nat → Nat → Int32}
def m_tn (F : Nat → Nat → Int32) (zr n : Nat) (l : Nat) : Nat := if l = 0 then zr else (m_cn (fun e => decide (F 5 e = nI l)) n + 5) / 6
theorem mo_tablesN (d : Nat) {n zr l : Nat} (hn : w 1 = nI n) (hb : n ≤ 520) (hz : w 3 = nI zr) (hl : l < 3) (hM : vs_M z h x A w F) : am_M z (d + 1 + 1) 132 [.ref x, .int (nI l)] h (some (.int (nI (m_tn F zr n l)))) h := by
  unfold m_tn
  by_cases c1 : l = 0
  · subst c1
    rw [if_pos rfl, ← hz]
    exact am_M_up (Nat.le_succ _) (mo_tables0 d hM)
  · rw [if_neg c1]
    exact mo_tables d hn hb (nI_ne0 (by omega) (by omega)) hM
def m_fk (F : Nat → Nat → Int32) (nw : Int32) (n : Nat) (s key : Int32) (l : Nat) : Nat → Nat → Option Nat → Int32 → Option Nat × Int32
  | 0, _, o, p => (o, p)
  | m + 1, k, o, p => match o with
    | some e => (some e, p)
    | none => if m_may F nw n (nI l) (nI k) key = true then m_fk F nw n s key l m (k + 1) (m_arg (m_laP F nw (nI l) (nI k) s key) (m_hi F) n) (p + 1) else m_fk F nw n s key l m (k + 1) none p
theorem m1_nn : ¬ (0 : Int32) ≤ -1 := by decide
theorem mo_findIn (d : Nat) {n zr l : Nat} {s key : Int32} (hn : w 1 = nI n) (hb : n ≤ 520) (hz : w 3 = nI zr) (hzb : zr ≤ 10) (hl : l < 3) (hs : s < 0 ∨ ∃ j, j < 3 ∧ s = nI j) (zx : z ≤ x) : ∀ m k (o : Option Nat) (p : Int32) hh, m + k = m_tn F zr n l → (∀ e, o = some e → e < 520) → vs_M z hh x A (va_up w 9 p) F →
    ∃ h', vs_M z h' x A (va_up w 9 (m_fk F (w 2) n s key l m k o p).2) F ∧ h'.2 = hh.2 ∧ (∀ e, (m_fk F (w 2) n s key l m k o p).1 = some e → e < 520) ∧ ∀ r hx, (∀ v5, am_R z (d + 1 + 1 + 1 + 1) 127 17 [some (.ref x), some (.int s), some (.int key), some (.int (m_oi (m_fk F (w 2) n s key l m k o p).1)), some (.int (nI (l + 1))), v5] [] h' r hx) → am_R z (d + 1 + 1 + 1 + 1) 127 26 [some (.ref x), some (.int s), some (.int key), some (.int (m_oi o)), some (.int (nI l)), some (.int (nI k))] [] hh r hx := by
  have hT : m_tn F zr n l ≤ 100 := by
    unfold m_tn
    have := m_cn_le (fun e => decide (F 5 e = nI l)) n
    split <;> omega
  intro m
  induction m with
  | zero =>
    intro k o p hh hk ho hW
    have m0 := hW.ob
    have q1 := mo_tablesN (w := va_up w 9 p) (d + 1 + 1) (l := l) hn hb hz hl hW
    have e1 : nI (m_tn F zr n l) ≤ nI k := nI_le (by omega) (by omega)
    refine ⟨hh, hW, rfl, ho, ?_⟩
    intro r hx K
    have k1 := K (some (.int (nI k)))
    rw [m_fk, am_R_eq] at k1
    rw [am_R_eq, cxh_127_26]
    simp only [am_R_eq, cx_127, en_127, rt_127, rx_aload_n, rx_dup_i, rx_dup_r, rx_getfield, ev_gf, rx_goto, rx_iadd, rx_iconst, rx_icmp_ge, rx_if_ge, rx_if_ne, rx_iinc, ev_inc, rx_iload, rx_iload_n, rx_invv, ev_cv, rx_ireturn, rx_istore, rx_istore_n, rx_putfield, ev_pf, ev_w1, ev_KW, am_fok, am_ftv, kl_128, kl_132, kl_133, ev_K, ev_pI, ev_pR, ev_pVi, ev_pVr, ev_sI, ev_sR, ev_KC, ev_k, ev_ko, ev_pop0, ev_pops, am_ld, am_sv, am_at, am_st, am_g, List.length_cons, List.length_nil, Nat.reduceAdd, Nat.reduceLT, Nat.zero_add, if_true, if_false, and_self, true_or, or_true, true_and, and_true, not_true_eq_false, not_false_eq_true, reduceCtorEq, eq_self, Option.toList_some, Option.toList_none, List.cons_append, List.nil_append, Bool.false_eq_true, m0]
    refine am_CL_of q1 ?_
    simp only [am_R_eq, cx_127, en_127, rt_127, rx_aload_n, rx_dup_i, rx_dup_r, rx_getfield, ev_gf, rx_goto, rx_iadd, rx_iconst, rx_icmp_ge, rx_if_ge, rx_if_ne, rx_iinc, ev_inc, rx_iload, rx_iload_n, rx_invv, ev_cv, rx_ireturn, rx_istore, rx_istore_n, rx_putfield, ev_pf, ev_w1, ev_KW, am_fok, am_ftv, kl_128, kl_132, kl_133, ev_K, ev_pI, ev_pR, ev_pVi, ev_pVr, ev_sI, ev_sR, ev_KC, ev_k, ev_ko, ev_pop0, ev_pops, am_ld, am_sv, am_at, am_st, am_g, List.length_cons, List.length_nil, Nat.reduceAdd, Nat.reduceLT, Nat.zero_add, if_true, if_false, and_self, true_or, or_true, true_and, and_true, not_true_eq_false, not_false_eq_true, reduceCtorEq, eq_self, Option.toList_some, Option.toList_none, List.cons_append, List.nil_append, Bool.false_eq_true, e1, nI_ofs]
    exact k1
  | succ m ih =>
    intro k o p hh hk ho hW
    have m0 := hW.ob
    have q1 := mo_tablesN (w := va_up w 9 p) (d + 1 + 1) (l := l) hn hb hz hl hW
    have e1 : ¬ nI (m_tn F zr n l) ≤ nI k := nI_ge (by omega) (by omega)
    cases o with
    | some e =>
      have he := ho e rfl
      have e2 : (0 : Int32) ≤ nI e := nI_pos' (by omega)
      refine ⟨hh, hW, rfl, ho, ?_⟩
      intro r hx K
      have k1 := K (some (.int (nI k)))
      rw [m_fk, am_R_eq] at k1
      rw [am_R_eq, cxh_127_26]
      simp only [am_R_eq, cx_127, en_127, rt_127, rx_aload_n, rx_dup_i, rx_dup_r, rx_getfield, ev_gf, rx_goto, rx_iadd, rx_iconst, rx_icmp_ge, rx_if_ge, rx_if_ne, rx_iinc, ev_inc, rx_iload, rx_iload_n, rx_invv, ev_cv, rx_ireturn, rx_istore, rx_istore_n, rx_putfield, ev_pf, ev_w1, ev_KW, am_fok, am_ftv, kl_128, kl_132, kl_133, ev_K, ev_pI, ev_pR, ev_pVi, ev_pVr, ev_sI, ev_sR, ev_KC, ev_k, ev_ko, ev_pop0, ev_pops, am_ld, am_sv, am_at, am_st, am_g, List.length_cons, List.length_nil, Nat.reduceAdd, Nat.reduceLT, Nat.zero_add, if_true, if_false, and_self, true_or, or_true, true_and, and_true, not_true_eq_false, not_false_eq_true, reduceCtorEq, eq_self, Option.toList_some, Option.toList_none, List.cons_append, List.nil_append, Bool.false_eq_true, m0]
      refine am_CL_of q1 ?_
      simp only [am_R_eq, cx_127, en_127, rt_127, rx_aload_n, rx_dup_i, rx_dup_r, rx_getfield, ev_gf, rx_goto, rx_iadd, rx_iconst, rx_icmp_ge, rx_if_ge, rx_if_ne, rx_iinc, ev_inc, rx_iload, rx_iload_n, rx_invv, ev_cv, rx_ireturn, rx_istore, rx_istore_n, rx_putfield, ev_pf, ev_w1, ev_KW, am_fok, am_ftv, kl_128, kl_132, kl_133, ev_K, ev_pI, ev_pR, ev_pVi, ev_pVr, ev_sI, ev_sR, ev_KC, ev_k, ev_ko, ev_pop0, ev_pops, am_ld, am_sv, am_at, am_st, am_g, List.length_cons, List.length_nil, Nat.reduceAdd, Nat.reduceLT, Nat.zero_add, if_true, if_false, and_self, true_or, or_true, true_and, and_true, not_true_eq_false, not_false_eq_true, reduceCtorEq, eq_self, Option.toList_some, Option.toList_none, List.cons_append, List.nil_append, Bool.false_eq_true, e1, m_oi, e2, nI_ofs]
      exact k1
    | none =>
      have q2 := mo_may (w := va_up w 9 p) d (l := nI l) (k := nI k) (key := key) hn hb hW
      have q2' : am_M z (d + 1 + 1 + 1 + 1) 133 [.ref x, .int (nI l), .int (nI k), .int key] hh (some (.int (if m_may F (w 2) n (nI l) (nI k) key = true then 1 else 0))) hh := q2
      by_cases c1 : m_may F (w 2) n (nI l) (nI k) key = true
      · rw [if_pos c1] at q2'
        have hW2 := hW.fld (va_up w 9 (p + 1))
        have q3 := mo_latest (w := va_up w 9 (p + 1)) (d + 1) (l := nI l) (k := nI k) (s := s) (key := key) hn hb hs hW2
        have q3' : am_M z (d + 1 + 1 + 1 + 1) 128 [.ref x, .int (nI l), .int (nI k), .int s, .int key] _ (some (.int (m_oi (m_arg (m_laP F (w 2) (nI l) (nI k) s key) (m_hi F) n)))) _ := q3
        have em : m_fk F (w 2) n s key l (m + 1) k none p = m_fk F (w 2) n s key l m (k + 1) (m_arg (m_laP F (w 2) (nI l) (nI k) s key) (m_hi F) n) (p + 1) := by
          rw [m_fk]
          exact if_pos c1
        rw [em]
        obtain ⟨h', i1, i2, i3, i4⟩ := ih (k + 1) (m_arg (m_laP F (w 2) (nI l) (nI k) s key) (m_hi F) n) (p + 1) _ (by omega) (fun e he => by
          have := (m_arg_lt _ _ _ _ he).1
          omega) hW2
        refine ⟨h', i1, by rw [i2]; rfl, i3, ?_⟩
        intro r hx K
        have k1 := i4 r hx K
        rw [vmo_9] at k1 q3'
        rw [am_R_eq] at k1
        have mz : m_oi none = -1 := rfl
        rw [vmo_9] at m0
        rw [am_R_eq, cxh_127_26]
        simp only [am_R_eq, cx_127, en_127, rt_127, rx_aload_n, rx_dup_i, rx_dup_r, rx_getfield, ev_gf, rx_goto, rx_iadd, rx_iconst, rx_icmp_ge, rx_if_ge, rx_if_ne, rx_iinc, ev_inc, rx_iload, rx_iload_n, rx_invv, ev_cv, rx_ireturn, rx_istore, rx_istore_n, rx_putfield, ev_pf, ev_w1, ev_KW, am_fok, am_ftv, kl_128, kl_132, kl_133, ev_K, ev_pI, ev_pR, ev_pVi, ev_pVr, ev_sI, ev_sR, ev_KC, ev_k, ev_ko, ev_pop0, ev_pops, am_ld, am_sv, am_at, am_st, am_g, List.length_cons, List.length_nil, Nat.reduceAdd, Nat.reduceLT, Nat.zero_add, if_true, if_false, and_self, true_or, or_true, true_and, and_true, not_true_eq_false, not_false_eq_true, reduceCtorEq, eq_self, Option.toList_some, Option.toList_none, List.cons_append, List.nil_append, Bool.false_eq_true, m0]
        refine am_CL_of q1 ?_
        simp only [am_R_eq, cx_127, en_127, rt_127, rx_aload_n, rx_dup_i, rx_dup_r, rx_getfield, ev_gf, rx_goto, rx_iadd, rx_iconst, rx_icmp_ge, rx_if_ge, rx_if_ne, rx_iinc, ev_inc, rx_iload, rx_iload_n, rx_invv, ev_cv, rx_ireturn, rx_istore, rx_istore_n, rx_putfield, ev_pf, ev_w1, ev_KW, am_fok, am_ftv, kl_128, kl_132, kl_133, ev_K, ev_pI, ev_pR, ev_pVi, ev_pVr, ev_sI, ev_sR, ev_KC, ev_k, ev_ko, ev_pop0, ev_pops, am_ld, am_sv, am_at, am_st, am_g, List.length_cons, List.length_nil, Nat.reduceAdd, Nat.reduceLT, Nat.zero_add, if_true, if_false, and_self, true_or, or_true, true_and, and_true, not_true_eq_false, not_false_eq_true, reduceCtorEq, eq_self, Option.toList_some, Option.toList_none, List.cons_append, List.nil_append, Bool.false_eq_true, e1, mz, m1_nn, m0]
        refine am_CL_of q2' ?_
        simp only [am_R_eq, cx_127, en_127, rt_127, rx_aload_n, rx_dup_i, rx_dup_r, rx_getfield, ev_gf, rx_goto, rx_iadd, rx_iconst, rx_icmp_ge, rx_if_ge, rx_if_ne, rx_iinc, ev_inc, rx_iload, rx_iload_n, rx_invv, ev_cv, rx_ireturn, rx_istore, rx_istore_n, rx_putfield, ev_pf, ev_w1, ev_KW, am_fok, am_ftv, kl_128, kl_132, kl_133, ev_K, ev_pI, ev_pR, ev_pVi, ev_pVr, ev_sI, ev_sR, ev_KC, ev_k, ev_ko, ev_pop0, ev_pops, am_ld, am_sv, am_at, am_st, am_g, List.length_cons, List.length_nil, Nat.reduceAdd, Nat.reduceLT, Nat.zero_add, if_true, if_false, and_self, true_or, or_true, true_and, and_true, not_true_eq_false, not_false_eq_true, reduceCtorEq, eq_self, Option.toList_some, Option.toList_none, List.cons_append, List.nil_append, Bool.false_eq_true, i_10, m0, zx, am_ft7, am_up_at, Nat.reduceLeDiff, beq_self_eq_true]
        refine am_CL_of q3' ?_
        simp only [am_R_eq, cx_127, en_127, rt_127, rx_aload_n, rx_dup_i, rx_dup_r, rx_getfield, ev_gf, rx_goto, rx_iadd, rx_iconst, rx_icmp_ge, rx_if_ge, rx_if_ne, rx_iinc, ev_inc, rx_iload, rx_iload_n, rx_invv, ev_cv, rx_ireturn, rx_istore, rx_istore_n, rx_putfield, ev_pf, ev_w1, ev_KW, am_fok, am_ftv, kl_128, kl_132, kl_133, ev_K, ev_pI, ev_pR, ev_pVi, ev_pVr, ev_sI, ev_sR, ev_KC, ev_k, ev_ko, ev_pop0, ev_pops, am_ld, am_sv, am_at, am_st, am_g, List.length_cons, List.length_nil, Nat.reduceAdd, Nat.reduceLT, Nat.zero_add, if_true, if_false, and_self, true_or, or_true, true_and, and_true, not_true_eq_false, not_false_eq_true, reduceCtorEq, eq_self, Option.toList_some, Option.toList_none, List.cons_append, List.nil_append, Bool.false_eq_true, nI_ofs]
        exact k1
      · rw [if_neg c1] at q2'
        have em : m_fk F (w 2) n s key l (m + 1) k none p = m_fk F (w 2) n s key l m (k + 1) none p := by
          rw [m_fk]
          exact if_neg c1
        rw [em]
        obtain ⟨h', i1, i2, i3, i4⟩ := ih (k + 1) none p hh (by omega) ho hW
        refine ⟨h', i1, i2, i3, ?_⟩
        intro r hx K
        have k1 := i4 r hx K
        rw [am_R_eq] at k1
        have mz : m_oi none = -1 := rfl
        rw [mz] at k1
        rw [am_R_eq, cxh_127_26]
        simp only [am_R_eq, cx_127, en_127, rt_127, rx_aload_n, rx_dup_i, rx_dup_r, rx_getfield, ev_gf, rx_goto, rx_iadd, rx_iconst, rx_icmp_ge, rx_if_ge, rx_if_ne, rx_iinc, ev_inc, rx_iload, rx_iload_n, rx_invv, ev_cv, rx_ireturn, rx_istore, rx_istore_n, rx_putfield, ev_pf, ev_w1, ev_KW, am_fok, am_ftv, kl_128, kl_132, kl_133, ev_K, ev_pI, ev_pR, ev_pVi, ev_pVr, ev_sI, ev_sR, ev_KC, ev_k, ev_ko, ev_pop0, ev_pops, am_ld, am_sv, am_at, am_st, am_g, List.length_cons, List.length_nil, Nat.reduceAdd, Nat.reduceLT, Nat.zero_add, if_true, if_false, and_self, true_or, or_true, true_and, and_true, not_true_eq_false, not_false_eq_true, reduceCtorEq, eq_self, Option.toList_some, Option.toList_none, List.cons_append, List.nil_append, Bool.false_eq_true, m0]
        refine am_CL_of q1 ?_
        simp only [am_R_eq, cx_127, en_127, rt_127, rx_aload_n, rx_dup_i, rx_dup_r, rx_getfield, ev_gf, rx_goto, rx_iadd, rx_iconst, rx_icmp_ge, rx_if_ge, rx_if_ne, rx_iinc, ev_inc, rx_iload, rx_iload_n, rx_invv, ev_cv, rx_ireturn, rx_istore, rx_istore_n, rx_putfield, ev_pf, ev_w1, ev_KW, am_fok, am_ftv, kl_128, kl_132, kl_133, ev_K, ev_pI, ev_pR, ev_pVi, ev_pVr, ev_sI, ev_sR, ev_KC, ev_k, ev_ko, ev_pop0, ev_pops, am_ld, am_sv, am_at, am_st, am_g, List.length_cons, List.length_nil, Nat.reduceAdd, Nat.reduceLT, Nat.zero_add, if_true, if_false, and_self, true_or, or_true, true_and, and_true, not_true_eq_false, not_false_eq_true, reduceCtorEq, eq_self, Option.toList_some, Option.toList_none, List.cons_append, List.nil_append, Bool.false_eq_true, e1, mz, m1_nn, m0]
        refine am_CL_of q2' ?_
        simp only [am_R_eq, cx_127, en_127, rt_127, rx_aload_n, rx_dup_i, rx_dup_r, rx_getfield, ev_gf, rx_goto, rx_iadd, rx_iconst, rx_icmp_ge, rx_if_ge, rx_if_ne, rx_iinc, ev_inc, rx_iload, rx_iload_n, rx_invv, ev_cv, rx_ireturn, rx_istore, rx_istore_n, rx_putfield, ev_pf, ev_w1, ev_KW, am_fok, am_ftv, kl_128, kl_132, kl_133, ev_K, ev_pI, ev_pR, ev_pVi, ev_pVr, ev_sI, ev_sR, ev_KC, ev_k, ev_ko, ev_pop0, ev_pops, am_ld, am_sv, am_at, am_st, am_g, List.length_cons, List.length_nil, Nat.reduceAdd, Nat.reduceLT, Nat.zero_add, if_true, if_false, and_self, true_or, or_true, true_and, and_true, not_true_eq_false, not_false_eq_true, reduceCtorEq, eq_self, Option.toList_some, Option.toList_none, List.cons_append, List.nil_append, Bool.false_eq_true, nI_ofs]
        exact k1
end NJ
