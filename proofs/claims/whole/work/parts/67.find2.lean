section NK
variable {z : Nat} {h : am_H} {x : Nat} {A : Nat → Nat} {w : Nat → Int32} {F : Nat → Nat → Int32}
def m_fd (F : Nat → Nat → Int32) (nw : Int32) (zr n : Nat) (s key : Int32) : Nat → Nat → Option Nat → Int32 → Option Nat × Int32
  | 0, _, o, p => (o, p)
  | m + 1, l, o, p => m_fd F nw zr n s key m (l + 1) (m_fk F nw n s key l (m_tn F zr n l) 0 o p).1 (m_fk F nw n s key l (m_tn F zr n l) 0 o p).2
theorem mo_findOut (d : Nat) {n zr : Nat} {s key : Int32} (hn : w 1 = nI n) (hb : n ≤ 520) (hz : w 3 = nI zr) (hzb : zr ≤ 10) (hs : s < 0 ∨ ∃ j, j < 3 ∧ s = nI j) (zx : z ≤ x) : ∀ m l (o : Option Nat) (p : Int32) hh, m + l = 3 → (∀ e, o = some e → e < 520) → vs_M z hh x A (va_up w 9 p) F →
    ∃ h', vs_M z h' x A (va_up w 9 (m_fd F (w 2) zr n s key m l o p).2) F ∧ h'.2 = hh.2 ∧ (∀ e, (m_fd F (w 2) zr n s key m l o p).1 = some e → e < 520) ∧ ∀ v5, am_R z (d + 1 + 1 + 1 + 1) 127 17 [some (.ref x), some (.int s), some (.int key), some (.int (m_oi o)), some (.int (nI l)), v5] [] hh (some (.int (m_oi (m_fd F (w 2) zr n s key m l o p).1))) h' := by
  intro m
  induction m with
  | zero =>
    intro l o p hh hl ho hW
    have hl3 : l = 3 := by omega
    subst hl3
    have e1 : (3 : Int32) ≤ nI 3 := by decide
    refine ⟨hh, hW, rfl, ho, ?_⟩
    intro v5
    rw [am_R_eq, cxh_127_17]
    simp only [am_R_eq, cx_127, en_127, rt_127, rx_aload_n, rx_dup_i, rx_dup_r, rx_getfield, ev_gf, rx_goto, rx_iadd, rx_iconst, rx_icmp_ge, rx_if_ge, rx_if_ne, rx_iinc, ev_inc, rx_iload, rx_iload_n, rx_invv, ev_cv, rx_ireturn, rx_istore, rx_istore_n, rx_putfield, ev_pf, ev_w1, ev_KW, am_fok, am_ftv, kl_128, kl_132, kl_133, ev_K, ev_pI, ev_pR, ev_pVi, ev_pVr, ev_sI, ev_sR, ev_KC, ev_k, ev_ko, ev_pop0, ev_pops, am_ld, am_sv, am_at, am_st, am_g, List.length_cons, List.length_nil, Nat.reduceAdd, Nat.reduceLT, Nat.zero_add, if_true, if_false, and_self, true_or, or_true, true_and, and_true, not_true_eq_false, not_false_eq_true, reduceCtorEq, eq_self, Option.toList_some, Option.toList_none, List.cons_append, List.nil_append, Bool.false_eq_true, e1, m_fd]
  | succ m ih =>
    intro l o p hh hl ho hW
    have e1 : ¬ (3 : Int32) ≤ nI l := nI_ge (b := 3) (by omega) (by omega)
    obtain ⟨h1, a1, a2, a3, a4⟩ := mo_findIn d (key := key) hn hb hz hzb (l := l) (by omega) hs zx (m_tn F zr n l) 0 o p hh (by omega) ho hW
    obtain ⟨h', i1, i2, i3, i4⟩ := ih (l + 1) _ _ h1 (by omega) a3 a1
    rw [m_fd]
    refine ⟨h', i1, by rw [i2, a2], i3, ?_⟩
    intro v5
    have k1 := a4 _ _ i4
    have z0 : nI 0 = 0 := rfl
    rw [z0] at k1
    rw [am_R_eq] at k1
    rw [am_R_eq, cxh_127_17]
    simp only [am_R_eq, cx_127, en_127, rt_127, rx_aload_n, rx_dup_i, rx_dup_r, rx_getfield, ev_gf, rx_goto, rx_iadd, rx_iconst, rx_icmp_ge, rx_if_ge, rx_if_ne, rx_iinc, ev_inc, rx_iload, rx_iload_n, rx_invv, ev_cv, rx_ireturn, rx_istore, rx_istore_n, rx_putfield, ev_pf, ev_w1, ev_KW, am_fok, am_ftv, kl_128, kl_132, kl_133, ev_K, ev_pI, ev_pR, ev_pVi, ev_pVr, ev_sI, ev_sR, ev_KC, ev_k, ev_ko, ev_pop0, ev_pops, am_ld, am_sv, am_at, am_st, am_g, List.length_cons, List.length_nil, Nat.reduceAdd, Nat.reduceLT, Nat.zero_add, if_true, if_false, and_self, true_or, or_true, true_and, and_true, not_true_eq_false, not_false_eq_true, reduceCtorEq, eq_self, Option.toList_some, Option.toList_none, List.cons_append, List.nil_append, Bool.false_eq_true, e1]
    exact k1
def m_fn (F : Nat → Nat → Int32) (nw : Int32) (zr n : Nat) (s key : Int32) : Option Nat × Int32 := m_fd F nw zr n s key 3 0 (m_arg (m_laP F nw (-1) 0 s key) (m_hi F) n) 0
theorem mo_find (d : Nat) {n zr : Nat} {s key : Int32} (hn : w 1 = nI n) (hb : n ≤ 520) (hz : w 3 = nI zr) (hzb : zr ≤ 10) (hs : s < 0 ∨ ∃ j, j < 3 ∧ s = nI j) (hM : vs_M z h x A w F) : ∃ h', am_M z (d + 1 + 1 + 1 + 1 + 1) 127 [.ref x, .int s, .int key] h (some (.int (m_oi (m_fn F (w 2) zr n s key).1))) h' ∧ vs_M z h' x A (va_up w 9 (m_fn F (w 2) zr n s key).2) F ∧ h'.2 = h.2 ∧ (∀ e, (m_fn F (w 2) zr n s key).1 = some e → e < 520) := by
  have m0 := hM.ob
  have zx := hM.zx
  have hW := hM.fld (va_up w 9 0)
  have q1 := mo_latest (w := va_up w 9 0) (d + 1) (l := -1) (k := 0) (s := s) (key := key) hn hb hs hW
  have q1' : am_M z (d + 1 + 1 + 1 + 1) 128 [.ref x, .int (-1), .int 0, .int s, .int key] _ (some (.int (m_oi (m_arg (m_laP F (w 2) (-1) 0 s key) (m_hi F) n)))) _ := q1
  obtain ⟨h', i1, i2, i3, i4⟩ := mo_findOut d (key := key) hn hb hz hzb hs zx 3 0 (m_arg (m_laP F (w 2) (-1) 0 s key) (m_hi F) n) 0 _ rfl (fun e he => by
    have := (m_arg_lt _ _ _ _ he).1
    omega) hW
  refine ⟨h', ?_, i1, by rw [i2]; rfl, i3⟩
  have k1 := i4 none
  have z0 : nI 0 = 0 := rfl
  rw [z0, vmo_9] at k1
  rw [am_R_eq] at k1
  rw [vmo_9] at q1'
  rw [am_M_eq]
  simp only [am_R_eq, cx_127, en_127, rt_127, rx_aload_n, rx_dup_i, rx_dup_r, rx_getfield, ev_gf, rx_goto, rx_iadd, rx_iconst, rx_icmp_ge, rx_if_ge, rx_if_ne, rx_iinc, ev_inc, rx_iload, rx_iload_n, rx_invv, ev_cv, rx_ireturn, rx_istore, rx_istore_n, rx_putfield, ev_pf, ev_w1, ev_KW, am_fok, am_ftv, kl_128, kl_132, kl_133, ev_K, ev_pI, ev_pR, ev_pVi, ev_pVr, ev_sI, ev_sR, ev_KC, ev_k, ev_ko, ev_pop0, ev_pops, am_ld, am_sv, am_at, am_st, am_g, List.length_cons, List.length_nil, Nat.reduceAdd, Nat.reduceLT, Nat.zero_add, if_true, if_false, and_self, true_or, or_true, true_and, and_true, not_true_eq_false, not_false_eq_true, reduceCtorEq, eq_self, Option.toList_some, Option.toList_none, List.cons_append, List.nil_append, Bool.false_eq_true, m0, zx, am_ft7, am_up_at, Nat.reduceLeDiff, beq_self_eq_true]
  refine am_CL_of q1' ?_
  simp only [am_R_eq, cx_127, en_127, rt_127, rx_aload_n, rx_dup_i, rx_dup_r, rx_getfield, ev_gf, rx_goto, rx_iadd, rx_iconst, rx_icmp_ge, rx_if_ge, rx_if_ne, rx_iinc, ev_inc, rx_iload, rx_iload_n, rx_invv, ev_cv, rx_ireturn, rx_istore, rx_istore_n, rx_putfield, ev_pf, ev_w1, ev_KW, am_fok, am_ftv, kl_128, kl_132, kl_133, ev_K, ev_pI, ev_pR, ev_pVi, ev_pVr, ev_sI, ev_sR, ev_KC, ev_k, ev_ko, ev_pop0, ev_pops, am_ld, am_sv, am_at, am_st, am_g, List.length_cons, List.length_nil, Nat.reduceAdd, Nat.reduceLT, Nat.zero_add, if_true, if_false, and_self, true_or, or_true, true_and, and_true, not_true_eq_false, not_false_eq_true, reduceCtorEq, eq_self, Option.toList_some, Option.toList_none, List.cons_append, List.nil_append, Bool.false_eq_true]
  exact k1
end NK
