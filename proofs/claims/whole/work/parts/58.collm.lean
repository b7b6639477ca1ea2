section NB
variable {z : Nat} {h : am_H} {x : Nat} {A : Nat → Nat} {w : Nat → Int32} {F : Nat → Nat → Int32}
def m_m1 (F : Nat → Nat → Int32) (e : Nat) (hdv : Int32) (c : Nat) : Nat → Nat → Int32 := va_up (va_up F 7 (upd (F 7) e hdv)) 8 (upd (F 8) e (nI c))
def m_mv (s hdv : Int32) (n a0 : Nat) : Nat → Nat → (Nat → Nat → Int32) → Nat → Nat → Int32
  | 0, _, F => F
  | m + 1, k, F => match m_arg (m_lv F s) (m_lc F) n with
    | none => F
    | some e => m_mv s hdv n a0 m (k + 1) (m_m1 F e hdv (a0 + k))
theorem m_mv_ne (s hdv : Int32) (n a0 : Nat) {i : Nat} (h7 : i ≠ 7) (h8 : i ≠ 8) : ∀ m k F, m_mv s hdv n a0 m k F i = F i
  | 0, k, F => rfl
  | m + 1, k, F => by
    rw [m_mv]
    cases ho : m_arg (m_lv F s) (m_lc F) n with
    | none => rfl
    | some e =>
      dsimp only
      rw [m_mv_ne s hdv n a0 h7 h8 m (k + 1)]
      unfold m_m1
      rw [va_up_ne _ _ h8, va_up_ne _ _ h7]
theorem m_m1_cn {F : Nat → Nat → Int32} {s hdv : Int32} {e n c : Nat} (hne : hdv ≠ s) (he : e < n) (hl : m_lv F s e = true) : m_cn (m_lv (m_m1 F e hdv c) s) n + 1 = m_cn (m_lv F s) n := by
  refine m_cn_one (e := e) ?_ hl ?_ n he
  · intro i hi
    have e7 : m_m1 F e hdv c 7 i = F 7 i := by
      show upd (F 7) e hdv i = F 7 i
      simp [upd, hi]
    have e5 : m_m1 F e hdv c 5 i = F 5 i := rfl
    have e3 : m_m1 F e hdv c 3 i = F 3 i := rfl
    unfold m_lv
    rw [e7, e5, e3]
  · have e7 : m_m1 F e hdv c 7 e = hdv := by
      show upd (F 7) e hdv e = hdv
      simp [upd]
    unfold m_lv
    rw [e7, decide_eq_false hne, Bool.and_false, Bool.and_false]
theorem mo_collIn (d : Nat) {n a0 mm : Nat} {cnt y : Int32} (hn : w 1 = nI n) (hb : n ≤ 520) (hm6 : mm ≤ 6) (hne : w 7 ≠ w 6) (z7 : z ≤ A 7) (z8 : z ≤ A 8) : ∀ m k hh (F2 : Nat → Nat → Int32), m + k = mm → m ≤ m_cn (m_lv F2 (w 6)) n → vs_M z hh x A w F2 →
    ∃ h', vs_M z h' x A w (m_mv (w 6) (w 7) n a0 m k F2) ∧ h'.2 = hh.2 ∧ m_cn (m_lv (m_mv (w 6) (w 7) n a0 m k F2) (w 6)) n + m = m_cn (m_lv F2 (w 6)) n ∧ ∀ r hx, (∀ v5 v6, am_R z (d + 1 + 1) 116 54 [some (.ref x), some (.int cnt), some (.int (y - 6)), some (.int (nI mm)), some (.int (nI a0)), v5, v6] [] h' r hx) → ∀ v6, am_R z (d + 1 + 1) 116 81 [some (.ref x), some (.int cnt), some (.int y), some (.int (nI mm)), some (.int (nI a0)), some (.int (nI k)), v6] [] hh r hx := by
  intro m
  induction m with
  | zero =>
    intro k hh F2 hk hc hW
    have hkr : k = mm := by omega
    subst hkr
    have e1 : nI k ≤ nI k := nI_le (Nat.le_refl _) (by omega)
    refine ⟨hh, hW, rfl, rfl, ?_⟩
    intro r hx K v6
    have k1 := K (some (.int (nI k))) v6
    rw [am_R_eq] at k1
    rw [am_R_eq, cxh_116_81]
    simp only [am_R_eq, cx_116, en_116, rt_116, rx_aload_n, rx_bipush, rx_dup_i, rx_dup_r, rx_getfield, ev_gf, rx_goto, rx_iadd, rx_iastore, ev_w1, ev_KW, rx_iconst, rx_icmp_ge, rx_icmp_le, rx_icmp_ne, rx_if_le, rx_iinc, ev_inc, rx_iload, rx_iload_n, rx_invv, ev_cv, rx_ireturn, rx_istore, rx_istore_n, rx_isub, rx_putfield, ev_pf, am_fok, am_ftv, kl_101, kl_112, kl_117, kl_119, kl_120, ev_K, ev_pI, ev_pR, ev_pVi, ev_pVr, ev_sI, ev_sR, ev_KC, ev_k, ev_ko, ev_pop0, ev_pops, am_ld, am_sv, am_at, am_st, am_g, List.length_cons, List.length_nil, Nat.reduceAdd, Nat.reduceLT, Nat.zero_add, if_true, if_false, and_self, true_or, or_true, true_and, and_true, not_true_eq_false, not_false_eq_true, reduceCtorEq, eq_self, Option.toList_some, Option.toList_none, List.cons_append, List.nil_append, Bool.false_eq_true, e1]
    exact k1
  | succ m ih =>
    intro k hh F2 hk hc hW
    have e1 : ¬ nI mm ≤ nI k := nI_ge (by omega) (by omega)
    have m0 := hW.ob
    have nxs := hW.nxs
    obtain ⟨e, he⟩ := m_arg_ex (m_lv F2 (w 6)) (m_lc F2) n (by omega)
    have hel := m_arg_lt _ _ _ _ he
    have q1 := mo_nextLive d hn hb hW
    rw [he] at q1
    have iw := m_wi (n := 520) (k := e) (by omega) (by omega)
    have k7 : hh.1 (A 7) = some (.inl (0, 520, .inl (F2 7))) := hW.ar 7 (by omega)
    have k8 : hh.1 (A 8) = some (.inl (0, 520, .inl (F2 8))) := hW.ar 8 (by omega)
    have n1 : ¬ A 8 = A 7 := hW.dj 8 7 (by omega) (by omega) (by omega)
    have g1 : vs_M z (am_up hh (A 7) (.inl (0, 520, .inl (upd (F2 7) e (w 7))))) x A w (va_up F2 7 (upd (F2 7) e (w 7))) := hW.arr (i := 7) (by omega) _
    have g2 : vs_M z (am_up (am_up hh (A 7) (.inl (0, 520, .inl (upd (F2 7) e (w 7))))) (A 8) (.inl (0, 520, .inl (upd (F2 8) e (nI (a0 + k)))))) x A w (m_m1 F2 e (w 7) (a0 + k)) := g1.arr (i := 8) (by omega) _
    have hcn := m_m1_cn (F := F2) (c := a0 + k) hne hel.1 hel.2
    obtain ⟨h', i1, i2, i3, i4⟩ := ih (k + 1) _ (m_m1 F2 e (w 7) (a0 + k)) (by omega) (by omega) g2
    have em : m_mv (w 6) (w 7) n a0 (m + 1) k F2 = m_mv (w 6) (w 7) n a0 m (k + 1) (m_m1 F2 e (w 7) (a0 + k)) := by rw [m_mv, he]
    rw [em]
    refine ⟨h', i1, by rw [i2]; rfl, by omega, ?_⟩
    intro r hx K v6
    have k1 := i4 r hx K (some (.int (nI e)))
    rw [am_R_eq] at k1
    have z1 : m_oi (some e) = nI e := rfl
    rw [z1] at q1
    rw [am_R_eq, cxh_116_81]
    simp only [am_R_eq, cx_116, en_116, rt_116, rx_aload_n, rx_bipush, rx_dup_i, rx_dup_r, rx_getfield, ev_gf, rx_goto, rx_iadd, rx_iastore, ev_w1, ev_KW, rx_iconst, rx_icmp_ge, rx_icmp_le, rx_icmp_ne, rx_if_le, rx_iinc, ev_inc, rx_iload, rx_iload_n, rx_invv, ev_cv, rx_ireturn, rx_istore, rx_istore_n, rx_isub, rx_putfield, ev_pf, am_fok, am_ftv, kl_101, kl_112, kl_117, kl_119, kl_120, ev_K, ev_pI, ev_pR, ev_pVi, ev_pVr, ev_sI, ev_sR, ev_KC, ev_k, ev_ko, ev_pop0, ev_pops, am_ld, am_sv, am_at, am_st, am_g, List.length_cons, List.length_nil, Nat.reduceAdd, Nat.reduceLT, Nat.zero_add, if_true, if_false, and_self, true_or, or_true, true_and, and_true, not_true_eq_false, not_false_eq_true, reduceCtorEq, eq_self, Option.toList_some, Option.toList_none, List.cons_append, List.nil_append, Bool.false_eq_true, e1, m0]
    refine am_CL_of q1 ?_
    simp only [am_R_eq, cx_116, en_116, rt_116, rx_aload_n, rx_bipush, rx_dup_i, rx_dup_r, rx_getfield, ev_gf, rx_goto, rx_iadd, rx_iastore, ev_w1, ev_KW, rx_iconst, rx_icmp_ge, rx_icmp_le, rx_icmp_ne, rx_if_le, rx_iinc, ev_inc, rx_iload, rx_iload_n, rx_invv, ev_cv, rx_ireturn, rx_istore, rx_istore_n, rx_isub, rx_putfield, ev_pf, am_fok, am_ftv, kl_101, kl_112, kl_117, kl_119, kl_120, ev_K, ev_pI, ev_pR, ev_pVi, ev_pVr, ev_sI, ev_sR, ev_KC, ev_k, ev_ko, ev_pop0, ev_pops, am_ld, am_sv, am_at, am_st, am_g, List.length_cons, List.length_nil, Nat.reduceAdd, Nat.reduceLT, Nat.zero_add, if_true, if_false, and_self, true_or, or_true, true_and, and_true, not_true_eq_false, not_false_eq_true, reduceCtorEq, eq_self, Option.toList_some, Option.toList_none, List.cons_append, List.nil_append, Bool.false_eq_true, m0, nxs, k7, k8, n1, iw, z7, z8, nI_add, nI_ofs, am_up_at, am_up_ne, ne_eq, not_false_eq_true]
    exact k1
def m_uz (F : Nat → Nat → Int32) (hd : Nat) : Nat := (F 16 (hd % 8)).toNatClampNeg
def m_r1 (F : Nat → Nat → Int32) (hd v : Nat) : Nat → Nat → Int32 := va_up F 16 (upd (F 16) (m_hd hd (m_uz F hd) v % 8) (nI (m_us (m_uz F hd) v + 1 + v)))
def m_co (s : Int32) (n : Nat) : Nat → Nat → (Nat → Nat → Int32) → Nat → (Nat → Nat → Int32) × Nat
  | 0, _, F, hd => (F, hd)
  | q + 1, l, F, hd => if l = 0 then (F, hd) else m_co s n q (l - 6) (m_mv s (nI (m_hd hd (m_uz F hd) (min l 6))) n (m_us (m_uz F hd) (min l 6) + 1) (min l 6) 0 (m_r1 F hd (min l 6))) (m_hd hd (m_uz F hd) (min l 6))
end NB
