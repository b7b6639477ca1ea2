section MCR
theorem am_w1_s {z a : Nat} {st : List Value} {o : Option am_E} {r : List Value × Nat × am_E} (h : am_w1 z a st o = some r) : r.2.1 = a ∧ o ≠ none := by
  cases o with
  | none => cases h
  | some e =>
    have h : (if z ≤ a then some (st, a, e) else none) = some r := h
    by_cases hz : z ≤ a
    · rw [if_pos hz] at h
      cases h
      exact ⟨rfl, fun q => by cases q⟩
    · rw [if_neg hz] at h; cases h
theorem am_w_s {z : Nat} {i : Instr} {x y : Nat} {st : List Value} {h : am_H} {r : List Value × Nat × am_E} (hs : am_w z i x y st h = some r) : h.1 r.2.1 ≠ none := by
  cases i with
  | putfield k =>
    simp only [am_w] at hs
    split at hs
    · split at hs
      · obtain ⟨h1, h2⟩ := am_w1_s hs
        rw [h1]
        intro hn
        rw [hn] at h2
        exact h2 rfl
      · cases hs
    · cases hs
  | iastore =>
    simp only [am_w] at hs
    split at hs
    · obtain ⟨h1, h2⟩ := am_w1_s hs
      rw [h1]
      intro hn
      rw [hn] at h2
      exact h2 rfl
    · cases hs
  | bastore =>
    simp only [am_w] at hs
    split at hs
    · obtain ⟨h1, h2⟩ := am_w1_s hs
      rw [h1]
      intro hn
      rw [hn] at h2
      exact h2 rfl
    · cases hs
  | aastore =>
    simp only [am_w] at hs
    split at hs
    · obtain ⟨h1, h2⟩ := am_w1_s hs
      rw [h1]
      intro hn
      rw [hn] at h2
      exact h2 rfl
    · cases hs
  | invokestatic k =>
    simp only [am_w] at hs
    split at hs
    · split at hs
      · obtain ⟨h1, h2⟩ := am_w1_s hs
        rw [h1]
        intro hn
        rw [hn] at h2
        exact h2 rfl
      · cases hs
    · cases hs
  | _ => cases hs
def am_dm (h h' : am_H) : Prop := h.2.1 ≤ h'.2.1 ∧ ∀ q, h.1 q = none → q < h.2.1 → h'.1 q = none
theorem am_dm.tr {h h1 h2 : am_H} (a : am_dm h h1) (b : am_dm h1 h2) : am_dm h h2 := ⟨Nat.le_trans a.1 b.1, fun q h1 h2 => b.2 q (a.2 q h1 h2) (Nat.lt_of_lt_of_le h2 a.1)⟩
theorem am_dm_up {h : am_H} {a : Nat} (e : am_E) (ha : h.1 a ≠ none) : am_dm h (am_up h a e) := ⟨Nat.le_refl _, fun q h1 h2 => by
  rw [am_up_ne _ _ (fun hq => ha (by rw [← hq]; exact h1))]; exact h1⟩
theorem am_dm_nw (h : am_H) (e : am_E) (n : Nat) : am_dm h (am_nw h e n) := ⟨Nat.le_succ _, fun q h1 h2 => by
  rw [am_nw_ne _ _ _ (by omega)]; exact h1⟩
theorem am_run_dm {z : Nat} {C : Nat → List Value → am_H → Option Value → am_H → Prop} (hC : ∀ x av h v h1, C x av h v h1 → am_dm h h1) {j : Nat} : ∀ (n pc : Nat) (lo : am_L) (st : List Value) (h : am_H) (r : Option Value) (h' : am_H), am_run z C j n pc lo st h r h' → am_dm h h' := by
  intro n
  induction n with
  | zero => intro pc lo st h r h' hn; exact hn.elim
  | succ n ih =>
    intro pc lo st h r h' hn
    unfold am_run at hn
    cases hcd : am_cd j pc with
    | none => rw [hcd] at hn; exact hn.elim
    | some q =>
      obtain ⟨i, l, x, y, c, ts⟩ := q
      rw [hcd] at hn
      dsimp only at hn
      cases hrt : am_rt (am_ret j) i st with
      | some v =>
        rw [hrt] at hn
        obtain ⟨_, hh⟩ := hn
        rw [hh]
        exact ⟨Nat.le_refl _, fun q h1 _ => h1⟩
      | none =>
        rw [hrt] at hn
        dsimp only at hn
        cases hca : am_ca i x y st h with
        | some q =>
          obtain ⟨av, st'⟩ := q
          rw [hca] at hn
          obtain ⟨v, h1, a, b⟩ := hn
          exact (hC _ _ _ _ _ a).tr (ih _ _ _ _ _ _ b)
        | none =>
          rw [hca] at hn
          dsimp only at hn
          cases hw : am_w z i x y st h with
          | some q =>
            obtain ⟨st', a, e⟩ := q
            rw [hw] at hn
            exact (am_dm_up e (am_w_s hw)).tr (ih _ _ _ _ _ _ hn)
          | none =>
            rw [hw] at hn
            dsimp only at hn
            cases hnw : am_n i x y st with
            | some q =>
              obtain ⟨st', e, k⟩ := q
              rw [hnw] at hn
              exact (am_dm_nw h e k).tr (ih _ _ _ _ _ _ hn)
            | none =>
              rw [hnw] at hn
              dsimp only at hn
              cases hs : am_s i x y c ts (pc + l) lo st h with
              | some q =>
                rw [hs] at hn
                exact ih _ _ _ _ _ _ hn
              | none =>
                rw [hs] at hn
                exact hn.elim
theorem am_M_dm {z : Nat} : ∀ (d x : Nat) (av : List Value) (h : am_H) (v : Option Value) (h1 : am_H), am_M z d x av h v h1 → am_dm h h1 := by
  intro d
  induction d with
  | zero => intro x av h v h1 hm; exact hm.elim
  | succ d ih =>
    intro x av h v h1 hm
    obtain ⟨n, hn⟩ := hm
    exact am_run_dm ih n _ _ _ _ _ _ hn
end MCR
section MCS
variable {z : Nat} {h : am_H} {x : Nat} {A : Nat → Nat} {w : Nat → Int32} {F : Nat → Nat → Int32}
def m_cu (F : Nat → Nat → Int32) (hds : Nat → Nat) (un : Nat) : Nat → Nat → Int32
  | 0 => F 16
  | m + 1 => if F 19 (un - 1 - m) = 0 then upd (m_cu F hds un m) (hds (un - m) % 8) (m_cu F hds un m (hds (un - m) % 8) - F 18 (un - 1 - m)) else m_cu F hds un m
def m_cf (F : Nat → Nat → Int32) (last : Int32) (n : Nat) : Nat → Int32 := m_fill (F 5) (fun e => if F 5 e = -1 ∧ last < F 1 e then 9 else F 5 e) n
def m_cF (F : Nat → Nat → Int32) (hds : Nat → Nat) (un st : Nat) (last : Int32) (n : Nat) : Nat → Nat → Int32 := va_up (va_up (va_up F 16 (m_cu F hds un (un - st))) 5 (m_cf F last n)) 14 (fun s => if s < 3 then 0 else F 14 s)
theorem mo_crash3 (d : Nat) {l2 l3 : Int32} {v1 v2 : Option Value} (z14 : z ≤ A 14) : ∀ m k hh, m + k = 3 → vs_M z hh x A w (va_up F 14 (fun s => if s < k then 0 else F 14 s)) →
    ∃ h', am_R z d 124 185 [some (.ref x), v1, v2, some (.int l3), some (.int (nI k))] [] hh (some (.int l3)) h' ∧ vs_M z h' x A w (va_up F 14 (fun s => if s < 3 then 0 else F 14 s)) ∧ h'.2 = hh.2 := by
  intro m
  induction m with
  | zero =>
    intro k hh hk hW
    have hk3 : k = 3 := by omega
    subst hk3
    refine ⟨hh, ?_, hW, rfl⟩
    have e1 : (3 : Int32) ≤ nI 3 := by decide
    rw [am_R_eq, cxh_124_185]
    simp only [am_R_eq, cx_124, en_124, rt_124, rx_aload_n, rx_baload, rx_bastore, ev_w1, ev_KW, rx_bipush, rx_dup_i, rx_dup_r, rx_getfield, ev_gf, rx_goto, rx_iaload, rx_iastore, rx_iconst, rx_icmp_ge, rx_icmp_le, rx_icmp_lt, rx_icmp_ne, rx_if_eq, rx_if_ge, rx_iinc, ev_inc, rx_iload, rx_iload_n, rx_irem, rx_ireturn, rx_istore, rx_istore_n, rx_isub, rx_putfield, ev_pf, am_fok, am_ftv, ev_K, ev_pI, ev_pR, ev_pVi, ev_pVr, ev_sI, ev_sR, ev_KC, ev_k, ev_ko, ev_pop0, ev_pops, am_ld, am_sv, am_at, am_st, am_g, List.length_cons, List.length_nil, Nat.reduceAdd, Nat.reduceLT, Nat.zero_add, if_true, if_false, and_self, true_or, or_true, true_and, and_true, not_true_eq_false, not_false_eq_true, reduceCtorEq, eq_self, Option.toList_some, Option.toList_none, List.cons_append, List.nil_append, Bool.false_eq_true, e1]
  | succ m ih =>
    intro k hh hk hW
    have m0 := hW.ob
    have e1 : ¬ (3 : Int32) ≤ nI k := nI_ge (b := 3) (by omega) (by omega)
    have k14 : hh.1 (A 14) = some (.inl (1, 3, .inl (fun s => if s < k then 0 else F 14 s))) := hW.ar 14 (by omega)
    have iw := m_wi (n := 3) (k := k) (by omega) (by omega)
    have hW2 : vs_M z (am_up hh (A 14) (.inl (1, 3, .inl (fun s => if s < k + 1 then 0 else F 14 s)))) x A w (va_up (va_up F 14 (fun s => if s < k then 0 else F 14 s)) 14 (fun s => if s < k + 1 then 0 else F 14 s)) := hW.arr (i := 14) (by omega) _
    rw [bx_uu] at hW2
    have eu : upd (fun s => if s < k then 0 else F 14 s) k 0 = (fun s => if s < k + 1 then 0 else F 14 s) := by
      funext s
      unfold upd
      by_cases hs : s = k
      · rw [if_pos hs, if_pos (by omega)]
      · rw [if_neg hs]
        show (if s < k then (0 : Int32) else F 14 s) = _
        by_cases hs2 : s < k
        · rw [if_pos hs2, if_pos (by omega)]
        · rw [if_neg hs2, if_neg (by omega)]
    obtain ⟨h', i1, i2, i3⟩ := ih (k + 1) _ (by omega) hW2
    refine ⟨h', ?_, i2, i3⟩
    rw [am_R_eq] at i1
    rw [am_R_eq, cxh_124_185]
    simp only [am_R_eq, cx_124, en_124, rt_124, rx_aload_n, rx_baload, rx_bastore, ev_w1, ev_KW, rx_bipush, rx_dup_i, rx_dup_r, rx_getfield, ev_gf, rx_goto, rx_iaload, rx_iastore, rx_iconst, rx_icmp_ge, rx_icmp_le, rx_icmp_lt, rx_icmp_ne, rx_if_eq, rx_if_ge, rx_iinc, ev_inc, rx_iload, rx_iload_n, rx_irem, rx_ireturn, rx_istore, rx_istore_n, rx_isub, rx_putfield, ev_pf, am_fok, am_ftv, ev_K, ev_pI, ev_pR, ev_pVi, ev_pVr, ev_sI, ev_sR, ev_KC, ev_k, ev_ko, ev_pop0, ev_pops, am_ld, am_sv, am_at, am_st, am_g, List.length_cons, List.length_nil, Nat.reduceAdd, Nat.reduceLT, Nat.zero_add, if_true, if_false, and_self, true_or, or_true, true_and, and_true, not_true_eq_false, not_false_eq_true, reduceCtorEq, eq_self, Option.toList_some, Option.toList_none, List.cons_append, List.nil_append, Bool.false_eq_true, m0, e1, k14, iw, eu, z14, b00, nI_ofs]
    exact i1
theorem mo_crash2 (d : Nat) {n : Nat} {l3 : Int32} {v1 v2 : Option Value} (hn : w 1 = nI n) (hb : n ≤ 520) (zx : z ≤ x) (zs : ∀ i, i < 20 → z ≤ A i) : ∀ m k hh, m + k = n → vs_M z hh x A w (va_up F 5 (m_fill (F 5) (fun e => if F 5 e = -1 ∧ w 4 < F 1 e then 9 else F 5 e) k)) →
    ∃ h', am_R z d 124 123 [some (.ref x), v1, v2, some (.int l3), some (.int (nI k))] [] hh (some (.int l3)) h' ∧ vs_M z h' x A (va_up (va_up w 8 0) 5 0) (va_up (va_up F 5 (m_cf F (w 4) n)) 14 (fun s => if s < 3 then 0 else F 14 s)) ∧ h'.2 = hh.2 := by
  intro m
  induction m with
  | zero =>
    intro k hh hk hW
    have hkn : k = n := by omega
    subst hkn
    have e1 : nI k ≤ nI k := nI_le (Nat.le_refl _) (by omega)
    have m0 := hW.ob
    have hW2 := (hW.fld (va_up w 8 0)).fld (va_up (va_up w 8 0) 5 0)
    have e0 : (fun s => if s < 0 then (0 : Int32) else va_up F 5 (m_cf F (w 4) k) 14 s) = va_up F 5 (m_cf F (w 4) k) 14 := by
      funext s
      rw [if_neg (by omega)]
    obtain ⟨h', i1, i2, i3⟩ := mo_crash3 d (l2 := 0) (l3 := l3) (v1 := v1) (v2 := v2) (F := va_up F 5 (m_cf F (w 4) k)) (zs 14 (by omega)) 3 0 _ (by omega) (by rw [e0, va_up_id]; exact hW2)
    refine ⟨h', ?_, i2, i3⟩
    rw [am_R_eq, am_up_up] at i1
    rw [am_R_eq, cxh_124_123]
    simp only [am_R_eq, cx_124, en_124, rt_124, rx_aload_n, rx_baload, rx_bastore, ev_w1, ev_KW, rx_bipush, rx_dup_i, rx_dup_r, rx_getfield, ev_gf, rx_goto, rx_iaload, rx_iastore, rx_iconst, rx_icmp_ge, rx_icmp_le, rx_icmp_lt, rx_icmp_ne, rx_if_eq, rx_if_ge, rx_iinc, ev_inc, rx_iload, rx_iload_n, rx_irem, rx_ireturn, rx_istore, rx_istore_n, rx_isub, rx_putfield, ev_pf, am_fok, am_ftv, ev_K, ev_pI, ev_pR, ev_pVi, ev_pVr, ev_sI, ev_sR, ev_KC, ev_k, ev_ko, ev_pop0, ev_pops, am_ld, am_sv, am_at, am_st, am_g, List.length_cons, List.length_nil, Nat.reduceAdd, Nat.reduceLT, Nat.zero_add, if_true, if_false, and_self, true_or, or_true, true_and, and_true, not_true_eq_false, not_false_eq_true, reduceCtorEq, eq_self, Option.toList_some, Option.toList_none, List.cons_append, List.nil_append, Bool.false_eq_true, m0, hn, e1, zx, am_ft7, am_up_at, am_up_up, Nat.reduceLeDiff, beq_self_eq_true]
    rw [← hn]
    exact i1
  | succ m ih =>
    intro k hh hk hW
    have e1 : ¬ nI n ≤ nI k := nI_ge (by omega) (by omega)
    have ix := m_ix (k := k) (by omega)
    have iw := m_wi (n := 520) (k := k) (by omega) (by omega)
    have m0 := hW.ob
    have z5 := zs 5 (by omega)
    have k5 : hh.1 (A 5) = some (.inl (0, 520, .inl (m_fill (F 5) (fun e => if F 5 e = -1 ∧ w 4 < F 1 e then 9 else F 5 e) k))) := hW.ar 5 (by omega)
    have k1 : hh.1 (A 1) = some (.inl (0, 520, .inl (F 1))) := hW.ar 1 (by omega)
    have fk := m_fill_k (F 5) (fun e => if F 5 e = -1 ∧ w 4 < F 1 e then 9 else F 5 e) k
    have hW2 : vs_M z (am_up hh (A 5) (.inl (0, 520, .inl (m_fill (F 5) (fun e => if F 5 e = -1 ∧ w 4 < F 1 e then 9 else F 5 e) (k + 1))))) x A w (va_up (va_up F 5 (m_fill (F 5) (fun e => if F 5 e = -1 ∧ w 4 < F 1 e then 9 else F 5 e) k)) 5 (m_fill (F 5) (fun e => if F 5 e = -1 ∧ w 4 < F 1 e then 9 else F 5 e) (k + 1))) := hW.arr (i := 5) (by omega) _
    rw [bx_uu] at hW2
    have fs := m_fill_s (F 5) (fun e => if F 5 e = -1 ∧ w 4 < F 1 e then 9 else F 5 e) k
    by_cases c0 : F 5 k = -1 ∧ w 4 < F 1 k
    · rw [if_pos c0] at fs
      obtain ⟨c1, c2⟩ := c0
      have c3 : ¬ F 1 k ≤ w 4 := by
        rw [Int32.le_iff_toInt_le]; rw [Int32.lt_iff_toInt_lt] at c2; omega
      obtain ⟨h', i1, i2, i3⟩ := ih (k + 1) _ (by omega) hW2
      refine ⟨h', ?_, i2, i3⟩
      rw [am_R_eq] at i1
      rw [am_R_eq, cxh_124_123]
      simp only [am_R_eq, cx_124, en_124, rt_124, rx_aload_n, rx_baload, rx_bastore, ev_w1, ev_KW, rx_bipush, rx_dup_i, rx_dup_r, rx_getfield, ev_gf, rx_goto, rx_iaload, rx_iastore, rx_iconst, rx_icmp_ge, rx_icmp_le, rx_icmp_lt, rx_icmp_ne, rx_if_eq, rx_if_ge, rx_iinc, ev_inc, rx_iload, rx_iload_n, rx_irem, rx_ireturn, rx_istore, rx_istore_n, rx_isub, rx_putfield, ev_pf, am_fok, am_ftv, ev_K, ev_pI, ev_pR, ev_pVi, ev_pVr, ev_sI, ev_sR, ev_KC, ev_k, ev_ko, ev_pop0, ev_pops, am_ld, am_sv, am_at, am_st, am_g, List.length_cons, List.length_nil, Nat.reduceAdd, Nat.reduceLT, Nat.zero_add, if_true, if_false, and_self, true_or, or_true, true_and, and_true, not_true_eq_false, not_false_eq_true, reduceCtorEq, eq_self, Option.toList_some, Option.toList_none, List.cons_append, List.nil_append, Bool.false_eq_true, m0, hn, e1, k5, k1, ix, iw, fk, c1, c3, z5, fs, nI_ofs]
      exact i1
    · have fi := m_fill_i (F 5) (fun e => if F 5 e = -1 ∧ w 4 < F 1 e then 9 else F 5 e) (k := k) (if_neg c0)
      rw [← fi] at hW
      obtain ⟨h', i1, i2, i3⟩ := ih (k + 1) hh (by omega) hW
      refine ⟨h', ?_, i2, i3⟩
      rw [am_R_eq] at i1
      by_cases c1 : F 5 k = -1
      · have c3 : F 1 k ≤ w 4 := by
          have c2 : ¬ w 4 < F 1 k := fun q => c0 ⟨c1, q⟩
          rw [Int32.le_iff_toInt_le]; rw [Int32.lt_iff_toInt_lt] at c2; omega
        rw [am_R_eq, cxh_124_123]
        simp only [am_R_eq, cx_124, en_124, rt_124, rx_aload_n, rx_baload, rx_bastore, ev_w1, ev_KW, rx_bipush, rx_dup_i, rx_dup_r, rx_getfield, ev_gf, rx_goto, rx_iaload, rx_iastore, rx_iconst, rx_icmp_ge, rx_icmp_le, rx_icmp_lt, rx_icmp_ne, rx_if_eq, rx_if_ge, rx_iinc, ev_inc, rx_iload, rx_iload_n, rx_irem, rx_ireturn, rx_istore, rx_istore_n, rx_isub, rx_putfield, ev_pf, am_fok, am_ftv, ev_K, ev_pI, ev_pR, ev_pVi, ev_pVr, ev_sI, ev_sR, ev_KC, ev_k, ev_ko, ev_pop0, ev_pops, am_ld, am_sv, am_at, am_st, am_g, List.length_cons, List.length_nil, Nat.reduceAdd, Nat.reduceLT, Nat.zero_add, if_true, if_false, and_self, true_or, or_true, true_and, and_true, not_true_eq_false, not_false_eq_true, reduceCtorEq, eq_self, Option.toList_some, Option.toList_none, List.cons_append, List.nil_append, Bool.false_eq_true, m0, hn, e1, k5, k1, ix, fk, c1, c3, nI_ofs]
        exact i1
      · rw [am_R_eq, cxh_124_123]
        simp only [am_R_eq, cx_124, en_124, rt_124, rx_aload_n, rx_baload, rx_bastore, ev_w1, ev_KW, rx_bipush, rx_dup_i, rx_dup_r, rx_getfield, ev_gf, rx_goto, rx_iaload, rx_iastore, rx_iconst, rx_icmp_ge, rx_icmp_le, rx_icmp_lt, rx_icmp_ne, rx_if_eq, rx_if_ge, rx_iinc, ev_inc, rx_iload, rx_iload_n, rx_irem, rx_ireturn, rx_istore, rx_istore_n, rx_isub, rx_putfield, ev_pf, am_fok, am_ftv, ev_K, ev_pI, ev_pR, ev_pVi, ev_pVr, ev_sI, ev_sR, ev_KC, ev_k, ev_ko, ev_pop0, ev_pops, am_ld, am_sv, am_at, am_st, am_g, List.length_cons, List.length_nil, Nat.reduceAdd, Nat.reduceLT, Nat.zero_add, if_true, if_false, and_self, true_or, or_true, true_and, and_true, not_true_eq_false, not_false_eq_true, reduceCtorEq, eq_self, Option.toList_some, Option.toList_none, List.cons_append, List.nil_append, Bool.false_eq_true, m0, hn, e1, k5, k1, ix, fk, c1, nI_ofs]
        exact i1
end MCS
