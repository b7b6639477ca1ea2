section TAB
variable {h : am_H} {t r a bl n : Nat} {L : List Nat} {E : Nat → Nat → Int32} {F : Int32}
theorem i_32 : ¬ (32 : Int32) = 0 := by decide
def e_bits (k : Int32) : Int32 := (1 <<< ((5 * k + 1 - (5 * k + 1) / 32 * 32) &&& 31)) ||| (1 <<< ((11 * k + 7 - (11 * k + 7) / 32 * 32) &&& 31))
theorem ta_bitsOf (z d : Nat) (k : Int32) : am_M z (d + 1) 34 [.int k] h (some (.int (e_bits k))) h := by
  rw [am_M_eq]
  simp only [am_R_eq, cx_34, en_34, rt_34, rx_bipush, rx_iadd, rx_iconst, rx_iload_n, rx_imul, rx_ior, rx_irem, rx_ireturn, rx_ishl, ev_K, ev_pI, ev_pR, ev_pVi, ev_pVr, ev_sI, ev_sR, ev_KC, ev_k, ev_ko, ev_pop0, ev_pops, am_ld, am_sv, am_at, am_st, am_g, List.length_cons, List.length_nil, Nat.reduceAdd, Nat.reduceLT, Nat.zero_add, if_true, if_false, and_self, true_or, or_true, true_and, and_true, not_true_eq_false, not_false_eq_true, reduceCtorEq, eq_self, Option.toList_some, Option.toList_none, List.cons_append, List.nil_append, Bool.false_eq_true, i_32, e_bits]
abbrev vs_tb (r : Nat) (F : Int32) : am_E := .inr (3, [.ref r, .int F])
def vs_ch3 (h h' : am_H) (t r a : Nat) : Prop := (∀ q, q ≠ t → q ≠ r → q ≠ a → h'.1 q = h.1 q) ∧ h'.2 = h.2
theorem vs_ch3.rf (h : am_H) (t r a : Nat) : vs_ch3 h h t r a := ⟨fun _ _ _ _ => rfl, rfl⟩
theorem vs_ch3.tr {h1 h2 : am_H} (p : vs_ch3 h h1 t r a) (q : vs_ch3 h1 h2 t r a) : vs_ch3 h h2 t r a := ⟨fun x e1 e2 e3 => by rw [q.1 x e1 e2 e3, p.1 x e1 e2 e3], by rw [q.2, p.2]⟩
theorem vs_ch.to3 {h' : am_H} (p : vs_ch h h' r a) : vs_ch3 h h' t r a := ⟨fun x _ e2 e3 => p.1 x e2 e3, p.2⟩
theorem vs_ch3.up (h : am_H) (t r a : Nat) (x : am_E) : vs_ch3 h (am_up h t x) t r a := ⟨fun q e1 _ _ => am_up_ne _ _ e1, rfl⟩
theorem vs_row.up {x : Nat} {w : List Value} {c : Nat} (e : am_E) (hr : vs_row h r a bl n L) (hx : h.1 x = some (.inr (c, w))) (hc : c ≠ 2) : vs_row (am_up h x e) r a bl n L := by
  obtain ⟨q1, q2⟩ := hr.nex hx hc
  exact hr.fr (am_up_ne _ _ q1.symm) (am_up_ne _ _ q2.symm)
def e_ff (E : Nat → Nat → Int32) (F : Int32) (e : Nat) : Int32 := F ||| e_bits (E e 0)
theorem ta_fillFrom (z d : Nat) {rs as_ bls ns p : Nat} {Ls : List Nat} {u : Nat} (hzt : z ≤ t) (hz : z ≤ r) (hza : z ≤ a) (ht : h.1 t = some (vs_tb r F)) (hr : vs_row h r a bl n L) (hrs : vs_row h rs as_ bls ns Ls) (n1 : rs ≠ r) (n3 : as_ ≠ a) (hL : ∀ x ∈ Ls, h.1 x = some (vs_e E x)) (hp : p ≤ u) (hu : u ≤ Ls.length) (hn : u - p ≤ n) :
    ∃ h', am_M z (d + 1 + 1) 33 [.ref t, .ref rs, .int (nI p), .int (nI u)] h none h' ∧ vs_row h' r a bl n ((Ls.take u).drop p) ∧ h'.1 t = some (vs_tb r (((Ls.take u).drop p).foldl (e_ff E) 0)) ∧ vs_ch3 h h' t r a := by
  obtain ⟨gs, s1, s2, s3, s4, s5, sne⟩ := hrs.g
  have hdl : ((Ls.take u).drop p).length = u - p := by rw [List.length_drop, List.length_take]; omega
  have obj : ∀ {hh : am_H} {x c : Nat} {w : List Value}, vs_ch3 h hh t r a → h.1 x = some (.inr (c, w)) → c ≠ 2 → c ≠ 3 → hh.1 x = some (.inr (c, w)) := by
    intro hh x c w hc hx c2 c3
    obtain ⟨q1, q2⟩ := hr.nex hx c2
    have q3 : x ≠ t := am_ne hx ht (by intro q; exact c3 (congrArg (fun e : am_E => match e with | .inr p => p.1 | .inl _ => c) q))
    rw [hc.1 x q3 q1 q2]
    exact hx
  have src : ∀ {hh : am_H}, vs_ch3 h hh t r a → vs_row hh rs as_ bls ns Ls := by
    intro hh hc
    obtain ⟨g, h1, h2, h3, h4, h5, hne⟩ := hr.g
    exact hrs.fr (hc.1 rs (am_ne s1 ht (by simp)) n1 (am_ne s1 h2 (by simp))) (hc.1 as_ (am_ne s2 ht (by simp)) (am_ne s2 h1 (by simp)) n3)
  have loop : ∀ m i T F2 hh, m = u - i → p ≤ i → i ≤ u → vs_ch3 h hh t r a → vs_row hh r a bl n T → hh.1 t = some (vs_tb r F2) → T.length + (u - i) ≤ n →
      ∃ h', am_R z (d + 1) 33 15 [some (.ref t), some (.ref rs), some (.int (nI p)), some (.int (nI u)), some (.int (nI i))] [] hh none h' ∧ vs_row h' r a bl n (T ++ (Ls.take u).drop i) ∧ h'.1 t = some (vs_tb r (((Ls.take u).drop i).foldl (e_ff E) F2)) ∧ vs_ch3 h h' t r a := by
    intro m
    induction m with
    | zero =>
      intro i T F2 hh hm hi hiu hc hrT htT hTn
      have hil : i = u := by omega
      subst hil
      have e1 : nI i ≤ nI i := nI_le (Nat.le_refl _) (by omega)
      have hdr : (Ls.take i).drop i = [] := by rw [List.drop_eq_nil_iff, List.length_take]; omega
      rw [hdr, List.append_nil]
      refine ⟨hh, ?_, hrT, htT, hc⟩
      rw [am_R_eq, cxh_33_15]
      simp only [am_R_eq, cx_33, en_33, rt_33, rx_aload_n, rx_dup_i, rx_dup_r, rx_getfield, ev_gf, rx_goto, rx_iconst, rx_icmp_ge, rx_iinc, ev_inc, rx_iload, rx_iload_n, rx_invs, rx_max2, rx_min2, rx_copy2, rx_invv, ev_cv, rx_ior, rx_istore, rx_putfield, ev_pf, ev_w1, ev_KW, am_fok, am_ftv, rx_return, kl_13, kl_22, kl_24, kl_34, ev_K, ev_pI, ev_pR, ev_pVi, ev_pVr, ev_sI, ev_sR, ev_KC, ev_k, ev_ko, ev_pop0, ev_pops, am_ld, am_sv, am_at, am_st, am_g, List.length_cons, List.length_nil, Nat.reduceAdd, Nat.reduceLT, Nat.zero_add, if_true, if_false, and_self, true_or, or_true, true_and, and_true, not_true_eq_false, not_false_eq_true, reduceCtorEq, eq_self, Option.toList_some, Option.toList_none, List.cons_append, List.nil_append, Bool.false_eq_true, e1]
    | succ m ih =>
      intro i T F2 hh hm hi hiu hc hrT htT hTn
      have hlt : i < u := by omega
      have e1 : ¬ nI u ≤ nI i := nI_ge hlt (by omega)
      obtain ⟨x, hx⟩ : ∃ x, Ls[i]? = some x := ⟨Ls[i]'(by omega), List.getElem?_eq_getElem (by omega)⟩
      have hd : (Ls.take u).drop i = x :: (Ls.take u).drop (i + 1) := by
        rw [List.drop_eq_getElem_cons (by rw [List.length_take]; omega)]
        congr 1
        rw [List.getElem_take]
        exact (List.getElem?_eq_some_iff.mp hx).2
      have hex0 := hL x (List.mem_of_getElem? hx)
      have hex := obj hc hex0 (by decide) (by decide)
      obtain ⟨h1', m1, m2, m3⟩ := ro_append z d hz hza hrT (ko_of hex) (by omega)
      have hc1 : vs_ch3 h h1' t r a := hc.tr m3.to3
      have hex1 := obj hc1 hex0 (by decide) (by decide)
      have ht1 : h1'.1 t = some (vs_tb r F2) := m3.obj hrT htT (by decide)
      have q1 := ro_at z d (src hc) hx
      have q2 := ro_at z d (src hc1) hx
      have q3 := ta_bitsOf (h := h1') z d (E x 0)
      have hc2 : vs_ch3 h (am_up h1' t (vs_tb r (F2 ||| e_bits (E x 0)))) t r a := hc1.tr (vs_ch3.up ..)
      obtain ⟨h', i1, i2, i3, i4⟩ := ih (i + 1) (T ++ [x]) (F2 ||| e_bits (E x 0)) _ (by omega) (by omega) (by omega) hc2 (m2.up _ ht1 (by decide)) (am_up_at _ _ _) (by rw [List.length_append]; simp; omega)
      rw [List.append_assoc] at i2
      rw [am_R_eq] at i1
      rw [hd]
      refine ⟨h', ?_, i2, i3, i4⟩
      obtain ⟨g0, k1, k2, k3, k4, k5, kne⟩ := hrT.g
      obtain ⟨g1, l1, l2, l3, l4, l5, lne⟩ := (src hc).g
      obtain ⟨g2, p1, p2, p3, p4, p5, pne⟩ := (src hc1).g
      rw [am_R_eq, cxh_33_15]
      simp only [am_R_eq, cx_33, en_33, rt_33, rx_aload_n, rx_dup_i, rx_dup_r, rx_getfield, ev_gf, rx_goto, rx_iconst, rx_icmp_ge, rx_iinc, ev_inc, rx_iload, rx_iload_n, rx_invs, rx_max2, rx_min2, rx_copy2, rx_invv, ev_cv, rx_ior, rx_istore, rx_putfield, ev_pf, ev_w1, ev_KW, am_fok, am_ftv, rx_return, kl_13, kl_22, kl_24, kl_34, ev_K, ev_pI, ev_pR, ev_pVi, ev_pVr, ev_sI, ev_sR, ev_KC, ev_k, ev_ko, ev_pop0, ev_pops, am_ld, am_sv, am_at, am_st, am_g, List.length_cons, List.length_nil, Nat.reduceAdd, Nat.reduceLT, Nat.zero_add, if_true, if_false, and_self, true_or, or_true, true_and, and_true, not_true_eq_false, not_false_eq_true, reduceCtorEq, eq_self, Option.toList_some, Option.toList_none, List.cons_append, List.nil_append, Bool.false_eq_true, e1, htT, l1]
      refine am_CL_of q1 ?_
      simp only [am_R_eq, cx_33, en_33, rt_33, rx_aload_n, rx_dup_i, rx_dup_r, rx_getfield, ev_gf, rx_goto, rx_iconst, rx_icmp_ge, rx_iinc, ev_inc, rx_iload, rx_iload_n, rx_invs, rx_max2, rx_min2, rx_copy2, rx_invv, ev_cv, rx_ior, rx_istore, rx_putfield, ev_pf, ev_w1, ev_KW, am_fok, am_ftv, rx_return, kl_13, kl_22, kl_24, kl_34, ev_K, ev_pI, ev_pR, ev_pVi, ev_pVr, ev_sI, ev_sR, ev_KC, ev_k, ev_ko, ev_pop0, ev_pops, am_ld, am_sv, am_at, am_st, am_g, List.length_cons, List.length_nil, Nat.reduceAdd, Nat.reduceLT, Nat.zero_add, if_true, if_false, and_self, true_or, or_true, true_and, and_true, not_true_eq_false, not_false_eq_true, reduceCtorEq, eq_self, Option.toList_some, Option.toList_none, List.cons_append, List.nil_append, Bool.false_eq_true, k1]
      refine am_CL_of m1 ?_
      simp only [am_R_eq, cx_33, en_33, rt_33, rx_aload_n, rx_dup_i, rx_dup_r, rx_getfield, ev_gf, rx_goto, rx_iconst, rx_icmp_ge, rx_iinc, ev_inc, rx_iload, rx_iload_n, rx_invs, rx_max2, rx_min2, rx_copy2, rx_invv, ev_cv, rx_ior, rx_istore, rx_putfield, ev_pf, ev_w1, ev_KW, am_fok, am_ftv, rx_return, kl_13, kl_22, kl_24, kl_34, ev_K, ev_pI, ev_pR, ev_pVi, ev_pVr, ev_sI, ev_sR, ev_KC, ev_k, ev_ko, ev_pop0, ev_pops, am_ld, am_sv, am_at, am_st, am_g, List.length_cons, List.length_nil, Nat.reduceAdd, Nat.reduceLT, Nat.zero_add, if_true, if_false, and_self, true_or, or_true, true_and, and_true, not_true_eq_false, not_false_eq_true, reduceCtorEq, eq_self, Option.toList_some, Option.toList_none, List.cons_append, List.nil_append, Bool.false_eq_true, ht1, p1]
      refine am_CL_of q2 ?_
      simp only [am_R_eq, cx_33, en_33, rt_33, rx_aload_n, rx_dup_i, rx_dup_r, rx_getfield, ev_gf, rx_goto, rx_iconst, rx_icmp_ge, rx_iinc, ev_inc, rx_iload, rx_iload_n, rx_invs, rx_max2, rx_min2, rx_copy2, rx_invv, ev_cv, rx_ior, rx_istore, rx_putfield, ev_pf, ev_w1, ev_KW, am_fok, am_ftv, rx_return, kl_13, kl_22, kl_24, kl_34, ev_K, ev_pI, ev_pR, ev_pVi, ev_pVr, ev_sI, ev_sR, ev_KC, ev_k, ev_ko, ev_pop0, ev_pops, am_ld, am_sv, am_at, am_st, am_g, List.length_cons, List.length_nil, Nat.reduceAdd, Nat.reduceLT, Nat.zero_add, if_true, if_false, and_self, true_or, or_true, true_and, and_true, not_true_eq_false, not_false_eq_true, reduceCtorEq, eq_self, Option.toList_some, Option.toList_none, List.cons_append, List.nil_append, Bool.false_eq_true, hex1]
      refine am_CL_of q3 ?_
      simp only [am_R_eq, cx_33, en_33, rt_33, rx_aload_n, rx_dup_i, rx_dup_r, rx_getfield, ev_gf, rx_goto, rx_iconst, rx_icmp_ge, rx_iinc, ev_inc, rx_iload, rx_iload_n, rx_invs, rx_max2, rx_min2, rx_copy2, rx_invv, ev_cv, rx_ior, rx_istore, rx_putfield, ev_pf, ev_w1, ev_KW, am_fok, am_ftv, rx_return, kl_13, kl_22, kl_24, kl_34, ev_K, ev_pI, ev_pR, ev_pVi, ev_pVr, ev_sI, ev_sR, ev_KC, ev_k, ev_ko, ev_pop0, ev_pops, am_ld, am_sv, am_at, am_st, am_g, List.length_cons, List.length_nil, Nat.reduceAdd, Nat.reduceLT, Nat.zero_add, if_true, if_false, and_self, true_or, or_true, true_and, and_true, not_true_eq_false, not_false_eq_true, reduceCtorEq, eq_self, Option.toList_some, Option.toList_none, List.cons_append, List.nil_append, Bool.false_eq_true, ht1, hzt, nI_ofs, Nat.reduceLeDiff, beq_self_eq_true]
      exact i1
  obtain ⟨h1', c1, c2, c3⟩ := ro_clear' z d hz hr
  have ht1 : h1'.1 t = some (vs_tb r F) := c3.obj hr ht (by decide)
  have hc1 : vs_ch3 h (am_up h1' t (vs_tb r 0)) t r a := (vs_ch.to3 c3).tr (vs_ch3.up ..)
  obtain ⟨h', l0, l1, l2, l3⟩ := loop (u - p) p [] 0 (am_up h1' t (vs_tb r 0)) rfl (Nat.le_refl _) hp hc1 (c2.up _ ht1 (by decide)) (am_up_at _ _ _) (by simp only [List.length_nil]; omega)
  rw [List.nil_append] at l1
  rw [am_R_eq] at l0
  refine ⟨h', ?_, l1, l2, l3⟩
  obtain ⟨g0, k1, k2, k3, k4, k5, kne⟩ := hr.g
  rw [am_M_eq]
  simp only [am_R_eq, cx_33, en_33, rt_33, rx_aload_n, rx_dup_i, rx_dup_r, rx_getfield, ev_gf, rx_goto, rx_iconst, rx_icmp_ge, rx_iinc, ev_inc, rx_iload, rx_iload_n, rx_invs, rx_max2, rx_min2, rx_copy2, rx_invv, ev_cv, rx_ior, rx_istore, rx_putfield, ev_pf, ev_w1, ev_KW, am_fok, am_ftv, rx_return, kl_13, kl_22, kl_24, kl_34, ev_K, ev_pI, ev_pR, ev_pVi, ev_pVr, ev_sI, ev_sR, ev_KC, ev_k, ev_ko, ev_pop0, ev_pops, am_ld, am_sv, am_at, am_st, am_g, List.length_cons, List.length_nil, Nat.reduceAdd, Nat.reduceLT, Nat.zero_add, if_true, if_false, and_self, true_or, or_true, true_and, and_true, not_true_eq_false, not_false_eq_true, reduceCtorEq, eq_self, Option.toList_some, Option.toList_none, List.cons_append, List.nil_append, Bool.false_eq_true, ht, k1]
  refine am_CL_of c1 ?_
  simp only [am_R_eq, cx_33, en_33, rt_33, rx_aload_n, rx_dup_i, rx_dup_r, rx_getfield, ev_gf, rx_goto, rx_iconst, rx_icmp_ge, rx_iinc, ev_inc, rx_iload, rx_iload_n, rx_invs, rx_max2, rx_min2, rx_copy2, rx_invv, ev_cv, rx_ior, rx_istore, rx_putfield, ev_pf, ev_w1, ev_KW, am_fok, am_ftv, rx_return, kl_13, kl_22, kl_24, kl_34, ev_K, ev_pI, ev_pR, ev_pVi, ev_pVr, ev_sI, ev_sR, ev_KC, ev_k, ev_ko, ev_pop0, ev_pops, am_ld, am_sv, am_at, am_st, am_g, List.length_cons, List.length_nil, Nat.reduceAdd, Nat.reduceLT, Nat.zero_add, if_true, if_false, and_self, true_or, or_true, true_and, and_true, not_true_eq_false, not_false_eq_true, reduceCtorEq, eq_self, Option.toList_some, Option.toList_none, List.cons_append, List.nil_append, Bool.false_eq_true, ht1, hzt, Nat.reduceLeDiff, beq_self_eq_true]
  exact l0
theorem ta_firstKey (z d : Nat) {x : Nat} (ht : h.1 t = some (vs_tb r F)) (hr : vs_row h r a bl n L) (hx : L[0]? = some x) (he : h.1 x = some (vs_e E x)) : am_M z (d + 1 + 1) 78 [.ref t] h (some (.int (E x 0))) h := by
  obtain ⟨g0, k1, k2, k3, k4, k5, kne⟩ := hr.g
  have q1 := ro_at z d hr hx
  rw [am_M_eq]
  simp only [am_R_eq, cx_78, en_78, rt_78, rx_aload_n, rx_getfield, ev_gf, rx_iconst, rx_invv, ev_cv, rx_ireturn, kl_24, ev_K, ev_pI, ev_pR, ev_pVi, ev_pVr, ev_sI, ev_sR, ev_KC, ev_k, ev_ko, ev_pop0, ev_pops, am_ld, am_sv, am_at, am_st, am_g, List.length_cons, List.length_nil, Nat.reduceAdd, Nat.reduceLT, Nat.zero_add, if_true, if_false, and_self, true_or, or_true, true_and, and_true, not_true_eq_false, not_false_eq_true, reduceCtorEq, eq_self, Option.toList_some, Option.toList_none, List.cons_append, List.nil_append, Bool.false_eq_true, ht, k1]
  refine am_CL_of q1 ?_
  simp only [am_R_eq, cx_78, en_78, rt_78, rx_aload_n, rx_getfield, ev_gf, rx_iconst, rx_invv, ev_cv, rx_ireturn, kl_24, ev_K, ev_pI, ev_pR, ev_pVi, ev_pVr, ev_sI, ev_sR, ev_KC, ev_k, ev_ko, ev_pop0, ev_pops, am_ld, am_sv, am_at, am_st, am_g, List.length_cons, List.length_nil, Nat.reduceAdd, Nat.reduceLT, Nat.zero_add, if_true, if_false, and_self, true_or, or_true, true_and, and_true, not_true_eq_false, not_false_eq_true, reduceCtorEq, eq_self, Option.toList_some, Option.toList_none, List.cons_append, List.nil_append, Bool.false_eq_true, he]
theorem ta_lastKey (z d : Nat) {x : Nat} (ht : h.1 t = some (vs_tb r F)) (hr : vs_row h r a bl n L) (hx : L[L.length - 1]? = some x) (he : h.1 x = some (vs_e E x)) : am_M z (d + 1 + 1) 79 [.ref t] h (some (.int (E x 0))) h := by
  obtain ⟨g0, k1, k2, k3, k4, k5, kne⟩ := hr.g
  have hl : 0 < L.length := by
    have := (List.getElem?_eq_some_iff.mp hx).1
    omega
  have q1 := ro_at z d hr hx
  have q2 := ro_size z d hr
  have e1 : nI L.length - 1 = nI (L.length - 1) := by
    rw [show L.length = (L.length - 1) + 1 by omega, nI_pred]
    congr 1
  rw [am_M_eq]
  simp only [am_R_eq, cx_79, en_79, rt_79, rx_aload_n, rx_getfield, ev_gf, rx_iconst, rx_invv, ev_cv, rx_ireturn, rx_isub, kl_12, kl_24, ev_K, ev_pI, ev_pR, ev_pVi, ev_pVr, ev_sI, ev_sR, ev_KC, ev_k, ev_ko, ev_pop0, ev_pops, am_ld, am_sv, am_at, am_st, am_g, List.length_cons, List.length_nil, Nat.reduceAdd, Nat.reduceLT, Nat.zero_add, if_true, if_false, and_self, true_or, or_true, true_and, and_true, not_true_eq_false, not_false_eq_true, reduceCtorEq, eq_self, Option.toList_some, Option.toList_none, List.cons_append, List.nil_append, Bool.false_eq_true, ht, k1]
  refine am_CL_of q2 ?_
  simp only [am_R_eq, cx_79, en_79, rt_79, rx_aload_n, rx_getfield, ev_gf, rx_iconst, rx_invv, ev_cv, rx_ireturn, rx_isub, kl_12, kl_24, ev_K, ev_pI, ev_pR, ev_pVi, ev_pVr, ev_sI, ev_sR, ev_KC, ev_k, ev_ko, ev_pop0, ev_pops, am_ld, am_sv, am_at, am_st, am_g, List.length_cons, List.length_nil, Nat.reduceAdd, Nat.reduceLT, Nat.zero_add, if_true, if_false, and_self, true_or, or_true, true_and, and_true, not_true_eq_false, not_false_eq_true, reduceCtorEq, eq_self, Option.toList_some, Option.toList_none, List.cons_append, List.nil_append, Bool.false_eq_true, e1, k1]
  refine am_CL_of q1 ?_
  simp only [am_R_eq, cx_79, en_79, rt_79, rx_aload_n, rx_getfield, ev_gf, rx_iconst, rx_invv, ev_cv, rx_ireturn, rx_isub, kl_12, kl_24, ev_K, ev_pI, ev_pR, ev_pVi, ev_pVr, ev_sI, ev_sR, ev_KC, ev_k, ev_ko, ev_pop0, ev_pops, am_ld, am_sv, am_at, am_st, am_g, List.length_cons, List.length_nil, Nat.reduceAdd, Nat.reduceLT, Nat.zero_add, if_true, if_false, and_self, true_or, or_true, true_and, and_true, not_true_eq_false, not_false_eq_true, reduceCtorEq, eq_self, Option.toList_some, Option.toList_none, List.cons_append, List.nil_append, Bool.false_eq_true, he]
def e_may (E : Nat → Nat → Int32) (F : Int32) (x y : Nat) (key : Int32) : Bool := !decide (key < E x 0) && !decide (E y 0 < key) && decide (F &&& e_bits key = e_bits key)
theorem ta_mayHold (z d : Nat) {x y : Nat} {key : Int32} (ht : h.1 t = some (vs_tb r F)) (hr : vs_row h r a bl n L) (hx : L[0]? = some x) (hy : L[L.length - 1]? = some y) (he : h.1 x = some (vs_e E x)) (hf : h.1 y = some (vs_e E y)) : am_M z (d + 1 + 1 + 1) 77 [.ref t, .int key] h (some (.int (if e_may E F x y key = true then 1 else 0))) h := by
  have q1 := ta_bitsOf (h := h) z (d + 1) key
  have q2 := ta_firstKey z d ht hr hx he
  have q3 := ta_lastKey z d ht hr hy hf
  rw [am_M_eq]
  simp only [am_R_eq, cx_77, en_77, rt_77, rx_aload_n, rx_getfield, ev_gf, rx_goto, rx_iand, rx_iconst, rx_icmp_gt, rx_icmp_lt, rx_icmp_ne, rx_iload_n, rx_invs, rx_max2, rx_min2, rx_copy2, rx_invv, ev_cv, rx_ireturn, rx_istore_n, kl_34, kl_78, kl_79, ev_K, ev_pI, ev_pR, ev_pVi, ev_pVr, ev_sI, ev_sR, ev_KC, ev_k, ev_ko, ev_pop0, ev_pops, am_ld, am_sv, am_at, am_st, am_g, List.length_cons, List.length_nil, Nat.reduceAdd, Nat.reduceLT, Nat.zero_add, if_true, if_false, and_self, true_or, or_true, true_and, and_true, not_true_eq_false, not_false_eq_true, reduceCtorEq, eq_self, Option.toList_some, Option.toList_none, List.cons_append, List.nil_append, Bool.false_eq_true, ht]
  refine am_CL_of q1 ?_
  simp only [am_R_eq, cx_77, en_77, rt_77, rx_aload_n, rx_getfield, ev_gf, rx_goto, rx_iand, rx_iconst, rx_icmp_gt, rx_icmp_lt, rx_icmp_ne, rx_iload_n, rx_invs, rx_max2, rx_min2, rx_copy2, rx_invv, ev_cv, rx_ireturn, rx_istore_n, kl_34, kl_78, kl_79, ev_K, ev_pI, ev_pR, ev_pVi, ev_pVr, ev_sI, ev_sR, ev_KC, ev_k, ev_ko, ev_pop0, ev_pops, am_ld, am_sv, am_at, am_st, am_g, List.length_cons, List.length_nil, Nat.reduceAdd, Nat.reduceLT, Nat.zero_add, if_true, if_false, and_self, true_or, or_true, true_and, and_true, not_true_eq_false, not_false_eq_true, reduceCtorEq, eq_self, Option.toList_some, Option.toList_none, List.cons_append, List.nil_append, Bool.false_eq_true, ht]
  refine am_CL_of q2 ?_
  by_cases c1 : key < E x 0
  · simp only [am_R_eq, cx_77, en_77, rt_77, rx_aload_n, rx_getfield, ev_gf, rx_goto, rx_iand, rx_iconst, rx_icmp_gt, rx_icmp_lt, rx_icmp_ne, rx_iload_n, rx_invs, rx_max2, rx_min2, rx_copy2, rx_invv, ev_cv, rx_ireturn, rx_istore_n, kl_34, kl_78, kl_79, ev_K, ev_pI, ev_pR, ev_pVi, ev_pVr, ev_sI, ev_sR, ev_KC, ev_k, ev_ko, ev_pop0, ev_pops, am_ld, am_sv, am_at, am_st, am_g, List.length_cons, List.length_nil, Nat.reduceAdd, Nat.reduceLT, Nat.zero_add, if_true, if_false, and_self, true_or, or_true, true_and, and_true, not_true_eq_false, not_false_eq_true, reduceCtorEq, eq_self, Option.toList_some, Option.toList_none, List.cons_append, List.nil_append, Bool.false_eq_true, ht, c1, e_may, b00, decide_true, Bool.not_true, Bool.false_and]
  · simp only [am_R_eq, cx_77, en_77, rt_77, rx_aload_n, rx_getfield, ev_gf, rx_goto, rx_iand, rx_iconst, rx_icmp_gt, rx_icmp_lt, rx_icmp_ne, rx_iload_n, rx_invs, rx_max2, rx_min2, rx_copy2, rx_invv, ev_cv, rx_ireturn, rx_istore_n, kl_34, kl_78, kl_79, ev_K, ev_pI, ev_pR, ev_pVi, ev_pVr, ev_sI, ev_sR, ev_KC, ev_k, ev_ko, ev_pop0, ev_pops, am_ld, am_sv, am_at, am_st, am_g, List.length_cons, List.length_nil, Nat.reduceAdd, Nat.reduceLT, Nat.zero_add, if_true, if_false, and_self, true_or, or_true, true_and, and_true, not_true_eq_false, not_false_eq_true, reduceCtorEq, eq_self, Option.toList_some, Option.toList_none, List.cons_append, List.nil_append, Bool.false_eq_true, ht, c1]
    refine am_CL_of q3 ?_
    by_cases c2 : E y 0 < key
    · simp only [am_R_eq, cx_77, en_77, rt_77, rx_aload_n, rx_getfield, ev_gf, rx_goto, rx_iand, rx_iconst, rx_icmp_gt, rx_icmp_lt, rx_icmp_ne, rx_iload_n, rx_invs, rx_max2, rx_min2, rx_copy2, rx_invv, ev_cv, rx_ireturn, rx_istore_n, kl_34, kl_78, kl_79, ev_K, ev_pI, ev_pR, ev_pVi, ev_pVr, ev_sI, ev_sR, ev_KC, ev_k, ev_ko, ev_pop0, ev_pops, am_ld, am_sv, am_at, am_st, am_g, List.length_cons, List.length_nil, Nat.reduceAdd, Nat.reduceLT, Nat.zero_add, if_true, if_false, and_self, true_or, or_true, true_and, and_true, not_true_eq_false, not_false_eq_true, reduceCtorEq, eq_self, Option.toList_some, Option.toList_none, List.cons_append, List.nil_append, Bool.false_eq_true, ht, c1, c2, e_may, b00, decide_true, Bool.not_true, Bool.false_and, Bool.and_false, decide_false]
    · by_cases c3 : F &&& e_bits key = e_bits key
      · simp only [am_R_eq, cx_77, en_77, rt_77, rx_aload_n, rx_getfield, ev_gf, rx_goto, rx_iand, rx_iconst, rx_icmp_gt, rx_icmp_lt, rx_icmp_ne, rx_iload_n, rx_invs, rx_max2, rx_min2, rx_copy2, rx_invv, ev_cv, rx_ireturn, rx_istore_n, kl_34, kl_78, kl_79, ev_K, ev_pI, ev_pR, ev_pVi, ev_pVr, ev_sI, ev_sR, ev_KC, ev_k, ev_ko, ev_pop0, ev_pops, am_ld, am_sv, am_at, am_st, am_g, List.length_cons, List.length_nil, Nat.reduceAdd, Nat.reduceLT, Nat.zero_add, if_true, if_false, and_self, true_or, or_true, true_and, and_true, not_true_eq_false, not_false_eq_true, reduceCtorEq, eq_self, Option.toList_some, Option.toList_none, List.cons_append, List.nil_append, Bool.false_eq_true, ht, c1, c2, c3, e_may, b11, decide_true, Bool.not_true, Bool.not_false, Bool.and_self, decide_false]
      · simp only [am_R_eq, cx_77, en_77, rt_77, rx_aload_n, rx_getfield, ev_gf, rx_goto, rx_iand, rx_iconst, rx_icmp_gt, rx_icmp_lt, rx_icmp_ne, rx_iload_n, rx_invs, rx_max2, rx_min2, rx_copy2, rx_invv, ev_cv, rx_ireturn, rx_istore_n, kl_34, kl_78, kl_79, ev_K, ev_pI, ev_pR, ev_pVi, ev_pVr, ev_sI, ev_sR, ev_KC, ev_k, ev_ko, ev_pop0, ev_pops, am_ld, am_sv, am_at, am_st, am_g, List.length_cons, List.length_nil, Nat.reduceAdd, Nat.reduceLT, Nat.zero_add, if_true, if_false, and_self, true_or, or_true, true_and, and_true, not_true_eq_false, not_false_eq_true, reduceCtorEq, eq_self, Option.toList_some, Option.toList_none, List.cons_append, List.nil_append, Bool.false_eq_true, ht, c1, c2, c3, e_may, b00, decide_true, Bool.not_true, Bool.not_false, Bool.and_self, decide_false, Bool.and_false]
def e_gs (E : Nat → Nat → Int32) (m : Int32) (e : Nat) : Int32 := if m < E e 4 then E e 4 else m
theorem ta_greatestSerial (z d : Nat) (ht : h.1 t = some (vs_tb r F)) (hr : vs_row h r a bl n L) (hL : ∀ x ∈ L, h.1 x = some (vs_e E x)) : am_M z (d + 1 + 1) 85 [.ref t] h (some (.int (L.foldl (e_gs E) 0))) h := by
  obtain ⟨g0, k1, k2, k3, k4, k5, kne⟩ := hr.g
  have q0 := ro_size z d hr
  have loop : ∀ m k c, m = L.length - k → k ≤ L.length → am_R z (d + 1) 85 4 [some (.ref t), some (.int c), some (.int (nI k))] [] h (some (.int ((L.drop k).foldl (e_gs E) c))) h := by
    intro m
    induction m with
    | zero =>
      intro k c hm hk
      have hkl : k = L.length := by omega
      subst hkl
      have e1 : nI L.length ≤ nI L.length := nI_le (Nat.le_refl _) (by omega)
      rw [am_R_eq, cxh_85_4]
      simp only [am_R_eq, cx_85, en_85, rt_85, rx_aload_n, rx_getfield, ev_gf, rx_goto, rx_iconst, rx_icmp_ge, rx_iinc, ev_inc, rx_iload_n, rx_invs, rx_max2, rx_min2, rx_copy2, rx_invv, ev_cv, rx_ireturn, rx_istore_n, kl_12, kl_24, ev_K, ev_pI, ev_pR, ev_pVi, ev_pVr, ev_sI, ev_sR, ev_KC, ev_k, ev_ko, ev_pop0, ev_pops, am_ld, am_sv, am_at, am_st, am_g, List.length_cons, List.length_nil, Nat.reduceAdd, Nat.reduceLT, Nat.zero_add, if_true, if_false, and_self, true_or, or_true, true_and, and_true, not_true_eq_false, not_false_eq_true, reduceCtorEq, eq_self, Option.toList_some, Option.toList_none, List.cons_append, List.nil_append, Bool.false_eq_true, ht, k1]
      refine am_CL_of q0 ?_
      simp only [am_R_eq, cx_85, en_85, rt_85, rx_aload_n, rx_getfield, ev_gf, rx_goto, rx_iconst, rx_icmp_ge, rx_iinc, ev_inc, rx_iload_n, rx_invs, rx_max2, rx_min2, rx_copy2, rx_invv, ev_cv, rx_ireturn, rx_istore_n, kl_12, kl_24, ev_K, ev_pI, ev_pR, ev_pVi, ev_pVr, ev_sI, ev_sR, ev_KC, ev_k, ev_ko, ev_pop0, ev_pops, am_ld, am_sv, am_at, am_st, am_g, List.length_cons, List.length_nil, Nat.reduceAdd, Nat.reduceLT, Nat.zero_add, if_true, if_false, and_self, true_or, or_true, true_and, and_true, not_true_eq_false, not_false_eq_true, reduceCtorEq, eq_self, Option.toList_some, Option.toList_none, List.cons_append, List.nil_append, Bool.false_eq_true, e1, List.drop_length, List.foldl_nil]
    | succ m ih =>
      intro k c hm hk
      have hlt : k < L.length := by omega
      have e1 : ¬ nI L.length ≤ nI k := nI_ge hlt (by omega)
      obtain ⟨x, hx⟩ : ∃ x, L[k]? = some x := ⟨L[k]'(by omega), List.getElem?_eq_getElem (by omega)⟩
      have hd : L.drop k = x :: L.drop (k + 1) := by
        rw [List.drop_eq_getElem_cons hlt]
        congr 1
        exact (List.getElem?_eq_some_iff.mp hx).2
      have hex := hL x (List.mem_of_getElem? hx)
      have q1 := ro_at z d hr hx
      have ih1 := ih (k + 1) (e_gs E c x) (by omega) (by omega)
      unfold e_gs at ih1
      rw [am_R_eq] at ih1
      rw [hd, List.foldl_cons]
      rw [am_R_eq, cxh_85_4]
      simp only [am_R_eq, cx_85, en_85, rt_85, rx_aload_n, rx_getfield, ev_gf, rx_goto, rx_iconst, rx_icmp_ge, rx_iinc, ev_inc, rx_iload_n, rx_invs, rx_max2, rx_min2, rx_copy2, rx_invv, ev_cv, rx_ireturn, rx_istore_n, kl_12, kl_24, ev_K, ev_pI, ev_pR, ev_pVi, ev_pVr, ev_sI, ev_sR, ev_KC, ev_k, ev_ko, ev_pop0, ev_pops, am_ld, am_sv, am_at, am_st, am_g, List.length_cons, List.length_nil, Nat.reduceAdd, Nat.reduceLT, Nat.zero_add, if_true, if_false, and_self, true_or, or_true, true_and, and_true, not_true_eq_false, not_false_eq_true, reduceCtorEq, eq_self, Option.toList_some, Option.toList_none, List.cons_append, List.nil_append, Bool.false_eq_true, ht, k1]
      refine am_CL_of q0 ?_
      simp only [am_R_eq, cx_85, en_85, rt_85, rx_aload_n, rx_getfield, ev_gf, rx_goto, rx_iconst, rx_icmp_ge, rx_iinc, ev_inc, rx_iload_n, rx_invs, rx_max2, rx_min2, rx_copy2, rx_invv, ev_cv, rx_ireturn, rx_istore_n, kl_12, kl_24, ev_K, ev_pI, ev_pR, ev_pVi, ev_pVr, ev_sI, ev_sR, ev_KC, ev_k, ev_ko, ev_pop0, ev_pops, am_ld, am_sv, am_at, am_st, am_g, List.length_cons, List.length_nil, Nat.reduceAdd, Nat.reduceLT, Nat.zero_add, if_true, if_false, and_self, true_or, or_true, true_and, and_true, not_true_eq_false, not_false_eq_true, reduceCtorEq, eq_self, Option.toList_some, Option.toList_none, List.cons_append, List.nil_append, Bool.false_eq_true, e1, ht, k1]
      refine am_CL_of q1 ?_
      simp only [am_R_eq, cx_85, en_85, rt_85, rx_aload_n, rx_getfield, ev_gf, rx_goto, rx_iconst, rx_icmp_ge, rx_iinc, ev_inc, rx_iload_n, rx_invs, rx_max2, rx_min2, rx_copy2, rx_invv, ev_cv, rx_ireturn, rx_istore_n, kl_12, kl_24, ev_K, ev_pI, ev_pR, ev_pVi, ev_pVr, ev_sI, ev_sR, ev_KC, ev_k, ev_ko, ev_pop0, ev_pops, am_ld, am_sv, am_at, am_st, am_g, List.length_cons, List.length_nil, Nat.reduceAdd, Nat.reduceLT, Nat.zero_add, if_true, if_false, and_self, true_or, or_true, true_and, and_true, not_true_eq_false, not_false_eq_true, reduceCtorEq, eq_self, Option.toList_some, Option.toList_none, List.cons_append, List.nil_append, Bool.false_eq_true, hex, nI_ofs]
      exact ih1
  have l0 := loop L.length 0 0 (by omega) (Nat.zero_le _)
  rw [am_R_eq, List.drop_zero] at l0
  rw [am_M_eq]
  simp only [am_R_eq, cx_85, en_85, rt_85, rx_aload_n, rx_getfield, ev_gf, rx_goto, rx_iconst, rx_icmp_ge, rx_iinc, ev_inc, rx_iload_n, rx_invs, rx_max2, rx_min2, rx_copy2, rx_invv, ev_cv, rx_ireturn, rx_istore_n, kl_12, kl_24, ev_K, ev_pI, ev_pR, ev_pVi, ev_pVr, ev_sI, ev_sR, ev_KC, ev_k, ev_ko, ev_pop0, ev_pops, am_ld, am_sv, am_at, am_st, am_g, List.length_cons, List.length_nil, Nat.reduceAdd, Nat.reduceLT, Nat.zero_add, if_true, if_false, and_self, true_or, or_true, true_and, and_true, not_true_eq_false, not_false_eq_true, reduceCtorEq, eq_self, Option.toList_some, Option.toList_none, List.cons_append, List.nil_append, Bool.false_eq_true]
  exact l0
end TAB
