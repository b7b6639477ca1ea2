section ROW6
variable {h : am_H} {r a bl n : Nat} {L : List Nat} {E : Nat → Nat → Int32}
theorem vs_ch.rf (h : am_H) (r a : Nat) : vs_ch h h r a := ⟨fun _ _ _ => rfl, rfl⟩
theorem vs_ch.tr {h1 h2 : am_H} (p : vs_ch h h1 r a) (q : vs_ch h1 h2 r a) : vs_ch h h2 r a := ⟨fun x e1 e2 => by rw [q.1 x e1 e2, p.1 x e1 e2], by rw [q.2, p.2]⟩
theorem vs_row.nex {x : Nat} {w : List Value} {c : Nat} (hr : vs_row h r a bl n L) (hx : h.1 x = some (.inr (c, w))) (hc : c ≠ 2) : x ≠ r ∧ x ≠ a := by
  obtain ⟨g, h1, h2, h3, h4, h5, hne⟩ := hr.g
  refine ⟨am_ne hx h1 ?_, am_ne hx h2 (by simp)⟩
  intro q
  exact hc (congrArg (fun e : am_E => match e with | .inr p => p.1 | .inl _ => c) q)
theorem vs_ch.obj {h' : am_H} {x : Nat} {w : List Value} {c : Nat} (hc : vs_ch h h' r a) (hr : vs_row h r a bl n L) (hx : h.1 x = some (.inr (c, w))) (hn : c ≠ 2) : h'.1 x = some (.inr (c, w)) := by
  obtain ⟨q1, q2⟩ := hr.nex hx hn
  rw [hc.1 x q1 q2]
  exact hx
theorem vs_ch.row {h' : am_H} {r2 a2 bl2 n2 : Nat} {L2 : List Nat} (hc : vs_ch h h' r a) (hr : vs_row h r a bl n L) (hr2 : vs_row h r2 a2 bl2 n2 L2) (n1 : r2 ≠ r) (n3 : a2 ≠ a) : vs_row h' r2 a2 bl2 n2 L2 := by
  obtain ⟨g, h1, h2, h3, h4, h5, hne⟩ := hr.g
  obtain ⟨g2, k1, k2, k3, k4, k5, kne⟩ := hr2.g
  refine hr2.fr (hc.1 r2 n1 (am_ne k1 h2 (by simp))) (hc.1 a2 (am_ne k2 h1 (by simp)) n3)
def e_ll (E : Nat → Nat → Int32) (s : Int32) (T : List Nat) (e : Nat) : List Nat := if e_live E s e = true then e_ins (e_cb E e) e T else T
theorem ro_listLive (z d : Nat) {s : Int32} {r2 a2 bl2 n2 : Nat} {T0 : List Nat} (hz : z ≤ r2) (hza : z ≤ a2) (hr : vs_row h r a bl n L) (hr2 : vs_row h r2 a2 bl2 n2 T0) (n1 : r ≠ r2) (n3 : a ≠ a2) (hL : ∀ x ∈ L, h.1 x = some (vs_e E x)) (hT : ∀ x ∈ T0, h.1 x = some (vs_e E x)) (hn : T0.length + L.countP (e_live E s) ≤ n2) :
    ∃ h', am_M z (d + 1 + 1 + 1) 50 [.ref r, .int s, .ref r2] h none h' ∧ vs_row h' r2 a2 bl2 n2 (L.foldl (e_ll E s) T0) ∧ vs_ch h h' r2 a2 := by
  have loop : ∀ m k T hh, m = L.length - k → k ≤ L.length → vs_ch h hh r2 a2 → vs_row hh r2 a2 bl2 n2 T → T.length + (L.drop k).countP (e_live E s) ≤ n2 → (∀ x ∈ T, h.1 x = some (vs_e E x)) → ∃ h', am_R z (d + 1 + 1) 50 2 [some (.ref r), some (.int s), some (.ref r2), some (.int (nI k))] [] hh none h' ∧ vs_row h' r2 a2 bl2 n2 ((L.drop k).foldl (e_ll E s) T) ∧ vs_ch h h' r2 a2 := by
    intro m
    induction m with
    | zero =>
      intro k T hh hm hk hc hrT hTn hTe
      have hrh := hc.row hr2 hr n1 n3
      obtain ⟨g, h1, h2, h3, h4, h5, hne⟩ := hrh.g
      have hkl : k = L.length := by omega
      subst hkl
      have e1 : nI L.length ≤ nI L.length := nI_le (Nat.le_refl _) (by omega)
      rw [List.drop_length, List.foldl_nil]
      refine ⟨hh, ?_, hrT, hc⟩
      rw [am_R_eq, cxh_50_2]
      simp only [am_R_eq, cx_50, en_50, rt_50, rx_aaload, rx_aload_n, rx_getfield, ev_gf, rx_goto, rx_iconst, rx_icmp_ge, rx_if_eq, rx_iinc, ev_inc, rx_iload_n, rx_invv, ev_cv, rx_istore_n, rx_return, kl_51, kl_52, ev_K, ev_pI, ev_pR, ev_pVi, ev_pVr, ev_sI, ev_sR, ev_KC, ev_k, ev_ko, ev_pop0, ev_pops, am_ld, am_sv, am_at, am_st, am_g, List.length_cons, List.length_nil, Nat.reduceAdd, Nat.reduceLT, Nat.zero_add, if_true, if_false, and_self, true_or, or_true, true_and, and_true, not_true_eq_false, not_false_eq_true, reduceCtorEq, eq_self, Option.toList_some, Option.toList_none, List.cons_append, List.nil_append, Bool.false_eq_true, h1, e1]
    | succ m ih =>
      intro k T hh hm hk hc hrT hTn hTe
      have hrh := hc.row hr2 hr n1 n3
      obtain ⟨g, h1, h2, h3, h4, h5, hne⟩ := hrh.g
      have hlt : k < L.length := by omega
      have e1 : ¬ nI L.length ≤ nI k := nI_ge hlt (by omega)
      have e5 : am_ix (nI k) n = some k := ev_ix (by omega) (by omega)
      obtain ⟨x, hx⟩ : ∃ x, L[k]? = some x := ⟨L[k]'(by omega), List.getElem?_eq_getElem (by omega)⟩
      have hd : L.drop k = x :: L.drop (k + 1) := by
        rw [List.drop_eq_getElem_cons hlt]
        congr 1
        exact (List.getElem?_eq_some_iff.mp hx).2
      have e7 := ev_rq 2 n k x g (nI k) (by omega) e5 (by rw [h3 k (by omega)]; exact hx)
      have hex := hc.obj hr2 (hL x (List.mem_of_getElem? hx)) (by decide)
      obtain ⟨g2, k1, k2, k3, k4, k5, kne⟩ := hrT.g
      rw [hd, List.countP_cons] at hTn
      rw [hd, List.foldl_cons]
      cases hb : e_live E s x with
      | true =>
        rw [hb, if_pos rfl] at hTn
        obtain ⟨h1', m1, m2, m3⟩ := ro_insertByCell z d hz hza hrT hex (fun y hy => hc.obj hr2 (hTe y hy) (by decide)) (by omega)
        obtain ⟨h', i1, i2, i3⟩ := ih (k + 1) (e_ins (e_cb E x) x T) h1' (by omega) (by omega) (hc.tr m3) m2 (by rw [e_ins_len]; omega) (by
          intro y hy
          rcases (e_ins_mem _ _ _ _).mp hy with q | q
          · rw [q]; exact hL x (List.mem_of_getElem? hx)
          · exact hTe y q)
        rw [am_R_eq] at i1
        rw [show e_ll E s T x = e_ins (e_cb E x) x T by simp [e_ll, hb]]
        refine ⟨h', ?_, i2, i3⟩
        rw [am_R_eq, cxh_50_2]
        simp only [am_R_eq, cx_50, en_50, rt_50, rx_aaload, rx_aload_n, rx_getfield, ev_gf, rx_goto, rx_iconst, rx_icmp_ge, rx_if_eq, rx_iinc, ev_inc, rx_iload_n, rx_invv, ev_cv, rx_istore_n, rx_return, kl_51, kl_52, ev_K, ev_pI, ev_pR, ev_pVi, ev_pVr, ev_sI, ev_sR, ev_KC, ev_k, ev_ko, ev_pop0, ev_pops, am_ld, am_sv, am_at, am_st, am_g, List.length_cons, List.length_nil, Nat.reduceAdd, Nat.reduceLT, Nat.zero_add, if_true, if_false, and_self, true_or, or_true, true_and, and_true, not_true_eq_false, not_false_eq_true, reduceCtorEq, eq_self, Option.toList_some, Option.toList_none, List.cons_append, List.nil_append, Bool.false_eq_true, h1, h2, e1, e7, hex]
        refine am_CL_of (en_isLiveIn z (d + 1) hex) ?_
        simp only [am_R_eq, cx_50, en_50, rt_50, rx_aaload, rx_aload_n, rx_getfield, ev_gf, rx_goto, rx_iconst, rx_icmp_ge, rx_if_eq, rx_iinc, ev_inc, rx_iload_n, rx_invv, ev_cv, rx_istore_n, rx_return, kl_51, kl_52, ev_K, ev_pI, ev_pR, ev_pVi, ev_pVr, ev_sI, ev_sR, ev_KC, ev_k, ev_ko, ev_pop0, ev_pops, am_ld, am_sv, am_at, am_st, am_g, List.length_cons, List.length_nil, Nat.reduceAdd, Nat.reduceLT, Nat.zero_add, if_true, if_false, and_self, true_or, or_true, true_and, and_true, not_true_eq_false, not_false_eq_true, reduceCtorEq, eq_self, Option.toList_some, Option.toList_none, List.cons_append, List.nil_append, Bool.false_eq_true, h1, h2, e7, hb, i_10, k1]
        refine am_CL_of m1 ?_
        simp only [am_R_eq, cx_50, en_50, rt_50, rx_aaload, rx_aload_n, rx_getfield, ev_gf, rx_goto, rx_iconst, rx_icmp_ge, rx_if_eq, rx_iinc, ev_inc, rx_iload_n, rx_invv, ev_cv, rx_istore_n, rx_return, kl_51, kl_52, ev_K, ev_pI, ev_pR, ev_pVi, ev_pVr, ev_sI, ev_sR, ev_KC, ev_k, ev_ko, ev_pop0, ev_pops, am_ld, am_sv, am_at, am_st, am_g, List.length_cons, List.length_nil, Nat.reduceAdd, Nat.reduceLT, Nat.zero_add, if_true, if_false, and_self, true_or, or_true, true_and, and_true, not_true_eq_false, not_false_eq_true, reduceCtorEq, eq_self, Option.toList_some, Option.toList_none, List.cons_append, List.nil_append, Bool.false_eq_true, nI_ofs]
        exact i1
      | false =>
        rw [hb, if_neg (by decide)] at hTn
        obtain ⟨h', i1, i2, i3⟩ := ih (k + 1) T hh (by omega) (by omega) hc hrT (by omega) hTe
        rw [am_R_eq] at i1
        rw [show e_ll E s T x = T by simp [e_ll, hb]]
        refine ⟨h', ?_, i2, i3⟩
        rw [am_R_eq, cxh_50_2]
        simp only [am_R_eq, cx_50, en_50, rt_50, rx_aaload, rx_aload_n, rx_getfield, ev_gf, rx_goto, rx_iconst, rx_icmp_ge, rx_if_eq, rx_iinc, ev_inc, rx_iload_n, rx_invv, ev_cv, rx_istore_n, rx_return, kl_51, kl_52, ev_K, ev_pI, ev_pR, ev_pVi, ev_pVr, ev_sI, ev_sR, ev_KC, ev_k, ev_ko, ev_pop0, ev_pops, am_ld, am_sv, am_at, am_st, am_g, List.length_cons, List.length_nil, Nat.reduceAdd, Nat.reduceLT, Nat.zero_add, if_true, if_false, and_self, true_or, or_true, true_and, and_true, not_true_eq_false, not_false_eq_true, reduceCtorEq, eq_self, Option.toList_some, Option.toList_none, List.cons_append, List.nil_append, Bool.false_eq_true, h1, h2, e1, e7, hex]
        refine am_CL_of (en_isLiveIn z (d + 1) hex) ?_
        simp only [am_R_eq, cx_50, en_50, rt_50, rx_aaload, rx_aload_n, rx_getfield, ev_gf, rx_goto, rx_iconst, rx_icmp_ge, rx_if_eq, rx_iinc, ev_inc, rx_iload_n, rx_invv, ev_cv, rx_istore_n, rx_return, kl_51, kl_52, ev_K, ev_pI, ev_pR, ev_pVi, ev_pVr, ev_sI, ev_sR, ev_KC, ev_k, ev_ko, ev_pop0, ev_pops, am_ld, am_sv, am_at, am_st, am_g, List.length_cons, List.length_nil, Nat.reduceAdd, Nat.reduceLT, Nat.zero_add, if_true, if_false, and_self, true_or, or_true, true_and, and_true, not_true_eq_false, not_false_eq_true, reduceCtorEq, eq_self, Option.toList_some, Option.toList_none, List.cons_append, List.nil_append, Bool.false_eq_true, hb, nI_ofs]
        exact i1
  obtain ⟨h', l0, l1, l2⟩ := loop L.length 0 T0 h (by omega) (Nat.zero_le _) (vs_ch.rf ..) hr2 (by rw [List.drop_zero]; exact hn) hT
  rw [am_R_eq] at l0
  rw [List.drop_zero] at l1
  refine ⟨h', ?_, l1, l2⟩
  rw [am_M_eq]
  simp only [am_R_eq, cx_50, en_50, rt_50, rx_aaload, rx_aload_n, rx_getfield, ev_gf, rx_goto, rx_iconst, rx_icmp_ge, rx_if_eq, rx_iinc, ev_inc, rx_iload_n, rx_invv, ev_cv, rx_istore_n, rx_return, kl_51, kl_52, ev_K, ev_pI, ev_pR, ev_pVi, ev_pVr, ev_sI, ev_sR, ev_KC, ev_k, ev_ko, ev_pop0, ev_pops, am_ld, am_sv, am_at, am_st, am_g, List.length_cons, List.length_nil, Nat.reduceAdd, Nat.reduceLT, Nat.zero_add, if_true, if_false, and_self, true_or, or_true, true_and, and_true, not_true_eq_false, not_false_eq_true, reduceCtorEq, eq_self, Option.toList_some, Option.toList_none, List.cons_append, List.nil_append, Bool.false_eq_true]
  exact l0
theorem nI_mx0 {k : Nat} (hk : k < 2 ^ 31) : (if (0 : Int32) < nI k then nI k else 0) = nI k := by
  by_cases hk0 : k = 0
  · subst hk0; decide
  · rw [if_pos (show (0 : Int32) < nI k from nI_lt (a := 0) (b := k) (by omega) hk)]
theorem ro_shorten (z d : Nat) {k : Nat} (hz : z ≤ r) (hr : vs_row h r a bl n L) (hk : k ≤ L.length) : ∃ h', am_M z (d + 1) 67 [.ref r, .int (nI k)] h none h' ∧ vs_row h' r a bl n (L.take (L.length - k)) ∧ vs_ch h h' r a := by
  obtain ⟨g, h1, h2, h3, h4, h5, hne⟩ := hr.g
  refine ⟨am_up h r (vs_ro bl a (L.length - k)), ?_, ?_, ⟨fun q q1 _ => am_up_ne _ _ q1, rfl⟩⟩
  · have e1 := nI_mx0 (k := k) (by omega)
    have e2 : nI L.length - nI k = nI (L.length - k) := pk_sub hk
    have e3 := nI_mx0 (k := L.length - k) (by omega)
    rw [am_M_eq]
    simp only [am_R_eq, cx_67, en_67, rt_67, rx_aload_n, rx_getfield, ev_gf, rx_iconst, rx_iload_n, rx_invs, rx_max2, rx_min2, rx_copy2, rx_isub, rx_putfield, ev_pf, ev_w1, ev_KW, am_fok, am_ftv, rx_return, ev_K, ev_pI, ev_pR, ev_pVi, ev_pVr, ev_sI, ev_sR, ev_KC, ev_k, ev_ko, ev_pop0, ev_pops, am_ld, am_sv, am_at, am_st, am_g, List.length_cons, List.length_nil, Nat.reduceAdd, Nat.reduceLT, Nat.zero_add, if_true, if_false, and_self, true_or, or_true, true_and, and_true, not_true_eq_false, not_false_eq_true, reduceCtorEq, eq_self, Option.toList_some, Option.toList_none, List.cons_append, List.nil_append, Bool.false_eq_true, h1, e1, e2, e3, hz, Nat.reduceLeDiff, beq_self_eq_true]
  · have hl : (L.take (L.length - k)).length = L.length - k := by rw [List.length_take]; omega
    refine vs_row.mk (g := g) (by rw [am_up_at, hl]) (by rw [am_up_ne _ _ (Ne.symm hne)]; exact h2) ?_ (by omega) h5
    intro i hi
    rw [hl] at hi
    rw [List.getElem?_take_of_lt hi]
    exact h3 i (by omega)
theorem ro_clear' (z d : Nat) (hz : z ≤ r) (hr : vs_row h r a bl n L) : ∃ h', am_M z (d + 1) 22 [.ref r] h none h' ∧ vs_row h' r a bl n [] ∧ vs_ch h h' r a := by
  obtain ⟨g, h1, h2, h3, h4, h5, hne⟩ := hr.g
  obtain ⟨h', m1, rfl⟩ := ro_clear z d hz hr
  refine ⟨_, m1, vs_row.mk (g := g) (by rw [am_up_at]; rfl) (by rw [am_up_ne _ _ (Ne.symm hne)]; exact h2) (fun k hk => absurd hk (Nat.not_lt_zero _)) (Nat.zero_le _) h5, ⟨fun q q1 _ => am_up_ne _ _ q1, rfl⟩⟩
end ROW6
