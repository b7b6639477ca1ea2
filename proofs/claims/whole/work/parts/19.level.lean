section LEV
variable {h : am_H} {lv ta m c cap bl : Nat} {tt rr aa : Nat → Nat} {C : Nat → List Nat} {fl : Nat → Int32} {E : Nat → Nat → Int32}
abbrev vs_lo (ta c : Nat) : am_E := .inr (4, [.ref ta, .int (nI c)])
abbrev vs_qt (n : Nat) (g : Nat → Option Nat) : am_E := .inl (3, n, .inr (.inr (.inr (.inr g))))
def vs_lv (h : am_H) (lv ta m c cap bl : Nat) (tt rr aa : Nat → Nat) (C : Nat → List Nat) (fl : Nat → Int32) : Prop :=
  h.1 lv = some (vs_lo ta c) ∧ c ≤ m ∧ m ≤ 30 ∧ (∃ G, h.1 ta = some (vs_qt m G) ∧ ∀ k, k < m → G k = some (tt k)) ∧ (∀ k, k < m → h.1 (tt k) = some (vs_tb (rr k) (fl k))) ∧ (∀ k, k < m → vs_row h (rr k) (aa k) bl cap (C k)) ∧ ∀ i j, i < m → j < m → i ≠ j → tt i ≠ tt j ∧ rr i ≠ rr j ∧ aa i ≠ aa j
theorem vs_lv.fr {r a blr n : Nat} {T : List Nat} {hh : am_H} (hl : vs_lv h lv ta m c cap bl tt rr aa C fl) (hr : vs_row h r a blr n T) (hc : vs_ch h hh r a) (hn : ∀ k, k < m → rr k ≠ r ∧ aa k ≠ a) : vs_lv hh lv ta m c cap bl tt rr aa C fl := by
  obtain ⟨l1, l2, l3, ⟨G, l4, l5⟩, l6, l7, l8⟩ := hl
  obtain ⟨g, h1, h2, h3, h4, h5, hne⟩ := hr.g
  refine ⟨hc.obj hr l1 (by decide), l2, l3, ⟨G, ?_, l5⟩, fun k hk => hc.obj hr (l6 k hk) (by decide), fun k hk => hc.row hr (l7 k hk) (hn k hk).1 (hn k hk).2, l8⟩
  rw [hc.1 ta (am_ne l4 h1 (by simp)) (am_ne l4 h2 (by simp))]
  exact l4
def e_fl (C : Nat → List Nat) : Nat → Nat → List Nat
  | _, 0 => []
  | k, m + 1 => C k ++ e_fl C (k + 1) m
def e_ik (E : Nat → Nat → Int32) (T : List Nat) (e : Nat) : List Nat := e_ins (e_bf E e) e T
theorem e_ik_len (E : Nat → Nat → Int32) : ∀ (M T : List Nat), (M.foldl (e_ik E) T).length = T.length + M.length
  | [], T => rfl
  | e :: M, T => by
    rw [List.foldl_cons, e_ik_len E M, e_ik, e_ins_len, List.length_cons]
    omega
theorem e_ik_mem (E : Nat → Nat → Int32) (x : Nat) : ∀ (M T : List Nat), x ∈ M.foldl (e_ik E) T ↔ x ∈ M ∨ x ∈ T
  | [], T => by simp
  | e :: M, T => by
    rw [List.foldl_cons, e_ik_mem E x M, e_ik, e_ins_mem, List.mem_cons]
    constructor
    · rintro (q | q | q)
      · exact Or.inl (Or.inr q)
      · exact Or.inl (Or.inl q)
      · exact Or.inr q
    · rintro ((q | q) | q)
      · exact Or.inr (Or.inl q)
      · exact Or.inl q
      · exact Or.inr (Or.inr q)
theorem le_tableCount (z d : Nat) (hl : vs_lv h lv ta m c cap bl tt rr aa C fl) : am_M z (d + 1) 19 [.ref lv] h (some (.int (nI c))) h := by
  obtain ⟨l1, -⟩ := hl
  rw [am_M_eq]
  simp only [am_R_eq, cx_19, en_19, rt_19, rx_aload_n, rx_getfield, ev_gf, rx_ireturn, ev_K, ev_pI, ev_pR, ev_pVi, ev_pVr, ev_sI, ev_sR, ev_KC, ev_k, ev_ko, ev_pop0, ev_pops, am_ld, am_sv, am_at, am_st, am_g, List.length_cons, List.length_nil, Nat.reduceAdd, Nat.reduceLT, Nat.zero_add, if_true, if_false, and_self, true_or, or_true, true_and, and_true, not_true_eq_false, not_false_eq_true, reduceCtorEq, eq_self, Option.toList_some, Option.toList_none, List.cons_append, List.nil_append, Bool.false_eq_true, l1]
theorem le_tableAt (z d : Nat) {k : Nat} (hl : vs_lv h lv ta m c cap bl tt rr aa C fl) (hk : k < m) : am_M z (d + 1) 76 [.ref lv, .int (nI k)] h (some (.ref (tt k))) h := by
  obtain ⟨l1, l2, l3, ⟨G, l4, l5⟩, l6, l7, l8⟩ := hl
  have e5 : am_ix (nI k) m = some k := ev_ix hk (by omega)
  have e7 := ev_rq 3 m k (tt k) G (nI k) (by omega) e5 (l5 k hk)
  rw [am_M_eq]
  simp only [am_R_eq, cx_76, en_76, rt_76, rx_aaload, rx_aload_n, rx_areturn, rx_getfield, ev_gf, rx_iload_n, ev_K, ev_pI, ev_pR, ev_pVi, ev_pVr, ev_sI, ev_sR, ev_KC, ev_k, ev_ko, ev_pop0, ev_pops, am_ld, am_sv, am_at, am_st, am_g, List.length_cons, List.length_nil, Nat.reduceAdd, Nat.reduceLT, Nat.zero_add, if_true, if_false, and_self, true_or, or_true, true_and, and_true, not_true_eq_false, not_false_eq_true, reduceCtorEq, eq_self, Option.toList_some, Option.toList_none, List.cons_append, List.nil_append, Bool.false_eq_true, l1, l4, e7]
theorem le_countLive (z d : Nat) {s : Int32} (hl : vs_lv h lv ta m c cap bl tt rr aa C fl) (hL : ∀ k, k < c → ∀ x ∈ C k, h.1 x = some (vs_e E x)) : am_M z (d + 1 + 1 + 1) 90 [.ref lv, .int s] h (some (.int (nI ((e_fl C 0 c).countP (e_live E s))))) h := by
  have hl0 := hl
  obtain ⟨l1, l2, l3, ⟨G, l4, l5⟩, l6, l7, l8⟩ := hl
  have loop : ∀ q k v, q = c - k → k ≤ c → am_R z (d + 1 + 1) 90 4 [some (.ref lv), some (.int s), some (.int (nI v)), some (.int (nI k))] [] h (some (.int (nI (v + (e_fl C k q).countP (e_live E s))))) h := by
    intro q
    induction q with
    | zero =>
      intro k v hq hk
      have hkc : k = c := by omega
      subst hkc
      have e1 : nI k ≤ nI k := nI_le (Nat.le_refl _) (by omega)
      rw [am_R_eq, cxh_90_4]
      simp only [am_R_eq, cx_90, en_90, rt_90, rx_aaload, rx_aload_n, rx_getfield, ev_gf, rx_goto, rx_iadd, rx_iconst, rx_icmp_ge, rx_iinc, ev_inc, rx_iload_n, rx_invv, ev_cv, rx_ireturn, rx_istore_n, kl_89, ev_K, ev_pI, ev_pR, ev_pVi, ev_pVr, ev_sI, ev_sR, ev_KC, ev_k, ev_ko, ev_pop0, ev_pops, am_ld, am_sv, am_at, am_st, am_g, List.length_cons, List.length_nil, Nat.reduceAdd, Nat.reduceLT, Nat.zero_add, if_true, if_false, and_self, true_or, or_true, true_and, and_true, not_true_eq_false, not_false_eq_true, reduceCtorEq, eq_self, Option.toList_some, Option.toList_none, List.cons_append, List.nil_append, Bool.false_eq_true, l1, e1, e_fl, List.countP_nil, Nat.add_zero]
    | succ q ih =>
      intro k v hq hk
      have e1 : ¬ nI c ≤ nI k := nI_ge (by omega) (by omega)
      have e5 : am_ix (nI k) m = some k := ev_ix (by omega) (by omega)
      have e7 := ev_rq 3 m k (tt k) G (nI k) (by omega) e5 (l5 k (by omega))
      have t1 := l6 k (by omega)
      have r1 := l7 k (by omega)
      obtain ⟨g, h1, h2, h3, h4, h5, hne⟩ := r1.g
      have q1 := ro_countLive z d (s := s) r1 (hL k (by omega))
      have e8 : nI v + nI ((C k).countP (e_live E s)) = nI (v + (C k).countP (e_live E s)) := nI_add _ _
      have ih1 := ih (k + 1) (v + (C k).countP (e_live E s)) (by omega) (by omega)
      rw [am_R_eq, show v + (C k).countP (e_live E s) + (e_fl C (k + 1) q).countP (e_live E s) = v + (C k ++ e_fl C (k + 1) q).countP (e_live E s) by rw [List.countP_append]; omega] at ih1
      rw [am_R_eq, cxh_90_4]
      simp only [am_R_eq, cx_90, en_90, rt_90, rx_aaload, rx_aload_n, rx_getfield, ev_gf, rx_goto, rx_iadd, rx_iconst, rx_icmp_ge, rx_iinc, ev_inc, rx_iload_n, rx_invv, ev_cv, rx_ireturn, rx_istore_n, kl_89, ev_K, ev_pI, ev_pR, ev_pVi, ev_pVr, ev_sI, ev_sR, ev_KC, ev_k, ev_ko, ev_pop0, ev_pops, am_ld, am_sv, am_at, am_st, am_g, List.length_cons, List.length_nil, Nat.reduceAdd, Nat.reduceLT, Nat.zero_add, if_true, if_false, and_self, true_or, or_true, true_and, and_true, not_true_eq_false, not_false_eq_true, reduceCtorEq, eq_self, Option.toList_some, Option.toList_none, List.cons_append, List.nil_append, Bool.false_eq_true, l1, l4, e1, e7, t1, h1]
      refine am_CL_of q1 ?_
      simp only [am_R_eq, cx_90, en_90, rt_90, rx_aaload, rx_aload_n, rx_getfield, ev_gf, rx_goto, rx_iadd, rx_iconst, rx_icmp_ge, rx_iinc, ev_inc, rx_iload_n, rx_invv, ev_cv, rx_ireturn, rx_istore_n, kl_89, ev_K, ev_pI, ev_pR, ev_pVi, ev_pVr, ev_sI, ev_sR, ev_KC, ev_k, ev_ko, ev_pop0, ev_pops, am_ld, am_sv, am_at, am_st, am_g, List.length_cons, List.length_nil, Nat.reduceAdd, Nat.reduceLT, Nat.zero_add, if_true, if_false, and_self, true_or, or_true, true_and, and_true, not_true_eq_false, not_false_eq_true, reduceCtorEq, eq_self, Option.toList_some, Option.toList_none, List.cons_append, List.nil_append, Bool.false_eq_true, e8, nI_ofs]
      exact ih1
  have l0 := loop c 0 0 (by omega) (Nat.zero_le _)
  rw [am_R_eq, Nat.zero_add] at l0
  rw [am_M_eq]
  simp only [am_R_eq, cx_90, en_90, rt_90, rx_aaload, rx_aload_n, rx_getfield, ev_gf, rx_goto, rx_iadd, rx_iconst, rx_icmp_ge, rx_iinc, ev_inc, rx_iload_n, rx_invv, ev_cv, rx_ireturn, rx_istore_n, kl_89, ev_K, ev_pI, ev_pR, ev_pVi, ev_pVr, ev_sI, ev_sR, ev_KC, ev_k, ev_ko, ev_pop0, ev_pops, am_ld, am_sv, am_at, am_st, am_g, List.length_cons, List.length_nil, Nat.reduceAdd, Nat.reduceLT, Nat.zero_add, if_true, if_false, and_self, true_or, or_true, true_and, and_true, not_true_eq_false, not_false_eq_true, reduceCtorEq, eq_self, Option.toList_some, Option.toList_none, List.cons_append, List.nil_append, Bool.false_eq_true]
  exact l0
theorem le_pourInto (z d : Nat) {r a blr n : Nat} {T0 : List Nat} (hzl : z ≤ lv) (hz : z ≤ r) (hza : z ≤ a) (hl : vs_lv h lv ta m c cap bl tt rr aa C fl) (hr : vs_row h r a blr n T0) (hn : ∀ k, k < m → rr k ≠ r ∧ aa k ≠ a) (hL : ∀ k, k < c → ∀ x ∈ C k, h.1 x = some (vs_e E x)) (hT : ∀ x ∈ T0, h.1 x = some (vs_e E x)) (hroom : T0.length + (e_fl C 0 c).length ≤ n) :
    ∃ h', am_M z (d + 1 + 1 + 1) 23 [.ref lv, .ref r] h none h' ∧ vs_row h' r a blr n ((e_fl C 0 c).foldl (e_ik E) T0) ∧ h'.1 lv = some (vs_lo ta 0) ∧ vs_ch3 h h' lv r a := by
  have inner : ∀ k, k < c → ∀ q i T hh (w : Option Value), q = (C k).length - i → i ≤ (C k).length → vs_ch h hh r a → vs_row hh r a blr n T → T.length + ((C k).length - i) ≤ n → (∀ x ∈ T, h.1 x = some (vs_e E x)) → ∀ (ro : am_H → Prop), (∀ h2 w2, vs_ch h h2 r a → vs_row h2 r a blr n (((C k).drop i).foldl (e_ik E) T) → ∃ h', am_R z (d + 1 + 1) 23 48 [some (.ref lv), some (.ref r), some (.int (nI k)), some (.ref (rr k)), w2] [] h2 none h' ∧ ro h') →
      ∃ h', am_R z (d + 1 + 1) 23 23 [some (.ref lv), some (.ref r), some (.int (nI k)), some (.ref (rr k)), some (.int (nI i))] [] hh none h' ∧ ro h' := by
    intro k hk q
    induction q with
    | zero =>
      intro i T hh w hq hi hc hrT hTn hTe ro kk
      have hl2 := hl.fr hr hc hn
      obtain ⟨l1, l2, l3, ⟨G, l4, l5⟩, l6, l7, l8⟩ := hl2
      have r1 := l7 k (by omega)
      obtain ⟨g, h1, h2, h3, h4, h5, hne⟩ := r1.g
      have hil : i = (C k).length := by omega
      subst hil
      have e1 : nI (C k).length ≤ nI (C k).length := nI_le (Nat.le_refl _) (by omega)
      rw [List.drop_length, List.foldl_nil] at kk
      obtain ⟨h', k1, k2⟩ := kk hh (some (.int (nI (C k).length))) hc hrT
      rw [am_R_eq] at k1
      refine ⟨h', ?_, k2⟩
      rw [am_R_eq, cxh_23_23]
      simp only [am_R_eq, cx_23, en_23, rt_23, rx_aaload, rx_aload_n, rx_astore_n, rx_getfield, ev_gf, rx_goto, rx_iconst, rx_icmp_ge, rx_iinc, ev_inc, rx_iload, rx_iload_n, rx_invv, ev_cv, rx_istore, rx_istore_n, rx_putfield, ev_pf, ev_w1, ev_KW, am_fok, am_ftv, rx_return, kl_12, kl_24, kl_25, ev_K, ev_pI, ev_pR, ev_pVi, ev_pVr, ev_sI, ev_sR, ev_KC, ev_k, ev_ko, ev_pop0, ev_pops, am_ld, am_sv, am_at, am_st, am_g, List.length_cons, List.length_nil, Nat.reduceAdd, Nat.reduceLT, Nat.zero_add, if_true, if_false, and_self, true_or, or_true, true_and, and_true, not_true_eq_false, not_false_eq_true, reduceCtorEq, eq_self, Option.toList_some, Option.toList_none, List.cons_append, List.nil_append, Bool.false_eq_true, h1]
      refine am_CL_of (ro_size z (d + 1) r1) ?_
      simp only [am_R_eq, cx_23, en_23, rt_23, rx_aaload, rx_aload_n, rx_astore_n, rx_getfield, ev_gf, rx_goto, rx_iconst, rx_icmp_ge, rx_iinc, ev_inc, rx_iload, rx_iload_n, rx_invv, ev_cv, rx_istore, rx_istore_n, rx_putfield, ev_pf, ev_w1, ev_KW, am_fok, am_ftv, rx_return, kl_12, kl_24, kl_25, ev_K, ev_pI, ev_pR, ev_pVi, ev_pVr, ev_sI, ev_sR, ev_KC, ev_k, ev_ko, ev_pop0, ev_pops, am_ld, am_sv, am_at, am_st, am_g, List.length_cons, List.length_nil, Nat.reduceAdd, Nat.reduceLT, Nat.zero_add, if_true, if_false, and_self, true_or, or_true, true_and, and_true, not_true_eq_false, not_false_eq_true, reduceCtorEq, eq_self, Option.toList_some, Option.toList_none, List.cons_append, List.nil_append, Bool.false_eq_true, e1]
      revert k1
      simp only [am_R_eq, cx_23, en_23, rt_23, rx_aaload, rx_aload_n, rx_astore_n, rx_getfield, ev_gf, rx_goto, rx_iconst, rx_icmp_ge, rx_iinc, ev_inc, rx_iload, rx_iload_n, rx_invv, ev_cv, rx_istore, rx_istore_n, rx_putfield, ev_pf, ev_w1, ev_KW, am_fok, am_ftv, rx_return, kl_12, kl_24, kl_25, ev_K, ev_pI, ev_pR, ev_pVi, ev_pVr, ev_sI, ev_sR, ev_KC, ev_k, ev_ko, ev_pop0, ev_pops, am_ld, am_sv, am_at, am_st, am_g, List.length_cons, List.length_nil, Nat.reduceAdd, Nat.reduceLT, Nat.zero_add, if_true, if_false, and_self, true_or, or_true, true_and, and_true, not_true_eq_false, not_false_eq_true, reduceCtorEq, eq_self, Option.toList_some, Option.toList_none, List.cons_append, List.nil_append, Bool.false_eq_true]
      exact fun q => q
    | succ q ih =>
      intro i T hh w hq hi hc hrT hTn hTe ro kk
      have hl2 := hl.fr hr hc hn
      obtain ⟨l1, l2, l3, ⟨G, l4, l5⟩, l6, l7, l8⟩ := hl2
      have r1 := l7 k (by omega)
      obtain ⟨g, h1, h2, h3, h4, h5, hne⟩ := r1.g
      have hlt : i < (C k).length := by omega
      have e1 : ¬ nI (C k).length ≤ nI i := nI_ge hlt (by omega)
      obtain ⟨x, hx⟩ : ∃ x, (C k)[i]? = some x := ⟨(C k)[i]'(by omega), List.getElem?_eq_getElem (by omega)⟩
      have hd : (C k).drop i = x :: (C k).drop (i + 1) := by
        rw [List.drop_eq_getElem_cons hlt]
        congr 1
        exact (List.getElem?_eq_some_iff.mp hx).2
      have hex0 := hL k hk x (List.mem_of_getElem? hx)
      have hex := hc.obj hr hex0 (by decide)
      obtain ⟨h1', m1, m2, m3⟩ := ro_insertByKey z d hz hza hrT hex (fun y hy => hc.obj hr (hTe y hy) (by decide)) (by omega)
      rw [hd, List.foldl_cons] at kk
      obtain ⟨h', i1, i2⟩ := ih (i + 1) (e_ik E T x) h1' w (by omega) (by omega) (hc.tr m3) m2 (by rw [e_ik, e_ins_len]; omega) (by
        intro y hy
        rcases (e_ins_mem _ _ _ _).mp hy with q | q
        · rw [q]; exact hex0
        · exact hTe y q) ro kk
      rw [am_R_eq] at i1
      refine ⟨h', ?_, i2⟩
      obtain ⟨gt, t1, t2, t3, t4, t5, tne⟩ := hrT.g
      rw [am_R_eq, cxh_23_23]
      simp only [am_R_eq, cx_23, en_23, rt_23, rx_aaload, rx_aload_n, rx_astore_n, rx_getfield, ev_gf, rx_goto, rx_iconst, rx_icmp_ge, rx_iinc, ev_inc, rx_iload, rx_iload_n, rx_invv, ev_cv, rx_istore, rx_istore_n, rx_putfield, ev_pf, ev_w1, ev_KW, am_fok, am_ftv, rx_return, kl_12, kl_24, kl_25, ev_K, ev_pI, ev_pR, ev_pVi, ev_pVr, ev_sI, ev_sR, ev_KC, ev_k, ev_ko, ev_pop0, ev_pops, am_ld, am_sv, am_at, am_st, am_g, List.length_cons, List.length_nil, Nat.reduceAdd, Nat.reduceLT, Nat.zero_add, if_true, if_false, and_self, true_or, or_true, true_and, and_true, not_true_eq_false, not_false_eq_true, reduceCtorEq, eq_self, Option.toList_some, Option.toList_none, List.cons_append, List.nil_append, Bool.false_eq_true, h1]
      refine am_CL_of (ro_size z (d + 1) r1) ?_
      simp only [am_R_eq, cx_23, en_23, rt_23, rx_aaload, rx_aload_n, rx_astore_n, rx_getfield, ev_gf, rx_goto, rx_iconst, rx_icmp_ge, rx_iinc, ev_inc, rx_iload, rx_iload_n, rx_invv, ev_cv, rx_istore, rx_istore_n, rx_putfield, ev_pf, ev_w1, ev_KW, am_fok, am_ftv, rx_return, kl_12, kl_24, kl_25, ev_K, ev_pI, ev_pR, ev_pVi, ev_pVr, ev_sI, ev_sR, ev_KC, ev_k, ev_ko, ev_pop0, ev_pops, am_ld, am_sv, am_at, am_st, am_g, List.length_cons, List.length_nil, Nat.reduceAdd, Nat.reduceLT, Nat.zero_add, if_true, if_false, and_self, true_or, or_true, true_and, and_true, not_true_eq_false, not_false_eq_true, reduceCtorEq, eq_self, Option.toList_some, Option.toList_none, List.cons_append, List.nil_append, Bool.false_eq_true, e1, h1]
      refine am_CL_of (ro_at z (d + 1) r1 hx) ?_
      simp only [am_R_eq, cx_23, en_23, rt_23, rx_aaload, rx_aload_n, rx_astore_n, rx_getfield, ev_gf, rx_goto, rx_iconst, rx_icmp_ge, rx_iinc, ev_inc, rx_iload, rx_iload_n, rx_invv, ev_cv, rx_istore, rx_istore_n, rx_putfield, ev_pf, ev_w1, ev_KW, am_fok, am_ftv, rx_return, kl_12, kl_24, kl_25, ev_K, ev_pI, ev_pR, ev_pVi, ev_pVr, ev_sI, ev_sR, ev_KC, ev_k, ev_ko, ev_pop0, ev_pops, am_ld, am_sv, am_at, am_st, am_g, List.length_cons, List.length_nil, Nat.reduceAdd, Nat.reduceLT, Nat.zero_add, if_true, if_false, and_self, true_or, or_true, true_and, and_true, not_true_eq_false, not_false_eq_true, reduceCtorEq, eq_self, Option.toList_some, Option.toList_none, List.cons_append, List.nil_append, Bool.false_eq_true, t1]
      refine am_CL_of m1 ?_
      simp only [am_R_eq, cx_23, en_23, rt_23, rx_aaload, rx_aload_n, rx_astore_n, rx_getfield, ev_gf, rx_goto, rx_iconst, rx_icmp_ge, rx_iinc, ev_inc, rx_iload, rx_iload_n, rx_invv, ev_cv, rx_istore, rx_istore_n, rx_putfield, ev_pf, ev_w1, ev_KW, am_fok, am_ftv, rx_return, kl_12, kl_24, kl_25, ev_K, ev_pI, ev_pR, ev_pVi, ev_pVr, ev_sI, ev_sR, ev_KC, ev_k, ev_ko, ev_pop0, ev_pops, am_ld, am_sv, am_at, am_st, am_g, List.length_cons, List.length_nil, Nat.reduceAdd, Nat.reduceLT, Nat.zero_add, if_true, if_false, and_self, true_or, or_true, true_and, and_true, not_true_eq_false, not_false_eq_true, reduceCtorEq, eq_self, Option.toList_some, Option.toList_none, List.cons_append, List.nil_append, Bool.false_eq_true, nI_ofs]
      exact i1
  have outer : ∀ q k T hh (w1 w2 : Option Value), q = c - k → k ≤ c → vs_ch h hh r a → vs_row hh r a blr n T → T.length + (e_fl C k q).length ≤ n → (∀ x ∈ T, h.1 x = some (vs_e E x)) →
      ∃ h', am_R z (d + 1 + 1) 23 2 [some (.ref lv), some (.ref r), some (.int (nI k)), w1, w2] [] hh none h' ∧ vs_row h' r a blr n ((e_fl C k q).foldl (e_ik E) T) ∧ h'.1 lv = some (vs_lo ta 0) ∧ vs_ch3 h h' lv r a := by
    intro q
    induction q with
    | zero =>
      intro k T hh w1 w2 hq hk hc hrT hTn hTe
      have hl2 := hl.fr hr hc hn
      obtain ⟨l1, l2, l3, ⟨G, l4, l5⟩, l6, l7, l8⟩ := hl2
      have hkc : k = c := by omega
      subst hkc
      have e1 : nI k ≤ nI k := nI_le (Nat.le_refl _) (by omega)
      refine ⟨am_up hh lv (vs_lo ta 0), ?_, hrT.up _ l1 (by decide), am_up_at _ _ _, (vs_ch.to3 hc).tr (vs_ch3.up ..)⟩
      rw [am_R_eq, cxh_23_2]
      simp only [am_R_eq, cx_23, en_23, rt_23, rx_aaload, rx_aload_n, rx_astore_n, rx_getfield, ev_gf, rx_goto, rx_iconst, rx_icmp_ge, rx_iinc, ev_inc, rx_iload, rx_iload_n, rx_invv, ev_cv, rx_istore, rx_istore_n, rx_putfield, ev_pf, ev_w1, ev_KW, am_fok, am_ftv, rx_return, kl_12, kl_24, kl_25, ev_K, ev_pI, ev_pR, ev_pVi, ev_pVr, ev_sI, ev_sR, ev_KC, ev_k, ev_ko, ev_pop0, ev_pops, am_ld, am_sv, am_at, am_st, am_g, List.length_cons, List.length_nil, Nat.reduceAdd, Nat.reduceLT, Nat.zero_add, if_true, if_false, and_self, true_or, or_true, true_and, and_true, not_true_eq_false, not_false_eq_true, reduceCtorEq, eq_self, Option.toList_some, Option.toList_none, List.cons_append, List.nil_append, Bool.false_eq_true, l1, e1, hzl, Nat.reduceLeDiff, beq_self_eq_true]
      rfl
    | succ q ih =>
      intro k T hh w1 w2 hq hk hc hrT hTn hTe
      have hl2 := hl.fr hr hc hn
      obtain ⟨l1, l2, l3, ⟨G, l4, l5⟩, l6, l7, l8⟩ := hl2
      have e1 : ¬ nI c ≤ nI k := nI_ge (by omega) (by omega)
      have e5 : am_ix (nI k) m = some k := ev_ix (by omega) (by omega)
      have e7 := ev_rq 3 m k (tt k) G (nI k) (by omega) e5 (l5 k (by omega))
      have t1 := l6 k (by omega)
      have hfl : e_fl C k (q + 1) = C k ++ e_fl C (k + 1) q := rfl
      rw [hfl, List.length_append] at hTn
      rw [hfl, List.foldl_append]
      obtain ⟨h', i1, i2⟩ := inner k (by omega) (C k).length 0 T hh none (by omega) (Nat.zero_le _) hc hrT (by omega) hTe (fun h' => vs_row h' r a blr n ((e_fl C (k + 1) q).foldl (e_ik E) ((C k).foldl (e_ik E) T)) ∧ h'.1 lv = some (vs_lo ta 0) ∧ vs_ch3 h h' lv r a) (by
        intro h2 w3 hc2 hr2
        rw [List.drop_zero] at hr2
        obtain ⟨h', j1, j2⟩ := ih (k + 1) _ h2 (some (.ref (rr k))) w3 (by omega) (by omega) hc2 hr2 (by rw [e_ik_len]; omega) (by
          intro x hx
          rcases (e_ik_mem E x _ _).mp hx with q | q
          · exact hL k (by omega) x q
          · exact hTe x q)
        rw [am_R_eq] at j1
        refine ⟨h', ?_, j2⟩
        simp only [am_R_eq, cx_23, en_23, rt_23, rx_aaload, rx_aload_n, rx_astore_n, rx_getfield, ev_gf, rx_goto, rx_iconst, rx_icmp_ge, rx_iinc, ev_inc, rx_iload, rx_iload_n, rx_invv, ev_cv, rx_istore, rx_istore_n, rx_putfield, ev_pf, ev_w1, ev_KW, am_fok, am_ftv, rx_return, kl_12, kl_24, kl_25, ev_K, ev_pI, ev_pR, ev_pVi, ev_pVr, ev_sI, ev_sR, ev_KC, ev_k, ev_ko, ev_pop0, ev_pops, am_ld, am_sv, am_at, am_st, am_g, List.length_cons, List.length_nil, Nat.reduceAdd, Nat.reduceLT, Nat.zero_add, if_true, if_false, and_self, true_or, or_true, true_and, and_true, not_true_eq_false, not_false_eq_true, reduceCtorEq, eq_self, Option.toList_some, Option.toList_none, List.cons_append, List.nil_append, Bool.false_eq_true, nI_ofs]
        exact j1)
      rw [am_R_eq] at i1
      refine ⟨h', ?_, i2⟩
      rw [am_R_eq, cxh_23_2]
      simp only [am_R_eq, cx_23, en_23, rt_23, rx_aaload, rx_aload_n, rx_astore_n, rx_getfield, ev_gf, rx_goto, rx_iconst, rx_icmp_ge, rx_iinc, ev_inc, rx_iload, rx_iload_n, rx_invv, ev_cv, rx_istore, rx_istore_n, rx_putfield, ev_pf, ev_w1, ev_KW, am_fok, am_ftv, rx_return, kl_12, kl_24, kl_25, ev_K, ev_pI, ev_pR, ev_pVi, ev_pVr, ev_sI, ev_sR, ev_KC, ev_k, ev_ko, ev_pop0, ev_pops, am_ld, am_sv, am_at, am_st, am_g, List.length_cons, List.length_nil, Nat.reduceAdd, Nat.reduceLT, Nat.zero_add, if_true, if_false, and_self, true_or, or_true, true_and, and_true, not_true_eq_false, not_false_eq_true, reduceCtorEq, eq_self, Option.toList_some, Option.toList_none, List.cons_append, List.nil_append, Bool.false_eq_true, l1, l4, e1, e7, t1]
      exact i1
  obtain ⟨h', l0, l1⟩ := outer c 0 T0 h none none (by omega) (Nat.zero_le _) (vs_ch.rf ..) hr hroom hT
  rw [am_R_eq] at l0
  refine ⟨h', ?_, l1⟩
  rw [am_M_eq]
  simp only [am_R_eq, cx_23, en_23, rt_23, rx_aaload, rx_aload_n, rx_astore_n, rx_getfield, ev_gf, rx_goto, rx_iconst, rx_icmp_ge, rx_iinc, ev_inc, rx_iload, rx_iload_n, rx_invv, ev_cv, rx_istore, rx_istore_n, rx_putfield, ev_pf, ev_w1, ev_KW, am_fok, am_ftv, rx_return, kl_12, kl_24, kl_25, ev_K, ev_pI, ev_pR, ev_pVi, ev_pVr, ev_sI, ev_sR, ev_KC, ev_k, ev_ko, ev_pop0, ev_pops, am_ld, am_sv, am_at, am_st, am_g, List.length_cons, List.length_nil, Nat.reduceAdd, Nat.reduceLT, Nat.zero_add, if_true, if_false, and_self, true_or, or_true, true_and, and_true, not_true_eq_false, not_false_eq_true, reduceCtorEq, eq_self, Option.toList_some, Option.toList_none, List.cons_append, List.nil_append, Bool.false_eq_true]
  exact l0
end LEV
