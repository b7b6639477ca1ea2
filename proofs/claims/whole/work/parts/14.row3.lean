section ROW3
variable {h : am_H} {r a bl n : Nat} {L : List Nat} {E : Nat → Nat → Int32}
def e_pl (f : Nat → Bool) (L : List Nat) : Nat → Nat
  | 0 => 0
  | k + 1 => if f (L.getD k 0) = true then e_pl f L k else k + 1
theorem e_pl_s (f : Nat → Bool) (L : List Nat) (k : Nat) : e_pl f L (k + 1) = if f (L.getD k 0) = true then e_pl f L k else k + 1 := rfl
theorem e_pl_le (f : Nat → Bool) (L : List Nat) : ∀ k, e_pl f L k ≤ k
  | 0 => Nat.le_refl _
  | k + 1 => by
    unfold e_pl
    split
    · exact Nat.le_succ_of_le (e_pl_le f L k)
    · exact Nat.le_refl _
def e_ins (f : Nat → Bool) (e : Nat) (L : List Nat) : List Nat := L.take (e_pl f L L.length) ++ e :: L.drop (e_pl f L L.length)
theorem e_ins_len (f : Nat → Bool) (e : Nat) (L : List Nat) : (e_ins f e L).length = L.length + 1 := by
  unfold e_ins
  have := e_pl_le f L L.length
  rw [List.length_append, List.length_take, List.length_cons, List.length_drop]
  omega
theorem e_ins_mem (f : Nat → Bool) (e x : Nat) (L : List Nat) : x ∈ e_ins f e L ↔ x = e ∨ x ∈ L := by
  unfold e_ins
  rw [List.mem_append, List.mem_cons]
  constructor
  · rintro (q | q | q)
    · exact Or.inr (List.mem_of_mem_take q)
    · exact Or.inl q
    · exact Or.inr (List.mem_of_mem_drop q)
  · rintro (q | q)
    · exact Or.inr (Or.inl q)
    · rw [← List.take_append_drop (e_pl f L L.length) L, List.mem_append] at q
      rcases q with q | q
      · exact Or.inl q
      · exact Or.inr (Or.inr q)
theorem ko_of {x : Nat} (hx : h.1 x = some (vs_e E x)) : am_ko (h.1 x) = some 1 := by rw [hx]; rfl
theorem ro_insertByKey (z d : Nat) {e : Nat} (hz : z ≤ r) (hza : z ≤ a) (hr : vs_row h r a bl n L) (he : h.1 e = some (vs_e E e)) (hL : ∀ x ∈ L, h.1 x = some (vs_e E x)) (hn : L.length < n) : ∃ h', am_M z (d + 1 + 1) 25 [.ref r, .ref e] h none h' ∧ vs_row h' r a bl n (e_ins (e_bf E e) e L) ∧ vs_ch h h' r a := by
  obtain ⟨g, h1, h2, h3, h4, h5, hne⟩ := hr.g
  have hp := e_pl_le (e_bf E e) L L.length
  obtain ⟨h', hm, hr', hc'⟩ := ro_insertAt z d hz hza hr (ko_of he) (fun x hx => ko_of (hL x hx)) hn hp
  refine ⟨h', ?_, hr', hc'⟩
  have loop : ∀ k, k ≤ L.length → e_pl (e_bf E e) L k = e_pl (e_bf E e) L L.length → am_R z (d + 1) 25 5 [some (.ref r), some (.ref e), some (.int (nI k))] [] h none h' := by
    intro k
    induction k with
    | zero =>
      intro _ hk
      have e1 : nI 0 ≤ 0 := by decide
      rw [← hk] at hm
      rw [am_R_eq, cxh_25_5]
      simp only [am_R_eq, cx_25, en_25, rt_25, rx_aaload, rx_aload_n, rx_getfield, ev_gf, rx_goto, rx_iconst, rx_if_eq, rx_if_le, rx_iinc, ev_inc, rx_iload_n, rx_invv, ev_cv, rx_istore_n, rx_isub, rx_return, kl_26, kl_27, ev_K, ev_pI, ev_pR, ev_pVi, ev_pVr, ev_sI, ev_sR, ev_KC, ev_k, ev_ko, ev_pop0, ev_pops, am_ld, am_sv, am_at, am_st, am_g, List.length_cons, List.length_nil, Nat.reduceAdd, Nat.reduceLT, Nat.zero_add, if_true, if_false, and_self, true_or, or_true, true_and, and_true, not_true_eq_false, not_false_eq_true, reduceCtorEq, eq_self, Option.toList_some, Option.toList_none, List.cons_append, List.nil_append, Bool.false_eq_true, h1, e1]
      refine am_CL_of hm ?_
      simp only [am_R_eq, cx_25, en_25, rt_25, rx_aaload, rx_aload_n, rx_getfield, ev_gf, rx_goto, rx_iconst, rx_if_eq, rx_if_le, rx_iinc, ev_inc, rx_iload_n, rx_invv, ev_cv, rx_istore_n, rx_isub, rx_return, kl_26, kl_27, ev_K, ev_pI, ev_pR, ev_pVi, ev_pVr, ev_sI, ev_sR, ev_KC, ev_k, ev_ko, ev_pop0, ev_pops, am_ld, am_sv, am_at, am_st, am_g, List.length_cons, List.length_nil, Nat.reduceAdd, Nat.reduceLT, Nat.zero_add, if_true, if_false, and_self, true_or, or_true, true_and, and_true, not_true_eq_false, not_false_eq_true, reduceCtorEq, eq_self, Option.toList_some, Option.toList_none, List.cons_append, List.nil_append, Bool.false_eq_true]
    | succ k ih =>
      intro hkl hk
      have e1 : ¬ nI (k + 1) ≤ 0 := nI_nle (by omega) (by omega)
      have e5 : am_ix (nI k) n = some k := ev_ix (by omega) (by omega)
      have e6 : nI (k + 1) - 1 = nI k := nI_pred k
      have e8 : nI (k + 1) + -1 = nI k := pk_m1 k
      obtain ⟨x, hx⟩ : ∃ x, L[k]? = some x := ⟨L[k]'(by omega), List.getElem?_eq_getElem (by omega)⟩
      have hxd : L.getD k 0 = x := by rw [List.getD_eq_getElem?_getD, hx]; rfl
      have e7 := ev_rq 2 n k x g (nI k) (by omega) e5 (by rw [h3 k (by omega)]; exact hx)
      have hex := hL x (List.mem_of_getElem? hx)
      rw [am_R_eq, cxh_25_5]
      simp only [am_R_eq, cx_25, en_25, rt_25, rx_aaload, rx_aload_n, rx_getfield, ev_gf, rx_goto, rx_iconst, rx_if_eq, rx_if_le, rx_iinc, ev_inc, rx_iload_n, rx_invv, ev_cv, rx_istore_n, rx_isub, rx_return, kl_26, kl_27, ev_K, ev_pI, ev_pR, ev_pVi, ev_pVr, ev_sI, ev_sR, ev_KC, ev_k, ev_ko, ev_pop0, ev_pops, am_ld, am_sv, am_at, am_st, am_g, List.length_cons, List.length_nil, Nat.reduceAdd, Nat.reduceLT, Nat.zero_add, if_true, if_false, and_self, true_or, or_true, true_and, and_true, not_true_eq_false, not_false_eq_true, reduceCtorEq, eq_self, Option.toList_some, Option.toList_none, List.cons_append, List.nil_append, Bool.false_eq_true, h1, h2, e1, e6, e7, he]
      refine am_CL_of (en_comesBefore z d he hex) ?_
      rw [e_pl_s, hxd] at hk
      cases hb : e_bf E e x with
      | true =>
        rw [hb, if_pos rfl] at hk
        have ih2 := ih (by omega) hk
        rw [am_R_eq] at ih2
        simp only [am_R_eq, cx_25, en_25, rt_25, rx_aaload, rx_aload_n, rx_getfield, ev_gf, rx_goto, rx_iconst, rx_if_eq, rx_if_le, rx_iinc, ev_inc, rx_iload_n, rx_invv, ev_cv, rx_istore_n, rx_isub, rx_return, kl_26, kl_27, ev_K, ev_pI, ev_pR, ev_pVi, ev_pVr, ev_sI, ev_sR, ev_KC, ev_k, ev_ko, ev_pop0, ev_pops, am_ld, am_sv, am_at, am_st, am_g, List.length_cons, List.length_nil, Nat.reduceAdd, Nat.reduceLT, Nat.zero_add, if_true, if_false, and_self, true_or, or_true, true_and, and_true, not_true_eq_false, not_false_eq_true, reduceCtorEq, eq_self, Option.toList_some, Option.toList_none, List.cons_append, List.nil_append, Bool.false_eq_true, hb, i_10, e8]
        exact ih2
      | false =>
        rw [hb, if_neg (by decide)] at hk
        rw [← hk] at hm
        simp only [am_R_eq, cx_25, en_25, rt_25, rx_aaload, rx_aload_n, rx_getfield, ev_gf, rx_goto, rx_iconst, rx_if_eq, rx_if_le, rx_iinc, ev_inc, rx_iload_n, rx_invv, ev_cv, rx_istore_n, rx_isub, rx_return, kl_26, kl_27, ev_K, ev_pI, ev_pR, ev_pVi, ev_pVr, ev_sI, ev_sR, ev_KC, ev_k, ev_ko, ev_pop0, ev_pops, am_ld, am_sv, am_at, am_st, am_g, List.length_cons, List.length_nil, Nat.reduceAdd, Nat.reduceLT, Nat.zero_add, if_true, if_false, and_self, true_or, or_true, true_and, and_true, not_true_eq_false, not_false_eq_true, reduceCtorEq, eq_self, Option.toList_some, Option.toList_none, List.cons_append, List.nil_append, Bool.false_eq_true, hb, h1]
        refine am_CL_of hm ?_
        simp only [am_R_eq, cx_25, en_25, rt_25, rx_aaload, rx_aload_n, rx_getfield, ev_gf, rx_goto, rx_iconst, rx_if_eq, rx_if_le, rx_iinc, ev_inc, rx_iload_n, rx_invv, ev_cv, rx_istore_n, rx_isub, rx_return, kl_26, kl_27, ev_K, ev_pI, ev_pR, ev_pVi, ev_pVr, ev_sI, ev_sR, ev_KC, ev_k, ev_ko, ev_pop0, ev_pops, am_ld, am_sv, am_at, am_st, am_g, List.length_cons, List.length_nil, Nat.reduceAdd, Nat.reduceLT, Nat.zero_add, if_true, if_false, and_self, true_or, or_true, true_and, and_true, not_true_eq_false, not_false_eq_true, reduceCtorEq, eq_self, Option.toList_some, Option.toList_none, List.cons_append, List.nil_append, Bool.false_eq_true]
  have l0 := loop L.length (Nat.le_refl _) rfl
  rw [am_R_eq] at l0
  rw [am_M_eq]
  simp only [am_R_eq, cx_25, en_25, rt_25, rx_aaload, rx_aload_n, rx_getfield, ev_gf, rx_goto, rx_iconst, rx_if_eq, rx_if_le, rx_iinc, ev_inc, rx_iload_n, rx_invv, ev_cv, rx_istore_n, rx_isub, rx_return, kl_26, kl_27, ev_K, ev_pI, ev_pR, ev_pVi, ev_pVr, ev_sI, ev_sR, ev_KC, ev_k, ev_ko, ev_pop0, ev_pops, am_ld, am_sv, am_at, am_st, am_g, List.length_cons, List.length_nil, Nat.reduceAdd, Nat.reduceLT, Nat.zero_add, if_true, if_false, and_self, true_or, or_true, true_and, and_true, not_true_eq_false, not_false_eq_true, reduceCtorEq, eq_self, Option.toList_some, Option.toList_none, List.cons_append, List.nil_append, Bool.false_eq_true, h1]
  exact l0
def e_cb (E : Nat → Nat → Int32) (e x : Nat) : Bool := !decide (E x 7 ≤ E e 7)
theorem ro_insertByCell (z d : Nat) {e : Nat} (hz : z ≤ r) (hza : z ≤ a) (hr : vs_row h r a bl n L) (he : h.1 e = some (vs_e E e)) (hL : ∀ x ∈ L, h.1 x = some (vs_e E x)) (hn : L.length < n) : ∃ h', am_M z (d + 1 + 1) 52 [.ref r, .ref e] h none h' ∧ vs_row h' r a bl n (e_ins (e_cb E e) e L) ∧ vs_ch h h' r a := by
  obtain ⟨g, h1, h2, h3, h4, h5, hne⟩ := hr.g
  have hp := e_pl_le (e_cb E e) L L.length
  obtain ⟨h', hm, hr', hc'⟩ := ro_insertAt z d hz hza hr (ko_of he) (fun x hx => ko_of (hL x hx)) hn hp
  refine ⟨h', ?_, hr', hc'⟩
  have loop : ∀ k, k ≤ L.length → e_pl (e_cb E e) L k = e_pl (e_cb E e) L L.length → am_R z (d + 1) 52 5 [some (.ref r), some (.ref e), some (.int (nI k))] [] h none h' := by
    intro k
    induction k with
    | zero =>
      intro _ hk
      have e1 : nI 0 ≤ 0 := by decide
      rw [← hk] at hm
      rw [am_R_eq, cxh_52_5]
      simp only [am_R_eq, cx_52, en_52, rt_52, rx_aaload, rx_aload_n, rx_getfield, ev_gf, rx_goto, rx_iconst, rx_icmp_ge, rx_if_le, rx_iinc, ev_inc, rx_iload_n, rx_invv, ev_cv, rx_istore_n, rx_isub, rx_return, kl_27, ev_K, ev_pI, ev_pR, ev_pVi, ev_pVr, ev_sI, ev_sR, ev_KC, ev_k, ev_ko, ev_pop0, ev_pops, am_ld, am_sv, am_at, am_st, am_g, List.length_cons, List.length_nil, Nat.reduceAdd, Nat.reduceLT, Nat.zero_add, if_true, if_false, and_self, true_or, or_true, true_and, and_true, not_true_eq_false, not_false_eq_true, reduceCtorEq, eq_self, Option.toList_some, Option.toList_none, List.cons_append, List.nil_append, Bool.false_eq_true, h1, e1]
      refine am_CL_of hm ?_
      simp only [am_R_eq, cx_52, en_52, rt_52, rx_aaload, rx_aload_n, rx_getfield, ev_gf, rx_goto, rx_iconst, rx_icmp_ge, rx_if_le, rx_iinc, ev_inc, rx_iload_n, rx_invv, ev_cv, rx_istore_n, rx_isub, rx_return, kl_27, ev_K, ev_pI, ev_pR, ev_pVi, ev_pVr, ev_sI, ev_sR, ev_KC, ev_k, ev_ko, ev_pop0, ev_pops, am_ld, am_sv, am_at, am_st, am_g, List.length_cons, List.length_nil, Nat.reduceAdd, Nat.reduceLT, Nat.zero_add, if_true, if_false, and_self, true_or, or_true, true_and, and_true, not_true_eq_false, not_false_eq_true, reduceCtorEq, eq_self, Option.toList_some, Option.toList_none, List.cons_append, List.nil_append, Bool.false_eq_true]
    | succ k ih =>
      intro hkl hk
      have e1 : ¬ nI (k + 1) ≤ 0 := nI_nle (by omega) (by omega)
      have e5 : am_ix (nI k) n = some k := ev_ix (by omega) (by omega)
      have e6 : nI (k + 1) - 1 = nI k := nI_pred k
      have e8 : nI (k + 1) + -1 = nI k := pk_m1 k
      obtain ⟨x, hx⟩ : ∃ x, L[k]? = some x := ⟨L[k]'(by omega), List.getElem?_eq_getElem (by omega)⟩
      have hxd : L.getD k 0 = x := by rw [List.getD_eq_getElem?_getD, hx]; rfl
      have e7 := ev_rq 2 n k x g (nI k) (by omega) e5 (by rw [h3 k (by omega)]; exact hx)
      have hex := hL x (List.mem_of_getElem? hx)
      rw [e_pl_s, hxd] at hk
      by_cases hb : E x 7 ≤ E e 7
      · rw [if_neg (by simp [e_cb, hb])] at hk
        rw [← hk] at hm
        rw [am_R_eq, cxh_52_5]
        simp only [am_R_eq, cx_52, en_52, rt_52, rx_aaload, rx_aload_n, rx_getfield, ev_gf, rx_goto, rx_iconst, rx_icmp_ge, rx_if_le, rx_iinc, ev_inc, rx_iload_n, rx_invv, ev_cv, rx_istore_n, rx_isub, rx_return, kl_27, ev_K, ev_pI, ev_pR, ev_pVi, ev_pVr, ev_sI, ev_sR, ev_KC, ev_k, ev_ko, ev_pop0, ev_pops, am_ld, am_sv, am_at, am_st, am_g, List.length_cons, List.length_nil, Nat.reduceAdd, Nat.reduceLT, Nat.zero_add, if_true, if_false, and_self, true_or, or_true, true_and, and_true, not_true_eq_false, not_false_eq_true, reduceCtorEq, eq_self, Option.toList_some, Option.toList_none, List.cons_append, List.nil_append, Bool.false_eq_true, h1, h2, e1, e6, e7, he, hex, hb]
        refine am_CL_of hm ?_
        simp only [am_R_eq, cx_52, en_52, rt_52, rx_aaload, rx_aload_n, rx_getfield, ev_gf, rx_goto, rx_iconst, rx_icmp_ge, rx_if_le, rx_iinc, ev_inc, rx_iload_n, rx_invv, ev_cv, rx_istore_n, rx_isub, rx_return, kl_27, ev_K, ev_pI, ev_pR, ev_pVi, ev_pVr, ev_sI, ev_sR, ev_KC, ev_k, ev_ko, ev_pop0, ev_pops, am_ld, am_sv, am_at, am_st, am_g, List.length_cons, List.length_nil, Nat.reduceAdd, Nat.reduceLT, Nat.zero_add, if_true, if_false, and_self, true_or, or_true, true_and, and_true, not_true_eq_false, not_false_eq_true, reduceCtorEq, eq_self, Option.toList_some, Option.toList_none, List.cons_append, List.nil_append, Bool.false_eq_true]
      · rw [if_pos (by simp [e_cb, hb])] at hk
        have ih2 := ih (by omega) hk
        rw [am_R_eq] at ih2
        rw [am_R_eq, cxh_52_5]
        simp only [am_R_eq, cx_52, en_52, rt_52, rx_aaload, rx_aload_n, rx_getfield, ev_gf, rx_goto, rx_iconst, rx_icmp_ge, rx_if_le, rx_iinc, ev_inc, rx_iload_n, rx_invv, ev_cv, rx_istore_n, rx_isub, rx_return, kl_27, ev_K, ev_pI, ev_pR, ev_pVi, ev_pVr, ev_sI, ev_sR, ev_KC, ev_k, ev_ko, ev_pop0, ev_pops, am_ld, am_sv, am_at, am_st, am_g, List.length_cons, List.length_nil, Nat.reduceAdd, Nat.reduceLT, Nat.zero_add, if_true, if_false, and_self, true_or, or_true, true_and, and_true, not_true_eq_false, not_false_eq_true, reduceCtorEq, eq_self, Option.toList_some, Option.toList_none, List.cons_append, List.nil_append, Bool.false_eq_true, h1, h2, e1, e6, e7, e8, he, hex, hb]
        exact ih2
  have l0 := loop L.length (Nat.le_refl _) rfl
  rw [am_R_eq] at l0
  rw [am_M_eq]
  simp only [am_R_eq, cx_52, en_52, rt_52, rx_aaload, rx_aload_n, rx_getfield, ev_gf, rx_goto, rx_iconst, rx_icmp_ge, rx_if_le, rx_iinc, ev_inc, rx_iload_n, rx_invv, ev_cv, rx_istore_n, rx_isub, rx_return, kl_27, ev_K, ev_pI, ev_pR, ev_pVi, ev_pVr, ev_sI, ev_sR, ev_KC, ev_k, ev_ko, ev_pop0, ev_pops, am_ld, am_sv, am_at, am_st, am_g, List.length_cons, List.length_nil, Nat.reduceAdd, Nat.reduceLT, Nat.zero_add, if_true, if_false, and_self, true_or, or_true, true_and, and_true, not_true_eq_false, not_false_eq_true, reduceCtorEq, eq_self, Option.toList_some, Option.toList_none, List.cons_append, List.nil_append, Bool.false_eq_true, h1]
  exact l0
def e_ns (E : Nat → Nat → Int32) (key sight : Int32) (nw e : Nat) : Nat := if E e 0 = key ∧ ¬ sight < E e 4 ∧ ¬ E e 4 ≤ E nw 4 then e else nw
theorem ro_newestSeen (z d : Nat) {key sight : Int32} (hr : vs_row h r a bl n L) (hbl : h.1 bl = some (vs_e E bl)) (hL : ∀ x ∈ L, h.1 x = some (vs_e E x)) : am_M z (d + 1) 73 [.ref r, .int key, .int sight] h (some (.ref (L.foldl (e_ns E key sight) bl))) h := by
  obtain ⟨g, h1, h2, h3, h4, h5, hne⟩ := hr.g
  have loop : ∀ m k nw, m = L.length - k → k ≤ L.length → h.1 nw = some (vs_e E nw) → ∀ w, am_R z d 73 8 [some (.ref r), some (.int key), some (.int sight), some (.ref nw), some (.int (nI k)), w] [] h (some (.ref ((L.drop k).foldl (e_ns E key sight) nw))) h := by
    intro m
    induction m with
    | zero =>
      intro k nw hm hk hnw w
      have hkl : k = L.length := by omega
      subst hkl
      have e1 : nI L.length ≤ nI L.length := nI_le (Nat.le_refl _) (by omega)
      rw [am_R_eq, cxh_73_8]
      simp only [am_R_eq, cx_73, en_73, rt_73, rx_aaload, rx_aload, rx_aload_n, rx_areturn, rx_astore, rx_astore_n, rx_getfield, ev_gf, rx_goto, rx_iconst, rx_icmp_ge, rx_icmp_gt, rx_icmp_le, rx_icmp_ne, rx_iinc, ev_inc, rx_iload, rx_iload_n, rx_istore, ev_K, ev_pI, ev_pR, ev_pVi, ev_pVr, ev_sI, ev_sR, ev_KC, ev_k, ev_ko, ev_pop0, ev_pops, am_ld, am_sv, am_at, am_st, am_g, List.length_cons, List.length_nil, Nat.reduceAdd, Nat.reduceLT, Nat.zero_add, if_true, if_false, and_self, true_or, or_true, true_and, and_true, not_true_eq_false, not_false_eq_true, reduceCtorEq, eq_self, Option.toList_some, Option.toList_none, List.cons_append, List.nil_append, Bool.false_eq_true, h1, e1, List.drop_length, List.foldl_nil]
    | succ m ih =>
      intro k nw hm hk hnw w
      have hlt : k < L.length := by omega
      have e1 : ¬ nI L.length ≤ nI k := nI_ge hlt (by omega)
      have e5 : am_ix (nI k) n = some k := ev_ix (by omega) (by omega)
      obtain ⟨x, hx⟩ : ∃ x, L[k]? = some x := ⟨L[k]'(by omega), List.getElem?_eq_getElem (by omega)⟩
      have hd : L.drop k = x :: L.drop (k + 1) := by
        rw [List.drop_eq_getElem_cons hlt]
        congr 1
        exact (List.getElem?_eq_some_iff.mp hx).2
      have e7 := ev_rq 2 n k x g (nI k) (by omega) e5 (by rw [h3 k (by omega)]; exact hx)
      have hex := hL x (List.mem_of_getElem? hx)
      have ih1 := ih (k + 1) nw (by omega) (by omega) hnw (some (.ref x))
      have ih2 := ih (k + 1) x (by omega) (by omega) hex (some (.ref x))
      rw [am_R_eq] at ih1 ih2
      rw [hd, List.foldl_cons]
      rw [am_R_eq, cxh_73_8]
      simp only [am_R_eq, cx_73, en_73, rt_73, rx_aaload, rx_aload, rx_aload_n, rx_areturn, rx_astore, rx_astore_n, rx_getfield, ev_gf, rx_goto, rx_iconst, rx_icmp_ge, rx_icmp_gt, rx_icmp_le, rx_icmp_ne, rx_iinc, ev_inc, rx_iload, rx_iload_n, rx_istore, ev_K, ev_pI, ev_pR, ev_pVi, ev_pVr, ev_sI, ev_sR, ev_KC, ev_k, ev_ko, ev_pop0, ev_pops, am_ld, am_sv, am_at, am_st, am_g, List.length_cons, List.length_nil, Nat.reduceAdd, Nat.reduceLT, Nat.zero_add, if_true, if_false, and_self, true_or, or_true, true_and, and_true, not_true_eq_false, not_false_eq_true, reduceCtorEq, eq_self, Option.toList_some, Option.toList_none, List.cons_append, List.nil_append, Bool.false_eq_true, h1, h2, e1, e7, hex, hnw, nI_ofs]
      by_cases c1 : E x 0 = key
      · by_cases c2 : sight < E x 4
        · simp only [c1, c2, e_ns, not_true_eq_false, if_false, if_true, false_and, and_false]
          exact ih1
        · by_cases c3 : E x 4 ≤ E nw 4
          · simp only [c1, c2, c3, e_ns, not_true_eq_false, if_false, if_true, false_and, and_false]
            exact ih1
          · simp only [c1, c2, c3, e_ns, not_true_eq_false, not_false_eq_true, if_false, if_true, and_self]
            exact ih2
      · simp only [c1, e_ns, not_false_eq_true, if_false, if_true, false_and]
        exact ih1
  have l0 := loop L.length 0 bl (by omega) (Nat.zero_le _) hbl none
  rw [am_R_eq, List.drop_zero] at l0
  rw [am_M_eq]
  simp only [am_R_eq, cx_73, en_73, rt_73, rx_aaload, rx_aload, rx_aload_n, rx_areturn, rx_astore, rx_astore_n, rx_getfield, ev_gf, rx_goto, rx_iconst, rx_icmp_ge, rx_icmp_gt, rx_icmp_le, rx_icmp_ne, rx_iinc, ev_inc, rx_iload, rx_iload_n, rx_istore, ev_K, ev_pI, ev_pR, ev_pVi, ev_pVr, ev_sI, ev_sR, ev_KC, ev_k, ev_ko, ev_pop0, ev_pops, am_ld, am_sv, am_at, am_st, am_g, List.length_cons, List.length_nil, Nat.reduceAdd, Nat.reduceLT, Nat.zero_add, if_true, if_false, and_self, true_or, or_true, true_and, and_true, not_true_eq_false, not_false_eq_true, reduceCtorEq, eq_self, Option.toList_some, Option.toList_none, List.cons_append, List.nil_append, Bool.false_eq_true, h1]
  exact l0
theorem ro_countLive (z d : Nat) {s : Int32} (hr : vs_row h r a bl n L) (hL : ∀ x ∈ L, h.1 x = some (vs_e E x)) : am_M z (d + 1 + 1) 89 [.ref r, .int s] h (some (.int (nI (L.countP (e_live E s))))) h := by
  obtain ⟨g, h1, h2, h3, h4, h5, hne⟩ := hr.g
  have loop : ∀ m k c, m = L.length - k → k ≤ L.length → am_R z (d + 1) 89 4 [some (.ref r), some (.int s), some (.int (nI c)), some (.int (nI k))] [] h (some (.int (nI (c + (L.drop k).countP (e_live E s))))) h := by
    intro m
    induction m with
    | zero =>
      intro k c hm hk
      have hkl : k = L.length := by omega
      subst hkl
      have e1 : nI L.length ≤ nI L.length := nI_le (Nat.le_refl _) (by omega)
      rw [am_R_eq, cxh_89_4]
      simp only [am_R_eq, cx_89, en_89, rt_89, rx_aaload, rx_aload_n, rx_getfield, ev_gf, rx_goto, rx_iconst, rx_icmp_ge, rx_if_eq, rx_iinc, ev_inc, rx_iload_n, rx_invv, ev_cv, rx_ireturn, rx_istore_n, kl_51, ev_K, ev_pI, ev_pR, ev_pVi, ev_pVr, ev_sI, ev_sR, ev_KC, ev_k, ev_ko, ev_pop0, ev_pops, am_ld, am_sv, am_at, am_st, am_g, List.length_cons, List.length_nil, Nat.reduceAdd, Nat.reduceLT, Nat.zero_add, if_true, if_false, and_self, true_or, or_true, true_and, and_true, not_true_eq_false, not_false_eq_true, reduceCtorEq, eq_self, Option.toList_some, Option.toList_none, List.cons_append, List.nil_append, Bool.false_eq_true, h1, e1, List.drop_length, List.countP_nil, Nat.add_zero]
    | succ m ih =>
      intro k c hm hk
      have hlt : k < L.length := by omega
      have e1 : ¬ nI L.length ≤ nI k := nI_ge hlt (by omega)
      have e5 : am_ix (nI k) n = some k := ev_ix (by omega) (by omega)
      obtain ⟨x, hx⟩ : ∃ x, L[k]? = some x := ⟨L[k]'(by omega), List.getElem?_eq_getElem (by omega)⟩
      have hd : L.drop k = x :: L.drop (k + 1) := by
        rw [List.drop_eq_getElem_cons hlt]
        congr 1
        exact (List.getElem?_eq_some_iff.mp hx).2
      have e7 := ev_rq 2 n k x g (nI k) (by omega) e5 (by rw [h3 k (by omega)]; exact hx)
      have hex := hL x (List.mem_of_getElem? hx)
      rw [hd, List.countP_cons]
      rw [am_R_eq, cxh_89_4]
      simp only [am_R_eq, cx_89, en_89, rt_89, rx_aaload, rx_aload_n, rx_getfield, ev_gf, rx_goto, rx_iconst, rx_icmp_ge, rx_if_eq, rx_iinc, ev_inc, rx_iload_n, rx_invv, ev_cv, rx_ireturn, rx_istore_n, kl_51, ev_K, ev_pI, ev_pR, ev_pVi, ev_pVr, ev_sI, ev_sR, ev_KC, ev_k, ev_ko, ev_pop0, ev_pops, am_ld, am_sv, am_at, am_st, am_g, List.length_cons, List.length_nil, Nat.reduceAdd, Nat.reduceLT, Nat.zero_add, if_true, if_false, and_self, true_or, or_true, true_and, and_true, not_true_eq_false, not_false_eq_true, reduceCtorEq, eq_self, Option.toList_some, Option.toList_none, List.cons_append, List.nil_append, Bool.false_eq_true, h1, h2, e1, e7, hex]
      refine am_CL_of (en_isLiveIn z d hex) ?_
      cases hb : e_live E s x with
      | true =>
        have ih1 := ih (k + 1) (c + 1) (by omega) (by omega)
        rw [am_R_eq, show c + 1 + (L.drop (k + 1)).countP (e_live E s) = c + ((L.drop (k + 1)).countP (e_live E s) + 1) by omega] at ih1
        simp only [am_R_eq, cx_89, en_89, rt_89, rx_aaload, rx_aload_n, rx_getfield, ev_gf, rx_goto, rx_iconst, rx_icmp_ge, rx_if_eq, rx_iinc, ev_inc, rx_iload_n, rx_invv, ev_cv, rx_ireturn, rx_istore_n, kl_51, ev_K, ev_pI, ev_pR, ev_pVi, ev_pVr, ev_sI, ev_sR, ev_KC, ev_k, ev_ko, ev_pop0, ev_pops, am_ld, am_sv, am_at, am_st, am_g, List.length_cons, List.length_nil, Nat.reduceAdd, Nat.reduceLT, Nat.zero_add, if_true, if_false, and_self, true_or, or_true, true_and, and_true, not_true_eq_false, not_false_eq_true, reduceCtorEq, eq_self, Option.toList_some, Option.toList_none, List.cons_append, List.nil_append, Bool.false_eq_true, hb, i_10, nI_ofs]
        exact ih1
      | false =>
        have ih1 := ih (k + 1) c (by omega) (by omega)
        rw [am_R_eq] at ih1
        simp only [am_R_eq, cx_89, en_89, rt_89, rx_aaload, rx_aload_n, rx_getfield, ev_gf, rx_goto, rx_iconst, rx_icmp_ge, rx_if_eq, rx_iinc, ev_inc, rx_iload_n, rx_invv, ev_cv, rx_ireturn, rx_istore_n, kl_51, ev_K, ev_pI, ev_pR, ev_pVi, ev_pVr, ev_sI, ev_sR, ev_KC, ev_k, ev_ko, ev_pop0, ev_pops, am_ld, am_sv, am_at, am_st, am_g, List.length_cons, List.length_nil, Nat.reduceAdd, Nat.reduceLT, Nat.zero_add, if_true, if_false, and_self, true_or, or_true, true_and, and_true, not_true_eq_false, not_false_eq_true, reduceCtorEq, eq_self, Option.toList_some, Option.toList_none, List.cons_append, List.nil_append, Bool.false_eq_true, hb, nI_ofs, Nat.add_zero]
        exact ih1
  have l0 := loop L.length 0 0 (by omega) (Nat.zero_le _)
  rw [am_R_eq, List.drop_zero, Nat.zero_add] at l0
  rw [am_M_eq]
  simp only [am_R_eq, cx_89, en_89, rt_89, rx_aaload, rx_aload_n, rx_getfield, ev_gf, rx_goto, rx_iconst, rx_icmp_ge, rx_if_eq, rx_iinc, ev_inc, rx_iload_n, rx_invv, ev_cv, rx_ireturn, rx_istore_n, kl_51, ev_K, ev_pI, ev_pR, ev_pVi, ev_pVr, ev_sI, ev_sR, ev_KC, ev_k, ev_ko, ev_pop0, ev_pops, am_ld, am_sv, am_at, am_st, am_g, List.length_cons, List.length_nil, Nat.reduceAdd, Nat.reduceLT, Nat.zero_add, if_true, if_false, and_self, true_or, or_true, true_and, and_true, not_true_eq_false, not_false_eq_true, reduceCtorEq, eq_self, Option.toList_some, Option.toList_none, List.cons_append, List.nil_append, Bool.false_eq_true, h1]
  exact l0
end ROW3
