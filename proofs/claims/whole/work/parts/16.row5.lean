section ROW5
variable {h : am_H} {r a bl n : Nat} {L : List Nat} {E : Nat → Nat → Int32}
def e_dg (E : Nat → Nat → Int32) (now : Int32) : List Nat → Nat → List Nat → List Nat
  | [], _, acc => acc
  | e :: t, lo, acc => if E e 0 = E lo 0 ∨ e_gone E e now = false then e_dg E now t e (e :: acc) else e_dg E now t lo acc
theorem e_dg_len (E : Nat → Nat → Int32) (now : Int32) : ∀ (T : List Nat) (lo : Nat) (acc : List Nat), (e_dg E now T lo acc).length ≤ T.length + acc.length
  | [], _, acc => by simp [e_dg]
  | e :: t, lo, acc => by
    unfold e_dg
    split
    · have := e_dg_len E now t e (e :: acc)
      simp only [List.length_cons] at this ⊢
      omega
    · have := e_dg_len E now t lo acc
      simp only [List.length_cons] at this ⊢
      omega
def vs_cp (G : Nat → Option Nat) (st i : Nat) : Nat → Option Nat := fun q => if q < i then G (st + q) else G q
theorem vs_cp_0 (G : Nat → Option Nat) (st : Nat) : vs_cp G st 0 = G := by
  funext q
  unfold vs_cp
  rw [if_neg (Nat.not_lt_zero _)]
theorem vs_cp_s (G : Nat → Option Nat) (st i : Nat) : va_up (vs_cp G st i) i (G (st + i)) = vs_cp G st (i + 1) := by
  funext q
  unfold va_up vs_cp
  by_cases hq : q = i
  · subst hq
    rw [if_pos rfl, if_pos (by omega)]
  · rw [if_neg hq]
    by_cases h2 : q < i
    · rw [if_pos h2, if_pos (by omega)]
    · rw [if_neg h2, if_neg (by omega)]
theorem nI_pm (m : Nat) : nI m + -1 = nI m - 1 := by rw [Int32.sub_eq_add_neg]
theorem ro_dropGone (z d : Nat) {now : Int32} (hz : z ≤ r) (hza : z ≤ a) (hr : vs_row h r a bl n L) (hbl : h.1 bl = some (vs_e E bl)) (hL : ∀ x ∈ L, h.1 x = some (vs_e E x)) : ∃ h', am_M z (d + 1 + 1) 30 [.ref r, .int now] h (some (.int (nI (L.length - (e_dg E now L.reverse bl []).length)))) h' ∧ vs_row h' r a bl n (e_dg E now L.reverse bl []) ∧ vs_ch h h' r a := by
  obtain ⟨g, h1, h2, h3, h4, h5, hne⟩ := hr.g
  have hxa : ∀ x, h.1 x = some (vs_e E x) → x ≠ a := fun x hx => am_ne hx h2 (by simp)
  have second : ∀ (G : Nat → Option Nat) (fin : List Nat) (lo : Nat) (w : Option Value), fin.length ≤ L.length → (∀ i, i < fin.length → G (L.length - fin.length + i) = fin[i]?) → (∀ x ∈ fin, h.1 x = some (vs_e E x)) → ∀ m i, m = fin.length - i → i ≤ fin.length →
      am_R z (d + 1) 30 86 [some (.ref r), some (.int now), some (.int (nI (L.length - fin.length))), some (.ref lo), some (.int (nI i)), w] [] (am_up (am_up h a (vs_q n (vs_cp G (L.length - fin.length) i))) r (vs_ro bl a fin.length)) (some (.int (nI (L.length - fin.length)))) (am_up (am_up h a (vs_q n (vs_cp G (L.length - fin.length) fin.length))) r (vs_ro bl a fin.length)) := by
    intro G fin lo w hf hG hfin m
    induction m with
    | zero =>
      intro i hm hi
      have hil : i = fin.length := by omega
      subst hil
      have e1 : nI fin.length ≤ nI fin.length := nI_le (Nat.le_refl _) (by omega)
      rw [am_R_eq, cxh_30_86]
      simp only [am_R_eq, cx_30, en_30, rt_30, rx_aaload, rx_aastore, ev_w1, ev_KW, rx_aload, rx_aload_n, rx_astore, rx_astore_n, rx_dup_i, rx_dup_r, rx_getfield, ev_gf, rx_goto, rx_iadd, rx_iconst, rx_icmp_eq, rx_icmp_ge, rx_if_lt, rx_if_ne, rx_iinc, ev_inc, rx_iload, rx_iload_n, rx_invv, ev_cv, rx_ireturn, rx_istore, rx_istore_n, rx_isub, rx_putfield, ev_pf, am_fok, am_ftv, kl_31, ev_K, ev_pI, ev_pR, ev_pVi, ev_pVr, ev_sI, ev_sR, ev_KC, ev_k, ev_ko, ev_pop0, ev_pops, am_ld, am_sv, am_at, am_st, am_g, List.length_cons, List.length_nil, Nat.reduceAdd, Nat.reduceLT, Nat.zero_add, if_true, if_false, and_self, true_or, or_true, true_and, and_true, not_true_eq_false, not_false_eq_true, reduceCtorEq, eq_self, Option.toList_some, Option.toList_none, List.cons_append, List.nil_append, Bool.false_eq_true, e1, am_up_ne, am_up_at, hne, ne_eq]
    | succ m ih =>
      intro i hm hi
      have hlt : i < fin.length := by omega
      have e1 : ¬ nI fin.length ≤ nI i := nI_ge hlt (by omega)
      have e2 : nI (L.length - fin.length) + nI i = nI (L.length - fin.length + i) := nI_add _ _
      have e5 : am_ix (nI (L.length - fin.length + i)) n = some (L.length - fin.length + i) := ev_ix (by omega) (by omega)
      have e3 : am_ix (nI i) n = some i := ev_ix (by omega) (by omega)
      obtain ⟨x, hx⟩ : ∃ x, fin[i]? = some x := ⟨fin[i]'(by omega), List.getElem?_eq_getElem (by omega)⟩
      have hex := hfin x (List.mem_of_getElem? hx)
      have hxn := hxa x hex
      have hxr : x ≠ r := am_ne hex h1 (by simp)
      have hgx : G (L.length - fin.length + i) = some x := by rw [hG i hlt]; exact hx
      have hcx : vs_cp G (L.length - fin.length) i (L.length - fin.length + i) = some x := by
        unfold vs_cp
        rw [if_neg (by omega)]
        exact hgx
      have e7 := ev_rq 2 n _ x (vs_cp G (L.length - fin.length) i) (nI (L.length - fin.length + i)) (by omega) e5 hcx
      have e4 := ev_wq 2 n i x (vs_cp G (L.length - fin.length) i) (nI i) (some (vs_e E x)) (by omega) e3 rfl
      have e8 : va_up (vs_cp G (L.length - fin.length) i) i (some x) = vs_cp G (L.length - fin.length) (i + 1) := by rw [← hgx]; exact vs_cp_s ..
      have ih1 := ih (i + 1) (by omega) (by omega)
      rw [am_R_eq] at ih1
      have e9 : ∀ x y, am_up (am_up (am_up h a x) r (vs_ro bl a fin.length)) a y = am_up (am_up h a y) r (vs_ro bl a fin.length) := by
        intro x y
        rw [am_up_cm _ _ _ hne, am_up_up]
      rw [am_R_eq, cxh_30_86]
      simp only [am_R_eq, cx_30, en_30, rt_30, rx_aaload, rx_aastore, ev_w1, ev_KW, rx_aload, rx_aload_n, rx_astore, rx_astore_n, rx_dup_i, rx_dup_r, rx_getfield, ev_gf, rx_goto, rx_iadd, rx_iconst, rx_icmp_eq, rx_icmp_ge, rx_if_lt, rx_if_ne, rx_iinc, ev_inc, rx_iload, rx_iload_n, rx_invv, ev_cv, rx_ireturn, rx_istore, rx_istore_n, rx_isub, rx_putfield, ev_pf, am_fok, am_ftv, kl_31, ev_K, ev_pI, ev_pR, ev_pVi, ev_pVr, ev_sI, ev_sR, ev_KC, ev_k, ev_ko, ev_pop0, ev_pops, am_ld, am_sv, am_at, am_st, am_g, List.length_cons, List.length_nil, Nat.reduceAdd, Nat.reduceLT, Nat.zero_add, if_true, if_false, and_self, true_or, or_true, true_and, and_true, not_true_eq_false, not_false_eq_true, reduceCtorEq, eq_self, Option.toList_some, Option.toList_none, List.cons_append, List.nil_append, Bool.false_eq_true, e1, e2, e7, e4, e8, e9, hza, hex, hxn, hxr, am_up_ne, am_up_at, hne, hne.symm, ne_eq, nI_ofs]
      exact ih1
  have first : ∀ k (G : Nat → Option Nat) (acc : List Nat) (lo : Nat) (w : Option Value), k + acc.length ≤ L.length → (∀ i, i < k → G i = g i) → (∀ i, i < acc.length → G (L.length - acc.length + i) = acc[i]?) → (∀ x ∈ acc, h.1 x = some (vs_e E x)) → h.1 lo = some (vs_e E lo) →
      ∃ G', am_R z (d + 1) 30 18 [some (.ref r), some (.int now), some (.int (nI (L.length - acc.length))), some (.ref lo), some (.int (nI k - 1)), w] [] (am_up h a (vs_q n G)) (some (.int (nI (L.length - (e_dg E now (L.take k).reverse lo acc).length)))) (am_up (am_up h a (vs_q n G')) r (vs_ro bl a (e_dg E now (L.take k).reverse lo acc).length)) ∧ ∀ i, i < (e_dg E now (L.take k).reverse lo acc).length → G' i = (e_dg E now (L.take k).reverse lo acc)[i]? := by
    intro k
    induction k with
    | zero =>
      intro G acc lo w hk hG1 hG2 hacc hlo
      have hk : acc.length ≤ L.length := by omega
      refine ⟨vs_cp G (L.length - acc.length) acc.length, ?_, ?_⟩
      · have e1 : nI 0 - 1 < 0 := by decide
        have e2 : nI L.length - nI (L.length - acc.length) = nI acc.length := by
          rw [pk_sub (by omega)]
          congr 1
          omega
        have s0 := second G acc lo w hk hG2 hacc acc.length 0 (by omega) (Nat.zero_le _)
        rw [vs_cp_0, am_R_eq] at s0
        rw [am_R_eq, cxh_30_18]
        simp only [am_R_eq, cx_30, en_30, rt_30, rx_aaload, rx_aastore, ev_w1, ev_KW, rx_aload, rx_aload_n, rx_astore, rx_astore_n, rx_dup_i, rx_dup_r, rx_getfield, ev_gf, rx_goto, rx_iadd, rx_iconst, rx_icmp_eq, rx_icmp_ge, rx_if_lt, rx_if_ne, rx_iinc, ev_inc, rx_iload, rx_iload_n, rx_invv, ev_cv, rx_ireturn, rx_istore, rx_istore_n, rx_isub, rx_putfield, ev_pf, am_fok, am_ftv, kl_31, ev_K, ev_pI, ev_pR, ev_pVi, ev_pVr, ev_sI, ev_sR, ev_KC, ev_k, ev_ko, ev_pop0, ev_pops, am_ld, am_sv, am_at, am_st, am_g, List.length_cons, List.length_nil, Nat.reduceAdd, Nat.reduceLT, Nat.zero_add, if_true, if_false, and_self, true_or, or_true, true_and, and_true, not_true_eq_false, not_false_eq_true, reduceCtorEq, eq_self, Option.toList_some, Option.toList_none, List.cons_append, List.nil_append, Bool.false_eq_true, h1, e1, e2, hz, am_up_ne, am_up_at, hne, ne_eq, Nat.reduceLeDiff, beq_self_eq_true]
        exact s0
      · intro i hi
        have hi : i < acc.length := hi
        show vs_cp G (L.length - acc.length) acc.length i = acc[i]?
        unfold vs_cp
        rw [if_pos hi]
        exact hG2 i hi
    | succ k ih =>
      intro G acc lo w hk hG1 hG2 hacc hlo
      have hlt : k < L.length := by omega
      have e0 : nI (k + 1) - 1 = nI k := nI_pred k
      have e1 : ¬ nI k < 0 := nI_pos (by omega)
      have e5 : am_ix (nI k) n = some k := ev_ix (by omega) (by omega)
      obtain ⟨x, hx⟩ : ∃ x, L[k]? = some x := ⟨L[k]'(by omega), List.getElem?_eq_getElem (by omega)⟩
      have hd : (L.take (k + 1)).reverse = x :: (L.take k).reverse := by
        rw [List.take_succ, hx]
        simp
      have e7 := ev_rq 2 n k x G (nI k) (by omega) e5 (by rw [hG1 k (by omega), h3 k hlt]; exact hx)
      have hex := hL x (List.mem_of_getElem? hx)
      have hxn := hxa x hex
      have hln := hxa lo hlo
      have hex2 : (am_up h a (vs_q n G)).1 x = some (vs_e E x) := by rw [am_up_ne _ _ hxn]; exact hex
      have hlo2 : (am_up h a (vs_q n G)).1 lo = some (vs_e E lo) := by rw [am_up_ne _ _ hln]; exact hlo
      have hl : (x :: acc).length = acc.length + 1 := rfl
      have e6 : nI (L.length - acc.length) + -1 = nI (L.length - (acc.length + 1)) := by
        rw [show L.length - acc.length = (L.length - (acc.length + 1)) + 1 by omega]
        exact pk_m1 _
      have e3 : am_ix (nI (L.length - (acc.length + 1))) n = some (L.length - (acc.length + 1)) := ev_ix (by omega) (by omega)
      have e4 := ev_wq 2 n _ x G (nI (L.length - (acc.length + 1))) (some (vs_e E x)) (by omega) e3 rfl
      rw [hd]
      obtain ⟨G1, i1, i2⟩ := ih (va_up G (L.length - (acc.length + 1)) (some x)) (x :: acc) x (some (.ref x)) (by rw [hl]; omega) (by
        intro i hi
        rw [va_up_ne _ _ (by omega)]
        exact hG1 i (by omega)) (by
        intro i hi
        rw [hl] at hi ⊢
        by_cases hi0 : i = 0
        · subst hi0
          show va_up G (L.length - (acc.length + 1)) (some x) (L.length - (acc.length + 1)) = _
          rw [va_up_self]
          rfl
        · rw [va_up_ne _ _ (by omega), show L.length - (acc.length + 1) + i = L.length - acc.length + (i - 1) by omega, hG2 (i - 1) (by omega)]
          obtain ⟨i', rfl⟩ : ∃ i', i = i' + 1 := ⟨i - 1, by omega⟩
          rfl) (by
        intro y hy
        rcases List.mem_cons.mp hy with q | q
        · rw [q]; exact hex
        · exact hacc y q) hex
      obtain ⟨G2, j1, j2⟩ := ih G acc lo (some (.ref x)) (by omega) (fun i hi => hG1 i (by omega)) hG2 hacc hlo
      rw [hl] at i1
      rw [am_R_eq] at i1 j1
      by_cases c1 : E x 0 = E lo 0
      · have hdu : e_dg E now (x :: (L.take k).reverse) lo acc = e_dg E now (L.take k).reverse x (x :: acc) := by simp [e_dg, c1]
        rw [hdu]
        refine ⟨G1, ?_, i2⟩
        rw [am_R_eq, cxh_30_18]
        simp only [am_R_eq, cx_30, en_30, rt_30, rx_aaload, rx_aastore, ev_w1, ev_KW, rx_aload, rx_aload_n, rx_astore, rx_astore_n, rx_dup_i, rx_dup_r, rx_getfield, ev_gf, rx_goto, rx_iadd, rx_iconst, rx_icmp_eq, rx_icmp_ge, rx_if_lt, rx_if_ne, rx_iinc, ev_inc, rx_iload, rx_iload_n, rx_invv, ev_cv, rx_ireturn, rx_istore, rx_istore_n, rx_isub, rx_putfield, ev_pf, am_fok, am_ftv, kl_31, ev_K, ev_pI, ev_pR, ev_pVi, ev_pVr, ev_sI, ev_sR, ev_KC, ev_k, ev_ko, ev_pop0, ev_pops, am_ld, am_sv, am_at, am_st, am_g, List.length_cons, List.length_nil, Nat.reduceAdd, Nat.reduceLT, Nat.zero_add, if_true, if_false, and_self, true_or, or_true, true_and, and_true, not_true_eq_false, not_false_eq_true, reduceCtorEq, eq_self, Option.toList_some, Option.toList_none, List.cons_append, List.nil_append, Bool.false_eq_true, h1, e0, e1, e7, hex2, hlo2, c1, e4, e6, hza, am_up_ne, am_up_at, am_up_up, hne, ne_eq, nI_pm]
        exact i1
      · cases c2 : e_gone E x now with
        | true =>
          have hdu : e_dg E now (x :: (L.take k).reverse) lo acc = e_dg E now (L.take k).reverse lo acc := by simp [e_dg, c1, c2]
          rw [hdu]
          refine ⟨G2, ?_, j2⟩
          rw [am_R_eq, cxh_30_18]
          simp only [am_R_eq, cx_30, en_30, rt_30, rx_aaload, rx_aastore, ev_w1, ev_KW, rx_aload, rx_aload_n, rx_astore, rx_astore_n, rx_dup_i, rx_dup_r, rx_getfield, ev_gf, rx_goto, rx_iadd, rx_iconst, rx_icmp_eq, rx_icmp_ge, rx_if_lt, rx_if_ne, rx_iinc, ev_inc, rx_iload, rx_iload_n, rx_invv, ev_cv, rx_ireturn, rx_istore, rx_istore_n, rx_isub, rx_putfield, ev_pf, am_fok, am_ftv, kl_31, ev_K, ev_pI, ev_pR, ev_pVi, ev_pVr, ev_sI, ev_sR, ev_KC, ev_k, ev_ko, ev_pop0, ev_pops, am_ld, am_sv, am_at, am_st, am_g, List.length_cons, List.length_nil, Nat.reduceAdd, Nat.reduceLT, Nat.zero_add, if_true, if_false, and_self, true_or, or_true, true_and, and_true, not_true_eq_false, not_false_eq_true, reduceCtorEq, eq_self, Option.toList_some, Option.toList_none, List.cons_append, List.nil_append, Bool.false_eq_true, h1, e0, e1, e7, hex2, hlo2, c1, am_up_ne, am_up_at, hne, ne_eq]
          refine am_CL_of (en_isGone z d hex2) ?_
          simp only [am_R_eq, cx_30, en_30, rt_30, rx_aaload, rx_aastore, ev_w1, ev_KW, rx_aload, rx_aload_n, rx_astore, rx_astore_n, rx_dup_i, rx_dup_r, rx_getfield, ev_gf, rx_goto, rx_iadd, rx_iconst, rx_icmp_eq, rx_icmp_ge, rx_if_lt, rx_if_ne, rx_iinc, ev_inc, rx_iload, rx_iload_n, rx_invv, ev_cv, rx_ireturn, rx_istore, rx_istore_n, rx_isub, rx_putfield, ev_pf, am_fok, am_ftv, kl_31, ev_K, ev_pI, ev_pR, ev_pVi, ev_pVr, ev_sI, ev_sR, ev_KC, ev_k, ev_ko, ev_pop0, ev_pops, am_ld, am_sv, am_at, am_st, am_g, List.length_cons, List.length_nil, Nat.reduceAdd, Nat.reduceLT, Nat.zero_add, if_true, if_false, and_self, true_or, or_true, true_and, and_true, not_true_eq_false, not_false_eq_true, reduceCtorEq, eq_self, Option.toList_some, Option.toList_none, List.cons_append, List.nil_append, Bool.false_eq_true, h1, c2, i_10, nI_pm]
          exact j1
        | false =>
          have hdu : e_dg E now (x :: (L.take k).reverse) lo acc = e_dg E now (L.take k).reverse x (x :: acc) := by simp [e_dg, c2]
          rw [hdu]
          refine ⟨G1, ?_, i2⟩
          rw [am_R_eq, cxh_30_18]
          simp only [am_R_eq, cx_30, en_30, rt_30, rx_aaload, rx_aastore, ev_w1, ev_KW, rx_aload, rx_aload_n, rx_astore, rx_astore_n, rx_dup_i, rx_dup_r, rx_getfield, ev_gf, rx_goto, rx_iadd, rx_iconst, rx_icmp_eq, rx_icmp_ge, rx_if_lt, rx_if_ne, rx_iinc, ev_inc, rx_iload, rx_iload_n, rx_invv, ev_cv, rx_ireturn, rx_istore, rx_istore_n, rx_isub, rx_putfield, ev_pf, am_fok, am_ftv, kl_31, ev_K, ev_pI, ev_pR, ev_pVi, ev_pVr, ev_sI, ev_sR, ev_KC, ev_k, ev_ko, ev_pop0, ev_pops, am_ld, am_sv, am_at, am_st, am_g, List.length_cons, List.length_nil, Nat.reduceAdd, Nat.reduceLT, Nat.zero_add, if_true, if_false, and_self, true_or, or_true, true_and, and_true, not_true_eq_false, not_false_eq_true, reduceCtorEq, eq_self, Option.toList_some, Option.toList_none, List.cons_append, List.nil_append, Bool.false_eq_true, h1, e0, e1, e7, hex2, hlo2, c1, am_up_ne, am_up_at, hne, ne_eq]
          refine am_CL_of (en_isGone z d hex2) ?_
          simp only [am_R_eq, cx_30, en_30, rt_30, rx_aaload, rx_aastore, ev_w1, ev_KW, rx_aload, rx_aload_n, rx_astore, rx_astore_n, rx_dup_i, rx_dup_r, rx_getfield, ev_gf, rx_goto, rx_iadd, rx_iconst, rx_icmp_eq, rx_icmp_ge, rx_if_lt, rx_if_ne, rx_iinc, ev_inc, rx_iload, rx_iload_n, rx_invv, ev_cv, rx_ireturn, rx_istore, rx_istore_n, rx_isub, rx_putfield, ev_pf, am_fok, am_ftv, kl_31, ev_K, ev_pI, ev_pR, ev_pVi, ev_pVr, ev_sI, ev_sR, ev_KC, ev_k, ev_ko, ev_pop0, ev_pops, am_ld, am_sv, am_at, am_st, am_g, List.length_cons, List.length_nil, Nat.reduceAdd, Nat.reduceLT, Nat.zero_add, if_true, if_false, and_self, true_or, or_true, true_and, and_true, not_true_eq_false, not_false_eq_true, reduceCtorEq, eq_self, Option.toList_some, Option.toList_none, List.cons_append, List.nil_append, Bool.false_eq_true, h1, c2, i_10, hex2, e4, e6, hza, am_up_ne, am_up_at, am_up_up, hne, ne_eq, nI_pm]
          exact i1
  obtain ⟨G', l0, l1⟩ := first L.length g [] bl none (Nat.le_refl _) (fun i _ => rfl) (fun i hi => absurd hi (Nat.not_lt_zero _)) (fun x hx => by cases hx) hbl
  rw [List.take_length] at l0 l1
  rw [am_up_self h2, am_R_eq] at l0
  refine ⟨_, ?_, ?_, vs_ch.up2 h r a (vs_q n G') (vs_ro bl a (e_dg E now L.reverse bl []).length)⟩
  · rw [am_M_eq]
    simp only [am_R_eq, cx_30, en_30, rt_30, rx_aaload, rx_aastore, ev_w1, ev_KW, rx_aload, rx_aload_n, rx_astore, rx_astore_n, rx_dup_i, rx_dup_r, rx_getfield, ev_gf, rx_goto, rx_iadd, rx_iconst, rx_icmp_eq, rx_icmp_ge, rx_if_lt, rx_if_ne, rx_iinc, ev_inc, rx_iload, rx_iload_n, rx_invv, ev_cv, rx_ireturn, rx_istore, rx_istore_n, rx_isub, rx_putfield, ev_pf, am_fok, am_ftv, kl_31, ev_K, ev_pI, ev_pR, ev_pVi, ev_pVr, ev_sI, ev_sR, ev_KC, ev_k, ev_ko, ev_pop0, ev_pops, am_ld, am_sv, am_at, am_st, am_g, List.length_cons, List.length_nil, Nat.reduceAdd, Nat.reduceLT, Nat.zero_add, if_true, if_false, and_self, true_or, or_true, true_and, and_true, not_true_eq_false, not_false_eq_true, reduceCtorEq, eq_self, Option.toList_some, Option.toList_none, List.cons_append, List.nil_append, Bool.false_eq_true, h1]
    exact l0
  · refine vs_row.mk (g := G') (by rw [am_up_at]) (by rw [am_up_ne _ _ (Ne.symm hne), am_up_at]) l1 ?_ h5
    have := e_dg_len E now L.reverse bl []
    simp at this
    omega
end ROW5
