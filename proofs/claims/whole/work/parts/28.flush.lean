section VN
variable {z : Nat} {h : am_H} {ad : Nat → Nat} {tt rr aa : Nat → Nat → Nat} {R : Nat → List Nat} {C : Nat → Nat → List Nat} {fl : Nat → Nat → Int32} {c : Nat → Nat} {tk cb tb sb g : Nat → Nat} {S : Nat → Int32} {En : Nat → Prop} {E : Nat → Nat → Int32} {v : Nat → Int32}
def vs_cut (E : Nat → Nat → Int32) (C : Nat → List Nat) (fl : Nat → Int32) (L : List Nat) : Prop := ∀ k, k < (L.length + 5) / 6 → C k = e_ck L k ∧ fl k = (e_ck L k).foldl (e_ff E) 0
theorem e_fl_ck {C : Nat → List Nat} {fl : Nat → Int32} {L : List Nat} (hC : vs_cut E C fl L) : e_fl C 0 ((L.length + 5) / 6) = L := by
  have key : ∀ m k, m + k = (L.length + 5) / 6 → e_fl C k m = L.drop (6 * k) := by
    intro m
    induction m with
    | zero =>
      intro k hk
      have : L.length ≤ 6 * k := by omega
      rw [List.drop_eq_nil_iff.mpr this]
      rfl
    | succ m ih =>
      intro k hk
      have h1 := (hC k (by omega)).1
      show C k ++ e_fl C (k + 1) m = _
      rw [ih (k + 1) (by omega), h1]
      unfold e_ck
      by_cases hq : 6 * k + 6 ≤ L.length
      · rw [Nat.min_eq_left hq, show 6 * (k + 1) = 6 * k + 6 by omega]
        rw [← List.drop_append_of_le_length (by rw [List.length_take]; omega), List.take_append_drop]
      · rw [Nat.min_eq_right (by omega), List.take_length, List.drop_eq_nil_iff.mpr (show L.length ≤ 6 * (k + 1) by omega), List.append_nil]
  have := key ((L.length + 5) / 6) 0 rfl
  rw [this, Nat.mul_zero, List.drop_zero]
def e_mm (E : Nat → Nat → Int32) (up lo : List Nat) : List Nat := up.foldl (e_ik E) (lo.foldl (e_ik E) [])
def e_rs (E : Nat → Nat → Int32) (S : Nat → Int32) (now : Int32) (bl w : Nat) (up lo : List Nat) : List Nat := e_m3 E now bl w (e_du E (e_ta S E) bl (e_mm E up lo))
theorem vl_mergePair' (d : Nat) {u w : Nat} (hu : u < 2) (hw : w = u + 1) {up lo : List Nat} (hup : e_fl (C u) 0 (c u) = up) (hlo : e_fl (C w) 0 (c w) = lo) (hV : vs_V z h ad tt rr aa R C fl c tk cb tb sb g S En E v) (hroom : up.length + lo.length ≤ 172) (hcut : ((e_rs E S (v 0) (ad 1) w up lo).length + 5) / 6 ≤ vm w) :
    ∃ h' C2 fl2, am_M z (d + 1 + 1 + 1 + 1) 21 [.ref (ad 0), .ref (ad (4 + u)), .ref (ad (4 + w))] h (some (.int (nI (up.length + lo.length - (e_rs E S (v 0) (ad 1) w up lo).length)))) h' ∧
      vs_V z h' ad tt rr aa (va_up R 2 (e_rs E S (v 0) (ad 1) w up lo)) (va_up C w C2) (va_up fl w fl2) (va_up (va_up c u 0) w (((e_rs E S (v 0) (ad 1) w up lo).length + 5) / 6)) tk cb tb sb g S En E v ∧ h'.2 = h.2 ∧ vs_cut E C2 fl2 (e_rs E S (v 0) (ad 1) w up lo) := by
  have hm : e_m1 E C c u w = e_mm E up lo := by unfold e_m1 e_mm; rw [hup, hlo]
  have hlen : (e_mm E up lo).length = up.length + lo.length := by
    unfold e_mm
    rw [e_ik_len, e_ik_len, List.length_nil]
    omega
  obtain ⟨h', C2, fl2, q1, q2, q3, q4⟩ := vl_mergePair d hu hw hV (by rw [hm, hlen]; exact hroom) (by rw [hm]; exact hcut)
  rw [hm] at q1 q2 q4
  rw [hlen] at q1
  exact ⟨h', C2, fl2, q1, q2, q3, q4⟩
theorem e_rs_len (E : Nat → Nat → Int32) (S : Nat → Int32) (now : Int32) (bl w : Nat) (up lo : List Nat) : (e_rs E S now bl w up lo).length ≤ up.length + lo.length := by
  have hlen : (e_mm E up lo).length = up.length + lo.length := by
    unfold e_mm
    rw [e_ik_len, e_ik_len, List.length_nil]
    omega
  have h1 := e_du_len E (e_ta S E) bl (e_mm E up lo)
  unfold e_rs e_m3
  split
  · have h2 := e_dg_len E now (e_du E (e_ta S E) bl (e_mm E up lo)).reverse bl []
    rw [List.length_reverse, List.length_nil] at h2
    omega
  · omega
def vs_mt (E : Nat → Nat → Int32) (S : Nat → Int32) (now : Int32) (bl : Nat) (f0 f1 f2 : List Nat) (C C' : Nat → Nat → List Nat) (fl fl' : Nat → Nat → Int32) (c c' : Nat → Nat) (r : Nat) : Prop :=
  c' 0 = 0 ∧ (if (e_rs E S now bl 1 f0 f1).length ≤ 12 then
    c' 1 = ((e_rs E S now bl 1 f0 f1).length + 5) / 6 ∧ c' 2 = c 2 ∧ vs_cut E (C' 1) (fl' 1) (e_rs E S now bl 1 f0 f1) ∧ C' 2 = C 2 ∧ fl' 2 = fl 2 ∧ r = f0.length + f1.length - (e_rs E S now bl 1 f0 f1).length
  else
    c' 1 = 0 ∧ c' 2 = ((e_rs E S now bl 2 (e_rs E S now bl 1 f0 f1) f2).length + 5) / 6 ∧ vs_cut E (C' 2) (fl' 2) (e_rs E S now bl 2 (e_rs E S now bl 1 f0 f1) f2) ∧ r = f0.length + f1.length - (e_rs E S now bl 1 f0 f1).length + ((e_rs E S now bl 1 f0 f1).length + f2.length - (e_rs E S now bl 2 (e_rs E S now bl 1 f0 f1) f2).length))
theorem vl_mergeTop (d : Nat) {f0 f1 f2 : List Nat} (h0 : e_fl (C 0) 0 (c 0) = f0) (h1 : e_fl (C 1) 0 (c 1) = f1) (h2 : e_fl (C 2) 0 (c 2) = f2) (hV : vs_V z h ad tt rr aa R C fl c tk cb tb sb g S En E v) (r1 : f0.length + f1.length ≤ 44) (r2 : f2.length ≤ 128) (r3 : 12 < (e_rs E S (v 0) (ad 1) 1 f0 f1).length → (e_rs E S (v 0) (ad 1) 2 (e_rs E S (v 0) (ad 1) 1 f0 f1) f2).length ≤ 132) :
    ∃ h' R2 C' fl' c' r, am_M z (d + 1 + 1 + 1 + 1 + 1) 20 [.ref (ad 0)] h (some (.int (nI r))) h' ∧ vs_V z h' ad tt rr aa (va_up R 2 R2) C' fl' c' tk cb tb sb g S En E v ∧ h'.2 = h.2 ∧ vs_mt E S (v 0) (ad 1) f0 f1 f2 C C' fl fl' c c' r := by
  have hlen := e_rs_len E S (v 0) (ad 1) 1 f0 f1
  obtain ⟨ha, C2, fl2, a1, a2, a3, a4⟩ := vl_mergePair' d (u := 0) (w := 1) (by omega) rfl h0 h1 hV (by omega) (by show _ ≤ 8; omega)
  obtain ⟨v0, v1, v2, v3, v4, v5, v6, v7, v8⟩ := hV
  have l0 := (v4 0 (by omega)).1.1
  generalize hL : e_rs E S (v 0) (ad 1) 1 f0 f1 = L at *
  have a2' := a2
  obtain ⟨w0, w1, w2, w3, w4, w5, w6, w7, w8⟩ := a2
  have rs := (w3 2 (by omega)).1
  rw [va_up_self] at rs
  have ps := rs.1
  have q1 := ro_size z (d + 1 + 1 + 1) rs
  by_cases hc : L.length ≤ 12
  · refine ⟨ha, L, _, _, _, f0.length + f1.length - L.length, ?_, a2', a3, ?_⟩
    · have e1 : nI L.length ≤ 12 := nI_le (b := 12) hc (by omega)
      rw [am_M_eq]
      simp only [am_R_eq, cx_20, en_20, rt_20, rx_aload_n, rx_bipush, rx_getfield, ev_gf, rx_iadd, rx_icmp_le, rx_iload_n, rx_invv, ev_cv, rx_ireturn, rx_istore_n, kl_12, kl_21, ev_K, ev_pI, ev_pR, ev_pVi, ev_pVr, ev_sI, ev_sR, ev_KC, ev_k, ev_ko, ev_pop0, ev_pops, am_ld, am_sv, am_at, am_st, am_g, List.length_cons, List.length_nil, Nat.reduceAdd, Nat.reduceLT, Nat.zero_add, if_true, if_false, and_self, true_or, or_true, true_and, and_true, not_true_eq_false, not_false_eq_true, reduceCtorEq, eq_self, Option.toList_some, Option.toList_none, List.cons_append, List.nil_append, Bool.false_eq_true, v0]
      refine am_CL_of a1 ?_
      simp only [am_R_eq, cx_20, en_20, rt_20, rx_aload_n, rx_bipush, rx_getfield, ev_gf, rx_iadd, rx_icmp_le, rx_iload_n, rx_invv, ev_cv, rx_ireturn, rx_istore_n, kl_12, kl_21, ev_K, ev_pI, ev_pR, ev_pVi, ev_pVr, ev_sI, ev_sR, ev_KC, ev_k, ev_ko, ev_pop0, ev_pops, am_ld, am_sv, am_at, am_st, am_g, List.length_cons, List.length_nil, Nat.reduceAdd, Nat.reduceLT, Nat.zero_add, if_true, if_false, and_self, true_or, or_true, true_and, and_true, not_true_eq_false, not_false_eq_true, reduceCtorEq, eq_self, Option.toList_some, Option.toList_none, List.cons_append, List.nil_append, Bool.false_eq_true, w0, ps]
      refine am_CL_of q1 ?_
      simp only [am_R_eq, cx_20, en_20, rt_20, rx_aload_n, rx_bipush, rx_getfield, ev_gf, rx_iadd, rx_icmp_le, rx_iload_n, rx_invv, ev_cv, rx_ireturn, rx_istore_n, kl_12, kl_21, ev_K, ev_pI, ev_pR, ev_pVi, ev_pVr, ev_sI, ev_sR, ev_KC, ev_k, ev_ko, ev_pop0, ev_pops, am_ld, am_sv, am_at, am_st, am_g, List.length_cons, List.length_nil, Nat.reduceAdd, Nat.reduceLT, Nat.zero_add, if_true, if_false, and_self, true_or, or_true, true_and, and_true, not_true_eq_false, not_false_eq_true, reduceCtorEq, eq_self, Option.toList_some, Option.toList_none, List.cons_append, List.nil_append, Bool.false_eq_true, e1]
    · refine ⟨rfl, ?_⟩
      rw [hL, if_pos hc]
      exact ⟨rfl, rfl, a4, rfl, rfl, rfl⟩
  · have hf1 : e_fl (va_up C 1 C2 1) 0 (va_up (va_up c 0 0) 1 ((L.length + 5) / 6) 1) = L := by
      rw [va_up_self, va_up_self]
      exact e_fl_ck a4
    have hf2 : e_fl (va_up C 1 C2 2) 0 (va_up (va_up c 0 0) 1 ((L.length + 5) / 6) 2) = f2 := by
      rw [va_up_ne _ _ (by decide), va_up_ne _ _ (by decide), va_up_ne _ _ (by decide)]
      exact h2
    have hr3 := r3 (by omega)
    obtain ⟨hb, C3, fl3, b1, b2, b3, b4⟩ := vl_mergePair' d (u := 1) (w := 2) (by omega) rfl hf1 hf2 a2' (by omega) (by show _ ≤ 22; omega)
    have e2 : ∀ x y : List Nat, va_up (va_up R 2 x) 2 y = va_up R 2 y := fun x y => bx_uu R 2 x y
    rw [e2] at b2
    have hlen2 := e_rs_len E S (v 0) (ad 1) 2 L f2
    refine ⟨hb, _, _, _, _, f0.length + f1.length - L.length + (L.length + f2.length - (e_rs E S (v 0) (ad 1) 2 L f2).length), ?_, b2, by rw [b3, a3], ?_⟩
    rotate_left
    · refine ⟨rfl, ?_⟩
      rw [hL, if_neg hc]
      exact ⟨rfl, rfl, b4, rfl⟩
    · have e1 : ¬ nI L.length ≤ 12 := nI_ge (a := 12) (by omega) (by omega)
      rw [am_M_eq]
      simp only [am_R_eq, cx_20, en_20, rt_20, rx_aload_n, rx_bipush, rx_getfield, ev_gf, rx_iadd, rx_icmp_le, rx_iload_n, rx_invv, ev_cv, rx_ireturn, rx_istore_n, kl_12, kl_21, ev_K, ev_pI, ev_pR, ev_pVi, ev_pVr, ev_sI, ev_sR, ev_KC, ev_k, ev_ko, ev_pop0, ev_pops, am_ld, am_sv, am_at, am_st, am_g, List.length_cons, List.length_nil, Nat.reduceAdd, Nat.reduceLT, Nat.zero_add, if_true, if_false, and_self, true_or, or_true, true_and, and_true, not_true_eq_false, not_false_eq_true, reduceCtorEq, eq_self, Option.toList_some, Option.toList_none, List.cons_append, List.nil_append, Bool.false_eq_true, v0]
      refine am_CL_of a1 ?_
      simp only [am_R_eq, cx_20, en_20, rt_20, rx_aload_n, rx_bipush, rx_getfield, ev_gf, rx_iadd, rx_icmp_le, rx_iload_n, rx_invv, ev_cv, rx_ireturn, rx_istore_n, kl_12, kl_21, ev_K, ev_pI, ev_pR, ev_pVi, ev_pVr, ev_sI, ev_sR, ev_KC, ev_k, ev_ko, ev_pop0, ev_pops, am_ld, am_sv, am_at, am_st, am_g, List.length_cons, List.length_nil, Nat.reduceAdd, Nat.reduceLT, Nat.zero_add, if_true, if_false, and_self, true_or, or_true, true_and, and_true, not_true_eq_false, not_false_eq_true, reduceCtorEq, eq_self, Option.toList_some, Option.toList_none, List.cons_append, List.nil_append, Bool.false_eq_true, w0, ps]
      refine am_CL_of q1 ?_
      simp only [am_R_eq, cx_20, en_20, rt_20, rx_aload_n, rx_bipush, rx_getfield, ev_gf, rx_iadd, rx_icmp_le, rx_iload_n, rx_invv, ev_cv, rx_ireturn, rx_istore_n, kl_12, kl_21, ev_K, ev_pI, ev_pR, ev_pVi, ev_pVr, ev_sI, ev_sR, ev_KC, ev_k, ev_ko, ev_pop0, ev_pops, am_ld, am_sv, am_at, am_st, am_g, List.length_cons, List.length_nil, Nat.reduceAdd, Nat.reduceLT, Nat.zero_add, if_true, if_false, and_self, true_or, or_true, true_and, and_true, not_true_eq_false, not_false_eq_true, reduceCtorEq, eq_self, Option.toList_some, Option.toList_none, List.cons_append, List.nil_append, Bool.false_eq_true, e1, w0]
      refine am_CL_of b1 ?_
      simp only [am_R_eq, cx_20, en_20, rt_20, rx_aload_n, rx_bipush, rx_getfield, ev_gf, rx_iadd, rx_icmp_le, rx_iload_n, rx_invv, ev_cv, rx_ireturn, rx_istore_n, kl_12, kl_21, ev_K, ev_pI, ev_pR, ev_pVi, ev_pVr, ev_sI, ev_sR, ev_KC, ev_k, ev_ko, ev_pop0, ev_pops, am_ld, am_sv, am_at, am_st, am_g, List.length_cons, List.length_nil, Nat.reduceAdd, Nat.reduceLT, Nat.zero_add, if_true, if_false, and_self, true_or, or_true, true_and, and_true, not_true_eq_false, not_false_eq_true, reduceCtorEq, eq_self, Option.toList_some, Option.toList_none, List.cons_append, List.nil_append, Bool.false_eq_true, nI_add]
end VN
