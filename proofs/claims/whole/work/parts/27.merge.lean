section VM
variable {z : Nat} {h : am_H} {ad : Nat → Nat} {tt rr aa : Nat → Nat → Nat} {R : Nat → List Nat} {C : Nat → Nat → List Nat} {fl : Nat → Nat → Int32} {c : Nat → Nat} {tk cb tb sb g : Nat → Nat} {S : Nat → Int32} {En : Nat → Prop} {E : Nat → Nat → Int32} {v : Nat → Int32}
theorem e_fl_mem (C : Nat → List Nat) (x : Nat) : ∀ m k, x ∈ e_fl C k m → ∃ i, k ≤ i ∧ i < k + m ∧ x ∈ C i := by
  intro m
  induction m with
  | zero => intro k hx; cases hx
  | succ m ih =>
    intro k hx
    rcases List.mem_append.mp hx with q | q
    · exact ⟨k, Nat.le_refl _, by omega, q⟩
    · obtain ⟨i, h1, h2, h3⟩ := ih (k + 1) q
      exact ⟨i, by omega, by omega, h3⟩
theorem vs_V.pour (hV : vs_V z h ad tt rr aa R C fl c tk cb tb sb g S En E v) {l : Nat} (hl : l < 3) {hh : am_H} {L' : List Nat} (hc : vs_ch3 h hh (ad (4 + l)) (ad 12) (ad 16)) (hr : vs_row hh (ad 12) (ad 16) (ad 1) 172 L') (h0 : hh.1 (ad (4 + l)) = some (vs_lo (ad (7 + l)) 0)) (hL : ∀ x ∈ L', En x) : vs_V z hh ad tt rr aa (va_up R 2 L') C fl (va_up c l 0) tk cb tb sb g S En E v := by
  have hV0 := hV
  obtain ⟨v0, v1, v2, v3, v4, v5, v6, v7, v8⟩ := hV
  have hlv := (v4 l hl).1
  obtain ⟨l1, l2, l3, ⟨G, l4, l5⟩, l6, l7, l8⟩ := hlv
  have hx : vs_ch h (am_up hh (ad (4 + l)) (vs_lo (ad (7 + l)) (c l))) (ad (10 + 2)) (ad (14 + 2)) := by
    refine ⟨fun q e1 e2 => ?_, hc.2⟩
    by_cases hq : q = ad (4 + l)
    · rw [hq, am_up_at, l1]
    · rw [am_up_ne _ _ hq]
      exact hc.1 q hq e1 e2
  have hVx := hV0.row (i := 2) (by omega) hx (hr.up _ h0 (by decide)) hL
  have e1 : hh = am_up (am_up hh (ad (4 + l)) (vs_lo (ad (7 + l)) (c l))) (ad (4 + l)) (vs_lo (ad (7 + l)) 0) := by rw [am_up_up, am_up_self h0]
  obtain ⟨w0, w1, w2, w3, w4, w5, w6, w7, w8⟩ := hVx
  obtain ⟨m1, m2, m3, ⟨G2, m4, m5⟩, m6, m7, m8⟩ := (w4 l hl).1
  have hVy := vs_V.lev ⟨w0, w1, w2, w3, w4, w5, w6, w7, w8⟩ hl (hh := am_up (am_up hh (ad (4 + l)) (vs_lo (ad (7 + l)) (c l))) (ad (4 + l)) (vs_lo (ad (7 + l)) 0)) (t' := tt l) (r' := rr l) (a' := aa l) (C' := C l) (fl' := fl l) (c' := 0) (vs_chl.upl _) (by
    refine ⟨am_up_at _ _ _, Nat.zero_le _, m3, ⟨G2, ?_, m5⟩, fun k hk => ?_, fun k hk => (m7 k hk).up _ m1 (by decide), m8⟩
    · rw [am_up_ne _ _ (am_ne m4 m1 (by simp))]; exact m4
    · rw [am_up_ne _ _ (am_ne (m6 k hk) m1 (by simp))]; exact m6 k hk) (fun k hk => ⟨k, hk, rfl, rfl, rfl⟩) (w4 l hl).2
  rw [va_up_id, va_up_id, va_up_id, va_up_id, va_up_id, ← e1] at hVy
  exact hVy
theorem vs_V.sv (hV : vs_V z h ad tt rr aa R C fl c tk cb tb sb g S En E v) {l : Nat} (hl : l < 3) : ∀ k, k < vm l → rr l k ≠ ad 12 ∧ aa l k ≠ ad 16 := by
  obtain ⟨v0, v1, v2, v3, v4, v5, v6, v7, v8⟩ := hV
  exact fun k hk => ⟨(v7.2.2.2.1 l k 12 hl hk (by omega)).2.1, (v7.2.2.2.1 l k 16 hl hk (by omega)).2.2⟩
theorem vl_pour (d : Nat) {l : Nat} (hl : l < 3) (hV : vs_V z h ad tt rr aa R C fl c tk cb tb sb g S En E v) (hroom : (R 2).length + (e_fl (C l) 0 (c l)).length ≤ 172) : ∃ h', am_M z (d + 1 + 1 + 1) 23 [.ref (ad (4 + l)), .ref (ad 12)] h none h' ∧ vs_V z h' ad tt rr aa (va_up R 2 ((e_fl (C l) 0 (c l)).foldl (e_ik E) (R 2))) C fl (va_up c l 0) tk cb tb sb g S En E v ∧ h'.2 = h.2 := by
  have hV0 := hV
  have hsv := hV.sv hl
  obtain ⟨v0, v1, v2, v3, v4, v5, v6, v7, v8⟩ := hV
  have hcm : c l ≤ vm l := (v4 l hl).1.2.1
  have hEn : ∀ x ∈ e_fl (C l) 0 (c l), En x := by
    intro x hx
    obtain ⟨i, i1, i2, i3⟩ := e_fl_mem _ _ _ _ hx
    exact (v4 l hl).2 i (by omega) x i3
  obtain ⟨h', m1, m2, m3, m4⟩ := le_pourInto z d (E := E) (v7.2.1 (4 + l) (by omega)) (v7.2.1 12 (by omega)) (v7.2.1 16 (by omega)) (v4 l hl).1 (v3 2 (by omega)).1 hsv (fun k hk x hx => (v1 x ((v4 l hl).2 k (by omega) x hx)).1) (fun x hx => (v1 x ((v3 2 (by omega)).2 x hx)).1) hroom
  refine ⟨h', m1, hV0.pour hl m4 m2 m3 ?_, m4.2⟩
  intro x hx
  rcases (e_ik_mem E x _ _).mp hx with q | q
  · exact hEn x q
  · exact (v3 2 (by omega)).2 x q
def e_m1 (E : Nat → Nat → Int32) (C : Nat → Nat → List Nat) (c : Nat → Nat) (u w : Nat) : List Nat := (e_fl (C u) 0 (c u)).foldl (e_ik E) ((e_fl (C w) 0 (c w)).foldl (e_ik E) [])
def e_m3 (E : Nat → Nat → Int32) (now : Int32) (bl w : Nat) (L : List Nat) : List Nat := if w = 2 then e_dg E now L.reverse bl [] else L
theorem e_dg_mem (E : Nat → Nat → Int32) (now : Int32) (x : Nat) : ∀ (T : List Nat) (lo : Nat) (acc : List Nat), x ∈ e_dg E now T lo acc → x ∈ T ∨ x ∈ acc
  | [], _, acc, hx => Or.inr hx
  | e :: t, lo, acc, hx => by
    unfold e_dg at hx
    split at hx
    · rcases e_dg_mem E now x t e (e :: acc) hx with q | q
      · exact Or.inl (List.mem_cons_of_mem _ q)
      · rcases List.mem_cons.mp q with q | q
        · rw [q]; exact Or.inl List.mem_cons_self
        · exact Or.inr q
    · rcases e_dg_mem E now x t lo acc hx with q | q
      · exact Or.inl (List.mem_cons_of_mem _ q)
      · exact Or.inr q
theorem e_du_mem (E : Nat → Nat → Int32) (ta : Nat → Nat → Bool) (x : Nat) : ∀ (L : List Nat) (p : Nat), x ∈ e_du E ta p L → x ∈ L
  | [], _, hx => hx
  | e :: t, p, hx => by
    unfold e_du at hx
    split at hx
    · rcases List.mem_cons.mp hx with q | q
      · rw [q]; exact List.mem_cons_self
      · exact List.mem_cons_of_mem _ (e_du_mem E ta x t e q)
    · exact List.mem_cons_of_mem _ (e_du_mem E ta x t e hx)
theorem vl_mergePair (d : Nat) {u w : Nat} (hu : u < 2) (hw : w = u + 1) (hV : vs_V z h ad tt rr aa R C fl c tk cb tb sb g S En E v) (hroom : (e_m1 E C c u w).length ≤ 172) (hcut : ((e_m3 E (v 0) (ad 1) w (e_du E (e_ta S E) (ad 1) (e_m1 E C c u w))).length + 5) / 6 ≤ vm w) :
    ∃ h' C2 fl2, am_M z (d + 1 + 1 + 1 + 1) 21 [.ref (ad 0), .ref (ad (4 + u)), .ref (ad (4 + w))] h (some (.int (nI ((e_m1 E C c u w).length - (e_m3 E (v 0) (ad 1) w (e_du E (e_ta S E) (ad 1) (e_m1 E C c u w))).length)))) h' ∧
      vs_V z h' ad tt rr aa (va_up R 2 (e_m3 E (v 0) (ad 1) w (e_du E (e_ta S E) (ad 1) (e_m1 E C c u w)))) (va_up C w C2) (va_up fl w fl2) (va_up (va_up c u 0) w (((e_m3 E (v 0) (ad 1) w (e_du E (e_ta S E) (ad 1) (e_m1 E C c u w))).length + 5) / 6)) tk cb tb sb g S En E v ∧ h'.2 = h.2 ∧
      ∀ k, k < ((e_m3 E (v 0) (ad 1) w (e_du E (e_ta S E) (ad 1) (e_m1 E C c u w))).length + 5) / 6 → C2 k = e_ck (e_m3 E (v 0) (ad 1) w (e_du E (e_ta S E) (ad 1) (e_m1 E C c u w))) k ∧ fl2 k = (e_ck (e_m3 E (v 0) (ad 1) w (e_du E (e_ta S E) (ad 1) (e_m1 E C c u w))) k).foldl (e_ff E) 0 := by
  have hw3 : w < 3 := by omega
  have hu3 : u < 3 := by omega
  have hne : u ≠ w := by omega
  have hV0 := hV
  obtain ⟨v0, v1, v2, v3, v4, v5, v6, v7, v8⟩ := hV
  have r0 := (v3 2 (by omega)).1
  have p0 := r0.1
  have hlen1 : (e_m1 E C c u w).length = (e_fl (C w) 0 (c w)).length + (e_fl (C u) 0 (c u)).length := by
    unfold e_m1
    rw [e_ik_len, e_ik_len, List.length_nil, Nat.zero_add]
  obtain ⟨h1, a1, a2, a3⟩ := ro_clear' z (d + 1 + 1) (v7.2.1 12 (by omega)) r0
  have hV1 := hV0.row (i := 2) (by omega) a3 a2 (fun x hx => by cases hx)
  obtain ⟨h2, b1, b2, b3⟩ := vl_pour d hw3 hV1 (by rw [va_up_self, List.length_nil]; omega)
  rw [va_up_self] at b2
  have e1 : ∀ x y : List Nat, va_up (va_up R 2 x) 2 y = va_up R 2 y := fun x y => bx_uu R 2 x y
  rw [e1] at b2
  obtain ⟨h3, c1, c2, c3⟩ := vl_pour d hu3 b2 (by rw [va_up_self, va_up_ne _ _ hne, e_ik_len, List.length_nil]; omega)
  rw [va_up_self, e1, va_up_ne _ _ hne] at c2
  have hm1 : (e_fl (C u) 0 (c u)).foldl (e_ik E) ((e_fl (C w) 0 (c w)).foldl (e_ik E) []) = e_m1 E C c u w := rfl
  rw [hm1] at c2
  generalize hL1 : e_m1 E C c u w = L1 at *
  have hV3 := c2
  obtain ⟨x0, x1, x2, x3, x4, x5, x6, x7, x8⟩ := c2
  have r3 := (x3 2 (by omega)).1
  have hn3 := (x3 2 (by omega)).2
  rw [va_up_self] at r3 hn3
  obtain ⟨h4, d1, d2, d3⟩ := ro_dropUnseen z (d + 1) (E := E) (v7.2.1 12 (by omega)) (v7.2.1 16 (by omega)) r3 x6 (x1 _ x2).1 (fun x hx => (x1 x (hn3 x hx)).1)
  have hL2n : ∀ x ∈ e_du E (e_ta S E) (ad 1) L1, En x := fun x hx => hn3 x (e_du_mem _ _ _ _ _ hx)
  have hV4 := hV3.row (i := 2) (by omega) d3 d2 hL2n
  rw [e1] at hV4
  have hlen2 := e_du_len E (e_ta S E) (ad 1) L1
  generalize hL2 : e_du E (e_ta S E) (ad 1) L1 = L2 at *
  -- the second half, where the lower level is the lowest
  have third : ∃ h5, (am_R z (d + 1 + 1 + 1) 21 57 [some (.ref (ad 0)), some (.ref (ad (4 + u))), some (.ref (ad (4 + w))), some (.int (nI (L1.length - (e_m3 E (v 0) (ad 1) w L2).length)))] [] h5 (some (.int (nI (L1.length - (e_m3 E (v 0) (ad 1) w L2).length)))) =
      am_R z (d + 1 + 1 + 1) 21 57 [some (.ref (ad 0)), some (.ref (ad (4 + u))), some (.ref (ad (4 + w))), some (.int (nI (L1.length - (e_m3 E (v 0) (ad 1) w L2).length)))] [] h5 (some (.int (nI (L1.length - (e_m3 E (v 0) (ad 1) w L2).length))))) ∧ vs_V z h5 ad tt rr aa (va_up R 2 (e_m3 E (v 0) (ad 1) w L2)) C fl (va_up (va_up c w 0) u 0) tk cb tb sb g S En E v ∧ h5.2 = h.2 ∧ (∀ r' hx, am_R z (d + 1 + 1 + 1) 21 57 [some (.ref (ad 0)), some (.ref (ad (4 + u))), some (.ref (ad (4 + w))), some (.int (nI (L1.length - (e_m3 E (v 0) (ad 1) w L2).length)))] [] h5 r' hx → am_R z (d + 1 + 1 + 1) 21 35 [some (.ref (ad 0)), some (.ref (ad (4 + u))), some (.ref (ad (4 + w))), some (.int (nI (L1.length - L2.length)))] [] h4 r' hx) ∧ (e_m3 E (v 0) (ad 1) w L2).length ≤ L2.length ∧ ∀ x ∈ e_m3 E (v 0) (ad 1) w L2, En x := by
    have hV4' := hV4
    obtain ⟨y0, y1, y2, y3, y4, y5, y6, y7, y8⟩ := hV4
    have r4 := (y3 2 (by omega)).1
    rw [va_up_self] at r4
    have p4 := r4.1
    by_cases hw2 : w = 2
    · obtain ⟨h5, f1, f2, f3⟩ := ro_dropGone z (d + 1) (E := E) (now := v 0) (v7.2.1 12 (by omega)) (v7.2.1 16 (by omega)) r4 (y1 _ y2).1 (fun x hx => (y1 x (hL2n x hx)).1)
      have hm3 : e_m3 E (v 0) (ad 1) w L2 = e_dg E (v 0) L2.reverse (ad 1) [] := by simp [e_m3, hw2]
      have hlen3 := e_dg_len E (v 0) L2.reverse (ad 1) []
      rw [List.length_reverse, List.length_nil, Nat.add_zero] at hlen3
      have hn5 : ∀ x ∈ e_dg E (v 0) L2.reverse (ad 1) [], En x := by
        intro x hx
        rcases e_dg_mem _ _ _ _ _ _ hx with q | q
        · exact hL2n x (List.mem_reverse.mp q)
        · cases q
      have hV5 := hV4'.row (i := 2) (by omega) f3 f2 hn5
      rw [e1] at hV5
      rw [hm3]
      refine ⟨h5, rfl, hV5, by rw [f3.2, d3.2, c3, b3, a3.2], ?_, hlen3, hn5⟩
      intro r' hx k5
      have e5 : nI (L1.length - L2.length) + nI (L2.length - (e_dg E (v 0) L2.reverse (ad 1) []).length) = nI (L1.length - (e_dg E (v 0) L2.reverse (ad 1) []).length) := by
        rw [nI_add]
        congr 1
        omega
      have e6 : ad (4 + w) = ad 6 := by rw [hw2]
      revert k5
      rw [e6]
      simp only [am_R_eq, cx_21, en_21, rt_21, rx_aload_n, rx_getfield, ev_gf, rx_iadd, rx_acmp_ne, rx_iload_n, rx_invv, ev_cv, rx_ireturn, rx_istore_n, kl_22, kl_23, kl_28, kl_30, kl_32, ev_K, ev_pI, ev_pR, ev_pVi, ev_pVr, ev_sI, ev_sR, ev_KC, ev_k, ev_ko, ev_pop0, ev_pops, am_ld, am_sv, am_at, am_st, am_g, List.length_cons, List.length_nil, Nat.reduceAdd, Nat.reduceLT, Nat.zero_add, if_true, if_false, and_self, true_or, or_true, true_and, and_true, not_true_eq_false, not_false_eq_true, reduceCtorEq, eq_self, Option.toList_some, Option.toList_none, List.cons_append, List.nil_append, Bool.false_eq_true, y0, p4]
      intro k5
      refine am_CL_of f1 ?_
      simp only [am_R_eq, cx_21, en_21, rt_21, rx_aload_n, rx_getfield, ev_gf, rx_iadd, rx_acmp_ne, rx_iload_n, rx_invv, ev_cv, rx_ireturn, rx_istore_n, kl_22, kl_23, kl_28, kl_30, kl_32, ev_K, ev_pI, ev_pR, ev_pVi, ev_pVr, ev_sI, ev_sR, ev_KC, ev_k, ev_ko, ev_pop0, ev_pops, am_ld, am_sv, am_at, am_st, am_g, List.length_cons, List.length_nil, Nat.reduceAdd, Nat.reduceLT, Nat.zero_add, if_true, if_false, and_self, true_or, or_true, true_and, and_true, not_true_eq_false, not_false_eq_true, reduceCtorEq, eq_self, Option.toList_some, Option.toList_none, List.cons_append, List.nil_append, Bool.false_eq_true, e5]
      exact k5
    · have hm3 : e_m3 E (v 0) (ad 1) w L2 = L2 := by simp [e_m3, hw2]
      rw [hm3]
      refine ⟨h4, rfl, hV4', by rw [d3.2, c3, b3, a3.2], ?_, Nat.le_refl _, hL2n⟩
      intro r' hx k5
      have e6 : ¬ ad (4 + w) = ad 6 := v7.1 _ _ (by omega) (by omega) (by omega)
      revert k5
      simp only [am_R_eq, cx_21, en_21, rt_21, rx_aload_n, rx_getfield, ev_gf, rx_iadd, rx_acmp_ne, rx_iload_n, rx_invv, ev_cv, rx_ireturn, rx_istore_n, kl_22, kl_23, kl_28, kl_30, kl_32, ev_K, ev_pI, ev_pR, ev_pVi, ev_pVr, ev_sI, ev_sR, ev_KC, ev_k, ev_ko, ev_pop0, ev_pops, am_ld, am_sv, am_at, am_st, am_g, List.length_cons, List.length_nil, Nat.reduceAdd, Nat.reduceLT, Nat.zero_add, if_true, if_false, and_self, true_or, or_true, true_and, and_true, not_true_eq_false, not_false_eq_true, reduceCtorEq, eq_self, Option.toList_some, Option.toList_none, List.cons_append, List.nil_append, Bool.false_eq_true, y0, e6]
      exact fun q => q
  obtain ⟨h5, -, hV5, s5, k5, hlen3, hn5⟩ := third
  generalize hL3 : e_m3 E (v 0) (ad 1) w L2 = L3 at *
  have hV5' := hV5
  have hsv := hV5.sv hw3
  obtain ⟨y0, y1, y2, y3, y4, y5, y6, y7, y8⟩ := hV5
  have r5 := (y3 2 (by omega)).1
  rw [va_up_self] at r5
  obtain ⟨h6, C2, fl2, g1, g2, g3, g4, g5⟩ := le_cutFrom z d (E := E) (v7.2.1 (4 + w) (by omega)) (fun k hk => v7.2.2.1 w k hw3 hk) (y4 w hw3).1 r5 hsv (fun x hx => (y1 x (hn5 x hx)).1) (by rcases (by omega : w = 1 ∨ w = 2) with q | q <;> subst q <;> decide) hcut
  have hC2 : ∀ k, k < vm w → ∀ x ∈ C2 k, En x := by
    intro k hk x hx
    rcases g5 k with q | q
    · rw [q] at hx
      exact hn5 x (List.mem_of_mem_take (List.mem_of_mem_drop hx))
    · rw [q] at hx
      exact (y4 w hw3).2 k hk x hx
  have hV6 := hV5'.lev hw3 g4 g2 (fun k hk => ⟨k, hk, rfl, rfl, rfl⟩) hC2
  rw [va_up_id, va_up_id, va_up_id] at hV6
  have e7 : va_up (va_up (va_up c w 0) u 0) w ((L3.length + 5) / 6) = va_up (va_up c u 0) w ((L3.length + 5) / 6) := by
    funext i
    unfold va_up
    by_cases i1 : i = w
    · simp [i1]
    · simp [i1]
  rw [e7] at hV6
  refine ⟨h6, C2, fl2, ?_, hV6, by rw [g4.2, s5], g3⟩
  have p5 := r5.1
  have fin : am_R z (d + 1 + 1 + 1) 21 57 [some (.ref (ad 0)), some (.ref (ad (4 + u))), some (.ref (ad (4 + w))), some (.int (nI (L1.length - L3.length)))] [] h5 (some (.int (nI (L1.length - L3.length)))) h6 := by
    have lw := (y4 w hw3).1.1
    simp only [am_R_eq, cx_21, en_21, rt_21, rx_aload_n, rx_getfield, ev_gf, rx_iadd, rx_acmp_ne, rx_iload_n, rx_invv, ev_cv, rx_ireturn, rx_istore_n, kl_22, kl_23, kl_28, kl_30, kl_32, ev_K, ev_pI, ev_pR, ev_pVi, ev_pVr, ev_sI, ev_sR, ev_KC, ev_k, ev_ko, ev_pop0, ev_pops, am_ld, am_sv, am_at, am_st, am_g, List.length_cons, List.length_nil, Nat.reduceAdd, Nat.reduceLT, Nat.zero_add, if_true, if_false, and_self, true_or, or_true, true_and, and_true, not_true_eq_false, not_false_eq_true, reduceCtorEq, eq_self, Option.toList_some, Option.toList_none, List.cons_append, List.nil_append, Bool.false_eq_true, y0, lw]
    refine am_CL_of g1 ?_
    simp only [am_R_eq, cx_21, en_21, rt_21, rx_aload_n, rx_getfield, ev_gf, rx_iadd, rx_acmp_ne, rx_iload_n, rx_invv, ev_cv, rx_ireturn, rx_istore_n, kl_22, kl_23, kl_28, kl_30, kl_32, ev_K, ev_pI, ev_pR, ev_pVi, ev_pVr, ev_sI, ev_sR, ev_KC, ev_k, ev_ko, ev_pop0, ev_pops, am_ld, am_sv, am_at, am_st, am_g, List.length_cons, List.length_nil, Nat.reduceAdd, Nat.reduceLT, Nat.zero_add, if_true, if_false, and_self, true_or, or_true, true_and, and_true, not_true_eq_false, not_false_eq_true, reduceCtorEq, eq_self, Option.toList_some, Option.toList_none, List.cons_append, List.nil_append, Bool.false_eq_true]
  have k6 := k5 _ _ fin
  obtain ⟨w0, w1, w2, w3, w4, -⟩ := hV1
  obtain ⟨u0, u1, u2, u3, u4, -⟩ := b2
  have lw1 := (w4 w hw3).1.1
  have lw2 := (u4 u hu3).1.1
  have ls3 := r3.1
  have s3 := x6.1
  rw [am_M_eq]
  simp only [am_R_eq, cx_21, en_21, rt_21, rx_aload_n, rx_getfield, ev_gf, rx_iadd, rx_acmp_ne, rx_iload_n, rx_invv, ev_cv, rx_ireturn, rx_istore_n, kl_22, kl_23, kl_28, kl_30, kl_32, ev_K, ev_pI, ev_pR, ev_pVi, ev_pVr, ev_sI, ev_sR, ev_KC, ev_k, ev_ko, ev_pop0, ev_pops, am_ld, am_sv, am_at, am_st, am_g, List.length_cons, List.length_nil, Nat.reduceAdd, Nat.reduceLT, Nat.zero_add, if_true, if_false, and_self, true_or, or_true, true_and, and_true, not_true_eq_false, not_false_eq_true, reduceCtorEq, eq_self, Option.toList_some, Option.toList_none, List.cons_append, List.nil_append, Bool.false_eq_true, v0, p0]
  refine am_CL_of a1 ?_
  simp only [am_R_eq, cx_21, en_21, rt_21, rx_aload_n, rx_getfield, ev_gf, rx_iadd, rx_acmp_ne, rx_iload_n, rx_invv, ev_cv, rx_ireturn, rx_istore_n, kl_22, kl_23, kl_28, kl_30, kl_32, ev_K, ev_pI, ev_pR, ev_pVi, ev_pVr, ev_sI, ev_sR, ev_KC, ev_k, ev_ko, ev_pop0, ev_pops, am_ld, am_sv, am_at, am_st, am_g, List.length_cons, List.length_nil, Nat.reduceAdd, Nat.reduceLT, Nat.zero_add, if_true, if_false, and_self, true_or, or_true, true_and, and_true, not_true_eq_false, not_false_eq_true, reduceCtorEq, eq_self, Option.toList_some, Option.toList_none, List.cons_append, List.nil_append, Bool.false_eq_true, w0, lw1]
  refine am_CL_of b1 ?_
  simp only [am_R_eq, cx_21, en_21, rt_21, rx_aload_n, rx_getfield, ev_gf, rx_iadd, rx_acmp_ne, rx_iload_n, rx_invv, ev_cv, rx_ireturn, rx_istore_n, kl_22, kl_23, kl_28, kl_30, kl_32, ev_K, ev_pI, ev_pR, ev_pVi, ev_pVr, ev_sI, ev_sR, ev_KC, ev_k, ev_ko, ev_pop0, ev_pops, am_ld, am_sv, am_at, am_st, am_g, List.length_cons, List.length_nil, Nat.reduceAdd, Nat.reduceLT, Nat.zero_add, if_true, if_false, and_self, true_or, or_true, true_and, and_true, not_true_eq_false, not_false_eq_true, reduceCtorEq, eq_self, Option.toList_some, Option.toList_none, List.cons_append, List.nil_append, Bool.false_eq_true, u0, lw2]
  refine am_CL_of c1 ?_
  simp only [am_R_eq, cx_21, en_21, rt_21, rx_aload_n, rx_getfield, ev_gf, rx_iadd, rx_acmp_ne, rx_iload_n, rx_invv, ev_cv, rx_ireturn, rx_istore_n, kl_22, kl_23, kl_28, kl_30, kl_32, ev_K, ev_pI, ev_pR, ev_pVi, ev_pVr, ev_sI, ev_sR, ev_KC, ev_k, ev_ko, ev_pop0, ev_pops, am_ld, am_sv, am_at, am_st, am_g, List.length_cons, List.length_nil, Nat.reduceAdd, Nat.reduceLT, Nat.zero_add, if_true, if_false, and_self, true_or, or_true, true_and, and_true, not_true_eq_false, not_false_eq_true, reduceCtorEq, eq_self, Option.toList_some, Option.toList_none, List.cons_append, List.nil_append, Bool.false_eq_true, x0, ls3]
  refine am_CL_of d1 ?_
  revert k6
  simp only [am_R_eq, cx_21, en_21, rt_21, rx_aload_n, rx_getfield, ev_gf, rx_iadd, rx_acmp_ne, rx_iload_n, rx_invv, ev_cv, rx_ireturn, rx_istore_n, kl_22, kl_23, kl_28, kl_30, kl_32, ev_K, ev_pI, ev_pR, ev_pVi, ev_pVr, ev_sI, ev_sR, ev_KC, ev_k, ev_ko, ev_pop0, ev_pops, am_ld, am_sv, am_at, am_st, am_g, List.length_cons, List.length_nil, Nat.reduceAdd, Nat.reduceLT, Nat.zero_add, if_true, if_false, and_self, true_or, or_true, true_and, and_true, not_true_eq_false, not_false_eq_true, reduceCtorEq, eq_self, Option.toList_some, Option.toList_none, List.cons_append, List.nil_append, Bool.false_eq_true]
  exact fun q => q
end VM
