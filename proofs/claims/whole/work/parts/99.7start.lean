section LWS
theorem vs_V_2 {z : Nat} {h : am_H} {ad : Nat → Nat} {tt rr aa : Nat → Nat → Nat} {R : Nat → List Nat} {C : Nat → Nat → List Nat} {fl : Nat → Nat → Int32} {c : Nat → Nat} {tk cb tb sb g : Nat → Nat} {S : Nat → Int32} {En : Nat → Prop} {E : Nat → Nat → Int32} {v : Nat → Int32} (hV : vs_V z h ad tt rr aa R C fl c tk cb tb sb g S En E v) {s : Nat × Nat} (hs : h.2.1 ≤ s.1) : vs_V z (h.1, s) ad tt rr aa R C fl c tk cb tb sb g S En E v := by
  obtain ⟨v0, v1, v2, v3, v4, v5, v6, v7, v8⟩ := hV
  exact ⟨v0, v1, v2, v3, v4, v5, v6, v7, fun a e he => Nat.lt_of_lt_of_le (v8 a e he) hs⟩
theorem k_init {z x a0 xm : Nat} {hv hm : am_H} {tt rr aa : Nat → Nat → Nat} {A : Nat → Nat} (hV : vs_V z hv (vi_ad x a0) tt rr aa (fun _ => []) (fun _ _ => []) (fun _ _ => 0) (fun _ => 0) (fun _ => 0) (fun _ => 0) (fun _ => 0) (fun _ => 0) (e_lg 0 1 0) (fun i => if i < 3 then -1 else 0) (fun e => e = a0) (vi_E a0) (fun _ => 0)) (hM : vs_M z hm xm A (fun _ => 0) (fun _ _ => 0)) : k_J z 0 x xm hv hm := by
  have e600 : vi_ad x a0 1 = a0 := rfl
  refine ⟨vi_ad x a0, tt, rr, aa, _, _, _, _, _, _, _, _, _, _, _, _, _, A, _, _, fun _ => a0, 0, 0, 0, 0, 0, [], fun _ => [], [], [], rfl, hV, hM, ?_, ?_, ?_, ?_, ?_, ?_, ?_, ?_⟩
  · refine ⟨rfl, fun a b ha hb _ => ?_, fun a _ => rfl, rfl, rfl, rfl⟩
    rcases ha with h | h
    · omega
    · rcases hb with h' | h'
      · omega
      · omega
  · refine ⟨rfl, rfl, fun l hl => ?_, fun l k hl hk => absurd hk (Nat.not_lt_zero k)⟩
    have : l = 0 ∨ l = 1 ∨ l = 2 := by omega
    rcases this with h | h | h <;> subst h <;> rfl
  · exact ⟨fun i hi => absurd hi (Nat.not_lt_zero i), fun j hj => absurd hj (Nat.not_lt_zero j)⟩
  · have nal : ∀ i, ¬ k_al (fun _ _ => (0 : Int32)) 0 i := fun i h => absurd h.1 (Nat.not_lt_zero i)
    have nat0 : ∀ b : Int32, k_at (fun _ _ => (0 : Int32)) 0 b [] := fun b i => ⟨fun h => (by cases h), fun h => absurd h.1 (Nat.not_lt_zero i)⟩
    exact ⟨⟨⟨fun i h => absurd h (nal i), fun i j h => absurd h (nal i), fun i j h => absurd h (nal i), fun i h => absurd h (Nat.not_lt_zero i)⟩, k_Z_0 (by omega) _ (fun i h => absurd h (Nat.not_lt_zero i)), ⟨List.Pairwise.nil, nat0 1⟩, ⟨List.Pairwise.nil, nat0 2⟩, by simp, by simp, k_R_nil _, k_R_nil _, List.Pairwise.nil, nat0 (-1)⟩, fun j x hx => by simp at hx, by simp⟩
  · intro s hs
    refine ⟨?_, .inl rfl, fun h => absurd rfl h⟩
    show (if s < 3 then (-1 : Int32) else 0) = if (0 : Int32) = 0 then -1 else 0
    rw [if_pos hs, if_pos rfl]
  · exact ⟨⟨fun i h => absurd h.1 (Nat.not_lt_zero i), fun i j h => absurd h.1 (Nat.not_lt_zero i), fun k hk => Nat.zero_le _, Nat.le_refl 1, by show 1 ≤ 8; omega, by show 0 < 5000; omega⟩, fun k hk => rfl, k_U_0 _ _ _ _ _ _ _ _ _ _⟩
  · exact ⟨⟨rfl, rfl⟩, ⟨rfl, rfl⟩, rfl, rfl, rfl, rfl, rfl, rfl, rfl, rfl⟩
  · exact ⟨⟨by omega, by omega⟩, by omega, by omega, by omega, by show 0 + 1 ≤ 8 * 0 + 1; omega, by omega⟩
def lw_h0 (z : Nat) : am_H := (fun _ => none, z, 0)
def lw_o (a : Nat) (e : am_E) (s : Nat × Nat) : am_H := (fun q => if q = a then some e else none, s)
theorem lw_run {z b L : Nat} {xs : Nat → Int32} (hL : L ≤ 2048) (hb : b < z) : ∃ h', bm_R (am_Cx z 7 b L xs) z 143 0 (am_en 143 [.ref b]) [] (am_jn (lw_h0 z) (am_sc b L xs)) (some (.int 1)) h' ∧ h'.2.1 ≤ z + 1000 ∧ h'.2.2 ≤ 20000 := by
  have e0 : am_nw (lw_h0 z) (.inr (0, am_df 0)) 14 = lw_o z (.inr (0, am_df 0)) (z + 1, 14) := by
    refine Prod.ext ?_ rfl
    funext q
    rfl
  have hf0 : am_fr (lw_o z (.inr (0, am_df 0)) (z + 1, 14)) := by
    intro a e he
    have he : (if a = z then some _ else none) = some e := he
    by_cases ha : a = z
    · show a < z + 1; omega
    · rw [if_neg ha] at he; cases he
  have hx0 : (lw_o z (.inr (0, am_df 0)) (z + 1, 14)).1 z = some (.inr (0, am_df 0)) := by
    show (if z = z then some _ else none) = _
    rw [if_pos rfl]
  obtain ⟨hv1, a1, a2, a3, a4⟩ := vl_init z 3 hf0 (Nat.le_refl z) hx0
  have a4' : hv1.2 = (z + 125, 701) := by rw [a4]; rfl
  have d1 := am_M_dm _ _ _ _ _ _ a1
  have b0 : (lw_o z (.inr (0, am_df 0)) (z + 1, 14)).1 b = none := by
    show (if b = z then some _ else none) = none
    rw [if_neg (by omega)]
  have b1 : hv1.1 b = none := d1.2 b b0 (by show b < z + 1; omega)
  have hfv := a2.2.2.2.2.2.2.2.2
  have hf1 : am_fr (lw_o (z + 125) (.inr (7, am_df 7)) (z + 126, 731)) := by
    intro a e he
    have he : (if a = z + 125 then some _ else none) = some e := he
    by_cases ha : a = z + 125
    · show a < z + 126; omega
    · rw [if_neg ha] at he; cases he
  have hx1 : (lw_o (z + 125) (.inr (7, am_df 7)) (z + 126, 731)).1 (z + 125) = some (.inr (7, am_df 7)) := by
    show (if z + 125 = z + 125 then some _ else none) = _
    rw [if_pos rfl]
  obtain ⟨hm1, c1, c2, c3, c4⟩ := mo_init z 6 hf1 (by omega) (by show z ≤ z + 126; omega) hx1
  have c4' : hm1.2 = (z + 146, 6531) := by rw [c4]; rfl
  have d2 := am_M_dm _ _ _ _ _ _ c1
  have n0 : ∀ a, a < z + 125 → hm1.1 a = none := by
    intro a ha
    refine d2.2 a ?_ (by show a < z + 126; omega)
    show (if a = z + 125 then some _ else none) = none
    rw [if_neg (by omega)]
  have dj : ∀ a, hv1.1 a ≠ none → hm1.1 a = none := by
    intro a ha
    cases h3 : hv1.1 a with
    | none => exact absurd h3 ha
    | some e =>
      have := hfv a e h3
      rw [a4'] at this
      exact n0 a this
  have b2 : hm1.1 b = none := n0 b (by omega)
  have e1 : am_nw hv1 (.inr (7, am_df 7)) 30 = am_jn (lw_o (z + 125) (.inr (7, am_df 7)) (z + 126, 731)) hv1.1 := by
    refine Prod.ext ?_ ?_
    · funext q
      show (if q = hv1.2.1 then some _ else hv1.1 q) = _
      rw [a4']
      by_cases hq : q = z + 125
      · have h1 : (lw_o (z + 125) (.inr (7, am_df 7)) (z + 126, 731)).1 q = some (.inr (7, am_df 7)) := by
          show (if q = z + 125 then some _ else none) = _
          rw [if_pos hq]
        rw [am_jn_some h1, if_pos hq]
      · have h1 : (lw_o (z + 125) (.inr (7, am_df 7)) (z + 126, 731)).1 q = none := by
          show (if q = z + 125 then some _ else none) = _
          rw [if_neg hq]
        rw [am_jn_none h1, if_neg hq]
    · show (hv1.2.1 + 1, hv1.2.2 + 30) = (z + 126, 731)
      rw [a4']
  have c5 := am_M_jn (G := hv1.1) _ _ _ _ _ _ c1
  rw [← e1] at c5
  have dj' : ∀ a, ((hv1.1, hm1.2) : am_H).1 a ≠ none → hm1.1 a = none := dj
  have e2 : am_jn hm1 hv1.1 = am_jn (hv1.1, hm1.2) hm1.1 := (lw_cm dj').symm
  rw [e2] at c5
  have hI : lw_I z 0 z (z + 125) b (z + 146) 6531 (hv1.1, hm1.2) hm1 := by
    refine ⟨k_init (vs_V_2 a2 (by rw [a4', c4']; show z + 125 ≤ z + 146; omega)) c2, rfl, dj, b1, b2, ?_, ?_, ?_⟩
    · show b < hm1.2.1; rw [c4']; show b < z + 146; omega
    · show hm1.2.1 ≤ _; rw [c4']; exact Nat.le_refl _
    · show hm1.2.2 ≤ _; rw [c4']; exact Nat.le_refl _
  obtain ⟨h', p1, p2, p3⟩ := lw_loop hL 513 0 _ _ (by omega) (by omega) hI
  refine ⟨h', ?_, by omega, by omega⟩
  have nb : (am_nw hv1 (.inr (7, am_df 7)) 30).1 b = none := by
    rw [am_nw_ne _ _ _ (by rw [a4']; show b ≠ z + 125; omega)]; exact b1
  have nb3 : (am_jn (hv1.1, hm1.2) hm1.1).1 b = none := by
    have h1 : ((hv1.1, hm1.2) : am_H).1 b = none := b1
    rw [am_jn_none h1]; exact b2
  have q1 := am_Cx_of (L := L) (xs := xs) b0 b1 a1
  have q2 := am_Cx_of (L := L) (xs := xs) nb nb3 c5
  have z0 : (am_jn (lw_h0 z) (am_sc b L xs)).2.1 = z := rfl
  have z1 : (am_jn hv1 (am_sc b L xs)).2.1 = z + 125 := by show hv1.2.1 = _; rw [a4']
  have i0 : (0 : Int32) = nI (4 * 0) := rfl
  rw [bm_R_eq] at p1
  simp only [bm_R_eq, cx_143, en_143, rt_143, ry_aload_n, ry_arraylength, ev_ln, ev_pN, ry_astore_n, ry_bipush, ry_dup_i, ry_dup_r, ry_goto, ry_iadd, ry_iaload, ry_iand, ry_iconst, ry_icmp_eq, ry_icmp_gt, ry_iinc, ev_inc, ry_iload_n, ry_invi, ev_cs, ry_invv, ev_cv, ry_ireturn, ry_istore_n, ry_isub, ry_new, ry_tableswitch, kl_0, kl_9, kl_14, kl_15, kl_42, kl_43, kl_44, kl_46, kl_56, kl_58, kl_61, kl_62, kl_69, kl_80, kl_81, kl_82, kl_83, kl_86, kl_91, kl_93, kl_94, kl_97, kl_98, kl_113, kl_114, kl_115, kl_116, kl_121, kl_122, kl_123, kl_124, kl_125, kl_136, kl_137, kl_139, kl_140, kl_141, kl_142, ew_K, ev_pI, ev_pR, ev_pVi, ev_pVr, ev_sI, ev_sR, ew_KC, ev_k, ev_ko, ev_pop0, ev_pops, am_ld, am_sv, am_at, am_st, am_g, List.length_cons, List.length_nil, Nat.reduceAdd, Nat.reduceLT, Nat.zero_add, if_true, if_false, and_self, true_or, or_true, true_and, and_true, not_true_eq_false, not_false_eq_true, reduceCtorEq, eq_self, Option.toList_some, Option.toList_none, List.cons_append, List.nil_append, Bool.false_eq_true, am_jn_nw, e0, z0, Nat.reduceLeDiff]
  refine bm_CL_of q1 ?_
  simp only [bm_R_eq, cx_143, en_143, rt_143, ry_aload_n, ry_arraylength, ev_ln, ev_pN, ry_astore_n, ry_bipush, ry_dup_i, ry_dup_r, ry_goto, ry_iadd, ry_iaload, ry_iand, ry_iconst, ry_icmp_eq, ry_icmp_gt, ry_iinc, ev_inc, ry_iload_n, ry_invi, ev_cs, ry_invv, ev_cv, ry_ireturn, ry_istore_n, ry_isub, ry_new, ry_tableswitch, kl_0, kl_9, kl_14, kl_15, kl_42, kl_43, kl_44, kl_46, kl_56, kl_58, kl_61, kl_62, kl_69, kl_80, kl_81, kl_82, kl_83, kl_86, kl_91, kl_93, kl_94, kl_97, kl_98, kl_113, kl_114, kl_115, kl_116, kl_121, kl_122, kl_123, kl_124, kl_125, kl_136, kl_137, kl_139, kl_140, kl_141, kl_142, ew_K, ev_pI, ev_pR, ev_pVi, ev_pVr, ev_sI, ev_sR, ew_KC, ev_k, ev_ko, ev_pop0, ev_pops, am_ld, am_sv, am_at, am_st, am_g, List.length_cons, List.length_nil, Nat.reduceAdd, Nat.reduceLT, Nat.zero_add, if_true, if_false, and_self, true_or, or_true, true_and, and_true, not_true_eq_false, not_false_eq_true, reduceCtorEq, eq_self, Option.toList_some, Option.toList_none, List.cons_append, List.nil_append, Bool.false_eq_true, am_jn_nw, z1, Nat.reduceLeDiff]
  refine bm_CL_of q2 ?_
  simp only [bm_R_eq, cx_143, en_143, rt_143, ry_aload_n, ry_arraylength, ev_ln, ev_pN, ry_astore_n, ry_bipush, ry_dup_i, ry_dup_r, ry_goto, ry_iadd, ry_iaload, ry_iand, ry_iconst, ry_icmp_eq, ry_icmp_gt, ry_iinc, ev_inc, ry_iload_n, ry_invi, ev_cs, ry_invv, ev_cv, ry_ireturn, ry_istore_n, ry_isub, ry_new, ry_tableswitch, kl_0, kl_9, kl_14, kl_15, kl_42, kl_43, kl_44, kl_46, kl_56, kl_58, kl_61, kl_62, kl_69, kl_80, kl_81, kl_82, kl_83, kl_86, kl_91, kl_93, kl_94, kl_97, kl_98, kl_113, kl_114, kl_115, kl_116, kl_121, kl_122, kl_123, kl_124, kl_125, kl_136, kl_137, kl_139, kl_140, kl_141, kl_142, ew_K, ev_pI, ev_pR, ev_pVi, ev_pVr, ev_sI, ev_sR, ew_KC, ev_k, ev_ko, ev_pop0, ev_pops, am_ld, am_sv, am_at, am_st, am_g, List.length_cons, List.length_nil, Nat.reduceAdd, Nat.reduceLT, Nat.zero_add, if_true, if_false, and_self, true_or, or_true, true_and, and_true, not_true_eq_false, not_false_eq_true, reduceCtorEq, eq_self, Option.toList_some, Option.toList_none, List.cons_append, List.nil_append, Bool.false_eq_true, Nat.reduceLeDiff]
  exact p1
end LWS
