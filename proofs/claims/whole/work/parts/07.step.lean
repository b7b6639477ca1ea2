def am_cx (p : Program) (c : Code) (meth : Method) (j : Nat) (s : State) (m : MethodId) (args : Array Value) (D : va_G) (cA : Nat → ClassId) : Prop :=
  p.tables.exec = Jvm.exec ∧ c.code = am_by j ∧ c.maxLocals = am_mx j ∧ s.vm.findClass (am_y j).cls = some m.cls ∧ (∀ w ∈ am_WS, w.before args s = true) ∧ am_KX D cA s ∧ meth.name = (am_y j).name
section AMS
variable {p : Program} {l : Launch} {e : Env} {R : Room} {s : State} {m : MethodId} {args : Array Value} {below : List Frame} {meth : Method} {c : Code} {H : Heap} {locs : List Loc} {cells slots : Nat} {Q : State → Prop}
variable {D : va_G} {cA : Nat → ClassId} {j pc : Nat} {ls : Array Slot}
theorem am_ix_spec {i : Int32} {n k : Nat} (h : am_ix i n = some k) : vp_in i n ∧ k = i.toNatClampNeg := by
  unfold am_ix at h
  split at h
  · cases h
  · rename_i hn
    exact ⟨hn, (Option.some.inj h).symm⟩
theorem am_tyA {U : State} (hK : va_K D am_cl (am_tys cA) U) {t : Nat} (ht : 2 ≤ t ∧ t < 4) : ∃ r : vw_C, am_cl[am_ec t]? = some r ∧ (am_tys cA)[t]? = some (cA t, .object r.1) := by
  obtain ⟨h2, h4⟩ := ht
  rcases (by omega : t = 2 ∨ t = 3) with rfl | rfl
  · exact ⟨_, am_ec2, rfl⟩
  · exact ⟨_, am_ec3, rfl⟩
set_option maxHeartbeats 4000000 in
theorem am_ss (hc : am_cx p c meth j s m args D cA) (hR : 1 ≤ R.frames ∧ 40 ≤ R.locals) (hcs : cells ≤ R.cells ∧ slots ≤ R.slots) {i : Instr} {l' x y : Nat} {cc : Int32} {ts : List Nat} {lo : am_L} {st : List Value} {h : am_H} {q : am_C} (hd : decode (am_by j) pc = .ok (i, l')) (hv : am_vb j pc (i, l', x, y, cc, ts) = true) (hs : am_s i x y cc ts (pc + l') lo st h = some q) (hl : am_rl (am_mx j) ls lo) (hW : am_W D cA h H)
    (kk : ∀ ls', am_rl (am_mx j) ls' q.2.1 → W p l e R s m args below meth c H locs cells slots Q (F0 m q.1 ls' q.2.2)) : W p l e R s m args below meth c H locs cells slots Q (F0 m pc ls st) := by
  obtain ⟨hx, hb, hml, hown, hts, hK, hnm⟩ := hc
  cases i with
  | iconst n =>
    simp only [am_vb, Bool.and_eq_true, decide_eq_true_eq] at hv
    obtain ⟨rfl, hv⟩ := hv
    cases hs
    exact lv_iconst hx hb hd hv (kk ls hl)
  | bipush n =>
    simp only [am_vb, Bool.and_eq_true, decide_eq_true_eq] at hv
    obtain ⟨rfl, hv⟩ := hv
    cases hs
    exact lv_bipush hx hb hd hv (kk ls hl)
  | sipush n =>
    simp only [am_vb, Bool.and_eq_true, decide_eq_true_eq] at hv
    obtain ⟨rfl, hv⟩ := hv
    cases hs
    exact lv_sipush hx hb hd hv (kk ls hl)
  | iload_n n =>
    simp only [am_vb, Bool.and_eq_true, decide_eq_true_eq] at hv
    obtain ⟨rfl, hv⟩ := hv
    simp only [am_s, am_pI] at hs
    split at hs
    · rename_i w hw
      cases hs
      exact lv_iload_n hx hb hd hv (hl.at hw) (kk ls hl)
    · cases hs
  | iload n =>
    simp only [am_vb, Bool.and_eq_true, decide_eq_true_eq] at hv
    obtain ⟨rfl, rfl⟩ := hv
    simp only [am_s, am_pI] at hs
    split at hs
    · rename_i w hw
      cases hs
      exact lv_iload hx hb hd (hl.at hw) (kk ls hl)
    · cases hs
  | aload_n n =>
    simp only [am_vb, Bool.and_eq_true, decide_eq_true_eq] at hv
    obtain ⟨rfl, hv⟩ := hv
    simp only [am_s, am_pR] at hs
    split at hs
    · rename_i w hw
      cases hs
      exact lv_aload_n hx hb hd hv (hl.at hw) (kk ls hl)
    · cases hs
  | aload n =>
    simp only [am_vb, Bool.and_eq_true, decide_eq_true_eq] at hv
    obtain ⟨rfl, rfl⟩ := hv
    simp only [am_s, am_pR] at hs
    split at hs
    · rename_i w hw
      cases hs
      exact lv_aload hx hb hd (hl.at hw) (kk ls hl)
    · cases hs
  | istore_n n =>
    simp only [am_vb, Bool.and_eq_true, decide_eq_true_eq] at hv
    obtain ⟨rfl, hv⟩ := hv
    simp only [am_s, am_sI] at hs
    split at hs
    · split at hs
      · rename_i a r hlt
        cases hs
        rw [hl.2.1] at hlt
        exact lv_istore_n hx hb hd hv hl.has hlt rfl (fun ls' h' => kk ls' (hl.store hlt rfl h'))
      · cases hs
    · cases hs
  | istore n =>
    simp only [am_vb, Bool.and_eq_true, decide_eq_true_eq] at hv
    obtain ⟨rfl, rfl⟩ := hv
    simp only [am_s, am_sI] at hs
    split at hs
    · split at hs
      · rename_i a r hlt
        cases hs
        rw [hl.2.1] at hlt
        exact lv_istore hx hb hd hl.has hlt rfl (fun ls' h' => kk ls' (hl.store hlt rfl h'))
      · cases hs
    · cases hs
  | astore_n n =>
    simp only [am_vb, Bool.and_eq_true, decide_eq_true_eq] at hv
    obtain ⟨rfl, hv⟩ := hv
    simp only [am_s, am_sR] at hs
    split at hs
    · split at hs
      · rename_i a r hlt
        cases hs
        rw [hl.2.1] at hlt
        exact lv_astore_n hx hb hd hv hl.has hlt rfl (fun ls' h' => kk ls' (hl.store hlt rfl h'))
      · cases hs
    · cases hs
  | astore n =>
    simp only [am_vb, Bool.and_eq_true, decide_eq_true_eq] at hv
    obtain ⟨rfl, rfl⟩ := hv
    simp only [am_s, am_sR] at hs
    split at hs
    · split at hs
      · rename_i a r hlt
        cases hs
        rw [hl.2.1] at hlt
        exact lv_astore hx hb hd hl.has hlt rfl (fun ls' h' => kk ls' (hl.store hlt rfl h'))
      · cases hs
    · cases hs
  | iinc k n =>
    simp only [am_vb, Bool.and_eq_true, decide_eq_true_eq] at hv
    obtain ⟨⟨rfl, rfl⟩, hv⟩ := hv
    simp only [am_s, am_inc] at hs
    split at hs
    · rename_i a hw
      cases hs
      have hlt : k < am_mx j := by
        have := am_ld_lt lo k _ hw
        rw [hl.2.1] at this; exact this
      have hin := am_ll_in lo 0 k _ hw
      rw [Nat.zero_add] at hin
      obtain ⟨w, hw2⟩ := List.getElem?_of_mem hin
      exact lv_iinc hx hb hd hl.has hw2 (by rw [hv]) hlt rfl (fun ls' h' => kk ls' (hl.store hlt rfl h'))
    · cases hs
  | iadd =>
    simp only [am_vb, decide_eq_true_eq] at hv
    subst hv
    simp only [am_s, am_b2] at hs
    split at hs
    · cases hs
      exact lv_iadd hx hb hd (kk ls hl)
    · cases hs
  | isub =>
    simp only [am_vb, decide_eq_true_eq] at hv
    subst hv
    simp only [am_s, am_b2] at hs
    split at hs
    · cases hs
      exact lv_isub hx hb hd (kk ls hl)
    · cases hs
  | imul =>
    simp only [am_vb, decide_eq_true_eq] at hv
    subst hv
    simp only [am_s, am_b2] at hs
    split at hs
    · cases hs
      exact lv_imul hx hb hd (kk ls hl)
    · cases hs
  | iand =>
    simp only [am_vb, decide_eq_true_eq] at hv
    subst hv
    simp only [am_s, am_b2] at hs
    split at hs
    · cases hs
      exact lv_iand hx hb hd (kk ls hl)
    · cases hs
  | ior =>
    simp only [am_vb, decide_eq_true_eq] at hv
    subst hv
    simp only [am_s, am_b2] at hs
    split at hs
    · cases hs
      exact lv_ior hx hb hd (kk ls hl)
    · cases hs
  | ishl =>
    simp only [am_vb, decide_eq_true_eq] at hv
    subst hv
    simp only [am_s, am_b2] at hs
    split at hs
    · cases hs
      exact lv_ishl hx hb hd (kk ls hl)
    · cases hs
  | ishr =>
    simp only [am_vb, decide_eq_true_eq] at hv
    subst hv
    simp only [am_s, am_b2] at hs
    split at hs
    · cases hs
      exact lv_ishr hx hb hd (kk ls hl)
    · cases hs
  | idiv =>
    simp only [am_vb, decide_eq_true_eq] at hv
    subst hv
    simp only [am_s, am_d2] at hs
    split at hs
    · split at hs
      · cases hs
      · rename_i hne
        cases hs
        exact lv_idiv hx hb hd hne (kk ls hl)
    · cases hs
  | irem =>
    simp only [am_vb, decide_eq_true_eq] at hv
    subst hv
    simp only [am_s, am_d2] at hs
    split at hs
    · split at hs
      · cases hs
      · rename_i hne
        cases hs
        exact lv_irem hx hb hd hne (kk ls hl)
    · cases hs
  | dup =>
    simp only [am_vb, decide_eq_true_eq] at hv
    subst hv
    simp only [am_s] at hs
    split at hs
    · split at hs
      · rename_i hc1
        cases hs
        exact lv_dup hx hb hd hc1 (kk ls hl)
      · cases hs
    · cases hs
  | pop =>
    simp only [am_vb, decide_eq_true_eq] at hv
    subst hv
    simp only [am_s] at hs
    split at hs
    · split at hs
      · rename_i hc1
        cases hs
        exact lv_pop hx hb hd hc1 (kk ls hl)
      · cases hs
    · cases hs
  | dup_x1 =>
    simp only [am_vb, decide_eq_true_eq] at hv
    subst hv
    simp only [am_s] at hs
    split at hs
    · split at hs
      · rename_i hc1
        cases hs
        exact lv_dup_x1 hx hb hd hc1.1 hc1.2 (kk ls hl)
      · cases hs
    · cases hs
  | dup_x2 =>
    simp only [am_vb, decide_eq_true_eq] at hv
    subst hv
    simp only [am_s] at hs
    split at hs
    · split at hs
      · rename_i hc1
        cases hs
        exact lv_dup_x2 hx hb hd hc1.1 hc1.2.1 hc1.2.2 (kk ls hl)
      · cases hs
    · cases hs
  | dup2 =>
    simp only [am_vb, decide_eq_true_eq] at hv
    subst hv
    simp only [am_s] at hs
    split at hs
    · split at hs
      · rename_i hc1
        cases hs
        exact lv_dup2_11 hx hb hd hc1.1 hc1.2 (kk ls hl)
      · cases hs
    · cases hs
  | goto o =>
    simp only [am_vb, Bool.and_eq_true, decide_eq_true_eq] at hv
    obtain ⟨rfl, hv⟩ := hv
    cases hs
    exact lv_goto hx hb hd hv (kk ls hl)
  | ifCond k o =>
    simp only [am_vb, Bool.and_eq_true, decide_eq_true_eq] at hv
    obtain ⟨rfl, hv⟩ := hv
    simp only [am_s, am_c1] at hs
    split at hs
    · cases hs
      have kk := kk ls hl
      dsimp only at kk
      cases k with
      | eq => exact lv_if_eq hx hb hd hv (fun g => by rw [if_pos (by simp [am_c1f, g])] at kk; exact kk) (fun g => by rw [if_neg (by simp [am_c1f, g])] at kk; exact kk)
      | ne => exact lv_if_ne hx hb hd hv (fun g => by rw [if_pos (by simp [am_c1f, g])] at kk; exact kk) (fun g => by rw [if_neg (by simp [am_c1f, g])] at kk; exact kk)
      | lt => exact lv_if_lt hx hb hd hv (fun g => by rw [if_pos (by simp [am_c1f, g])] at kk; exact kk) (fun g => by rw [if_neg (by simp [am_c1f, g])] at kk; exact kk)
      | ge => exact lv_if_ge hx hb hd hv (fun g => by rw [if_pos (by simp [am_c1f, g])] at kk; exact kk) (fun g => by rw [if_neg (by simp [am_c1f, g])] at kk; exact kk)
      | gt => exact lv_if_gt hx hb hd hv (fun g => by rw [if_pos (by simp [am_c1f, g])] at kk; exact kk) (fun g => by rw [if_neg (by simp [am_c1f, g])] at kk; exact kk)
      | le => exact lv_if_le hx hb hd hv (fun g => by rw [if_pos (by simp [am_c1f, g])] at kk; exact kk) (fun g => by rw [if_neg (by simp [am_c1f, g])] at kk; exact kk)
    · cases hs
  | if_icmp k o =>
    simp only [am_vb, Bool.and_eq_true, decide_eq_true_eq] at hv
    obtain ⟨rfl, hv⟩ := hv
    simp only [am_s, am_c2] at hs
    split at hs
    · cases hs
      have kk := kk ls hl
      dsimp only at kk
      cases k with
      | eq => exact lv_icmp_eq hx hb hd hv (fun g => by rw [if_pos (by simp [am_c2f, g])] at kk; exact kk) (fun g => by rw [if_neg (by simp [am_c2f, g])] at kk; exact kk)
      | ne => exact lv_icmp_ne hx hb hd hv (fun g => by rw [if_pos (by simp [am_c2f, g])] at kk; exact kk) (fun g => by rw [if_neg (by simp [am_c2f, g])] at kk; exact kk)
      | lt => exact lv_icmp_lt hx hb hd hv (fun g => by rw [if_pos (by simp [am_c2f, g])] at kk; exact kk) (fun g => by rw [if_neg (by simp [am_c2f, g])] at kk; exact kk)
      | ge => exact lv_icmp_ge hx hb hd hv (fun g => by rw [if_pos (by simp [am_c2f, g])] at kk; exact kk) (fun g => by rw [if_neg (by simp [am_c2f, g])] at kk; exact kk)
      | gt => exact lv_icmp_gt hx hb hd hv (fun g => by rw [if_pos (by simp [am_c2f, g])] at kk; exact kk) (fun g => by rw [if_neg (by simp [am_c2f, g])] at kk; exact kk)
      | le => exact lv_icmp_le hx hb hd hv (fun g => by rw [if_pos (by simp [am_c2f, g])] at kk; exact kk) (fun g => by rw [if_neg (by simp [am_c2f, g])] at kk; exact kk)
    · cases hs
  | if_acmp k o =>
    simp only [am_vb, Bool.and_eq_true, decide_eq_true_eq] at hv
    obtain ⟨rfl, hv⟩ := hv
    simp only [am_s, am_cA] at hs
    split at hs
    · rename_i b a r
      cases hs
      have kk := kk ls hl
      dsimp only at kk
      cases k with
      | eq => exact lv_acmp_eq (rx := some a) (ry := some b) hx hb hd hv (fun g => by rw [if_pos (by simpa [am_caf] using g)] at kk; exact kk) (fun g => by rw [if_neg (by simpa [am_caf] using g)] at kk; exact kk)
      | ne => exact lv_acmp_ne (rx := some a) (ry := some b) hx hb hd hv (fun g => by rw [if_pos (by simpa [am_caf] using g)] at kk; exact kk) (fun g => by rw [if_neg (by simpa [am_caf] using g)] at kk; exact kk)
    · cases hs
  | tableswitch dd a b offs =>
    simp only [am_vb, Bool.and_eq_true, decide_eq_true_eq, List.all_eq_true, List.mem_range] at hv
    obtain ⟨⟨⟨rfl, rfl⟩, hv⟩, hv2⟩ := hv
    simp only [am_s, am_sw] at hs
    split at hs
    · rename_i w r
      cases hs
      have kk := kk ls hl
      dsimp only at kk
      by_cases g : w < 0 ∨ ts.length ≤ w.toNatClampNeg
      · rw [if_pos g] at kk
        refine lv_tableOut hx hb hd ?_ hv kk
        rcases g with g | g
        · left
          simpa using Int32.lt_iff_toInt_lt.mp g
        · have : w.toNatClampNeg = w.toInt.toNat := rfl
          by_cases hw : w.toInt < 0
          · exact Or.inl hw
          · right
            omega
      · rw [if_neg g] at kk
        have g1 : ¬ w < 0 := fun z => g (Or.inl z)
        have g2 : w.toNatClampNeg < ts.length := Nat.not_le.mp fun z => g (Or.inr z)
        have g3 : (0 : Int) ≤ w.toInt := by
          have := Int32.not_lt.mp g1
          simpa using Int32.le_iff_toInt_le.mp this
        have g4 : w.toNatClampNeg = w.toInt.toNat := rfl
        refine lv_tableIn hx hb hd (off := (am_tn ts w.toNatClampNeg x : Int) - (pc : Int)) (by omega) (by omega) ?_ (by omega) kk
        rw [Int.sub_zero, ← g4]
        exact hv2 _ g2
    · cases hs
  | getfield k =>
    simp only [am_vb, Bool.and_eq_true, decide_eq_true_eq] at hv
    obtain ⟨rfl, hv⟩ := hv
    obtain ⟨C, T, N, h1, h2, h3⟩ := am_fw_spec hv
    simp only [am_s] at hs
    split at hs
    · rename_i a r
      have key : ∀ v, am_gf (h.1 a) x y = some v → W p l e R s m args below meth c H locs cells slots Q (F0 m (pc + 3) ls (v :: r)) → W p l e R s m args below meth c H locs cells slots Q (F0 m pc ls (.ref a :: r)) := by
        intro v hgf kk
        unfold am_gf at hgf
        split at hgf
        · rename_i ci fs hcell
          split at hgf
          · rename_i hci
            subst hci
            have hat := hW.2 a _ hcell
            rw [am_at_get] at hgf
            rcases h3 with h3 | ⟨hst, h3⟩
            · exact va_get (ws := [(a, .inr (ci, fs))]) hx hb hts (am_lay h1) hown hK.1 (am_P1 hat) 0 rfl h1 y h2 (hts _ h3) (fun _ z => z) hgf hd kk
            · exact va_getN (ws := [(a, .inr (ci, fs))]) hx hb hts (am_lay h1) hown hK.1 (am_P1 hat) 0 rfl h1 y h2 (va_Nw.use rfl (hK.2.1 _ h3 rfl)) (fun _ z => z) hgf hd kk
          · cases hgf
        · cases hgf
      unfold am_pV at hs
      split at hs
      · rename_i w hw
        cases hs
        exact key _ hw (kk ls hl)
      · rename_i w hw
        cases hs
        exact key _ hw (kk ls hl)
      · cases hs
    · cases hs
  | iaload =>
    simp only [am_vb, decide_eq_true_eq] at hv
    subst hv
    simp only [am_s] at hs
    split at hs
    · rename_i k a r
      unfold am_pV at hs
      have key : ∀ v, am_ri 0 (h.1 a) k = some v → W p l e R s m args below meth c H locs cells slots Q (F0 m (pc + 1) ls (v :: r)) → W p l e R s m args below meth c H locs cells slots Q (F0 m pc ls (.int k :: .ref a :: r)) := by
        intro v hgf kk
        unfold am_ri at hgf
        split at hgf
        · rename_i t n g hcell
          split at hgf
          · rename_i ht
            subst ht
            split at hgf
            · rename_i w hw
              obtain ⟨hin, rfl⟩ := am_ix_spec hw
              cases hgf
              exact va_iald (ws := [(a, .inl (cA 0, n, .inl g))]) hx hb hK.1 (am_P1 (hW.2 a _ hcell)) 0 0 rfl rfl hin hd kk
            · cases hgf
          · cases hgf
        · cases hgf
      split at hs
      · rename_i w hw
        cases hs
        exact key _ hw (kk ls hl)
      · rename_i w hw
        cases hs
        exact key _ hw (kk ls hl)
      · cases hs
    · cases hs
  | baload =>
    simp only [am_vb, decide_eq_true_eq] at hv
    subst hv
    simp only [am_s] at hs
    split at hs
    · rename_i k a r
      unfold am_pV at hs
      have key : ∀ v, am_ri 1 (h.1 a) k = some v → W p l e R s m args below meth c H locs cells slots Q (F0 m (pc + 1) ls (v :: r)) → W p l e R s m args below meth c H locs cells slots Q (F0 m pc ls (.int k :: .ref a :: r)) := by
        intro v hgf kk
        unfold am_ri at hgf
        split at hgf
        · rename_i t n g hcell
          split at hgf
          · rename_i ht
            subst ht
            split at hgf
            · rename_i w hw
              obtain ⟨hin, rfl⟩ := am_ix_spec hw
              cases hgf
              exact va_zald (ws := [(a, .inl (cA 1, n, .inl g))]) hx hb hK.1 (am_P1 (hW.2 a _ hcell)) 0 1 rfl rfl hin hd kk
            · cases hgf
          · cases hgf
        · cases hgf
      split at hs
      · rename_i w hw
        cases hs
        exact key _ hw (kk ls hl)
      · rename_i w hw
        cases hs
        exact key _ hw (kk ls hl)
      · cases hs
    · cases hs
  | aaload =>
    simp only [am_vb, decide_eq_true_eq] at hv
    subst hv
    simp only [am_s] at hs
    split at hs
    · rename_i k a r
      unfold am_pV at hs
      have key : ∀ v, am_rq (h.1 a) k = some v → W p l e R s m args below meth c H locs cells slots Q (F0 m (pc + 1) ls (v :: r)) → W p l e R s m args below meth c H locs cells slots Q (F0 m pc ls (.int k :: .ref a :: r)) := by
        intro v hgf kk
        unfold am_rq at hgf
        split at hgf
        · rename_i t n g hcell
          split at hgf
          · rename_i ht
            obtain ⟨rc, -, htt⟩ := am_tyA hK.1 ht
            split at hgf
            · rename_i w hw
              obtain ⟨hin, rfl⟩ := am_ix_spec hw
              split at hgf
              · rename_i b hb2
                cases hgf
                refine va_aldq (ws := [(a, .inl (cA t, n, .inr (.inr (.inr (.inr g)))))]) hx hb hK.1 (am_P1 (hW.2 a _ hcell)) 0 t rfl htt hin hd ?_
                rw [hb2]
                exact kk
              · cases hgf
            · cases hgf
          · cases hgf
        · cases hgf
      split at hs
      · rename_i w hw
        cases hs
        exact key _ hw (kk ls hl)
      · rename_i w hw
        cases hs
        exact key _ hw (kk ls hl)
      · cases hs
    · cases hs
  | arraylength =>
    simp only [am_vb, decide_eq_true_eq] at hv
    subst hv
    simp only [am_s] at hs
    split at hs
    · rename_i a r
      unfold am_pN at hs
      split at hs
      · rename_i w hw
        cases hs
        unfold am_ln at hw
        split at hw
        · rename_i t n g hcell
          split at hw
          · rename_i ht
            have hw2 := Option.some.inj hw
            have htt : ∃ ty, (am_tys cA)[t]? = some (cA t, ty) := by
              rcases (by omega : t = 0 ∨ t = 1 ∨ t = 2 ∨ t = 3) with rfl | rfl | rfl | rfl
              · exact ⟨_, rfl⟩
              · exact ⟨_, rfl⟩
              · exact ⟨_, rfl⟩
              · exact ⟨_, rfl⟩
            obtain ⟨ty, htt⟩ := htt
            exact va_alen (ws := [(a, .inl (cA t, n, g))]) hx hb hK.1 (am_P1 (hW.2 a _ hcell)) 0 t rfl htt hw2 hd (kk ls hl)
          · cases hw
        · cases hw
      · cases hs
    · cases hs
  | invokespecial k =>
    simp only [am_s] at hs
    split at hs
    · rename_i a r
      split at hs
      · rename_i hy
        obtain ⟨rfl, hg⟩ := hy
        cases hs
        simp only [am_vb, Bool.and_eq_true, decide_eq_true_eq, if_true] at hv
        obtain ⟨rfl, hv⟩ := hv
        split at hv
        · simp only [Bool.and_eq_true] at hv
          obtain ⟨⟨w1, w2⟩, w3⟩ := hv
          have hg2 := am_g_cat _ _ hg
          exact W.objInit hx hb hown (hts _ (am_wd_in w1)) (hts _ (am_wd_in w2)) (hts _ (am_wd_in w3)) rfl (by rw [hml]; exact hl.1) rfl hd hR.1 (by show 2 * 0 + _ + 12 ≤ _; omega) (kk ls hl)
        · cases hv
      · cases hs
    · cases hs
  | invokestatic k =>
    simp only [am_s] at hs
    split at hs
    · rename_i hy
      subst hy
      simp only [am_vb, Bool.and_eq_true, decide_eq_true_eq, if_true] at hv
      obtain ⟨rfl, hv⟩ := hv
      unfold am_m2 at hs
      split at hs
      · split at hs
        · rename_i hg
          cases hs
          split at hv
          · simp only [Bool.and_eq_true] at hv
            obtain ⟨⟨⟨w1, w2⟩, w3⟩, w4⟩ := hv
            have hg2 := am_g_cat _ _ hg
            exact va_mmax hx hb (by rw [hml, hl.1]) hown (hts _ (am_wd_in w1)) (hts _ (am_wd_in w2)) (hts _ (am_wd_in w3)) (hts _ (am_wd_in w4)) hR.1 (by omega) hcs.1 hcs.2 hd (kk ls hl)
          · cases hv
        · cases hs
      · cases hs
    · split at hs
      · rename_i hy hy2
        subst hy2
        simp only [am_vb, Bool.and_eq_true, decide_eq_true_eq] at hv
        obtain ⟨rfl, hv⟩ := hv
        rw [if_neg (by decide), if_pos trivial] at hv
        unfold am_m2 at hs
        split at hs
        · split at hs
          · rename_i hg
            cases hs
            split at hv
            · simp only [Bool.and_eq_true] at hv
              obtain ⟨⟨⟨w1, w2⟩, w3⟩, w4⟩ := hv
              have hg2 := am_g_cat _ _ hg
              exact va_mmin hx hb (by rw [hml, hl.1]) hown (hts _ (am_wd_in w1)) (hts _ (am_wd_in w2)) (hts _ (am_wd_in w3)) (hts _ (am_wd_in w4)) hR.1 (by omega) hcs.1 hcs.2 hd (kk ls hl)
            · cases hv
          · cases hs
        · cases hs
      · cases hs
  | _ => exact absurd hs (by simp [am_s])
end AMS
