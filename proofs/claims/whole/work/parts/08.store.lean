theorem am_bool {w : Int32} (h : w &&& 1 = w) : w = 0 ∨ w = 1 := by
  have e := pk_and w (m := 1) 1 (by decide)
  rw [h] at e
  have h2 : w.toBitVec.toNat % 2 ^ 1 < 2 := Nat.mod_lt _ (by decide)
  rcases (by omega : w.toBitVec.toNat % 2 ^ 1 = 0 ∨ w.toBitVec.toNat % 2 ^ 1 = 1) with g | g
  · left; rw [e, g]; rfl
  · right; rw [e, g]; rfl
theorem am_fok_spec {x y : Nat} {v : Value} (h : am_fok x y v = true) : narrow (am_tf x y) v = v ∧ fits (am_tf x y) v = true := by
  unfold am_fok at h
  split at h
  · rename_i w
    unfold am_ft at h
    cases ht : am_tf x y with
    | int => exact ⟨rfl, rfl⟩
    | boolean =>
      rw [ht] at h
      have hw : w &&& 1 = w := by simpa using h
      refine ⟨by show Value.int (w &&& 1) = _; rw [hw], ?_⟩
      show (w == 0 || w == 1) = true
      rcases am_bool hw with g | g <;> rw [g] <;> rfl
    | _ => rw [ht] at h; cases h
  · unfold am_ft at h
    cases ht : am_tf x y with
    | object n => exact ⟨rfl, rfl⟩
    | array n => exact ⟨rfl, rfl⟩
    | _ => rw [ht] at h; cases h
  · cases h
section AMT
variable {p : Program} {l : Launch} {e : Env} {R : Room} {s : State} {m : MethodId} {args : Array Value} {below : List Frame} {meth : Method} {c : Code} {H : Heap} {locs : List Loc} {cells slots : Nat} {Q : State → Prop}
variable {D : va_G} {cA : Nat → ClassId} {j pc : Nat} {ls : Array Slot} {z : Nat}
theorem am_lays {x : Nat} {C : String} {T : u_T} {N : Nat} (h1 : am_cl[x]? = some (C, T, N)) (hts : ∀ w ∈ am_WS, w.before args s = true) {y : Nat} (h2 : y < N) : (Cond.lays C (T y).1 (T y).2.1 (T y).2.2.1).before args s = true ∨ (Cond.laysFinal C (T y).1 (T y).2.1 (T y).2.2.1).before args s = true := u_lays hts (am_lay h1) h2
set_option maxHeartbeats 4000000 in
theorem am_pput (hc : am_cx p c meth j s m args D cA) {k x y a : Nat} {ts : List Nat} {h : am_H} {r : List Value} {v : Value} {en : am_E} (hd : decode (am_by j) pc = .ok (.putfield k, 3)) (hfw : am_fw j k x y ts = true) (hfp : am_fp j x y = true) (hok : am_fok x y v = true) (hpf : am_pf (h.1 a) x y v = some en) (hz : z ≤ a) (hW : am_W D cA h H) (hS : va_S (fun q => z ≤ q) s.heap H locs)
    (kk : ∀ H' locs', am_W D cA (am_up h a en) H' → va_S (fun q => z ≤ q) s.heap H' locs' → W p l e R s m args below meth c H' locs' cells slots Q (F0 m (pc + 3) ls r)) : W p l e R s m args below meth c H locs cells slots Q (F0 m pc ls (v :: .ref a :: r)) := by
  obtain ⟨hx, hb, hml, hown, hts, hK, hnm⟩ := hc
  obtain ⟨C, T, N, h1, h2, h3⟩ := am_fw_spec hfw
  obtain ⟨hn, hfit⟩ := am_fok_spec hok
  obtain ⟨hty, hnames⟩ := am_clok h1
  have hpf2 : ∃ fs, h.1 a = some (.inr (x, fs)) ∧ y < fs.length ∧ en = .inr (x, am_st fs y v) := by
    unfold am_pf at hpf
    split at hpf
    · rename_i ci fs hcell
      split at hpf
      · rename_i hci
        obtain ⟨hci, hlen⟩ := hci
        subst hci
        exact ⟨fs, hcell, hlen, (Option.some.inj hpf).symm⟩
      · cases hpf
    · cases hpf
  obtain ⟨fs, hcell, hlen, hen⟩ := hpf2
  have hat := hW.2 a _ hcell
  obtain ⟨rr, g1, cell, q1, q2, q3, q4⟩ := hat
  have hr : rr = (C, T, N) := Option.some.inj (g1.symm.trans h1)
  subst hr
  have hap := va_apart (own := (am_y j).cls) hts (am_lay h1) (am_tf x) hty hnames hK.1 h1
  obtain ⟨hSl, hfc, kC, hkC, hkind⟩ := hK.1.1 x _ h1
  obtain ⟨cf, kf, fi, f, hi, hsl⟩ := hSl y h2
  have hst := (u_facts hfc hkC (am_lays h1 hts h2) hi).1
  have fin : ∀ (H' : Heap), H'[a]? = some (cell.setSlot f.slot v) → H'.size = H.size → (∀ q, q ≠ a → H'[q]? = H[q]?) → W p l e R s m args below meth c H' (locs ++ [⟨a, f.slot⟩]) cells slots Q (F0 m (pc + 3) ls r) := by
    intro H' e1 e2 e3
    rw [hsl] at e1 ⊢
    refine kk H' _ ?_ (hS.put e2 e3 hz)
    rw [hen, am_st_set]
    exact hW.up ⟨_, h1, t_OB.to (V := updV (vp_V fs) y v) ⟨_, e1, q2, q3, t_set q4 hap h2 v⟩ (fun j _ => vp_updV_set hlen v j)⟩ e2 e3
  have hlay := hts _ (am_lay h1 _ (u_in_lay h2))
  have hfp2 : (T y).2.2.2 = true → (am_y j).name = "<init>" ∧ (T y).1 = (am_y j).cls := by
    intro hf
    unfold am_fp at hfp
    rw [h1] at hfp
    dsimp only at hfp
    rw [if_pos hf] at hfp
    simpa using hfp
  unfold u_lay at hlay
  by_cases hf : (T y).2.2.2 = true
  · obtain ⟨hin, hdecl⟩ := hfp2 hf
    rw [if_pos hf] at hlay
    have hcf : m.cls = cf := by
      obtain ⟨_, _, c', _, _, _, -, -, hf', -, -, -, hown2, -⟩ := Cond.laysFinal_spec hlay
      have e1 : c' = cf := by have := hi.symm.trans hf'; simp at this; exact this.1.symm
      rw [hdecl] at hown2
      rw [← e1]; exact Option.some.inj (hown.symm.trans hown2)
    have h6 := u_fits hfc hkC hkind (Or.inr hlay) hi (hty y h2) hn hfit
    rcases h3 with h3 | ⟨hst2, h3⟩
    · exact W.putFinK hx hb hown (hts _ h3) hi hst hcf (by rw [hnm]; exact hin) (by rw [q2]; exact h6) q1 q3 (by rw [hsl]; exact k2_hasslot (q4 y h2)) rfl rfl hd fin
    · have ha : a < H.size := (Array.getElem?_eq_some_iff.mp q1).1
      refine va_Wputf hx hb hown (va_Nw.use rfl (hK.2.1 _ h3 rfl)) hi hst (Or.inr ⟨hcf, by rw [hnm]; exact hin⟩) q1 (by rw [q3]; exact fun h => by cases h) (by rw [hsl]; exact k2_hasslot (q4 y h2)) h6.1 (by rw [q2, q3]; exact h6.2) rfl rfl hd (fin _ ?_ ?_ ?_)
      · simp [Array.getElem?_setIfInBounds, ha]
      · simp
      · intro q hq
        simp [Array.getElem?_setIfInBounds, Ne.symm hq]
  · rw [if_neg hf] at hlay
    have h6 := u_store hfc hkC hkind hlay hi (hty y h2) hn hfit
    rcases h3 with h3 | ⟨hst2, h3⟩
    · exact W.putK hx hb (f := f) ⟨hown, hts _ h3, ⟨_, _, _, hi⟩, hst⟩ (by rw [q2]; exact h6) q1 q3 (by rw [hsl]; exact k2_hasslot (q4 y h2)) rfl rfl hd fin
    · exact va_WputK hx hb (f := f) hown (va_Nw.use rfl (hK.2.1 _ h3 rfl)) hi hst (by rw [q2]; exact h6) q1 q3 (by rw [hsl]; exact k2_hasslot (q4 y h2)) rfl rfl hd fin
set_option maxHeartbeats 4000000 in
theorem am_ww (hc : am_cx p c meth j s m args D cA) (hR : 1 ≤ R.frames ∧ 40 ≤ R.locals) {i : Instr} {l' x y a : Nat} {cc : Int32} {ts : List Nat} {lo : am_L} {st r : List Value} {h : am_H} {en : am_E} (hd : decode (am_by j) pc = .ok (i, l')) (hv : am_vb j pc (i, l', x, y, cc, ts) = true) (hs : am_w z i x y st h = some (r, a, en)) (hl : am_rl (am_mx j) ls lo) (hW : am_W D cA h H) (hS : va_S (fun q => z ≤ q) s.heap H locs)
    (kk : ∀ H' locs', am_W D cA (am_up h a en) H' → va_S (fun q => z ≤ q) s.heap H' locs' → W p l e R s m args below meth c H' locs' cells slots Q (F0 m (pc + l') ls r)) : W p l e R s m args below meth c H locs cells slots Q (F0 m pc ls st) := by
  have h1 : ∀ {z a b : Nat} {st r : List Value} {o : Option am_E} {en : am_E}, am_w1 z a st o = some (r, b, en) → z ≤ b ∧ r = st ∧ b = a ∧ o = some en := by
    intro z a b st r o en h
    unfold am_w1 at h
    split at h
    · split at h
      · cases h; exact ⟨by assumption, rfl, rfl, rfl⟩
      · cases h
    · cases h
  cases i with
  | putfield k =>
    simp only [am_vb, Bool.and_eq_true, decide_eq_true_eq] at hv
    obtain ⟨⟨rfl, hv⟩, hfp⟩ := hv
    simp only [am_w] at hs
    split at hs
    · split at hs
      · rename_i hok
        obtain ⟨hz, rfl, rfl, ho⟩ := h1 hs
        exact am_pput hc hd hv hfp hok ho hz hW hS kk
      · cases hs
    · cases hs
  | iastore =>
    obtain ⟨hx, hb, hml, hown, hts, hK, hnm⟩ := hc
    simp only [am_vb, decide_eq_true_eq] at hv
    subst hv
    simp only [am_w] at hs
    split at hs
    · rename_i v k a' r'
      obtain ⟨hz, rfl, rfl, ho⟩ := h1 hs
      unfold am_wi at ho
      split at ho
      · rename_i t n g hcell
        split at ho
        · rename_i ht
          subst ht
          split at ho
          · rename_i w hw
            obtain ⟨hin, rfl⟩ := am_ix_spec hw
            have ho := Option.some.inj ho
            refine W.iast hx hb (hW.2 _ _ hcell) ((hK.1.2 0 _ rfl).1 n (fun j => .int (g j))) (fun q => by cases q) (by show ¬ (k < 0 ∨ (arrV _ _ _).slots.size ≤ _); rw [arrV_size]; exact hin) rfl rfl hd fun H1 e z1 oq => ?_
            refine kk H1 _ ?_ (hS.put z1 oq hz)
            rw [← ho]
            refine hW.up ?_ z1 oq
            show H1[_]? = some (vp_cell _ _)
            rw [e]
            show some ((vp_cell _ _).setSlot _ _) = _
            rw [vp_cell_i, vp_cell_i, arrV_store]
            congr 2
            funext q
            by_cases hq : q = k.toNatClampNeg
            · subst hq
              simp [updV, upd]
            · simp [updV, upd, hq]
          · cases ho
        · cases ho
      · cases ho
    · cases hs
  | bastore =>
    obtain ⟨hx, hb, hml, hown, hts, hK, hnm⟩ := hc
    simp only [am_vb, decide_eq_true_eq] at hv
    subst hv
    simp only [am_w] at hs
    split at hs
    · rename_i v k a' r'
      obtain ⟨hz, rfl, rfl, ho⟩ := h1 hs
      unfold am_wi at ho
      split at ho
      · rename_i t n g hcell
        split at ho
        · rename_i ht
          subst ht
          split at ho
          · rename_i w hw
            obtain ⟨hin, rfl⟩ := am_ix_spec hw
            have ho := Option.some.inj ho
            refine W.zast hx hb (hW.2 _ _ hcell) ((hK.1.2 1 _ rfl).1 n (fun j => .int (g j))) (fun q => by cases q) (by show ¬ (k < 0 ∨ (arrV _ _ _).slots.size ≤ _); rw [arrV_size]; exact hin) rfl rfl hd fun H1 e z1 oq => ?_
            refine kk H1 _ ?_ (hS.put z1 oq hz)
            rw [← ho]
            refine hW.up ?_ z1 oq
            show H1[_]? = some (vp_cell _ _)
            rw [e]
            show some ((vp_cell _ _).setSlot _ _) = _
            rw [vp_cell_i, vp_cell_i, arrV_store]
            congr 2
            funext q
            by_cases hq : q = k.toNatClampNeg
            · subst hq
              simp [updV, upd, narrow]
            · simp [updV, upd, hq]
          · cases ho
        · cases ho
      · cases ho
    · cases hs
  | aastore =>
    obtain ⟨hx, hb, hml, hown, hts, hK, hnm⟩ := hc
    simp only [am_vb, decide_eq_true_eq] at hv
    subst hv
    simp only [am_w] at hs
    split at hs
    · rename_i v k a' r'
      obtain ⟨hz, rfl, rfl, ho⟩ := h1 hs
      unfold am_wq at ho
      split at ho
      · rename_i t n g hcell
        split at ho
        · rename_i ht
          obtain ⟨ht1, ht2, hko⟩ := ht
          obtain ⟨rc, hrc, htt⟩ := am_tyA hK.1 ⟨ht1, ht2⟩
          split at ho
          · rename_i w hw
            obtain ⟨hin, rfl⟩ := am_ix_spec hw
            have ho := Option.some.inj ho
            have hlt : k.toNatClampNeg < n := Nat.not_le.mp fun q => hin (Or.inr q)
            have h0 : ¬ k < 0 := fun q => hin (Or.inl q)
            have hev : ∃ fs, h.1 v = some (.inr (am_ec t, fs)) := by
              unfold am_ko at hko
              split at hko
              · rename_i ck fs hcv
                cases hko
                exact ⟨fs, hcv⟩
              · cases hko
            obtain ⟨fs, hcv⟩ := hev
            obtain ⟨r', hr', cellV, g1, g2, g3, -⟩ := hW.2 v _ hcv
            have hcls := (hK.1.1 (am_ec t) rc hrc).2
            obtain ⟨kA, comp, k1, k2, k3, -⟩ := (hK.1.2 t _ htt).2
            have hcomp : comp = D.1 (am_ec t) := Option.some.inj (k3.symm.trans hcls.1)
            subst hcomp
            obtain ⟨kC, hkC, -⟩ := hcls.2
            refine W.aast hx hb (hW.2 _ _ hcell) (fun q h => by cases h) (fun h => by cases h) k1 k2 rfl hkC ⟨h0, by show _ < (arrV _ _ _).slots.size; rw [arrV_size]; exact hlt⟩ g1 (fun q h => by rw [g3] at h; cases h) (by rw [g2]; exact hkC) (by rw [g2]; exact va_assign hcls) rfl rfl hd fun H1 e z1 oq => ?_
            refine kk H1 _ ?_ (hS.put z1 oq hz)
            rw [← ho]
            refine hW.up ?_ z1 oq
            show H1[_]? = some (vp_cell _ _)
            rw [e]
            show some ((vp_cell _ _).setSlot _ _) = _
            rw [vp_cell_q, vp_cell_q, arrV_store]
            congr 2
            funext q
            by_cases hq : q = k.toNatClampNeg
            · subst hq
              simp [updV, va_up, va_rf]
            · simp [updV, va_up, hq]
          · cases ho
        · cases ho
      · cases ho
    · cases hs
  | invokestatic k =>
    obtain ⟨hx, hb, hml, hown, hts, hK, hnm⟩ := hc
    simp only [am_w] at hs
    split at hs
    · rename_i n dp b sp a' r'
      split at hs
      · rename_i hy
        obtain ⟨rfl, hab, hg⟩ := hy
        subst hab
        obtain ⟨hz, hr, ha, ho⟩ := h1 hs
        subst hr
        subst ha
        simp only [am_vb, Bool.and_eq_true, decide_eq_true_eq] at hv
        obtain ⟨rfl, hv⟩ := hv
        rw [if_neg (by decide), if_neg (by decide), if_pos trivial] at hv
        split at hv
        · simp only [Bool.and_eq_true] at hv
          obtain ⟨⟨⟨w1, w2⟩, w3⟩, w4⟩ := hv
          have hg2 := am_g_cat _ _ hg
          unfold am_cp at ho
          split at ho
          · rename_i c1 n1 g hc1
            split at ho
            · rename_i hcond
              obtain ⟨rfl, q1, q2, q3, q4, q5⟩ := hcond
              have ho := Option.some.inj ho
              have nn : ∀ z : Int32, ¬ z < 0 → z.toInt = (z.toNatClampNeg : Int) := by
                intro z hz
                have hz0 : (0 : Int) ≤ z.toInt := by
                  have := Int32.not_lt.mp hz
                  simpa using Int32.le_iff_toInt_le.mp this
                show z.toInt = ((z.toInt.toNat : Nat) : Int)
                omega
              intro T hT X
              have hcc : H[a]? = some (vp_cell (cA 0) (n1, .inl g)) := hW.2 a _ hc1
              obtain ⟨-, k0, hk0, cm0, hkk0⟩ := (hK.1.2 0 _ rfl).1 n1 (fun j => .int (g j))
              obtain ⟨vm', X', step⟩ := X.arraycopy hx hown (hts _ (am_wd_in w1)) (hts _ (am_wd_in w2)) (hts _ (am_wd_in w3)) (hts _ (am_wd_in w4)) (src := a) (dst := a) (cs := vp_cell (cA 0) (n1, .inl g)) (cd := vp_cell (cA 0) (n1, .inl g)) (srcPos := sp) (destPos := dp) (n := n) (by rw [hT]; exact hcc) (by rw [hT]; exact hcc)
                (fun _ h => by cases h) (fun _ h => by cases h) (fun h => by cases h) (fun h => by cases h) hk0 hk0 hkk0 hkk0 (by simp [show refKind .int = false from rfl]) q1 q2 q3
                (by rw [nn sp q1, nn n q3]; show ¬ _ > ((arrV (cA 0) n1 (fun j => .int (g j))).slots.size : Int); rw [arrV_size]; omega)
                (by rw [nn dp q2, nn n q3]; show ¬ _ > ((arrV (cA 0) n1 (fun j => .int (g j))).slots.size : Int); rw [arrV_size]; omega)
                (fun vm₁ _ i hi => by
                  have e : (vp_cell (cA 0) (n1, .inl g)).slots.getD (sp.toNatClampNeg + i) .null = .int (g (sp.toNatClampNeg + i)) := by
                    show (arrV (cA 0) n1 (fun j => .int (g j))).slots.getD _ _ = _
                    rw [Array.getD_eq_getD_getElem?, arrV_read _ _ (by omega)]
                    rfl
                  refine ⟨?_, ?_⟩
                  · rw [e]
                    rfl
                  · rw [e]
                    exact trivial)
                (g := F0 m pc ls (.int n :: .int dp :: .ref a :: .int sp :: .ref a :: r)) rfl (by rw [hml]; exact hl.1) (rest := r) rfl (by rw [hb]; exact hd) hR.1 (by show 2 * 0 + _ + (7 + 11) ≤ _; omega)
              have e1 : copied (vp_cell (cA 0) (n1, .inl g)) (vp_cell (cA 0) (n1, .inl g)) sp dp n = vp_cell (cA 0) (n1, .inl (va_cpy g g sp.toNatClampNeg dp.toNatClampNeg n.toNatClampNeg)) := va_copied (fun z => .int z) (cA 0) (cA 0) g g q4
              rw [e1] at X' step
              have hlt : a < H.size := (Array.getElem?_eq_some_iff.mp hcc).1
              have hheap : ((T.setVm vm').setCell a (vp_cell (cA 0) (n1, .inl (va_cpy g g sp.toNatClampNeg dp.toNatClampNeg n.toNatClampNeg)))).heap = H.setIfInBounds a (vp_cell (cA 0) (n1, .inl (va_cpy g g sp.toNatClampNeg dp.toNatClampNeg n.toNatClampNeg))) := by rw [← hT]; rfl
              have oq : ∀ q : Nat, q ≠ a → (H.setIfInBounds a (vp_cell (cA 0) (n1, .inl (va_cpy g g sp.toNatClampNeg dp.toNatClampNeg n.toNatClampNeg))))[q]? = H[q]? := fun q hq => by simp [Array.getElem?_setIfInBounds, Ne.symm hq]
              obtain ⟨t, a1, b1⟩ := kk (H.setIfInBounds a (vp_cell (cA 0) (n1, .inl (va_cpy g g sp.toNatClampNeg dp.toNatClampNeg n.toNatClampNeg)))) _ (by
                  rw [← ho]
                  refine hW.up ?_ (by simp) oq
                  show (H.setIfInBounds a _)[a]? = some (vp_cell _ _)
                  simp [Array.getElem?_setIfInBounds, hlt]) ⟨by simp; exact hS.1, fun q g1 g2 => by
                  rw [oq q (fun e => g2 (by rw [e]; exact hz))]
                  exact hS.2.1 q g1 g2, fun q hq => by
                  rcases List.mem_append.mp hq with h | h
                  · exact hS.2.2 q h
                  · obtain ⟨z, -, hz2⟩ := List.mem_map.mp h
                    rw [← hz2]
                    exact hz⟩ _ hheap X'
              exact ⟨t, step t a1, b1⟩
            · cases ho
          · cases ho
        · cases hv
      · cases hs
    · cases hs
  | _ => exact absurd hs (by simp [am_w])
end AMT
