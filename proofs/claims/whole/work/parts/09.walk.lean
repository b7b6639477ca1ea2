section AMN
variable {p : Program} {l : Launch} {e : Env} {R : Room} {s : State} {m : MethodId} {args : Array Value} {below : List Frame} {meth : Method} {c : Code} {H : Heap} {locs : List Loc} {cells slots : Nat} {Q : State → Prop}
variable {D : va_G} {cA : Nat → ClassId} {j pc : Nat} {ls : Array Slot} {z : Nat}
set_option maxHeartbeats 4000000 in
theorem am_nn (hc : am_cx p c meth j s m args D cA) {i : Instr} {l' x y k : Nat} {cc : Int32} {ts : List Nat} {st r : List Value} {h : am_H} {en : am_E} (hd : decode (am_by j) pc = .ok (i, l')) (hv : am_vb j pc (i, l', x, y, cc, ts) = true) (hs : am_n i x y st = some (r, en, k)) (hW : am_W D cA h H) (hS : va_S (fun q => z ≤ q) s.heap H locs) (hcells : cells + 1 ≤ R.cells) (hslots : slots + k ≤ R.slots)
    (kk : ∀ H', am_W D cA (am_nw h en k) H' → va_S (fun q => z ≤ q) s.heap H' locs → W p l e R s m args below meth c H' locs (cells + 1) (slots + k) Q (F0 m (pc + l') ls (.ref h.2.1 :: r))) : W p l e R s m args below meth c H locs cells slots Q (F0 m pc ls st) := by
  obtain ⟨hx, hb, hml, hown, hts, hK, hnm⟩ := hc
  have hSn : ∀ H1 : Heap, H1.size = H.size + 1 → (∀ q : Nat, q < H.size → H1[q]? = H[q]?) → va_S (fun q => z ≤ q) s.heap H1 locs := fun H1 z1 o1 => ⟨Nat.le_trans hS.1 (by omega), fun q h1 h2 => (o1 q (Nat.lt_of_lt_of_le h1 hS.1)).trans (hS.2.1 q h1 h2), hS.2.2⟩
  cases i with
  | new idx =>
    simp only [am_vb, Bool.and_eq_true, decide_eq_true_eq] at hv
    obtain ⟨rfl, hv⟩ := hv
    split at hv
    · rename_i C T N p1 p2 p3 h1
      simp only [Bool.and_eq_true, decide_eq_true_eq] at hv
      obtain ⟨⟨⟨rfl, w1⟩, w2⟩, w3⟩ := hv
      cases hs
      obtain ⟨hty, hnames⟩ := am_clok h1
      have hKn := hK.1.1 x _ h1
      refine W.newcK hx hb hown (hts _ (am_wd_in w1)) (hts _ (am_wd_in w2)) (hts _ (am_wd_in w3)) rfl hd hcells hslots hKn.2.1 hW.1 fun H1 kC hkC e1 z1 o1 => ?_
      rw [← hW.1] at e1 z1 o1
      exact kk H1 (hW.nw ⟨_, h1, (u_born (am_tf x) hts (am_lay h1) hKn hkC e1 hty).to (am_dfok h1)⟩ z1 o1) (hSn H1 z1 o1)
    · cases hv
  | newarray t =>
    simp only [am_vb, Bool.and_eq_true, Bool.or_eq_true, decide_eq_true_eq] at hv
    obtain ⟨⟨rfl, hv⟩, hv2⟩ := hv
    split at hv
    · simp only [am_n] at hs
      split at hs
      · rename_i n r'
        split at hs
        · rename_i hn
          cases hs
          rcases hv2 with ⟨ht, rfl⟩ | ⟨ht, rfl⟩
          · refine va_newaK hx hb (hts _ (am_wd_in hv)) rfl hd rfl hn.1 rfl (by rw [ht]; show _ * 4 ≤ _; have := hn.2; omega) hcells hslots hW.1 fun H1 cA' e1 z1 o1 hAr hNm => ?_
            rw [← hW.1] at e1 z1 o1
            rw [ht] at e1 hNm
            have hcA : cA' = cA 0 := Option.some.inj (hNm.symm.trans (hK.1.2 0 _ rfl).2)
            subst hcA
            exact kk H1 (hW.nw e1 z1 o1) (hSn H1 z1 o1)
          · refine va_newaK hx hb (hts _ (am_wd_in hv)) rfl hd rfl hn.1 rfl (by rw [ht]; show _ * 1 ≤ _; have := hn.2; omega) hcells hslots hW.1 fun H1 cA' e1 z1 o1 hAr hNm => ?_
            rw [← hW.1] at e1 z1 o1
            rw [ht] at e1 hNm
            have hcA : cA' = cA 1 := Option.some.inj (hNm.symm.trans (hK.1.2 1 _ rfl).2)
            subst hcA
            exact kk H1 (hW.nw e1 z1 o1) (hSn H1 z1 o1)
        · cases hs
      · cases hs
    · cases hv
  | anewarray idx =>
    simp only [am_vb, Bool.and_eq_true, decide_eq_true_eq] at hv
    obtain ⟨rfl, hv⟩ := hv
    split at hv
    · simp only [Bool.and_eq_true, Bool.or_eq_true, decide_eq_true_eq] at hv
      simp only [am_n] at hs
      split at hs
      · rename_i n r'
        split at hs
        · rename_i hn
          cases hs
          rcases hv with ⟨rfl, w1⟩ | ⟨rfl, w1⟩
          · refine W.anew hx hb hown (hts _ (am_wd_in w1)) (va_AO.use hK.2.2.1) rfl hd rfl hn.1 (by have := hn.2; omega) hcells hslots fun cA' kA comp f1 f2 f3 f4 => ?_
            have hcA : cA' = cA 2 := by
              obtain ⟨_, _, _, _, _, q⟩ := (hK.1.2 2 _ rfl).2
              exact Option.some.inj (f1.symm.trans q)
            subst hcA
            generalize hH1 : H.push ({ cls := cA 2, slots := Array.replicate n.toNatClampNeg .null, vm := .none } : Cell) = H1
            have z1 : H1.size = H.size + 1 := by rw [← hH1, Array.size_push]
            have e1 : H1[H.size]? = some (arrV (cA 2) n.toNatClampNeg (fun _ => .null)) := by rw [← hH1, Array.getElem?_push_size, ← arrV_new]
            have o1 : ∀ q : Nat, q < H.size → H1[q]? = H[q]? := fun q hq => by rw [← hH1, Array.getElem?_push, if_neg (Nat.ne_of_lt hq)]
            have k2 := kk H1 (hW.nw e1 z1 o1) (hSn H1 z1 o1)
            rw [← hW.1] at k2
            exact k2
          · refine W.anew hx hb hown (hts _ (am_wd_in w1)) (va_AO.use hK.2.2.2) rfl hd rfl hn.1 (by have := hn.2; omega) hcells hslots fun cA' kA comp f1 f2 f3 f4 => ?_
            have hcA : cA' = cA 3 := by
              obtain ⟨_, _, _, _, _, q⟩ := (hK.1.2 3 _ rfl).2
              exact Option.some.inj (f1.symm.trans q)
            subst hcA
            generalize hH1 : H.push ({ cls := cA 3, slots := Array.replicate n.toNatClampNeg .null, vm := .none } : Cell) = H1
            have z1 : H1.size = H.size + 1 := by rw [← hH1, Array.size_push]
            have e1 : H1[H.size]? = some (arrV (cA 3) n.toNatClampNeg (fun _ => .null)) := by rw [← hH1, Array.getElem?_push_size, ← arrV_new]
            have o1 : ∀ q : Nat, q < H.size → H1[q]? = H[q]? := fun q hq => by rw [← hH1, Array.getElem?_push, if_neg (Nat.ne_of_lt hq)]
            have k2 := kk H1 (hW.nw e1 z1 o1) (hSn H1 z1 o1)
            rw [← hW.1] at k2
            exact k2
        · cases hs
      · cases hs
    · cases hv
  | _ => exact absurd hs (by simp [am_n])
theorem am_pop_spec : ∀ (n : Nat) (st acc av st' : List Value), am_pop n st acc = some (av, st') → ∃ pre, av = pre ++ acc ∧ st = pre.reverse ++ st' ∧ pre.length = n
  | 0, st, acc, av, st', h => by
    cases h
    exact ⟨[], rfl, rfl, rfl⟩
  | n + 1, [], acc, av, st', h => by cases h
  | n + 1, v :: st, acc, av, st', h => by
    obtain ⟨pre, h1, h2, h3⟩ := am_pop_spec n st (v :: acc) av st' h
    exact ⟨pre ++ [v], by rw [h1]; simp, by rw [h2]; simp, by simp [h3]⟩
def am_Qc (D : va_G) (cA : Nat → ClassId) (r : Option Value) (h' : am_H) (A : Nat → Prop) : Array Value → State → Outcome → State → Prop := fun _ st o t => o = .returned r ∧ am_W D cA h' t.heap ∧ va_F A st t
def am_Pc (D : va_G) (cA : Nat → ClassId) (av : List Value) (h : am_H) : Array Value → State → Prop := va_Pc av (fun U => am_KX D cA U ∧ am_W D cA h U.heap)
theorem am_Pc_blind {av : List Value} {h : am_H} : FrameBlind (am_Pc D cA av h) := fun a U g mk q => by
  obtain ⟨q0, q1, q2⟩ := q
  exact ⟨q0, q1.same (u := U) (U := U.calling g mk a) rfl, q2⟩
def am_rm (d mc ms : Nat) : Room := { frames := d, cells := mc, slots := ms, locals := 40 * d }
def am_ws (x : Nat) : List Cond := Cond.code (am_y x) (am_by x) (am_mx x) (am_rty x) :: am_WS
theorem am_cont {v : Option Value} {h1 : am_H} {st st' : List Value} {mc ms : Nat} {a : Array Value} (hr : va_Run p l e R s m args below meth c H locs cells slots mc ms (F0 m pc ls st) st' (am_Qc D cA v h1 (fun q => z ≤ q) a) (fun q => z ≤ q)) (hS : va_S (fun q => z ≤ q) s.heap H locs)
    (kk : ∀ H1 locs1, am_W D cA h1 H1 → va_S (fun q => z ≤ q) s.heap H1 locs1 → W p l e R s m args below meth c H1 locs1 (cells + mc) (slots + ms) Q (F0 m (pc + 3) ls (v.toList ++ st'))) : W p l e R s m args below meth c H locs cells slots Q (F0 m pc ls st) := by
  intro T hT X
  obtain ⟨v', st₀, t, T', L, h0, X', hL, e1, e2, ⟨hv, hw, hz, hk⟩, sx⟩ := hr T hT X
  cases hv
  rw [h0] at hz hk
  obtain ⟨t2, a1, b1⟩ := kk T'.heap (locs ++ L) (by rw [e1]; exact hw) ⟨Nat.le_trans hS.1 (by rw [e1]; exact hz), fun q h1 h2 => by rw [e1, hk q (Nat.lt_of_lt_of_le h1 hS.1) h2]; exact hS.2.1 q h1 h2, fun q hq => by
      rcases List.mem_append.mp hq with h | h
      · exact hS.2.2 q h
      · exact hL q h⟩ T' rfl X'
  exact ⟨t2, sx t2 a1, b1⟩
set_option maxHeartbeats 4000000 in
theorem am_cc (hc : am_cx p c meth j s m args D cA) {d : Nat} (hRf : d + 1 ≤ R.frames) (hRl : 40 * d + 40 ≤ R.locals) {i : Instr} {l' x y mc ms : Nat} {cc : Int32} {ts : List Nat} {lo : am_L} {st av st' : List Value} {h h1 : am_H} {v : Option Value} (hd : decode (am_by j) pc = .ok (i, l')) (hv : am_vb j pc (i, l', x, y, cc, ts) = true) (hs : am_ca i x y st h = some (av, st')) (hl : am_rl (am_mx j) ls lo) (hW : am_W D cA h H) (hS : va_S (fun q => z ≤ q) s.heap H locs) (hcells : cells + mc ≤ R.cells) (hslots : slots + ms ≤ R.slots)
    (hM : (∀ w ∈ av, w.category = 1) → av.length ≤ am_mx x → am_mok x = true → Met l (am_y x) (am_ws x) (am_rm d mc ms) (am_Pc D cA av h) (am_Qc D cA v h1 (fun q => z ≤ q)) mc ms (fun q => z ≤ q))
    (kk : ∀ H' locs', am_W D cA h1 H' → va_S (fun q => z ≤ q) s.heap H' locs' → W p l e R s m args below meth c H' locs' (cells + mc) (slots + ms) Q (F0 m (pc + l') ls (v.toList ++ st'))) : W p l e R s m args below meth c H locs cells slots Q (F0 m pc ls st) := by
  have hc0 := hc
  obtain ⟨hx, hb, hml, hown, hts, hK, hnm⟩ := hc
  have hkk : ∀ {o : Option (List Value × List Value)}, am_k o = some (av, st') → o = some (av, st') ∧ am_g 8 av = true ∧ am_g 8 st' = true := by
    intro o ho
    unfold am_k at ho
    split at ho
    · split at ho
      · rename_i hg
        cases ho
        exact ⟨rfl, hg⟩
      · cases ho
    · cases ho
  have hmk : am_mok x = true → Cond.code (am_y x) (am_by x) (am_mx x) (am_rty x) ∈ am_WS ∧ Cond.initialized (am_y x).cls ∈ am_WS ∧ (am_y x).cls ≠ "java/lang/invoke/MethodHandle" ∧ (am_y x).cls ≠ "java/lang/invoke/VarHandle" ∧ am_mx x ≤ 21 := by
    intro hm
    simp only [am_mok, Bool.and_eq_true, decide_eq_true_eq] at hm
    obtain ⟨⟨⟨⟨⟨m1, m2⟩, m3⟩, m4⟩, m5⟩, m6⟩ := hm
    exact ⟨am_wd_in m1, am_wd_in m2, m4, m5, m6⟩
  have hpay : am_mok x = true → ∀ w ∈ am_ws x, ∀ (a' : Array Value) (U : State), s.WarmedH U.vm → w.before a' U = true := by
    intro hm
    refine pay_in hts (fun w hw => ?_)
    have hin : w ∈ am_WS := by
      rcases List.mem_cons.mp hw with h | h
      · rw [h]; exact (hmk hm).1
      · exact h
    exact ⟨hin, good_of_word (List.mem_filter.mp hin).2⟩
  have hnp : ∀ n, am_np x = some n → ∀ sig, parseMethodDescriptor (am_y x).desc = some sig → n = sig.parameters.length := by
    intro n hn sig hsig
    unfold am_np at hn
    rw [hsig] at hn
    exact (Option.some.inj hn).symm
  have hpre : ∀ (U : State), U.heap = H → s.WarmedH U.vm → am_Pc D cA av h av.toArray U := fun U hU hWU => ⟨rfl, hK.moved hWU, by rw [hU]; exact hW⟩
  cases i with
  | invokevirtual k =>
    simp only [am_vb, Bool.and_eq_true, decide_eq_true_eq] at hv
    obtain ⟨⟨⟨⟨⟨⟨⟨rfl, v1⟩, v2⟩, v3⟩, v4⟩, v5⟩, v6⟩, v7⟩ := hv
    simp only [am_ca] at hs
    obtain ⟨ho, g1, g2⟩ := hkk hs
    unfold am_cv at ho
    split at ho
    · rename_i a t st2 hpop
      split at ho
      · rename_i hko
        cases ho
        obtain ⟨pre, p1, p2, p3⟩ := am_pop_spec _ _ _ _ _ hpop
        rw [List.append_nil] at p1
        subst p1
        have hlen : (Value.ref a :: t).length = y := p3
        have hM := hM (am_g_one _ _ g1) (by rw [hlen]; exact v4) v1
        obtain ⟨m1, m2, m4, m5, m6⟩ := hmk v1
        have hst : st = t.reverse ++ Value.ref a :: st' := by rw [p2]; simp
        have hcat := am_g_cat _ _ g2
        have hev : ∃ fs, h.1 a = some (.inr (am_kl x, fs)) := by
          unfold am_ko at hko
          split at hko
          · rename_i ck fs hcv
            cases hko
            exact ⟨fs, hcv⟩
          · cases hko
        obtain ⟨fs, hcv⟩ := hev
        have hcl : ∃ q : vw_C, am_cl[am_kl x]? = some q ∧ q.1 = (am_y x).cls := by
          cases hq : am_cl[am_kl x]? with
          | none => rw [hq] at v5; cases v5
          | some q => rw [hq] at v5; exact ⟨q, rfl, Option.some.inj v5⟩
        obtain ⟨q, hq1, hq2⟩ := hcl
        obtain ⟨n, hn⟩ : ∃ n, am_np x = some n ∧ n + 1 = y := by
          cases hnn : am_np x with
          | none => rw [hnn] at v3; cases v3
          | some n => rw [hnn] at v3; exact ⟨n, rfl, Option.some.inj v3⟩
        have hrecv := va_recv (ws := [(a, .inr (am_kl x, fs))]) (q0 := 0) hK.1 (am_P1 (hW.2 a _ hcv)) hq1 rfl
        rw [hq2] at hrecv
        have hp : PreV s H (am_y x).cls a (am_Pc D cA (Value.ref a :: t) h) t := ⟨am_Pc_blind, hrecv, hpre⟩
        rw [hst]
        refine am_cont (mc := mc) (ms := ms) (st' := st') (a := (Value.ref a :: t).toArray) ?_ hS kk
        rcases am_ml_spec v2 with w2 | ⟨hst2, w2⟩
        · exact va_runV (n := n) ⟨hx, hb, hml, hown, hts⟩ hM ⟨⟨rfl, rfl, hRf, by show 8 + (am_mx x + 11) + 40 * d ≤ _; omega, hpay v1, List.mem_cons_self, hts _ m1, hts _ m2, ⟨m4, m5⟩, hnp n hn.1, hts _ w2⟩, hts _ (am_wd_in v6), hts _ (am_wd_in v7)⟩ hp rfl (by have := hn.2; simp at hlen; omega) hl.1 rfl (by show 2 * 0 + _ ≤ _; omega) hd ⟨hcells, hslots⟩
        · exact va_runVN (n := n) (host := hst2) ⟨hx, hb, hml, hown, hts⟩ hM ⟨⟨⟨rfl, rfl, hRf, by show 8 + (am_mx x + 11) + 40 * d ≤ _; omega, hpay v1, List.mem_cons_self⟩, hts _ m1, hts _ m2, ⟨m4, m5⟩, hnp n hn.1, va_Nw.use rfl (hK.2.1 _ w2 rfl)⟩, hts _ (am_wd_in v6), hts _ (am_wd_in v7)⟩ hp rfl (by have := hn.2; simp at hlen; omega) hl.1 rfl (by show 2 * 0 + _ ≤ _; omega) hd ⟨hcells, hslots⟩
      · cases ho
    · cases ho
  | invokestatic k =>
    simp only [am_ca] at hs
    split at hs
    · rename_i hy
      obtain ⟨ho, g1, g2⟩ := hkk hs
      simp only [am_vb, Bool.and_eq_true, decide_eq_true_eq] at hv
      obtain ⟨rfl, hv⟩ := hv
      rw [if_neg (by omega), if_neg (by omega), if_neg (by omega)] at hv
      simp only [Bool.and_eq_true, decide_eq_true_eq] at hv
      obtain ⟨⟨⟨⟨v1, v2⟩, v3⟩, v4⟩, v6⟩ := hv
      obtain ⟨pre, p1, p2, p3⟩ := am_pop_spec _ _ _ _ _ ho
      rw [List.append_nil] at p1
      subst p1
      have hM := hM (am_g_one _ _ g1) (by rw [p3]; exact v4) v1
      obtain ⟨m1, m2, m4, m5, m6⟩ := hmk v1
      have hcat := am_g_cat _ _ g2
      have hp : PreS s H (am_Pc D cA av h) av := ⟨am_Pc_blind, hpre⟩
      rw [p2]
      refine am_cont (mc := mc) (ms := ms) (st' := st') (a := av.toArray) ?_ hS kk
      rcases am_ml_spec v2 with w2 | ⟨hst2, w2⟩
      · exact va_runS (n := y) ⟨hx, hb, hml, hown, hts⟩ hM ⟨⟨rfl, rfl, hRf, by show 8 + (am_mx x + 11) + 40 * d ≤ _; omega, hpay v1, List.mem_cons_self, hts _ m1, hts _ m2, ⟨m4, m5⟩, hnp y v3, hts _ w2⟩, hts _ (am_wd_in v6)⟩ hp rfl p3 hl.1 rfl (by show 2 * 0 + _ ≤ _; omega) hd ⟨hcells, hslots⟩
      · exact va_runSN (n := y) (host := hst2) ⟨hx, hb, hml, hown, hts⟩ hM ⟨⟨⟨rfl, rfl, hRf, by show 8 + (am_mx x + 11) + 40 * d ≤ _; omega, hpay v1, List.mem_cons_self⟩, hts _ m1, hts _ m2, ⟨m4, m5⟩, hnp y v3, va_Nw.use rfl (hK.2.1 _ w2 rfl)⟩, hts _ (am_wd_in v6), trivial⟩ hp rfl p3 hl.1 rfl (by show 2 * 0 + _ ≤ _; omega) hd ⟨hcells, hslots⟩
    · cases hs
  | invokespecial k =>
    simp only [am_ca] at hs
    split at hs
    · rename_i hy
      obtain ⟨ho, g1, g2⟩ := hkk hs
      simp only [am_vb, Bool.and_eq_true, decide_eq_true_eq] at hv
      obtain ⟨rfl, hv⟩ := hv
      rw [if_neg (by omega)] at hv
      simp only [Bool.and_eq_true, decide_eq_true_eq] at hv
      obtain ⟨⟨⟨⟨⟨⟨v1, v2⟩, v3⟩, v4⟩, v5⟩, v8⟩, v6⟩ := hv
      unfold am_cs at ho
      split at ho
      · rename_i a t st2 hpop
        cases ho
        obtain ⟨pre, p1, p2, p3⟩ := am_pop_spec _ _ _ _ _ hpop
        rw [List.append_nil] at p1
        subst p1
        have hlen : (Value.ref a :: t).length = y := p3
        have hM := hM (am_g_one _ _ g1) (by rw [hlen]; exact v4) v1
        obtain ⟨m1, m2, m4, m5, m6⟩ := hmk v1
        have hst : st = t.reverse ++ Value.ref a :: st' := by rw [p2]; simp
        have hcat := am_g_cat _ _ g2
        obtain ⟨n, hn⟩ : ∃ n, am_np x = some n ∧ n + 1 = y := by
          cases hnn : am_np x with
          | none => rw [hnn] at v3; cases v3
          | some n => rw [hnn] at v3; exact ⟨n, rfl, Option.some.inj v3⟩
        have hp : PreS s H (am_Pc D cA (Value.ref a :: t) h) (.ref a :: t) := ⟨am_Pc_blind, hpre⟩
        have hpay2 := hpay v1
        have hmem : Cond.code (am_y x) (am_by x) (am_mx x) none ∈ am_ws x := by rw [← v8]; exact List.mem_cons_self
        rw [v8] at m1
        rw [hst]
        refine am_cont (mc := mc) (ms := ms) (st' := st') (a := (Value.ref a :: t).toArray) ?_ hS kk
        rcases am_ml_spec v2 with w2 | ⟨hst2, w2⟩
        · exact va_runI (n := n) ⟨hx, hb, hml, hown, hts⟩ hM ⟨⟨rfl, rfl, hRf, by show 8 + (am_mx x + 11) + 40 * d ≤ _; omega, hpay2, hmem, hts _ m1, hts _ m2, ⟨m4, m5⟩, hnp n hn.1, hts _ w2⟩, v5, hts _ (am_wd_in v6)⟩ hp rfl (by have := hn.2; simp at hlen; omega) hl.1 rfl (by show 2 * 0 + _ ≤ _; omega) hd ⟨hcells, hslots⟩
        · exact va_runIN (n := n) (host := hst2) ⟨hx, hb, hml, hown, hts⟩ hM ⟨⟨⟨rfl, rfl, hRf, by show 8 + (am_mx x + 11) + 40 * d ≤ _; omega, hpay2, hmem⟩, hts _ m1, hts _ m2, ⟨m4, m5⟩, hnp n hn.1, va_Nw.use rfl (hK.2.1 _ w2 rfl)⟩, v5, hts _ (am_wd_in v6)⟩ hp rfl (by have := hn.2; simp at hlen; omega) hl.1 rfl (by show 2 * 0 + _ ≤ _; omega) hd ⟨hcells, hslots⟩
      · cases ho
    · cases hs
  | _ => exact absurd hs (by simp [am_ca])
end AMN
theorem am_run_mono {z : Nat} {C : Nat → List Value → am_H → Option Value → am_H → Prop} (hC : ∀ x av h v h1, C x av h v h1 → h.2.1 ≤ h1.2.1 ∧ h.2.2 ≤ h1.2.2) {j : Nat} : ∀ (n pc : Nat) (lo : am_L) (st : List Value) (h : am_H) (r : Option Value) (h' : am_H), am_run z C j n pc lo st h r h' → h.2.1 ≤ h'.2.1 ∧ h.2.2 ≤ h'.2.2 := by
  intro n
  induction n with
  | zero => intro pc lo st h r h' hn; exact hn.elim
  | succ n ih =>
    intro pc lo st h r h' hn
    unfold am_run at hn
    split at hn
    · exact hn.elim
    · split at hn
      · rw [hn.2]; exact ⟨Nat.le_refl _, Nat.le_refl _⟩
      · split at hn
        · obtain ⟨v, h1, a, b⟩ := hn
          have q1 := hC _ _ _ _ _ a
          have q2 := ih _ _ _ _ _ _ b
          omega
        · split at hn
          · have q2 := ih _ _ _ _ _ _ hn
            rw [am_up_2] at q2
            exact q2
          · split at hn
            · have q2 := ih _ _ _ _ _ _ hn
              rw [am_nw_2] at q2
              dsimp only at q2
              omega
            · split at hn
              · exact ih _ _ _ _ _ _ hn
              · exact hn.elim
theorem am_M_mono {z : Nat} : ∀ (d x : Nat) (av : List Value) (h : am_H) (v : Option Value) (h1 : am_H), am_M z d x av h v h1 → h.2.1 ≤ h1.2.1 ∧ h.2.2 ≤ h1.2.2 := by
  intro d
  induction d with
  | zero => intro x av h v h1 hm; exact hm.elim
  | succ d ih =>
    intro x av h v h1 hm
    obtain ⟨n, hn⟩ := hm
    exact am_run_mono ih n _ _ _ _ _ _ hn
section AMV
variable {p : Program} {l : Launch} {e : Env} {R : Room} {s : State} {m : MethodId} {args : Array Value} {below : List Frame} {meth : Method} {c : Code} {Q : State → Prop}
variable {D : va_G} {cA : Nat → ClassId} {j : Nat} {z : Nat}
set_option maxHeartbeats 4000000 in
theorem am_walk (hc : am_cx p c meth j s m args D cA) {d : Nat} (hRf : d + 1 ≤ R.frames) (hRl : 40 * d + 40 ≤ R.locals) {c0 s0 : Nat} {r : Option Value} {h' : am_H} (hRc : h'.2.1 - c0 ≤ R.cells) (hRs : h'.2.2 - s0 ≤ R.slots)
    (IH : ∀ x av h v h1, am_M z d x av h v h1 → (∀ w ∈ av, w.category = 1) → av.length ≤ am_mx x → am_mok x = true → Met l (am_y x) (am_ws x) (am_rm d (h1.2.1 - h.2.1) (h1.2.2 - h.2.2)) (am_Pc D cA av h) (am_Qc D cA v h1 (fun q => z ≤ q)) (h1.2.1 - h.2.1) (h1.2.2 - h.2.2) (fun q => z ≤ q))
    (hend : ∀ (pc : Nat) (i : Instr) (ls : Array Slot) (H : Heap) (locs : List Loc) (st : List Value), decode (am_by j) pc = .ok (i, 1) → am_rt (am_ret j) i st = some r → am_W D cA h' H → va_S (fun q => z ≤ q) s.heap H locs → W p l e R s m args below meth c H locs (h'.2.1 - c0) (h'.2.2 - s0) Q (F0 m pc ls st)) :
    ∀ (n pc : Nat) (lo : am_L) (st : List Value) (h : am_H) (H : Heap) (locs : List Loc) (ls : Array Slot), am_run z (am_M z d) j n pc lo st h r h' → am_rl (am_mx j) ls lo → am_W D cA h H → va_S (fun q => z ≤ q) s.heap H locs → c0 ≤ h.2.1 → s0 ≤ h.2.2 → W p l e R s m args below meth c H locs (h.2.1 - c0) (h.2.2 - s0) Q (F0 m pc ls st) := by
  intro n
  induction n with
  | zero => intro pc lo st h H locs ls hn; exact hn.elim
  | succ n ih =>
    intro pc lo st h H locs ls hn hl hW hS hc0 hs0
    have hmono := am_run_mono (am_M_mono d) (n + 1) _ _ _ _ _ _ hn
    unfold am_run at hn
    split at hn
    · exact hn.elim
    · rename_i i l' x y cc ts hcd
      obtain ⟨hd, hv⟩ := am_all hcd
      split at hn
      · rename_i v hrt
        obtain ⟨rfl, rfl⟩ := hn
        have hl1 : l' = 1 := by
          cases i <;> first | (simp only [am_vb, decide_eq_true_eq] at hv; exact hv) | (simp [am_rt] at hrt)
        subst hl1
        exact hend pc i ls H locs st hd hrt hW hS
      · split at hn
        · rename_i av st' hca
          obtain ⟨v, h1, hm, hn⟩ := hn
          have q1 := am_M_mono d _ _ _ _ _ hm
          have q2 := am_run_mono (am_M_mono d) n _ _ _ _ _ _ hn
          refine am_cc hc hRf hRl hd hv hca hl hW hS (mc := h1.2.1 - h.2.1) (ms := h1.2.2 - h.2.2) (by omega) (by omega) (IH x av h v h1 hm) (fun H' locs' hW' hS' => ?_)
          have k := ih _ _ _ _ H' locs' ls hn hl hW' hS' (by omega) (by omega)
          rw [show h.2.1 - c0 + (h1.2.1 - h.2.1) = h1.2.1 - c0 by omega, show h.2.2 - s0 + (h1.2.2 - h.2.2) = h1.2.2 - s0 by omega]
          exact k
        · split at hn
          · rename_i st' a en hw
            refine am_ww hc ⟨by omega, by omega⟩ hd hv hw hl hW hS (fun H' locs' hW' hS' => ?_)
            have k := ih (pc + l') lo st' (am_up h a en) H' locs' ls hn hl hW' hS' hc0 hs0
            exact k
          · split at hn
            · rename_i st' en k hnw
              have q2 := am_run_mono (am_M_mono d) n _ _ _ _ _ _ hn
              rw [am_nw_2] at q2
              dsimp only at q2
              refine am_nn hc hd hv hnw hW hS (by omega) (by omega) (fun H' hW' hS' => ?_)
              have kq := ih _ _ _ _ H' locs ls hn hl hW' hS' (by rw [am_nw_2]; dsimp only; omega) (by rw [am_nw_2]; dsimp only; omega)
              rw [am_nw_2] at kq
              dsimp only at kq
              rw [show h.2.1 - c0 + 1 = h.2.1 + 1 - c0 by omega, show h.2.2 - s0 + k = h.2.2 + k - s0 by omega]
              exact kq
            · split at hn
              · rename_i q hq
                exact am_ss hc ⟨by omega, by omega⟩ ⟨by omega, by omega⟩ hd hv hq hl hW (fun ls' hl' => ih _ _ _ _ H locs ls' hn hl' hW hS hc0 hs0)
              · exact hn.elim
end AMV
set_option maxHeartbeats 4000000 in
theorem am_sound (l : Launch) (D : va_G) (cA : Nat → ClassId) (z : Nat) : ∀ (d x : Nat) (av : List Value) (h : am_H) (v : Option Value) (h1 : am_H), am_M z d x av h v h1 → (∀ w ∈ av, w.category = 1) → av.length ≤ am_mx x → am_mok x = true → Met l (am_y x) (am_ws x) (am_rm d (h1.2.1 - h.2.1) (h1.2.2 - h.2.2)) (am_Pc D cA av h) (am_Qc D cA v h1 (fun q => z ≤ q)) (h1.2.1 - h.2.1) (h1.2.2 - h.2.2) (fun q => z ≤ q) := by
  intro d
  induction d with
  | zero => intro x av h v h1 hm; exact hm.elim
  | succ d ih =>
    intro x av h v h1 hm hcat hlen hmok
    obtain ⟨n, hn⟩ := hm
    have hpl : plainName (am_y x).cls = true := by
      simp only [am_mok, Bool.and_eq_true, decide_eq_true_eq] at hmok
      exact hmok.1.1.1.2
    refine Met.ofW (cc := am_by x) (maxL := am_mx x) (ret := am_rty x) hpl rfl ?_
    intro p e s m args below meth c s₁ B hml hv
    obtain ⟨rfl, hK, hW⟩ := hv
    have hts := atoms_spec (ws := am_ws x) B.pre
    have hin : meth.name = (am_y x).name := (name_of_methodNamed B.named B.method).1
    have hcx : am_cx p c meth x s m av.toArray D cA := ⟨B.exec, B.bytes, hml, findClass_of_methodNamed B.named, fun w hw => hts w (List.mem_cons_of_mem _ hw), hK, hin⟩
    rw [lg_entry_eq]
    have key := am_walk (R := (headSpec (am_ws x) (am_rm (d + 1) (h1.2.1 - h.2.1) (h1.2.2 - h.2.2))).room) (below := below) (e := e) (Q := MQ below (am_Qc D cA v h1 (fun q => z ≤ q)) av.toArray s (h1.2.1 - h.2.1) (h1.2.2 - h.2.2) (fun q => z ≤ q)) hcx (d := d) (Nat.le_refl _) (by show 40 * d + 40 ≤ 40 * (d + 1); omega) (c0 := h.2.1) (s0 := h.2.2) (r := v) (h' := h1) (Nat.le_refl _) (Nat.le_refl _) ih ?_ n 0 (am_en x av) [] h s.heap [] _ hn (am_rl.entry hcat hlen) hW va_S.rf (Nat.le_refl _) (Nat.le_refl _)
    · rw [Nat.sub_self, Nat.sub_self] at key
      exact key
    · intro pc i ls H locs st hd hrt hW' hS'
      have hq : ∀ t : State, t.heap = H → s.WarmedH t.vm → am_Qc D cA v h1 (fun q => z ≤ q) av.toArray s (.returned v) t := fun t ht _ => ⟨rfl, by rw [ht]; exact hW', hS'.F ht⟩
      have hret : am_ret x = am_rc (am_rty x) := rfl
      cases i with
      | ireturn =>
        simp only [am_rt] at hrt
        split at hrt
        · rename_i w
          split at hrt
          · rename_i hc1
            cases hrt
            rw [hret] at hc1
            cases hr : am_rty x with
            | none => rw [hr] at hc1; rcases hc1 with q | q <;> simp [am_rc] at q
            | some ty =>
              rw [hr] at hc1
              cases ty with
              | int => exact W.iret B.exec B.bytes (B.returns.trans hr) hq hS'.2.2 hd B.notSynchronized
              | boolean =>
                rcases hc1 with q | q
                · cases q
                · exact W.zret B.exec B.bytes (B.returns.trans hr) (by show Value.int (w &&& 1) = _; rw [q.2]) hq hS'.2.2 hd B.notSynchronized
              | _ => rcases hc1 with q | q <;> simp [am_rc] at q
          · cases hrt
        · cases hrt
      | areturn =>
        simp only [am_rt] at hrt
        split at hrt
        · rename_i w
          split at hrt
          · rename_i hc1
            cases hrt
            rw [hret] at hc1
            cases hr : am_rty x with
            | none => rw [hr] at hc1; cases hc1
            | some ty =>
              rw [hr] at hc1
              cases ty with
              | object nm => exact W.aret B.exec B.bytes (B.returns.trans hr) (Or.inl ⟨_, rfl⟩) (Or.inr ⟨_, rfl⟩) hq hS'.2.2 hd B.notSynchronized
              | _ => cases hc1
          · cases hrt
        · cases hrt
      | return_ =>
        simp only [am_rt] at hrt
        split at hrt
        · split at hrt
          · rename_i hc1
            cases hrt
            rw [hret] at hc1
            cases hr : am_rty x with
            | none => exact W.vret B.exec B.bytes (B.returns.trans hr) hq hS'.2.2 hd B.notSynchronized
            | some ty => rw [hr] at hc1; cases ty <;> cases hc1
          · cases hrt
        · cases hrt
      | _ => exact absurd hrt (by simp [am_rt])
