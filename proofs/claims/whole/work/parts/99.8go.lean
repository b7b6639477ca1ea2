section LWG
theorem am_KX_ex {s : State} {args : Array Value} (hts : ∀ w ∈ lw_tbl, w.before args s = true) : ∃ (D : va_G) (cA : Nat → ClassId), am_KX D cA s := by
  obtain ⟨c0, k0, o0, f0, g0, h0⟩ := Cond.arrayClass_spec (hts (.arrayClass .int) (by decide +kernel))
  obtain ⟨c1, k1, o1, f1, g1, h1⟩ := Cond.arrayClass_spec (hts (.arrayClass .boolean) (by decide +kernel))
  have w2 := hts (.arrayOver (.object am_s2)) (by decide +kernel)
  have w3 := hts (.arrayOver (.object am_s3)) (by decide +kernel)
  obtain ⟨p2, c2, k2, a2, b2, d2, e2, f2⟩ := Cond.arrayOver_spec w2
  obtain ⟨p3, c3, k3, a3, b3, d3, e3, f3⟩ := Cond.arrayOver_spec w3
  obtain ⟨q0, i0, u0⟩ := u_known (C := "LayerVault") (T := am_T0) (N := 14) (n := 14) hts (by decide +kernel) (hts _ (by decide +kernel))
  obtain ⟨q1, i1, u1⟩ := u_known (C := "LayerVault$Entry") (T := am_T1) (N := 8) (n := 8) hts (by decide +kernel) (hts _ (by decide +kernel))
  obtain ⟨q2, i2, u2⟩ := u_known (C := "LayerVault$Row") (T := am_T2) (N := 3) (n := 3) hts (by decide +kernel) (hts _ (by decide +kernel))
  obtain ⟨q3, i3, u3⟩ := u_known (C := "LayerVault$Table") (T := am_T3) (N := 2) (n := 2) hts (by decide +kernel) (hts _ (by decide +kernel))
  obtain ⟨q4, i4, u4⟩ := u_known (C := "LayerVault$Level") (T := am_T4) (N := 2) (n := 2) hts (by decide +kernel) (hts _ (by decide +kernel))
  obtain ⟨q5, i5, u5⟩ := u_known (C := "LayerVault$Log") (T := am_T5) (N := 7) (n := 7) hts (by decide +kernel) (hts _ (by decide +kernel))
  obtain ⟨q6, i6, u6⟩ := u_known (C := "LayerVault$Snapshots") (T := am_T6) (N := 1) (n := 1) hts (by decide +kernel) (hts _ (by decide +kernel))
  obtain ⟨q7, i7, u7⟩ := u_known (C := "LayerVaultModel") (T := am_T7) (N := 30) (n := 30) hts (by decide +kernel) (hts _ (by decide +kernel))
  refine ⟨(fun c => match c with | 0 => q0 | 1 => q1 | 2 => q2 | 3 => q3 | 4 => q4 | 5 => q5 | 6 => q6 | _ => q7, fun c => match c with | 0 => i0 | 1 => i1 | 2 => i2 | 3 => i3 | 4 => i4 | 5 => i5 | 6 => i6 | _ => i7), fun c => match c with | 0 => c0 | 1 => c1 | 2 => c2 | _ => c3, ⟨?_, ?_⟩, ?_, va_AO.of w2, va_AO.of w3⟩
  · intro c q hq
    match c, hq with
    | 0, hq => cases hq; exact u0
    | 1, hq => cases hq; exact u1
    | 2, hq => cases hq; exact u2
    | 3, hq => cases hq; exact u3
    | 4, hq => cases hq; exact u4
    | 5, hq => cases hq; exact u5
    | 6, hq => cases hq; exact u6
    | 7, hq => cases hq; exact u7
    | n + 8, hq => exact absurd hq (by simp)
  · intro k q hq
    match k, hq with
    | 0, hq => cases hq; exact ⟨fun n z => ⟨fun k h => (by cases h), k0, g0, o0, h0⟩, f0⟩
    | 1, hq => cases hq; exact ⟨fun n z => ⟨fun k h => (by cases h), k1, g1, o1, h1⟩, f1⟩
    | 2, hq => cases hq; exact ⟨fun n z => ⟨fun k h => (by cases h), k2, d2, p2, e2⟩, k2, p2, d2, e2, a2, f2⟩
    | 3, hq => cases hq; exact ⟨fun n z => ⟨fun k h => (by cases h), k3, d3, p3, e3⟩, k3, p3, d3, e3, a3, f3⟩
    | n + 4, hq => exact absurd hq (by simp [am_tys])
  · intro w hw hn
    have ht : w.onTables = true := by
      cases w <;> first | rfl | cases hn
    exact va_Nw.of ht (hts w hw)
theorem am_law_nw : ∀ pc i l' x y cc ts, am_cd 143 pc = some (i, l', x, y, cc, ts) → am_isW i = false := by
  have hall : ∀ q ∈ am_t143, am_isW q.2.1 = false := by decide +kernel
  intro pc i l' x y cc ts h
  have h1 := am_lookup_mem _ _ _ h
  have h2 : am_tabs.getD 143 [] = am_t143 := rfl
  rw [h2] at h1
  exact hall _ h1
theorem lw_go {p : Program} {l : Launch} {e : Env} {R : Room} {s : State} {m : MethodId} {below : List Frame} {meth : Method} {c : Code} {Q : State → Prop} {b L : Nat} {xs : Nat → Int32} (hL : L ≤ 2048) (hx : p.tables.exec = Jvm.exec) (hcode : c.code = am_by 143) (hml : c.maxLocals = am_mx 143) (hown : s.vm.findClass (am_y 143).cls = some m.cls) (hts : ∀ w ∈ lw_tbl, w.before #[Value.ref b] s = true) (hX : va_X b L xs s s.heap) (hbl : b < s.heap.size) (hnm : meth.name = (am_y 143).name) (hRf : 8 ≤ R.frames) (hRl : 320 ≤ R.locals) (hRc : 1000 ≤ R.cells) (hRs : 20000 ≤ R.slots)
    (hend : ∀ (pc : Nat) (i : Instr) (ls : Array Slot) (H : Heap) (locs : List Loc) (st : List Value) (k n : Nat), k ≤ 1000 → n ≤ 20000 → decode (am_by 143) pc = .ok (i, 1) → am_rt (am_ret 143) i st = some (some (.int 1)) → va_S (fun q => s.heap.size ≤ q) s.heap H locs → W p l e R s m #[Value.ref b] below meth c H locs k n Q (F0 m pc ls st)) :
    W p l e R s m #[Value.ref b] below meth c s.heap [] 0 0 Q (entryFrame m ([Value.ref b] : List Value).toArray (am_mx 143)) := by
  obtain ⟨D, cA, hK⟩ := am_KX_ex hts
  have hcx : am_cx p c meth 143 s m #[Value.ref b] D cA := ⟨hx, hcode, hml, hown, fun w hw => hts w (List.mem_filter.mp hw).1, hK, hnm⟩
  obtain ⟨h', ⟨n, hn⟩, h2, h3⟩ := lw_run (z := s.heap.size) (xs := xs) hL hbl
  have hcut : am_cut b (am_jn (lw_h0 s.heap.size) (am_sc b L xs)) = lw_h0 s.heap.size := am_cut_jn rfl
  rw [lg_entry_eq]
  have key := am_walkX (l := l) (R := R) (below := below) (e := e) (Q := Q) (z := s.heap.size) hcx (d := 7) (by omega) (by omega) (c0 := s.heap.size) (s0 := 0) (r := some (.int 1)) (h' := h') (by omega) (by omega) hX hbl hbl am_law_nw (fun pc i ls H locs st hd hrt hS => hend pc i ls H locs st _ _ (by omega) (by omega) hd hrt hS) n 0 (am_en 143 [.ref b]) [] _ s.heap [] _ hn (am_rl.entry (by intro w hw; rw [List.mem_singleton] at hw; rw [hw]; rfl) (by show 1 ≤ am_mx 143; decide +kernel)) (am_sc_b rfl) (by rw [hcut]; exact ⟨rfl, fun a e he => by cases he⟩) va_S.rf (by show b < s.heap.size; exact hbl) (Nat.le_refl _) (Nat.zero_le _)
  have e1 : (am_jn (lw_h0 s.heap.size) (am_sc b L xs)).2.1 - s.heap.size = 0 := Nat.sub_self _
  have e2 : (am_jn (lw_h0 s.heap.size) (am_sc b L xs)).2.2 - 0 = 0 := rfl
  rw [e1, e2] at key
  exact key
end LWG
