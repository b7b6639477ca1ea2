def am_tr (cA : Nat → ClassId) (e : am_E) : va_E := match e with
  | .inl (t, a) => .inl (cA t, a)
  | .inr o => .inr o
def am_W (D : va_G) (cA : Nat → ClassId) (h : am_H) (H : Heap) : Prop := H.size = h.2.1 ∧ ∀ (a : Nat) (e : am_E), h.1 a = some e → va_at D am_cl (a, am_tr cA e) H
def am_tys (cA : Nat → ClassId) : List (ClassId × FieldType) := [(cA 0, .int), (cA 1, .boolean), (cA 2, .object am_s2), (cA 3, .object am_s3)]
def am_isN (w : Cond) : Bool := match w with
  | .fieldLinkNest .. => true
  | .methodLinkNest .. => true
  | _ => false
def am_WS : List Cond := lw_tbl.filter goodWord
def am_KX (D : va_G) (cA : Nat → ClassId) (U : State) : Prop := va_K D am_cl (am_tys cA) U ∧ (∀ w ∈ lw_tbl, am_isN w = true → va_Nw w U) ∧ va_AO am_s2 U ∧ va_AO am_s3 U
theorem am_KX.moved {D : va_G} {cA : Nat → ClassId} {u U : State} (hW : u.WarmedH U.vm) (h : am_KX D cA u) : am_KX D cA U := by
  refine ⟨h.1.moved hW.alike, fun w hw hn => ?_, h.2.2.1.moved hW.alike, h.2.2.2.moved hW.alike⟩
  have h2 := h.2.1 w hw hn
  unfold am_isN at hn
  split at hn
  · exact va_Nw.warmF hW h2
  · exact va_Nw.warmM hW h2
  · cases hn
theorem am_KX.same {D : va_G} {cA : Nat → ClassId} {u U : State} (hv : u.vm = U.vm) (h : am_KX D cA u) : am_KX D cA U := by
  have ha : u.vm.Alike U.vm := by rw [hv]; exact Vm.Alike.refl _
  refine ⟨h.1.moved ha, fun w hw hn => ?_, h.2.2.1.moved ha, h.2.2.2.moved ha⟩
  have h2 := h.2.1 w hw hn
  unfold am_isN at hn
  split at hn
  · exact va_Nw.same rfl hv h2
  · exact va_Nw.same rfl hv h2
  · cases hn
theorem am_inWS {w : Cond} (h : w ∈ lw_tbl) (g : goodWord w = true) : w ∈ am_WS := List.mem_filter.mpr ⟨h, g⟩
theorem am_ld_svs : ∀ (lo : am_L) (x : Nat) (v : Value), x < lo.length → am_ld (am_sv lo x v) x = some v
  | [], x, v, h => absurd h (Nat.not_lt_zero _)
  | _ :: _, 0, _, _ => rfl
  | _ :: t, x + 1, v, h => am_ld_svs t x v (Nat.lt_of_succ_lt_succ h)
theorem am_ld_svn : ∀ (lo : am_L) (x i : Nat) (v : Value), i ≠ x → am_ld (am_sv lo x v) i = am_ld lo i
  | [], x, i, v, h => rfl
  | _ :: _, 0, 0, _, h => absurd rfl h
  | _ :: _, 0, _ + 1, _, _ => rfl
  | _ :: _, _ + 1, 0, _, _ => rfl
  | _ :: t, x + 1, i + 1, v, h => am_ld_svn t x i v (fun q => h (by rw [q]))
theorem am_sv_len : ∀ (lo : am_L) (x : Nat) (v : Value), (am_sv lo x v).length = lo.length
  | [], _, _ => rfl
  | _ :: _, 0, _ => rfl
  | _ :: t, x + 1, v => congrArg (· + 1) (am_sv_len t x v)
theorem am_ld_lt : ∀ (lo : am_L) (i : Nat) (v : Value), am_ld lo i = some v → i < lo.length
  | [], _, _, h => by cases h
  | _ :: _, 0, _, _ => Nat.succ_pos _
  | _ :: t, i + 1, v, h => Nat.succ_lt_succ (am_ld_lt t i v h)
def am_ll : Nat → am_L → List (Nat × Value)
  | _, [] => []
  | k, some v :: t => (k, v) :: am_ll (k + 1) t
  | k, none :: t => am_ll (k + 1) t
theorem am_ll_in : ∀ (lo : am_L) (k i : Nat) (v : Value), am_ld lo i = some v → (k + i, v) ∈ am_ll k lo
  | [], _, _, _, h => by cases h
  | some w :: t, k, 0, v, h => by
    have e : w = v := Option.some.inj h
    subst e
    exact List.mem_cons_self
  | none :: t, k, 0, v, h => by cases h
  | some w :: t, k, i + 1, v, h => by
    have := am_ll_in t (k + 1) i v h
    rw [show k + (i + 1) = k + 1 + i by omega]
    exact List.mem_cons_of_mem _ this
  | none :: t, k, i + 1, v, h => by
    have := am_ll_in t (k + 1) i v h
    rw [show k + (i + 1) = k + 1 + i by omega]
    exact this
theorem am_ll_of : ∀ (lo : am_L) (k : Nat) (q : Nat × Value), q ∈ am_ll k lo → ∃ i, q.1 = k + i ∧ am_ld lo i = some q.2
  | [], _, _, h => by cases h
  | some w :: t, k, q, h => by
    rcases List.mem_cons.mp h with h | h
    · subst h
      exact ⟨0, rfl, rfl⟩
    · obtain ⟨i, h1, h2⟩ := am_ll_of t (k + 1) q h
      exact ⟨i + 1, by rw [h1]; omega, h2⟩
  | none :: t, k, q, h => by
    obtain ⟨i, h1, h2⟩ := am_ll_of t (k + 1) q h
    exact ⟨i + 1, by rw [h1]; omega, h2⟩
def am_rl (n : Nat) (ls : Array Slot) (lo : am_L) : Prop := ls.size = n ∧ lo.length = n ∧ lv_wf ls ∧ ∀ (i : Nat) (v : Value), am_ld lo i = some v → ls[i]? = some (.val v) ∧ v.category = 1
theorem am_rl.has {n : Nat} {ls : Array Slot} {lo : am_L} (h : am_rl n ls lo) : lv_has ls n (am_ll 0 lo) := by
  refine ⟨h.1, h.2.2.1, fun q hq => ?_⟩
  obtain ⟨i, h1, h2⟩ := am_ll_of lo 0 q hq
  rw [h1, Nat.zero_add]
  exact (h.2.2.2 i q.2 h2).1
theorem am_rl.at {n : Nat} {ls : Array Slot} {lo : am_L} (h : am_rl n ls lo) {i : Nat} {v : Value} (hv : am_ld lo i = some v) : ls[i]? = some (.val v) := (h.2.2.2 i v hv).1
theorem am_rl.store {n : Nat} {ls ls' : Array Slot} {lo : am_L} {x : Nat} {v : Value} (h : am_rl n ls lo) (hx : x < n) (hc : v.category = 1) (h' : lv_has ls' n ((x, v) :: (am_ll 0 lo).filter (fun q => !(q.1 == x) && !(q.1 + 1 == x && q.2.category == 2)))) : am_rl n ls' (am_sv lo x v) := by
  refine ⟨h'.1, by rw [am_sv_len]; exact h.2.1, h'.2.1, fun i w hw => ?_⟩
  by_cases hi : i = x
  · subst hi
    rw [am_ld_svs _ _ _ (by rw [h.2.1]; exact hx)] at hw
    cases hw
    exact ⟨h'.2.2 (i, v) List.mem_cons_self, hc⟩
  · rw [am_ld_svn _ _ _ _ hi] at hw
    have hc1 := (h.2.2.2 i w hw).2
    refine ⟨h'.2.2 (i, w) (List.mem_cons_of_mem _ (List.mem_filter.mpr ⟨?_, ?_⟩)), hc1⟩
    · have := am_ll_in lo 0 i w hw
      rwa [Nat.zero_add] at this
    · simp [hi, hc1]
theorem am_en_ld : ∀ (av : List Value) (k i n : Nat) (v : Value), (∀ w ∈ av, w.category = 1) → am_ld (av.map some ++ List.replicate n none) i = some v → (k + i, v) ∈ lv_args k av ∧ v.category = 1
  | [], k, i, n, v, _, h => by
    exfalso
    have : ∀ (n i : Nat), am_ld (List.replicate n none) i = none := by
      intro n
      induction n with
      | zero => intro i; rfl
      | succ n ih =>
        intro i
        cases i with
        | zero => rfl
        | succ i => exact ih i
    rw [List.map_nil, List.nil_append, this] at h
    cases h
  | w :: t, k, 0, n, v, hc, h => by
    have e : w = v := Option.some.inj h
    subst e
    exact ⟨List.mem_cons_self, hc w List.mem_cons_self⟩
  | w :: t, k, i + 1, n, v, hc, h => by
    have hw := hc w List.mem_cons_self
    obtain ⟨h1, h2⟩ := am_en_ld t (k + 1) i n v (fun u hu => hc u (List.mem_cons_of_mem _ hu)) h
    refine ⟨?_, h2⟩
    show (k + (i + 1), v) ∈ (k, w) :: lv_args (if w.category = 2 then k + 2 else k + 1) t
    rw [if_neg (by omega), show k + (i + 1) = k + 1 + i by omega]
    exact List.mem_cons_of_mem _ h1
theorem am_sl_len : ∀ (av : List Value), (∀ w ∈ av, w.category = 1) → (lg_sl av).length = av.length
  | [], _ => rfl
  | w :: t, hc => by
    have hw := hc w List.mem_cons_self
    have ih := am_sl_len t (fun u hu => hc u (List.mem_cons_of_mem _ hu))
    simp only [lg_sl] at ih ⊢
    rw [List.flatMap_cons, List.length_append, ih, if_neg (by omega)]
    simp; omega
theorem am_rl.entry {j : Nat} {av : List Value} (hc : ∀ w ∈ av, w.category = 1) (hl : av.length ≤ am_mx j) : am_rl (am_mx j) ((lg_sl av ++ List.replicate (am_mx j - (lg_sl av).length) Slot.unset).toArray) (am_en j av) := by
  have hlen := am_sl_len av hc
  have h := lv_entry av (n := am_mx j) (by rw [hlen]; exact hl)
  refine ⟨h.1, ?_, h.2.1, fun i v hv => ?_⟩
  · simp only [am_en, List.length_append, List.length_map, List.length_replicate]
    omega
  · obtain ⟨h1, h2⟩ := am_en_ld av 0 i _ v hc hv
    rw [Nat.zero_add] at h1
    exact ⟨h.2.2 (i, v) h1, h2⟩
theorem am_g_cat : ∀ (n : Nat) (st : List Value), am_g n st = true → (st.map fun v => v.category).sum ≤ n
  | n, [], _ => by simp
  | 0, v :: t, h => by cases v <;> cases h
  | n + 1, v :: t, h => by
    cases v with
    | int w =>
      have := am_g_cat n t h
      rw [List.map_cons, List.sum_cons]
      show 1 + _ ≤ _
      omega
    | ref w =>
      have := am_g_cat n t h
      rw [List.map_cons, List.sum_cons]
      show 1 + _ ≤ _
      omega
    | _ => cases h
theorem am_g_one : ∀ (n : Nat) (st : List Value), am_g n st = true → ∀ w ∈ st, w.category = 1
  | n, [], _ => fun _ h => by cases h
  | 0, v :: t, h => by cases v <;> cases h
  | n + 1, v :: t, h => by
    cases v with
    | int w =>
      have := am_g_one n t h
      intro u hu
      rcases List.mem_cons.mp hu with hu | hu
      · rw [hu]; rfl
      · exact this u hu
    | ref w =>
      have := am_g_one n t h
      intro u hu
      rcases List.mem_cons.mp hu with hu | hu
      · rw [hu]; rfl
      · exact this u hu
    | _ => cases h
theorem am_at_get : ∀ (fs : List Value) (k : Nat), am_at fs k = fs[k]?
  | [], k => by simp [am_at]
  | _ :: _, 0 => by simp [am_at]
  | _ :: t, k + 1 => by simp [am_at, am_at_get t k]
theorem am_st_set : ∀ (fs : List Value) (k : Nat) (v : Value), am_st fs k v = fs.set k v
  | [], k, v => by simp [am_st]
  | _ :: _, 0, v => by simp [am_st]
  | _ :: t, k + 1, v => by simp [am_st, am_st_set t k v]
theorem am_P1 {D : va_G} {q : Nat × va_E} {H : Heap} (h : va_at D am_cl q H) : va_P D am_cl [q] H := by
  intro k x hk
  cases k with
  | zero =>
    have : q = x := by simpa using hk
    rw [← this]; exact h
  | succ k => simp at hk
theorem am_W.up {D : va_G} {cA : Nat → ClassId} {h : am_H} {H H1 : Heap} {a : Nat} {e : am_E} (hW : am_W D cA h H) (he : va_at D am_cl (a, am_tr cA e) H1) (z : H1.size = H.size) (oq : ∀ q : Nat, q ≠ a → H1[q]? = H[q]?) : am_W D cA (am_up h a e) H1 := by
  refine ⟨by rw [z]; exact hW.1, fun b x hx => ?_⟩
  by_cases hb : b = a
  · subst hb
    rw [am_up_at] at hx
    cases hx
    exact he
  · rw [am_up_ne _ _ hb] at hx
    exact (hW.2 b x hx).kept (oq b hb)
theorem am_W.nw {D : va_G} {cA : Nat → ClassId} {h : am_H} {H H1 : Heap} {e : am_E} {n : Nat} (hW : am_W D cA h H) (he : va_at D am_cl (H.size, am_tr cA e) H1) (z : H1.size = H.size + 1) (oq : ∀ q : Nat, q < H.size → H1[q]? = H[q]?) : am_W D cA (am_nw h e n) H1 := by
  refine ⟨by rw [z, hW.1]; rfl, fun b x hx => ?_⟩
  by_cases hb : b = h.2.1
  · subst hb
    rw [am_nw_at] at hx
    cases hx
    rw [← hW.1]
    exact he
  · rw [am_nw_ne _ _ _ hb] at hx
    have hx' := hW.2 b x hx
    exact hx'.kept (oq b hx'.lt)
def am_wd (pw : Nat) (w : Cond) : Bool := decide (lw_tbl[pw]? = some w) && goodWord w
theorem am_wd_in {pw : Nat} {w : Cond} (h : am_wd pw w = true) : w ∈ am_WS := by
  simp only [am_wd, Bool.and_eq_true, decide_eq_true_eq] at h
  exact am_inWS (List.mem_of_getElem? h.1) h.2
theorem am_lay0 : ∀ k, k < 14 → am_wd ((am_lp.getD 0 []).getD k 0) (u_lay "LayerVault" am_T0 k) = true := by decide +kernel
theorem am_ty0 : ∀ k, k < 14 → parseFieldDescriptor (am_T0 k).2.2.1 = some (am_tf 0 k) := by decide +kernel
theorem am_nm0 : ∀ a, a < 14 → ∀ b, b < 14 → a ≠ b → (am_T0 a).2.1 ≠ (am_T0 b).2.1 := by decide +kernel
theorem am_dv0 : ∀ k, k < 14 → defaultValue (am_tf 0 k) = vp_V (am_df 0) k := by decide +kernel
theorem am_lay1 : ∀ k, k < 8 → am_wd ((am_lp.getD 1 []).getD k 0) (u_lay "LayerVault$Entry" am_T1 k) = true := by decide +kernel
theorem am_ty1 : ∀ k, k < 8 → parseFieldDescriptor (am_T1 k).2.2.1 = some (am_tf 1 k) := by decide +kernel
theorem am_nm1 : ∀ a, a < 8 → ∀ b, b < 8 → a ≠ b → (am_T1 a).2.1 ≠ (am_T1 b).2.1 := by decide +kernel
theorem am_dv1 : ∀ k, k < 8 → defaultValue (am_tf 1 k) = vp_V (am_df 1) k := by decide +kernel
theorem am_lay2 : ∀ k, k < 3 → am_wd ((am_lp.getD 2 []).getD k 0) (u_lay "LayerVault$Row" am_T2 k) = true := by decide +kernel
theorem am_ty2 : ∀ k, k < 3 → parseFieldDescriptor (am_T2 k).2.2.1 = some (am_tf 2 k) := by decide +kernel
theorem am_nm2 : ∀ a, a < 3 → ∀ b, b < 3 → a ≠ b → (am_T2 a).2.1 ≠ (am_T2 b).2.1 := by decide +kernel
theorem am_dv2 : ∀ k, k < 3 → defaultValue (am_tf 2 k) = vp_V (am_df 2) k := by decide +kernel
theorem am_lay3 : ∀ k, k < 2 → am_wd ((am_lp.getD 3 []).getD k 0) (u_lay "LayerVault$Table" am_T3 k) = true := by decide +kernel
theorem am_ty3 : ∀ k, k < 2 → parseFieldDescriptor (am_T3 k).2.2.1 = some (am_tf 3 k) := by decide +kernel
theorem am_nm3 : ∀ a, a < 2 → ∀ b, b < 2 → a ≠ b → (am_T3 a).2.1 ≠ (am_T3 b).2.1 := by decide +kernel
theorem am_dv3 : ∀ k, k < 2 → defaultValue (am_tf 3 k) = vp_V (am_df 3) k := by decide +kernel
theorem am_lay4 : ∀ k, k < 2 → am_wd ((am_lp.getD 4 []).getD k 0) (u_lay "LayerVault$Level" am_T4 k) = true := by decide +kernel
theorem am_ty4 : ∀ k, k < 2 → parseFieldDescriptor (am_T4 k).2.2.1 = some (am_tf 4 k) := by decide +kernel
theorem am_nm4 : ∀ a, a < 2 → ∀ b, b < 2 → a ≠ b → (am_T4 a).2.1 ≠ (am_T4 b).2.1 := by decide +kernel
theorem am_dv4 : ∀ k, k < 2 → defaultValue (am_tf 4 k) = vp_V (am_df 4) k := by decide +kernel
theorem am_lay5 : ∀ k, k < 7 → am_wd ((am_lp.getD 5 []).getD k 0) (u_lay "LayerVault$Log" am_T5 k) = true := by decide +kernel
theorem am_ty5 : ∀ k, k < 7 → parseFieldDescriptor (am_T5 k).2.2.1 = some (am_tf 5 k) := by decide +kernel
theorem am_nm5 : ∀ a, a < 7 → ∀ b, b < 7 → a ≠ b → (am_T5 a).2.1 ≠ (am_T5 b).2.1 := by decide +kernel
theorem am_dv5 : ∀ k, k < 7 → defaultValue (am_tf 5 k) = vp_V (am_df 5) k := by decide +kernel
theorem am_lay6 : ∀ k, k < 1 → am_wd ((am_lp.getD 6 []).getD k 0) (u_lay "LayerVault$Snapshots" am_T6 k) = true := by decide +kernel
theorem am_ty6 : ∀ k, k < 1 → parseFieldDescriptor (am_T6 k).2.2.1 = some (am_tf 6 k) := by decide +kernel
theorem am_nm6 : ∀ a, a < 1 → ∀ b, b < 1 → a ≠ b → (am_T6 a).2.1 ≠ (am_T6 b).2.1 := by decide +kernel
theorem am_dv6 : ∀ k, k < 1 → defaultValue (am_tf 6 k) = vp_V (am_df 6) k := by decide +kernel
theorem am_lay7 : ∀ k, k < 30 → am_wd ((am_lp.getD 7 []).getD k 0) (u_lay "LayerVaultModel" am_T7 k) = true := by decide +kernel
theorem am_ty7 : ∀ k, k < 30 → parseFieldDescriptor (am_T7 k).2.2.1 = some (am_tf 7 k) := by decide +kernel
theorem am_nm7 : ∀ a, a < 30 → ∀ b, b < 30 → a ≠ b → (am_T7 a).2.1 ≠ (am_T7 b).2.1 := by decide +kernel
theorem am_dv7 : ∀ k, k < 30 → defaultValue (am_tf 7 k) = vp_V (am_df 7) k := by decide +kernel
theorem am_lay {x : Nat} {C : String} {T : u_T} {N : Nat} (h : am_cl[x]? = some (C, T, N)) : ∀ w ∈ u_ws C T N, w ∈ am_WS := by
  intro w hw
  obtain ⟨k, hk, rfl⟩ := List.mem_map.mp hw
  have hk := List.mem_range.mp hk
  match x, h with
  | 0, h => cases h; exact am_wd_in (am_lay0 k hk)
  | 1, h => cases h; exact am_wd_in (am_lay1 k hk)
  | 2, h => cases h; exact am_wd_in (am_lay2 k hk)
  | 3, h => cases h; exact am_wd_in (am_lay3 k hk)
  | 4, h => cases h; exact am_wd_in (am_lay4 k hk)
  | 5, h => cases h; exact am_wd_in (am_lay5 k hk)
  | 6, h => cases h; exact am_wd_in (am_lay6 k hk)
  | 7, h => cases h; exact am_wd_in (am_lay7 k hk)
  | n + 8, h => simp at h
theorem am_clok {x : Nat} {C : String} {T : u_T} {N : Nat} (h : am_cl[x]? = some (C, T, N)) : (∀ k, k < N → parseFieldDescriptor (T k).2.2.1 = some (am_tf x k)) ∧ ∀ a, a < N → ∀ b, b < N → a ≠ b → (T a).2.1 ≠ (T b).2.1 := by
  match x, h with
  | 0, h => cases h; exact ⟨am_ty0, am_nm0⟩
  | 1, h => cases h; exact ⟨am_ty1, am_nm1⟩
  | 2, h => cases h; exact ⟨am_ty2, am_nm2⟩
  | 3, h => cases h; exact ⟨am_ty3, am_nm3⟩
  | 4, h => cases h; exact ⟨am_ty4, am_nm4⟩
  | 5, h => cases h; exact ⟨am_ty5, am_nm5⟩
  | 6, h => cases h; exact ⟨am_ty6, am_nm6⟩
  | 7, h => cases h; exact ⟨am_ty7, am_nm7⟩
  | n + 8, h => simp at h
theorem am_dfok {x : Nat} {C : String} {T : u_T} {N : Nat} (h : am_cl[x]? = some (C, T, N)) : ∀ k, k < N → defaultValue (am_tf x k) = vp_V (am_df x) k := by
  match x, h with
  | 0, h => cases h; exact am_dv0
  | 1, h => cases h; exact am_dv1
  | 2, h => cases h; exact am_dv2
  | 3, h => cases h; exact am_dv3
  | 4, h => cases h; exact am_dv4
  | 5, h => cases h; exact am_dv5
  | 6, h => cases h; exact am_dv6
  | 7, h => cases h; exact am_dv7
  | n + 8, h => simp at h
theorem am_ec2 : am_cl[am_ec 2]? = some (am_s2, am_T1, 8) := rfl
theorem am_ec3 : am_cl[am_ec 3]? = some (am_s3, am_T3, 2) := rfl
def am_fw (j idx x y : Nat) (ts : List Nat) : Bool := match am_cl[x]?, ts with
  | some (_, T, N), [0, pw] => decide (y < N) && am_wd pw (.fieldLink (am_y j).cls idx (T y).1 (T y).2.1 (T y).2.2.1)
  | some (_, T, N), [1, pw] => decide (y < N) && (match lw_tbl[pw]? with | some (.fieldLinkNest o i r n d _) => decide (o = (am_y j).cls) && decide (i = idx) && decide (r = (T y).1) && decide (n = (T y).2.1) && decide (d = (T y).2.2.1) | _ => false)
  | _, _ => false
theorem am_fw_spec {j idx x y : Nat} {ts : List Nat} (h : am_fw j idx x y ts = true) : ∃ C T N, am_cl[x]? = some (C, T, N) ∧ y < N ∧ (Cond.fieldLink (am_y j).cls idx (T y).1 (T y).2.1 (T y).2.2.1 ∈ am_WS ∨ ∃ hst, Cond.fieldLinkNest (am_y j).cls idx (T y).1 (T y).2.1 (T y).2.2.1 hst ∈ lw_tbl) := by
  unfold am_fw at h
  split at h
  · rename_i C T N pw hc
    simp only [Bool.and_eq_true, decide_eq_true_eq] at h
    exact ⟨C, T, N, hc, h.1, Or.inl (am_wd_in h.2)⟩
  · rename_i C T N pw hc
    simp only [Bool.and_eq_true, decide_eq_true_eq] at h
    refine ⟨C, T, N, hc, h.1, Or.inr ?_⟩
    have h2 := h.2
    split at h2
    · rename_i o i r n d hst hw
      simp only [Bool.and_eq_true, decide_eq_true_eq] at h2
      obtain ⟨⟨⟨⟨rfl, rfl⟩, rfl⟩, rfl⟩, rfl⟩ := h2
      exact ⟨hst, List.mem_of_getElem? hw⟩
    · cases h2
  · cases h
def am_fp (j x y : Nat) : Bool := match am_cl[x]? with
  | some (_, T, _) => if (T y).2.2.2 = true then decide ((am_y j).name = "<init>") && decide ((T y).1 = (am_y j).cls) else true
  | none => false
def am_mok (x : Nat) : Bool := am_wd (am_pp x 0) (.code (am_y x) (am_by x) (am_mx x) (am_rty x)) && am_wd (am_pp x 1) (.initialized (am_y x).cls) && plainName (am_y x).cls && decide ((am_y x).cls ≠ "java/lang/invoke/MethodHandle") && decide ((am_y x).cls ≠ "java/lang/invoke/VarHandle") && decide (am_mx x ≤ 21)
def am_ml (j idx x : Nat) (ts : List Nat) : Bool := match ts with
  | [0, pw] => am_wd pw (.methodLink (am_y j).cls idx (am_y x))
  | [1, pw] => (match lw_tbl[pw]? with | some (.methodLinkNest o i y _) => decide (o = (am_y j).cls) && decide (i = idx) && decide (y = am_y x) | _ => false)
  | _ => false
theorem am_ml_spec {j idx x : Nat} {ts : List Nat} (h : am_ml j idx x ts = true) : Cond.methodLink (am_y j).cls idx (am_y x) ∈ am_WS ∨ ∃ hst, Cond.methodLinkNest (am_y j).cls idx (am_y x) hst ∈ lw_tbl := by
  unfold am_ml at h
  split at h
  · exact Or.inl (am_wd_in h)
  · split at h
    · rename_i o i y hst hw
      simp only [Bool.and_eq_true, decide_eq_true_eq] at h
      obtain ⟨⟨rfl, rfl⟩, rfl⟩ := h
      exact Or.inr ⟨hst, List.mem_of_getElem? hw⟩
    · cases h
  · cases h
def am_np (x : Nat) : Option Nat := (parseMethodDescriptor (am_y x).desc).map (fun d => d.parameters.length)
def am_vb (j pc : Nat) (q : am_I) : Bool := match q with
  | (i, l, x, y, c, ts) => match i with
    | .iconst n => decide (l = 1) && decide (Int32.ofInt n = c)
    | .bipush n => decide (l = 2) && decide ((Int8.ofInt n).toInt32 = c)
    | .sipush n => decide (l = 3) && decide ((Int16.ofInt n).toInt32 = c)
    | .iload_n k => decide (l = 1) && decide ((k : Nat) = x)
    | .iload k => decide (l = 2) && decide (k = x)
    | .aload_n k => decide (l = 1) && decide ((k : Nat) = x)
    | .aload k => decide (l = 2) && decide (k = x)
    | .istore_n k => decide (l = 1) && decide ((k : Nat) = x)
    | .istore k => decide (l = 2) && decide (k = x)
    | .astore_n k => decide (l = 1) && decide ((k : Nat) = x)
    | .astore k => decide (l = 2) && decide (k = x)
    | .iinc k n => decide (l = 3) && decide (k = x) && decide (Int32.ofInt n = c)
    | .iadd => decide (l = 1)
    | .isub => decide (l = 1)
    | .imul => decide (l = 1)
    | .iand => decide (l = 1)
    | .ior => decide (l = 1)
    | .ishl => decide (l = 1)
    | .ishr => decide (l = 1)
    | .idiv => decide (l = 1)
    | .irem => decide (l = 1)
    | .dup => decide (l = 1)
    | .pop => decide (l = 1)
    | .dup_x1 => decide (l = 1)
    | .dup_x2 => decide (l = 1)
    | .dup2 => decide (l = 1)
    | .ifCond _ o => decide (l = 3) && decide ((pc : Int) + o = (x : Int))
    | .if_icmp _ o => decide (l = 3) && decide ((pc : Int) + o = (x : Int))
    | .if_acmp _ o => decide (l = 3) && decide ((pc : Int) + o = (x : Int))
    | .goto o => decide (l = 3) && decide ((pc : Int) + o = (x : Int))
    | .tableswitch dd a b offs => decide (a = 0) && decide (b = (ts.length : Int) - 1) && decide ((pc : Int) + dd = (x : Int)) && (List.range ts.length).all (fun k => decide (offs[k]? = some ((am_tn ts k x : Int) - (pc : Int))))
    | .getfield k => decide (l = 3) && am_fw j k x y ts
    | .putfield k => decide (l = 3) && am_fw j k x y ts && am_fp j x y
    | .iaload => decide (l = 1)
    | .baload => decide (l = 1)
    | .aaload => decide (l = 1)
    | .iastore => decide (l = 1)
    | .bastore => decide (l = 1)
    | .aastore => decide (l = 1)
    | .arraylength => decide (l = 1)
    | .new k => decide (l = 3) && (match am_cl[x]?, ts with | some (C, _, N), [p1, p2, p3] => decide (y = N) && am_wd p1 (.classLink (am_y j).cls k C) && am_wd p2 (.instantiable C N) && am_wd p3 (.initialized C) | _, _ => false)
    | .newarray t => decide (l = 2) && (match ts with | [p1] => am_wd p1 (.arrayClass (newarray.typeOf t)) | _ => false) && ((decide (newarray.typeOf t = .int) && decide (x = 0)) || (decide (newarray.typeOf t = .boolean) && decide (x = 1)))
    | .anewarray k => decide (l = 3) && (match ts with | [p1] => (decide (x = 2) && am_wd p1 (.classLink (am_y j).cls k am_s2)) || (decide (x = 3) && am_wd p1 (.classLink (am_y j).cls k am_s3)) | _ => false)
    | .invokevirtual k => decide (l = 3) && am_mok x && am_ml j k x ts && decide ((am_np x).map (· + 1) = some y) && decide (y ≤ am_mx x) && decide (am_cl[am_kl x]?.map (fun q => q.1) = some (am_y x).cls) && am_wd (am_pp x 2) (.instanceMethod (am_y x)) && am_wd (am_pp x 3) (.selects (am_y x).cls (am_y x) (am_y x))
    | .invokestatic k => decide (l = 3) && (if y = 90 then (match ts with | [p1, p2, p3, p4] => am_wd p1 (.methodLink (am_y j).cls k Lib.Math.max.name) && am_wd p2 (.static Lib.Math.max.name) && am_wd p3 (.initialized "java/lang/Math") && am_wd p4 (.code Lib.Math.max.name Lib.Math.max.code 2 (some .int)) | _ => false)
        else if y = 91 then (match ts with | [p1, p2, p3, p4] => am_wd p1 (.methodLink (am_y j).cls k Lib.Math.min.name) && am_wd p2 (.static Lib.Math.min.name) && am_wd p3 (.initialized "java/lang/Math") && am_wd p4 (.code Lib.Math.min.name Lib.Math.min.code 2 (some .int)) | _ => false)
        else if y = 92 then (match ts with | [p1, p2, p3, p4] => am_wd p1 (.methodLink (am_y j).cls k arraycopyName) && am_wd p2 (.native arraycopyName) && am_wd p3 (.static arraycopyName) && am_wd p4 (.initialized "java/lang/System") | _ => false)
        else am_mok x && am_ml j k x ts && decide (am_np x = some y) && decide (y ≤ am_mx x) && am_wd (am_pp x 2) (.static (am_y x)))
    | .invokespecial k => decide (l = 3) && (if y = 99 then (match ts with | [p1, p2, p3] => am_wd p1 (.methodLink (am_y j).cls k objectInit) && am_wd p2 (.instanceMethod objectInit) && am_wd p3 (.code objectInit ⟨#[0xb1]⟩ 1 none) | _ => false)
        else am_mok x && am_ml j k x ts && decide ((am_np x).map (· + 1) = some y) && decide (y ≤ am_mx x) && decide ((am_y x).name = "<init>") && decide (am_rty x = none) && am_wd (am_pp x 2) (.instanceMethod (am_y x)))
    | .ireturn => decide (l = 1)
    | .areturn => decide (l = 1)
    | .return_ => decide (l = 1)
    | _ => false
