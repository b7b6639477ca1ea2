section KMP
theorem k_fl_ck (L : List Nat) : ∀ m k, L.length ≤ 6 * (k + m) → e_fl (e_ck L) k m = L.drop (6 * k)
  | 0, k, h => by
    rw [e_fl, List.drop_eq_nil_of_le (by omega)]
  | m + 1, k, h => by
    rw [e_fl, k_fl_ck L m (k + 1) (by omega)]
    unfold e_ck
    by_cases hk : 6 * k + 6 ≤ L.length
    · have e1 : min (6 * k + 6) L.length = 6 * k + 6 := by omega
      rw [e1, List.drop_take]
      have e2 : 6 * k + 6 - 6 * k = 6 := by omega
      have e3 : 6 * (k + 1) = 6 * k + 6 := by omega
      rw [e2, e3, ← List.drop_drop, List.take_append_drop]
    · have e1 : min (6 * k + 6) L.length = L.length := by omega
      rw [e1, List.take_length, List.drop_eq_nil_of_le (i := 6 * (k + 1)) (by omega), List.append_nil]
theorem e_fl_cut (L : List Nat) : e_fl (e_ck L) 0 ((L.length + 5) / 6) = L := by
  rw [k_fl_ck L _ 0 (by omega), Nat.mul_zero, List.drop_zero]
theorem k_ff_map (p : Nat → Nat) (E : Nat → Nat → Int32) : ∀ (T : List Nat) (a : Int32), (T.map p).foldl (e_ff E) a = T.foldl (e_ff (k_ep E p)) a
  | [], _ => rfl
  | e :: t, a => by
    rw [List.map_cons, List.foldl_cons, List.foldl_cons]
    exact k_ff_map p E t _
theorem k_ff_cg {G G' : Nat → Nat → Int32} : ∀ (T : List Nat) (a : Int32), (∀ x ∈ T, G' x 0 = G x 0) → T.foldl (e_ff G') a = T.foldl (e_ff G) a
  | [], _, _ => rfl
  | e :: t, a, h => by
    rw [List.foldl_cons, List.foldl_cons]
    have : e_ff G' a e = e_ff G a e := by unfold e_ff; rw [h e (by simp)]
    rw [this]
    exact k_ff_cg t _ (fun x hx => h x (List.mem_cons_of_mem _ hx))
theorem k_gs_map (p : Nat → Nat) (E : Nat → Nat → Int32) (T : List Nat) (a : Int32) : (T.map p).foldl (e_gs E) a = T.foldl (e_gs (k_ep E p)) a := by
  rw [List.foldl_map]
  congr 1
theorem k_live_map (p : Nat → Nat) (E : Nat → Nat → Int32) (s : Int32) : ∀ T : List Nat, (T.map p).countP (e_live E s) = T.countP (e_live (k_ep E p) s)
  | [] => rfl
  | e :: t => by
    rw [List.map_cons, List.countP_cons, List.countP_cons, k_live_map p E s t]
    rfl
theorem k_ns_map (p : Nat → Nat) (E : Nat → Nat → Int32) (key sight : Int32) : ∀ (T : List Nat) (b : Nat), (T.map p).foldl (e_ns E key sight) (p b) = p (T.foldl (e_ns (k_ep E p) key sight) b)
  | [], _ => rfl
  | e :: t, b => by
    rw [List.map_cons, List.foldl_cons, List.foldl_cons]
    have : e_ns E key sight (p b) (p e) = p (e_ns (k_ep E p) key sight b e) := by
      unfold e_ns
      by_cases h : E (p e) 0 = key ∧ ¬ sight < E (p e) 4 ∧ ¬ E (p e) 4 ≤ E (p b) 4
      · rw [if_pos h, if_pos h]
      · rw [if_neg h, if_neg h]
    rw [this]
    exact k_ns_map p E key sight t _
theorem k_my_map (p : Nat → Nat) (E : Nat → Nat → Int32) (F key : Int32) {T : List Nat} (hT : T ≠ []) : e_my E F (T.map p) key = e_my (k_ep E p) F T key := by
  have hl : 0 < T.length := List.length_pos_iff.mpr hT
  have h : ∀ i, i < T.length → (T.map p).getD i 0 = p (T.getD i 0) := by
    intro i hi
    rw [List.getD_eq_getElem?_getD, List.getD_eq_getElem?_getD, List.getElem?_map, List.getElem?_eq_getElem hi]
    rfl
  unfold e_my
  rw [List.length_map, h 0 hl, h (T.length - 1) (by omega)]
  rfl
theorem k_sl_map (p : Nat → Nat) (E : Nat → Nat → Int32) (key sight : Int32) (b : Nat) {C D : Nat → List Nat} {fl : Nat → Int32} : ∀ m k f n, (∀ j, k ≤ j → j < k + m → C j = (D j).map p ∧ D j ≠ []) → e_sl E key sight (p b) C fl m k (p f) n = (p (e_sl (k_ep E p) key sight b D fl m k f n).1, (e_sl (k_ep E p) key sight b D fl m k f n).2)
  | 0, k, f, n, _ => rfl
  | m + 1, k, f, n, h => by
    obtain ⟨h1, h2⟩ := h k (by omega) (by omega)
    have ih := fun f n => k_sl_map p E key sight b (C := C) (D := D) (fl := fl) m (k + 1) f n (fun j a c => h j (by omega) (by omega))
    unfold e_sl
    rw [h1, k_my_map p E _ _ h2, k_ns_map]
    by_cases hf : E (p f) 0 = -1
    · have hf' : k_ep E p f 0 = -1 := hf
      rw [if_pos hf, if_pos hf']
      by_cases hm : e_my (k_ep E p) (fl k) (D k) key = true
      · rw [if_pos hm, if_pos hm]; exact ih _ _
      · rw [if_neg hm, if_neg hm]; exact ih _ _
    · have hf' : ¬ k_ep E p f 0 = -1 := hf
      rw [if_neg hf, if_neg hf']
theorem k_sk_map (p : Nat → Nat) (E : Nat → Nat → Int32) (key sight : Int32) (b : Nat) {C D : Nat → Nat → List Nat} {fl : Nat → Nat → Int32} {c : Nat → Nat} : ∀ m l f n, (∀ l' j, l ≤ l' → l' < l + m → j < c l' → C l' j = (D l' j).map p ∧ D l' j ≠ []) → e_sk E key sight (p b) C fl c m l (p f) n = (p (e_sk (k_ep E p) key sight b D fl c m l f n).1, (e_sk (k_ep E p) key sight b D fl c m l f n).2)
  | 0, l, f, n, _ => rfl
  | m + 1, l, f, n, h => by
    have ih := fun f n => k_sk_map p E key sight b (C := C) (D := D) (fl := fl) (c := c) m (l + 1) f n (fun l' j a e g => h l' j (by omega) (by omega) g)
    unfold e_sk
    by_cases hf : E (p f) 0 = -1
    · have hf' : k_ep E p f 0 = -1 := hf
      rw [if_pos hf, if_pos hf', k_sl_map p E key sight b (D := D l) (c l) 0 b n (fun j _ hj => h l j (by omega) (by omega) (by omega))]
      exact ih _ _
    · have hf' : ¬ k_ep E p f 0 = -1 := hf
      rw [if_neg hf, if_neg hf']
theorem k_se_map (p : Nat → Nat) (E : Nat → Nat → Int32) (key sight : Int32) (b : Nat) (M : List Nat) {C D : Nat → Nat → List Nat} {fl : Nat → Nat → Int32} {c : Nat → Nat} (h : ∀ l j, l < 3 → j < c l → C l j = (D l j).map p ∧ D l j ≠ []) : e_se E key sight (p b) (M.map p) C fl c = (p (e_se (k_ep E p) key sight b M D fl c).1, (e_se (k_ep E p) key sight b M D fl c).2) := by
  unfold e_se
  rw [k_ns_map]
  exact k_sk_map p E key sight b 3 0 _ 0 (fun l' j _ a g => h l' j (by omega) g)
end KMP
