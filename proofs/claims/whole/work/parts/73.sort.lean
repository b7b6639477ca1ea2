section KS
variable {E : Nat → Nat → Int32}
theorem e_bf_iff (E : Nat → Nat → Int32) (a b : Nat) : e_bf E a b = true ↔ (E a 0).toInt < (E b 0).toInt ∨ ((E a 0).toInt = (E b 0).toInt ∧ (E b 4).toInt < (E a 4).toInt) := by
  unfold e_bf
  simp only [Bool.or_eq_true, Bool.and_eq_true, decide_eq_true_eq, Bool.not_eq_true', decide_eq_false_iff_not, Int32.lt_iff_toInt_lt, Int32.le_iff_toInt_le, ← Int32.toInt_inj, Int.not_le]
theorem e_pl_spec (f : Nat → Bool) (L : List Nat) : ∀ k, (∀ j, e_pl f L k ≤ j → j < k → f (L.getD j 0) = true) ∧ ∀ m, e_pl f L k = m + 1 → f (L.getD m 0) = false
  | 0 => ⟨fun j _ h => absurd h (Nat.not_lt_zero j), fun m h => by simp [e_pl] at h⟩
  | k + 1 => by
    obtain ⟨h1, h2⟩ := e_pl_spec f L k
    rw [e_pl_s]
    by_cases hf : f (L.getD k 0) = true
    · rw [if_pos hf]
      refine ⟨fun j hj hk => ?_, h2⟩
      by_cases hjk : j = k
      · rw [hjk]; exact hf
      · exact h1 j hj (by omega)
    · rw [if_neg hf]
      refine ⟨fun j hj hk => by omega, fun m hm => ?_⟩
      have hm : k = m := by omega
      rw [← hm]
      exact Bool.not_eq_true _ ▸ hf
theorem e_ins_split (f : Nat → Bool) (e : Nat) (L : List Nat) : ∃ A B, L = A ++ B ∧ e_ins f e L = A ++ e :: B ∧ (∀ x ∈ B, f x = true) ∧ ∀ A' x, A = A' ++ [x] → f x = false := by
  obtain ⟨h1, h2⟩ := e_pl_spec f L L.length
  have hle := e_pl_le f L L.length
  refine ⟨L.take (e_pl f L L.length), L.drop (e_pl f L L.length), (List.take_append_drop _ _).symm, rfl, ?_, ?_⟩
  · intro x hx
    obtain ⟨i, hi, rfl⟩ := List.getElem_of_mem hx
    rw [List.length_drop] at hi
    rw [List.getElem_drop]
    have := h1 (e_pl f L L.length + i) (by omega) (by omega)
    rw [List.getD_eq_getElem?_getD, List.getElem?_eq_getElem (by omega)] at this
    exact this
  · intro A' x hA
    have hl : (L.take (e_pl f L L.length)).length = A'.length + 1 := by rw [hA]; simp
    rw [List.length_take] at hl
    have hm : e_pl f L L.length = A'.length + 1 := by omega
    have := h2 _ hm
    have hx : (L.take (e_pl f L L.length))[A'.length]? = some x := by rw [hA]; simp
    rw [List.getElem?_take, if_pos (by omega)] at hx
    rw [List.getD_eq_getElem?_getD, hx] at this
    exact this
def k_srt (E : Nat → Nat → Int32) (L : List Nat) : Prop := L.Pairwise (fun a b => e_bf E a b = true)
def k_cp (E : Nat → Nat → Int32) (a b : Nat) : Prop := e_bf E a b = true ∨ e_bf E b a = true
theorem e_bf_tr {a b c : Nat} (h1 : e_bf E a b = true) (h2 : e_bf E b c = true) : e_bf E a c = true := by
  rw [e_bf_iff] at *
  omega
theorem e_bf_as {a b : Nat} (h1 : e_bf E a b = true) (h2 : e_bf E b a = true) : False := by
  rw [e_bf_iff] at *
  omega
theorem e_bf_ir {a : Nat} (h1 : e_bf E a a = true) : False := e_bf_as h1 h1
theorem k_srt_ik {T : List Nat} {e : Nat} (hT : k_srt E T) (hc : ∀ x ∈ T, k_cp E e x) : k_srt E (e_ik E T e) := by
  obtain ⟨A, B, h1, h2, h3, h4⟩ := e_ins_split (e_bf E e) e T
  have h2 : e_ik E T e = A ++ e :: B := h2
  rw [h2]
  unfold k_srt at *
  rw [h1, List.pairwise_append] at hT
  obtain ⟨p1, p2, p3⟩ := hT
  have hA : ∀ x ∈ A, e_bf E x e = true := by
    rcases List.eq_nil_or_concat A with h | ⟨A', y, h⟩
    · rw [h]; intro x hx; cases hx
    · rw [List.concat_eq_append] at h
      have hy : e_bf E y e = true := by
        rcases hc y (by rw [h1, h]; simp) with q | q
        · rw [h4 A' y h] at q; cases q
        · exact q
      intro x hx
      rw [h] at hx p1
      rcases List.mem_append.mp hx with q | q
      · rw [List.pairwise_append] at p1
        exact e_bf_tr (p1.2.2 x q y (by simp)) hy
      · rw [List.mem_singleton] at q
        rw [q]; exact hy
  rw [List.pairwise_append]
  refine ⟨p1, List.pairwise_cons.mpr ⟨h3, p2⟩, ?_⟩
  intro a ha b hb
  rcases List.mem_cons.mp hb with q | q
  · rw [q]; exact hA a ha
  · exact p3 a ha b q
theorem k_ik_mem (E : Nat → Nat → Int32) (T : List Nat) (e x : Nat) : x ∈ e_ik E T e ↔ x = e ∨ x ∈ T := e_ins_mem _ _ _ _
theorem k_srt_fold : ∀ (U T : List Nat), k_srt E T → U.Pairwise (k_cp E) → (∀ x ∈ U, ∀ y ∈ T, k_cp E x y) → k_srt E (U.foldl (e_ik E) T) ∧ ∀ x, x ∈ U.foldl (e_ik E) T ↔ x ∈ U ∨ x ∈ T
  | [], T, hT, _, _ => ⟨hT, fun x => by simp⟩
  | u :: U, T, hT, hU, hc => by
    rw [List.pairwise_cons] at hU
    have ih := k_srt_fold U (e_ik E T u) (k_srt_ik hT (fun x hx => hc u (by simp) x hx)) hU.2 (by
      intro x hx y hy
      rcases (k_ik_mem E T u y).mp hy with q | q
      · rw [q]; exact (hU.1 x hx).symm
      · exact hc x (List.mem_cons_of_mem _ hx) y q)
    refine ⟨ih.1, fun x => ?_⟩
    rw [List.foldl_cons, ih.2, k_ik_mem, List.mem_cons]
    constructor
    · rintro (h | h | h)
      · exact .inl (.inr h)
      · exact .inl (.inl h)
      · exact .inr h
    · rintro ((h | h) | h)
      · exact .inr (.inl h)
      · exact .inl h
      · exact .inr (.inr h)
theorem k_srt.nd {L : List Nat} (h : k_srt E L) : L.Nodup := by
  refine List.Pairwise.imp ?_ h
  intro a b hab e
  subst e
  exact e_bf_ir hab
theorem k_srt.eq {L1 L2 : List Nat} (h1 : k_srt E L1) (h2 : k_srt E L2) (h : ∀ x, x ∈ L1 ↔ x ∈ L2) : L1 = L2 :=
  List.Perm.eq_of_pairwise (fun _ _ _ _ p q => (e_bf_as p q).elim) h1 h2 ((List.perm_ext_iff_of_nodup h1.nd h2.nd).mpr h)
theorem e_pl_map (f : Nat → Bool) (p : Nat → Nat) (T : List Nat) : ∀ k, k ≤ T.length → e_pl f (T.map p) k = e_pl (fun x => f (p x)) T k
  | 0, _ => rfl
  | k + 1, hk => by
    have e1 : (T.map p).getD k 0 = p (T.getD k 0) := by
      rw [List.getD_eq_getElem?_getD, List.getD_eq_getElem?_getD, List.getElem?_map, List.getElem?_eq_getElem (by omega)]
      rfl
    rw [e_pl_s, e_pl_s, e_pl_map f p T k (by omega), e1]
theorem e_ins_map (f : Nat → Bool) (p : Nat → Nat) (i : Nat) (T : List Nat) : e_ins f (p i) (T.map p) = (e_ins (fun x => f (p x)) i T).map p := by
  unfold e_ins
  rw [List.length_map, e_pl_map f p T _ (Nat.le_refl _)]
  simp [List.map_take, List.map_drop]
abbrev k_ep (E : Nat → Nat → Int32) (p : Nat → Nat) : Nat → Nat → Int32 := fun i => E (p i)
theorem e_ik_map (p : Nat → Nat) (i : Nat) (T : List Nat) : e_ik E (T.map p) (p i) = (e_ik (k_ep E p) T i).map p := e_ins_map _ _ _ _
theorem e_ikf_map (p : Nat → Nat) : ∀ (U T : List Nat), (U.map p).foldl (e_ik E) (T.map p) = (U.foldl (e_ik (k_ep E p)) T).map p
  | [], _ => rfl
  | u :: U, T => by
    rw [List.map_cons, List.foldl_cons, e_ik_map, e_ikf_map p U, List.foldl_cons]
theorem e_mm_map (p : Nat → Nat) (U T : List Nat) : e_mm E (U.map p) (T.map p) = (e_mm (k_ep E p) U T).map p := by
  unfold e_mm
  have h := e_ikf_map (E := E) p T []
  rw [List.map_nil] at h
  rw [h, e_ikf_map]
theorem e_du_map (p : Nat → Nat) (ta : Nat → Nat → Bool) : ∀ (T : List Nat) (b : Nat), e_du E ta (p b) (T.map p) = (e_du (k_ep E p) (fun x y => ta (p x) (p y)) b T).map p
  | [], _ => rfl
  | e :: t, b => by
    rw [List.map_cons]
    unfold e_du
    rw [e_du_map p ta t e]
    by_cases h : ¬ E (p e) 0 = E (p b) 0 ∨ ta (p e) (p b) = true
    · rw [if_pos h, if_pos h, List.map_cons]
    · rw [if_neg h, if_neg h]
theorem e_dg_map (p : Nat → Nat) (now : Int32) : ∀ (T : List Nat) (b : Nat) (acc : List Nat), e_dg E now (T.map p) (p b) (acc.map p) = (e_dg (k_ep E p) now T b acc).map p
  | [], _, _ => rfl
  | e :: t, b, acc => by
    rw [List.map_cons]
    unfold e_dg
    have h1 := e_dg_map p now t e (e :: acc)
    have h2 := e_dg_map p now t b acc
    rw [List.map_cons] at h1
    rw [h1, h2]
    have hg : e_gone E (p e) now = e_gone (k_ep E p) e now := rfl
    rw [hg]
    by_cases h : E (p e) 0 = E (p b) 0 ∨ e_gone (k_ep E p) e now = false
    · rw [if_pos h, if_pos h]
    · rw [if_neg h, if_neg h]
theorem e_rs_map (p : Nat → Nat) (S : Nat → Int32) (now : Int32) (b w : Nat) (U T : List Nat) : e_rs E S now (p b) w (U.map p) (T.map p) = (e_rs (k_ep E p) S now b w U T).map p := by
  unfold e_rs
  rw [e_mm_map, e_du_map]
  unfold e_m3
  have ht : (fun x y => e_ta S E (p x) (p y)) = e_ta S (k_ep E p) := rfl
  rw [ht]
  by_cases hw : w = 2
  · rw [if_pos hw, if_pos hw, ← List.map_reverse]
    exact e_dg_map p now _ b []
  · rw [if_neg hw, if_neg hw]
end KS
