section KTH
variable {G F : Nat → Nat → Int32} {n last nw c0 : Nat} {M L1 L2 : List Nat} {T0 : Nat → List Nat} {s sight : Int32} {q : Nat}
theorem k_la_iff (hd : k_dc G F n) (hsn : k_sn F n s sight) {L : List Nat} {nwI l k key : Int32} (hl9 : ¬ l = 9) (hm : ∀ i, i ∈ L ↔ i < n ∧ m_li F nwI l k i = true) {i : Nat} (hi : i < n) : m_laP F nwI l k s key i = true ↔ i ∈ L ∧ k_q G key sight i := by
  have hal : m_li F nwI l k i = true → k_al F n i := by
    intro hli
    refine ⟨hi, fun h => ?_⟩
    unfold m_li at hli
    simp only [Bool.and_eq_true, decide_eq_true_eq] at hli
    exact hl9 (hli.1.symm.trans h)
  unfold m_laP k_q
  rw [Bool.and_eq_true, Bool.and_eq_true, decide_eq_true_eq, hm i, (hd i hi).1, (hd i hi).2.2.2.1]
  constructor
  · rintro ⟨a, b, c⟩; exact ⟨⟨hi, a⟩, b, (hsn i (hal a)).mp c⟩
  · rintro ⟨⟨_, a⟩, b, c⟩; exact ⟨a, b, (hsn i (hal a)).mpr c⟩
theorem k_la_spec (hd : k_dc G F n) (hsn : k_sn F n s sight) {L : List Nat} {nwI l k key : Int32} (hl9 : ¬ l = 9) (hm : ∀ i, i ∈ L ↔ i < n ∧ m_li F nwI l k i = true) :
    (m_arg (m_laP F nwI l k s key) (m_hi F) n = none ∧ ∀ i ∈ L, ¬ k_q G key sight i) ∨ ∃ e, m_arg (m_laP F nwI l k s key) (m_hi F) n = some e ∧ e ∈ L ∧ k_q G key sight e ∧ ∀ i ∈ L, k_q G key sight i → (F 1 i).toInt ≤ (F 1 e).toInt := by
  have hsp := m_arg_spec (P := m_laP F nwI l k s key) (k_hi_iff F) n
  revert hsp
  cases m_arg (m_laP F nwI l k s key) (m_hi F) n with
  | none =>
    intro hsp
    refine .inl ⟨rfl, fun i hi hq => ?_⟩
    have hin := ((hm i).mp hi).1
    have := hsp i hin
    rw [(k_la_iff hd hsn hl9 hm hin).mpr ⟨hi, hq⟩] at this
    cases this
  | some e =>
    rintro ⟨h1, h2, h3⟩
    obtain ⟨h4, h5⟩ := (k_la_iff hd hsn hl9 hm h1).mp h2
    refine .inr ⟨e, rfl, h4, h5, fun i hi hq => ?_⟩
    have hin := ((hm i).mp hi).1
    have := h3 i hin ((k_la_iff hd hsn hl9 hm hin).mpr ⟨hi, hq⟩)
    omega
theorem k_l9 {l : Nat} (hl : l < 3) : ¬ nI l = 9 := by
  have : l = 0 ∨ l = 1 ∨ l = 2 := by omega
  rcases this with h | h | h <;> subst h <;> decide
theorem k_fk_spec (hd : k_dc G F n) (hV : k_V G F n last nw c0 M T0 L1 L2) (hsn : k_sn F n s sight) (hq : q < 32) {l : Nat} (hl : l < 3) : ∀ m k (p : Int32), m + k ≤ k_ct c0 L1 L2 l →
    ((m_fk F (nI nw) n s (nI q) l m k none p).1 = none ∧ ∀ k', k ≤ k' → k' < k + m → ∀ i ∈ k_tb T0 L1 L2 l k', ¬ k_q G (nI q) sight i) ∨
    ∃ e k', (m_fk F (nI nw) n s (nI q) l m k none p).1 = some e ∧ k ≤ k' ∧ k' < k + m ∧ e ∈ k_tb T0 L1 L2 l k' ∧ k_q G (nI q) sight e ∧ (∀ i ∈ k_tb T0 L1 L2 l k', k_q G (nI q) sight i → (F 1 i).toInt ≤ (F 1 e).toInt) ∧ ∀ k'', k ≤ k'' → k'' < k' → ∀ i ∈ k_tb T0 L1 L2 l k'', ¬ k_q G (nI q) sight i
  | 0, k, p, _ => .inl ⟨rfl, fun k' h1 h2 => by omega⟩
  | m + 1, k, p, hmk => by
    obtain ⟨t1, t2, t3, t4⟩ := k_li hV hl (k := k) (by omega)
    have hl9 := k_l9 hl
    have step : ∀ p', (∀ i ∈ k_tb T0 L1 L2 l k, ¬ k_q G (nI q) sight i) →
        ((m_fk F (nI nw) n s (nI q) l m (k + 1) none p').1 = none ∧ ∀ k', k ≤ k' → k' < k + (m + 1) → ∀ i ∈ k_tb T0 L1 L2 l k', ¬ k_q G (nI q) sight i) ∨
        ∃ e k', (m_fk F (nI nw) n s (nI q) l m (k + 1) none p').1 = some e ∧ k ≤ k' ∧ k' < k + (m + 1) ∧ e ∈ k_tb T0 L1 L2 l k' ∧ k_q G (nI q) sight e ∧ (∀ i ∈ k_tb T0 L1 L2 l k', k_q G (nI q) sight i → (F 1 i).toInt ≤ (F 1 e).toInt) ∧ ∀ k'', k ≤ k'' → k'' < k' → ∀ i ∈ k_tb T0 L1 L2 l k'', ¬ k_q G (nI q) sight i := by
      intro p' hno
      rcases k_fk_spec hd hV hsn hq hl m (k + 1) p' (by omega) with ⟨h1, h2⟩ | ⟨e, k', h1, h2, h3, h4, h5, h6, h7⟩
      · refine .inl ⟨h1, fun k' a b => ?_⟩
        by_cases hk : k' = k
        · rw [hk]; exact hno
        · exact h2 k' (by omega) (by omega)
      · refine .inr ⟨e, k', h1, by omega, by omega, h4, h5, h6, fun k'' a b => ?_⟩
        by_cases hk : k'' = k
        · rw [hk]; exact hno
        · exact h7 k'' (by omega) b
    unfold m_fk
    by_cases hc : m_may F (nI nw) n (nI l) (nI k) (nI q) = true
    · simp only [hc, if_true]
      rcases k_la_spec hd hsn (key := nI q) hl9 t1 with ⟨h1, h2⟩ | ⟨e, h1, h2, h3, h4⟩
      · rw [h1]; exact step (p + 1) h2
      · rw [h1, m_fk_some]
        exact .inr ⟨e, k, rfl, by omega, by omega, h2, h3, h4, fun k'' a b => by omega⟩
    · simp only [hc, if_false, Bool.false_eq_true]
      refine step p (fun i hi hqi => hc ?_)
      rw [← k_may_eq hd hV.1 hq hl9 t2 t3 t1]
      exact k_my_in hd t2 hi hqi.1
theorem k_fd_spec (hd : k_dc G F n) (hV : k_V G F n last nw c0 M T0 L1 L2) (hsn : k_sn F n s sight) (hq : q < 32) : ∀ m l (p : Int32), m + l ≤ 3 →
    ((m_fd F (nI nw) c0 n s (nI q) m l none p).1 = none ∧ ∀ l' k', l ≤ l' → l' < l + m → k' < k_ct c0 L1 L2 l' → ∀ i ∈ k_tb T0 L1 L2 l' k', ¬ k_q G (nI q) sight i) ∨
    ∃ e l' k', (m_fd F (nI nw) c0 n s (nI q) m l none p).1 = some e ∧ l ≤ l' ∧ l' < l + m ∧ k' < k_ct c0 L1 L2 l' ∧ e ∈ k_tb T0 L1 L2 l' k' ∧ k_q G (nI q) sight e ∧ (∀ i ∈ k_tb T0 L1 L2 l' k', k_q G (nI q) sight i → (F 1 i).toInt ≤ (F 1 e).toInt) ∧ ∀ l'' k'', l ≤ l'' → ((l'' < l' ∧ k'' < k_ct c0 L1 L2 l'') ∨ (l'' = l' ∧ k'' < k')) → ∀ i ∈ k_tb T0 L1 L2 l'' k'', ¬ k_q G (nI q) sight i
  | 0, l, p, _ => .inl ⟨rfl, fun l' k' h1 h2 => by omega⟩
  | m + 1, l, p, hml => by
    rw [m_fd, k_tn hV (by omega)]
    rcases k_fk_spec hd hV hsn hq (l := l) (by omega) (k_ct c0 L1 L2 l) 0 p (by omega) with ⟨h1, h2⟩ | ⟨e, k', h1, h2, h3, h4, h5, h6, h7⟩
    · rw [h1]
      rcases k_fd_spec hd hV hsn hq m (l + 1) (m_fk F (nI nw) n s (nI q) l (k_ct c0 L1 L2 l) 0 none p).2 (by omega) with ⟨g1, g2⟩ | ⟨e, l', k', g1, g2, g3, g4, g5, g6, g7, g8⟩
      · refine .inl ⟨g1, fun l' k' a b c => ?_⟩
        by_cases hll : l' = l
        · rw [hll] at c ⊢; exact h2 k' (by omega) (by omega)
        · exact g2 l' k' (by omega) (by omega) c
      · refine .inr ⟨e, l', k', g1, by omega, by omega, g4, g5, g6, g7, fun l'' k'' a b => ?_⟩
        by_cases hll : l'' = l
        · rcases b with ⟨b1, b2⟩ | ⟨b1, b2⟩
          · rw [hll] at b2 ⊢; exact h2 k'' (by omega) (by omega)
          · omega
        · exact g8 l'' k'' (by omega) b
    · rw [h1, m_fd_some]
      refine .inr ⟨e, l, k', rfl, by omega, by omega, by omega, h4, h5, h6, fun l'' k'' a b => ?_⟩
      rcases b with ⟨b1, b2⟩ | ⟨b1, b2⟩
      · omega
      · rw [b1]; exact h7 k'' (by omega) b2
theorem k_ck_ord (hd : k_dc G F n) {L : List Nat} {k k' i j : Nat} (hs : k_srt G L) (hi : i ∈ e_ck L k) (hj : j ∈ e_ck L k') (hin : i < n) (hjn : j < n) (hk : k < k') (hkey : G i 0 = G j 0) : (F 1 j).toInt < (F 1 i).toInt := by
  obtain ⟨r, r1, r2, r3⟩ := (e_ck_mem L k i).mp hi
  obtain ⟨u, u1, u2, u3⟩ := (e_ck_mem L k' j).mp hj
  obtain ⟨r4, r5⟩ := List.getElem?_eq_some_iff.mp r3
  obtain ⟨u4, u5⟩ := List.getElem?_eq_some_iff.mp u3
  have := List.pairwise_iff_getElem.mp hs r u r4 u4 (by omega)
  rw [r5, u5, e_bf_iff, hkey, (hd i hin).2.2.2.1, (hd j hjn).2.2.2.1] at this
  omega
theorem k_ord (hd : k_dc G F n) (hV : k_V G F n last nw c0 M T0 L1 L2) {l l' k k' i j : Nat} (hl : l < 3) (hl' : l' < 3) (hk : k < k_ct c0 L1 L2 l) (hk' : k' < k_ct c0 L1 L2 l') (hi : i ∈ k_tb T0 L1 L2 l k) (hj : j ∈ k_tb T0 L1 L2 l' k') (hkey : G i 0 = G j 0) (h : l < l' ∨ (l = l' ∧ k < k')) : (F 1 j).toInt < (F 1 i).toInt := by
  obtain ⟨t1, t2, t3, t4⟩ := k_li hV hl hk
  obtain ⟨u1, u2, u3, u4⟩ := k_li hV hl' hk'
  have hin := ((t1 i).mp hi).1
  have hjn := ((u1 j).mp hj).1
  have hi5 := t4 i hi
  have hj5 := u4 j hj
  rcases h with h | ⟨h, hkk⟩
  · refine hV.1.2.2.1 i j ⟨hin, by rw [hi5]; exact k_l9 hl⟩ ⟨hjn, by rw [hj5]; exact k_l9 hl'⟩ ?_
    rw [hi5, hj5, nI_toInt (by omega), nI_toInt (by omega)]
    omega
  · subst h
    obtain ⟨hA, ⟨⟨z1, z2, z3⟩, z4, z5, z6⟩, ⟨a1, a2⟩, ⟨b1, b2⟩, _⟩ := hV
    have : l = 0 ∨ l = 1 ∨ l = 2 := by omega
    rcases this with hl | hl | hl
    · subst hl
      have hi' := ((z4 k hk).2.2.2 i).mp hi
      have hj' := ((z4 k' hk').2.2.2 j).mp hj
      have hk1 : k < c0 := hk
      have hk2 : k' < c0 := hk'
      refine z6 i j hin hjn hi'.2.1 hj'.2.1 ?_
      rw [hi'.2.2, hj'.2.2, nI_toInt (by omega), nI_toInt (by omega)]
      omega
    · subst hl; exact k_ck_ord hd a1 hi hj hin hjn hkk hkey
    · subst hl; exact k_ck_ord hd b1 hi hj hin hjn hkk hkey
theorem k_ck_in {L : List Nat} {i : Nat} (hi : i ∈ L) : ∃ k, k < (L.length + 5) / 6 ∧ i ∈ e_ck L k := by
  obtain ⟨r, hr⟩ := List.getElem?_of_mem hi
  have hrl := (List.getElem?_eq_some_iff.mp hr).1
  exact ⟨r / 6, by omega, (e_ck_mem L _ i).mpr ⟨r, by omega, by omega, hr⟩⟩
theorem k_cov (hV : k_V G F n last nw c0 M T0 L1 L2) {i : Nat} (hi : k_al F n i) : i ∈ M ∨ ∃ l k, l < 3 ∧ k < k_ct c0 L1 L2 l ∧ i ∈ k_tb T0 L1 L2 l k := by
  obtain ⟨hA, ⟨⟨z1, z2, z3⟩, z4, z5, z6⟩, ⟨a1, a2⟩, ⟨b1, b2⟩, c1, c2, d1, d2, f1, f2⟩ := hV
  rcases hA.2.2.2 i hi.1 with h | h | h | h | h
  · exact .inl ((f2 i).mpr ⟨hi.1, h⟩)
  · obtain ⟨k, k1, k2⟩ := z5 i hi.1 h
    exact .inr ⟨0, k, by omega, k1, ((z4 k k1).2.2.2 i).mpr ⟨hi.1, h, k2⟩⟩
  · obtain ⟨k, k1, k2⟩ := k_ck_in ((a2 i).mpr ⟨hi.1, h⟩)
    exact .inr ⟨1, k, by omega, k1, k2⟩
  · obtain ⟨k, k1, k2⟩ := k_ck_in ((b2 i).mpr ⟨hi.1, h⟩)
    exact .inr ⟨2, k, by omega, k1, k2⟩
  · exact absurd h hi.2
theorem k_fn_th (hd : k_dc G F n) (hV : k_V G F n last nw c0 M T0 L1 L2) (hsn : k_sn F n s sight) (hq : q < 32) : (m_fn F (nI nw) c0 n s (nI q)).1 = m_arg (m_thP F s (nI q)) (m_hi F) n := by
  have hth : ∀ i, i < n → (m_thP F s (nI q) i = true ↔ k_al F n i ∧ k_q G (nI q) sight i) := by
    intro i hi
    unfold m_thP k_q
    rw [Bool.and_eq_true, Bool.and_eq_true, decide_eq_true_eq, Bool.not_eq_true', decide_eq_false_iff_not, (hd i hi).1, (hd i hi).2.2.2.1]
    constructor
    · rintro ⟨a, b, c⟩; exact ⟨⟨hi, a⟩, b, (hsn i ⟨hi, a⟩).mp c⟩
    · rintro ⟨a, b, c⟩; exact ⟨a.2, b, (hsn i a).mpr c⟩
  have hMm := k_mem_li hV (nI nw) 0
  have hsome : ∀ e, k_al F n e → k_q G (nI q) sight e → (∀ i, k_al F n i → k_q G (nI q) sight i → i ≠ e → (F 1 i).toInt < (F 1 e).toInt) → m_arg (m_thP F s (nI q)) (m_hi F) n = some e := by
    intro e h1 h2 h3
    refine m_arg_eq (k_hi_iff F) h1.1 ((hth e h1.1).mpr ⟨h1, h2⟩) (fun i hi hp hne => ?_)
    obtain ⟨p1, p2⟩ := (hth i hi).mp hp
    have := h3 i p1 p2 hne
    omega
  have hdist : ∀ e i, k_al F n e → k_al F n i → i ≠ e → (F 1 i).toInt ≤ (F 1 e).toInt → (F 1 i).toInt < (F 1 e).toInt := by
    intro e i he hi hne hle
    have : (F 1 i).toInt ≠ (F 1 e).toInt := fun h => hne (hV.1.2.1 i e hi he h)
    omega
  have halT : ∀ l k, l < 3 → k < k_ct c0 L1 L2 l → ∀ i ∈ k_tb T0 L1 L2 l k, k_al F n i ∧ F 5 i = nI l := by
    intro l k hl hk i hi
    obtain ⟨t1, t2, t3, t4⟩ := k_li hV hl hk
    exact ⟨⟨((t1 i).mp hi).1, by rw [t4 i hi]; exact k_l9 hl⟩, t4 i hi⟩
  have halM : ∀ i ∈ M, k_al F n i ∧ F 5 i = -1 := by
    intro i hi
    have := (hV.2.2.2.2.2.2.2.2.2 i).mp hi
    exact ⟨⟨this.1, by rw [this.2]; decide⟩, this.2⟩
  have hMT : ∀ i j l k, l < 3 → k < k_ct c0 L1 L2 l → i ∈ M → j ∈ k_tb T0 L1 L2 l k → (F 1 j).toInt < (F 1 i).toInt := by
    intro i j l k hl hk hi hj
    obtain ⟨m1, m2⟩ := halM i hi
    obtain ⟨j1, j2⟩ := halT l k hl hk j hj
    refine hV.1.2.2.1 i j m1 j1 ?_
    rw [m2, j2, nI_toInt (by omega)]
    have : (-1 : Int32).toInt = -1 := by decide
    omega
  unfold m_fn
  rcases k_la_spec hd hsn (key := nI q) (by decide) hMm with ⟨h1, h2⟩ | ⟨e, h1, h2, h3, h4⟩
  · rw [h1]
    rcases k_fd_spec hd hV hsn hq 3 0 0 (by omega) with ⟨g1, g2⟩ | ⟨e, l', k', g1, g2, g3, g4, g5, g6, g7, g8⟩
    · rw [g1]
      symm
      rw [m_arg_none]
      intro i hi
      by_cases hp : m_thP F s (nI q) i = true
      · exfalso
        obtain ⟨p1, p2⟩ := (hth i hi).mp hp
        rcases k_cov hV p1 with h | ⟨l, k, a, b, c⟩
        · exact h2 i h p2
        · exact g2 l k (by omega) (by omega) b i c p2
      · exact Bool.not_eq_true _ ▸ hp
    · rw [g1]
      symm
      have he := (halT l' k' (by omega) g4 e g5).1
      refine hsome e he g6 (fun i hi hqi hne => ?_)
      rcases k_cov hV hi with h | ⟨l, k, a, b, c⟩
      · exact absurd hqi (h2 i h)
      · by_cases h5 : l < l' ∨ (l = l' ∧ k < k')
        · refine absurd hqi (g8 l k (by omega) ?_ i c)
          rcases h5 with h5 | h5
          · exact .inl ⟨h5, b⟩
          · exact .inr h5
        · by_cases h6 : l = l' ∧ k = k'
          · rw [h6.1, h6.2] at c
            exact hdist e i he hi hne (g7 i c hqi)
          · exact k_ord hd hV (by omega) a g4 b g5 c (g6.1.trans hqi.1.symm) (by omega)
  · rw [h1, m_fd_some]
    symm
    have he := (halM e h2).1
    refine hsome e he h3 (fun i hi hqi hne => ?_)
    rcases k_cov hV hi with h | ⟨l, k, a, b, c⟩
    · exact hdist e i he hi hne (h4 i h hqi)
    · exact hMT e i l k a b h2 c
end KTH
