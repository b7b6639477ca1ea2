section KSK
variable {G F : Nat → Nat → Int32} {n last nw c0 : Nat} {M L1 L2 : List Nat} {T0 : Nat → List Nat} {s key sight : Int32}
def k_q (G : Nat → Nat → Int32) (key sight : Int32) (x : Nat) : Prop := G x 0 = key ∧ (G x 4).toInt ≤ sight.toInt
theorem k_ns_spec : ∀ (L : List Nat) (a : Nat), (L.foldl (e_ns G key sight) a = a ∨ (L.foldl (e_ns G key sight) a ∈ L ∧ k_q G key sight (L.foldl (e_ns G key sight) a) ∧ (G a 4).toInt < (G (L.foldl (e_ns G key sight) a) 4).toInt)) ∧ (G a 4).toInt ≤ (G (L.foldl (e_ns G key sight) a) 4).toInt ∧ ∀ x ∈ L, k_q G key sight x → (G x 4).toInt ≤ (G (L.foldl (e_ns G key sight) a) 4).toInt
  | [], a => ⟨.inl rfl, Int.le_refl _, fun x hx => by cases hx⟩
  | e :: t, a => by
    obtain ⟨h1, h2, h3⟩ := k_ns_spec t (e_ns G key sight a e)
    rw [List.foldl_cons]
    have h4 : (e_ns G key sight a e = a ∧ (k_q G key sight e → (G e 4).toInt ≤ (G a 4).toInt)) ∨ (e_ns G key sight a e = e ∧ k_q G key sight e ∧ (G a 4).toInt < (G e 4).toInt) := by
      unfold e_ns
      by_cases hc : G e 0 = key ∧ ¬ sight < G e 4 ∧ ¬ G e 4 ≤ G a 4
      · rw [if_pos hc]
        rw [Int32.lt_iff_toInt_lt, Int32.le_iff_toInt_le] at hc
        exact .inr ⟨rfl, ⟨hc.1, by omega⟩, by omega⟩
      · rw [if_neg hc]
        rw [Int32.lt_iff_toInt_lt, Int32.le_iff_toInt_le] at hc
        refine .inl ⟨rfl, fun hq => ?_⟩
        by_cases hle : (G e 4).toInt ≤ (G a 4).toInt
        · exact hle
        · exact absurd ⟨hq.1, by have := hq.2; omega, hle⟩ hc
    rcases h4 with ⟨h4, h5⟩ | ⟨h4, h5, h6⟩
    · rw [h4] at h1 h2 h3 ⊢
      refine ⟨h1.imp id (fun ⟨a, b⟩ => ⟨List.mem_cons_of_mem _ a, b⟩), h2, fun x hx hq => ?_⟩
      rcases List.mem_cons.mp hx with h | h
      · rw [h] at hq ⊢; have := h5 hq; omega
      · exact h3 x h hq
    · rw [h4] at h1 h2 h3 ⊢
      refine ⟨.inr ?_, by omega, fun x hx hq => ?_⟩
      · rcases h1 with h1 | ⟨q1, q2, q3⟩
        · rw [h1]; exact ⟨by simp, h5, h6⟩
        · exact ⟨List.mem_cons_of_mem _ q1, q2, by omega⟩
      · rcases List.mem_cons.mp hx with h | h
        · rw [h]; exact h2
        · exact h3 x h hq
def k_sn (F : Nat → Nat → Int32) (n : Nat) (s sight : Int32) : Prop := ∀ x, k_al F n x → (m_sn F s x = true ↔ (F 1 x).toInt ≤ sight.toInt)
theorem k_ns_eq (hd : k_dc G F n) (hA : k_A F n last) (hq0 : G 600 4 = 0) (hsn : k_sn F n s sight) {L : List Nat} {nwI l k : Int32} (hl9 : ¬ l = 9) (hm : ∀ i, i ∈ L ↔ i < n ∧ m_li F nwI l k i = true) : L.foldl (e_ns G key sight) 600 = (m_arg (m_laP F nwI l k s key) (m_hi F) n).getD 600 := by
  obtain ⟨h1, h2, h3⟩ := k_ns_spec (G := G) (key := key) (sight := sight) L 600
  have e0 : (0 : Int32).toInt = 0 := by decide
  rw [hq0, e0] at h1 h2
  have hal : ∀ i, i < n → m_li F nwI l k i = true → k_al F n i := by
    intro i hi hli
    refine ⟨hi, fun h => ?_⟩
    unfold m_li at hli
    simp only [Bool.and_eq_true, decide_eq_true_eq] at hli
    exact hl9 (hli.1.symm.trans h)
  have hla : ∀ i, i < n → (m_laP F nwI l k s key i = true ↔ i ∈ L ∧ k_q G key sight i) := by
    intro i hi
    unfold m_laP k_q
    rw [Bool.and_eq_true, Bool.and_eq_true, decide_eq_true_eq, hm i, (hd i hi).1, (hd i hi).2.2.2.1]
    constructor
    · rintro ⟨a, b, c⟩; exact ⟨⟨hi, a⟩, b, (hsn i (hal i hi a)).mp c⟩
    · rintro ⟨⟨_, a⟩, b, c⟩; exact ⟨a, b, (hsn i (hal i hi a)).mpr c⟩
  rcases h1 with h1 | ⟨q1, q2, q3⟩
  · rw [h1]
    have : m_arg (m_laP F nwI l k s key) (m_hi F) n = none := by
      rw [m_arg_none]
      intro i hi
      by_cases hp : m_laP F nwI l k s key i = true
      · exfalso
        obtain ⟨p1, p2⟩ := (hla i hi).mp hp
        have := h3 i p1 p2
        rw [h1, hq0, e0, (hd i hi).2.2.2.1] at this
        have := (hA.1 i (hal i hi ((hm i).mp p1).2)).2.1
        omega
      · exact Bool.not_eq_true _ ▸ hp
    rw [this]; rfl
  · obtain ⟨r1, r2⟩ := (hm _).mp q1
    have : m_arg (m_laP F nwI l k s key) (m_hi F) n = some (L.foldl (e_ns G key sight) 600) := by
      refine m_arg_eq (k_hi_iff F) r1 ((hla _ r1).mpr ⟨q1, q2⟩) (fun i hi hp hne => ?_)
      obtain ⟨p1, p2⟩ := (hla i hi).mp hp
      have h4 := h3 i p1 p2
      rw [(hd i hi).2.2.2.1, (hd _ r1).2.2.2.1] at h4
      have h5 := hA.2.1 i _ (hal i hi ((hm i).mp p1).2) (hal _ r1 r2)
      have h6 : (F 1 i).toInt ≠ (F 1 (L.foldl (e_ns G key sight) 600)).toInt := fun h => hne (h5 h)
      omega
    rw [this]; rfl
theorem k_may_eq (hd : k_dc G F n) (hA : k_A F n last) {L : List Nat} {nwI l k : Int32} {q : Nat} (hq : q < 32) (hl9 : ¬ l = 9) (hs : k_srt G L) (hne : L ≠ []) (hm : ∀ i, i ∈ L ↔ i < n ∧ m_li F nwI l k i = true) : e_my G (L.foldl (e_ff G) 0) L (nI q) = m_may F nwI n l k (nI q) := by
  have hG : ∀ i, i < n → G i 0 = F 0 i := fun i hi => (hd i hi).1
  have hk : ∀ x ∈ L, 0 ≤ (G x 0).toInt := by
    intro x hx
    obtain ⟨h1, h2⟩ := (hm x).mp hx
    rw [hG x h1]
    refine (hA.1 x ⟨h1, fun h => ?_⟩).1.1
    unfold m_li at h2
    simp only [Bool.and_eq_true, decide_eq_true_eq] at h2
    exact hl9 (h2.1.symm.trans h)
  unfold e_my e_may m_may
  rw [k_fi_eq hG hm, k_bd0_eq hG hs hne hm hk, k_bd1_eq hG hs hne hm hk]
  have hb := k_bits (m_fi (m_li F nwI l k) F n) hq
  by_cases h1 : m_b1 (m_fi (m_li F nwI l k) F n) (nI q) = 1
  · by_cases h2 : m_b2 (m_fi (m_li F nwI l k) F n) (nI q) = 1
    · have := hb.mpr ⟨h1, h2⟩
      simp [h1, h2, this]
    · have : ¬ m_fi (m_li F nwI l k) F n &&& e_bits (nI q) = e_bits (nI q) := fun h => h2 (hb.mp h).2
      simp [h2, this]
  · have : ¬ m_fi (m_li F nwI l k) F n &&& e_bits (nI q) = e_bits (nI q) := fun h => h1 (hb.mp h).1
    simp [h1, this]
theorem k_my_in (hd : k_dc G F n) {L : List Nat} {q i : Nat} (hs : k_srt G L) (hi : i ∈ L) (hk : G i 0 = nI q) : e_my G (L.foldl (e_ff G) 0) L (nI q) = true := by
  have hne : L ≠ [] := fun h => by rw [h] at hi; cases hi
  obtain ⟨f1, f2⟩ := k_first hs hne
  obtain ⟨g1, g2⟩ := k_last hs hne
  unfold e_my e_may
  simp only [Bool.and_eq_true, Bool.not_eq_true', decide_eq_false_iff_not, decide_eq_true_eq, Int32.lt_iff_toInt_lt]
  have h1 := f2 i hi
  have h2 := g2 i hi
  rw [hk] at h1 h2
  refine ⟨⟨by omega, by omega⟩, ?_⟩
  have h3 := ((k_ff_sb _ L 0).mp (k_sb_rf (L.foldl (e_ff G) 0))).2 i hi
  rw [hk] at h3
  unfold k_sb at h3
  rw [← h3]
  rw [← Int32.toBitVec_inj, Int32.toBitVec_and, Int32.toBitVec_or]
  refine BitVec.eq_of_getLsbD_eq (fun j hj => ?_)
  rw [BitVec.getLsbD_and, BitVec.getLsbD_or]
  cases (e_bits (nI q)).toBitVec.getLsbD j <;> simp
theorem k_al_o (hA : k_A F n last) (hd : k_dc G F n) {e : Nat} (he : k_al F n e) : ¬ G e 0 = -1 := by
  intro h
  have := (hA.1 e he).1.1
  rw [← (hd e he.1).1, h] at this
  exact absurd this (by decide)
theorem k_sl_eq (hd : k_dc G F n) (hV : k_V G F n last nw c0 M T0 L1 L2) (hb : G 600 0 = -1) (hq0 : G 600 4 = 0) (hsn : k_sn F n s sight) {q : Nat} (hq : q < 32) {l : Nat} (hl : l < 3) {fl : Nat → Int32} (hfl : ∀ k, k < k_ct c0 L1 L2 l → fl k = (k_tb T0 L1 L2 l k).foldl (e_ff G) 0) : ∀ m k (o : Option Nat) (p : Int32), m + k ≤ k_ct c0 L1 L2 l → (∀ e, o = some e → k_al F n e) → e_sl G (nI q) sight 600 (k_tb T0 L1 L2 l) fl m k (o.getD 600) p = ((m_fk F (nI nw) n s (nI q) l m k o p).1.getD 600, (m_fk F (nI nw) n s (nI q) l m k o p).2) ∧ ∀ e, (m_fk F (nI nw) n s (nI q) l m k o p).1 = some e → k_al F n e
  | 0, k, o, p, _, ho => ⟨rfl, ho⟩
  | m + 1, k, o, p, hmk, ho => by
    have hA := hV.1
    unfold e_sl m_fk
    cases o with
    | some e =>
      have he := ho e rfl
      have h1 : ¬ G ((some e).getD 600) 0 = -1 := k_al_o hA hd he
      rw [if_neg h1]
      exact ⟨rfl, fun f hf => by cases hf; exact he⟩
    | none =>
      have h1 : G ((none : Option Nat).getD 600) 0 = -1 := hb
      rw [if_pos h1]
      obtain ⟨t1, t2, t3, t4⟩ := k_li hV hl (k := k) (by omega)
      have hl9 : ¬ nI l = 9 := by
        have : l = 0 ∨ l = 1 ∨ l = 2 := by omega
        rcases this with h | h | h <;> subst h <;> decide
      rw [hfl k (by omega), k_may_eq hd hA hq hl9 t2 t3 t1]
      by_cases hc : m_may F (nI nw) n (nI l) (nI k) (nI q) = true
      · rw [if_pos hc]
        simp only [hc, if_true]
        rw [k_ns_eq hd hA hq0 hsn hl9 t1]
        refine k_sl_eq hd hV hb hq0 hsn hq hl hfl m (k + 1) _ _ (by omega) (fun e he => ?_)
        have hsp := m_arg_spec (P := m_laP F (nI nw) (nI l) (nI k) s (nI q)) (k_hi_iff F) n
        rw [he] at hsp
        obtain ⟨s1, s2, _⟩ := hsp
        refine ⟨s1, fun h => ?_⟩
        unfold m_laP m_li at s2
        simp only [Bool.and_eq_true, decide_eq_true_eq] at s2
        exact hl9 (s2.1.1.symm.trans h)
      · rw [if_neg hc]
        simp only [hc, if_false, Bool.false_eq_true]
        exact k_sl_eq hd hV hb hq0 hsn hq hl hfl m (k + 1) none p (by omega) (fun e he => by cases he)
theorem m_fk_some (F : Nat → Nat → Int32) (nwI : Int32) (n : Nat) (s key : Int32) (l : Nat) (e : Nat) (p : Int32) : ∀ m k, m_fk F nwI n s key l m k (some e) p = (some e, p)
  | 0, _ => rfl
  | _ + 1, _ => rfl
theorem m_fd_some (F : Nat → Nat → Int32) (nwI : Int32) (zr n : Nat) (s key : Int32) (e : Nat) (p : Int32) : ∀ m l, m_fd F nwI zr n s key m l (some e) p = (some e, p)
  | 0, _ => rfl
  | m + 1, l => by rw [m_fd, m_fk_some]; exact m_fd_some F nwI zr n s key e p m (l + 1)
theorem k_sk_eq (hd : k_dc G F n) (hV : k_V G F n last nw c0 M T0 L1 L2) (hb : G 600 0 = -1) (hq0 : G 600 4 = 0) (hsn : k_sn F n s sight) {q : Nat} (hq : q < 32) {fl : Nat → Nat → Int32} (hfl : ∀ l k, l < 3 → k < k_ct c0 L1 L2 l → fl l k = (k_tb T0 L1 L2 l k).foldl (e_ff G) 0) : ∀ m l (o : Option Nat) (p : Int32), m + l ≤ 3 → (∀ e, o = some e → k_al F n e) → e_sk G (nI q) sight 600 (k_tb T0 L1 L2) fl (k_ct c0 L1 L2) m l (o.getD 600) p = ((m_fd F (nI nw) c0 n s (nI q) m l o p).1.getD 600, (m_fd F (nI nw) c0 n s (nI q) m l o p).2)
  | 0, l, o, p, _, _ => rfl
  | m + 1, l, o, p, hml, ho => by
    unfold e_sk
    cases o with
    | some e =>
      have h1 : ¬ G ((some e).getD 600) 0 = -1 := k_al_o hV.1 hd (ho e rfl)
      rw [if_neg h1, m_fd_some]
    | none =>
      have h1 : G ((none : Option Nat).getD 600) 0 = -1 := hb
      rw [if_pos h1, m_fd, k_tn hV (by omega)]
      obtain ⟨h2, h3⟩ := k_sl_eq hd hV hb hq0 hsn hq (l := l) (by omega) (fl := fl l) (fun k hk => hfl l k (by omega) hk) (k_ct c0 L1 L2 l) 0 none p (by omega) (fun e he => by cases he)
      have h2 : e_sl G (nI q) sight 600 (k_tb T0 L1 L2 l) (fl l) (k_ct c0 L1 L2 l) 0 600 p = _ := h2
      rw [h2]
      exact k_sk_eq hd hV hb hq0 hsn hq hfl m (l + 1) _ _ (by omega) h3
theorem k_se_eq (hd : k_dc G F n) (hV : k_V G F n last nw c0 M T0 L1 L2) (hb : G 600 0 = -1) (hq0 : G 600 4 = 0) (hsn : k_sn F n s sight) {q : Nat} (hq : q < 32) {fl : Nat → Nat → Int32} (hfl : ∀ l k, l < 3 → k < k_ct c0 L1 L2 l → fl l k = (k_tb T0 L1 L2 l k).foldl (e_ff G) 0) : e_se G (nI q) sight 600 M (k_tb T0 L1 L2) fl (k_ct c0 L1 L2) = ((m_fn F (nI nw) c0 n s (nI q)).1.getD 600, (m_fn F (nI nw) c0 n s (nI q)).2) := by
  unfold e_se m_fn
  have hm := k_mem_li hV (nI nw) 0
  rw [k_ns_eq hd hV.1 hq0 hsn (by decide) hm]
  refine k_sk_eq hd hV hb hq0 hsn hq hfl 3 0 _ 0 (by omega) (fun e he => ?_)
  have hsp := m_arg_spec (P := m_laP F (nI nw) (-1) 0 s (nI q)) (k_hi_iff F) n
  rw [he] at hsp
  obtain ⟨s1, s2, _⟩ := hsp
  refine ⟨s1, fun h => ?_⟩
  unfold m_laP m_li at s2
  simp only [Bool.and_eq_true, decide_eq_true_eq] at s2
  exact absurd (s2.1.1.symm.trans h) (by decide)
end KSK
