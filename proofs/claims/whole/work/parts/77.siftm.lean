section KM
variable {G F : Nat → Nat → Int32} {S : Nat → Int32} {n : Nat} {T : List Nat}
theorem m_pt_iff (F : Nat → Nat → Int32) (e f : Nat) : m_pt F e f 3 = true ↔ ∃ s, s < 3 ∧ ¬ F 14 s = 0 ∧ (F 1 e).toInt ≤ (F 15 s).toInt ∧ (F 15 s).toInt < (F 1 f).toInt := by
  have h : ∀ s, (!decide (F 14 s = 0) && (!decide (F 15 s < F 1 e) && !decide (F 1 f ≤ F 15 s))) = true ↔ (¬ F 14 s = 0 ∧ (F 1 e).toInt ≤ (F 15 s).toInt ∧ (F 15 s).toInt < (F 1 f).toInt) := by
    intro s
    simp only [Bool.and_eq_true, Bool.not_eq_true', decide_eq_false_iff_not, Int32.lt_iff_toInt_lt, Int32.le_iff_toInt_le, Int.not_lt, Int.not_le]
  simp only [m_pt, Bool.or_eq_true, h, Bool.false_eq_true, false_or]
  constructor
  · rintro ((h | h) | h)
    · exact ⟨_, by omega, h⟩
    · exact ⟨_, by omega, h⟩
    · exact ⟨_, by omega, h⟩
  · rintro ⟨s, hs, h⟩
    have : s = 0 ∨ s = 1 ∨ s = 2 := by omega
    rcases this with r | r | r <;> subst r
    · exact .inl (.inl h)
    · exact .inl (.inr h)
    · exact .inr h
def k_sv (G F : Nat → Nat → Int32) (S : Nat → Int32) (n : Nat) (T : List Nat) : Prop :=
  (∀ i, i < n → G i 0 = F 0 i ∧ G i 4 = F 1 i) ∧ (∀ s, s < 3 → S s = if F 14 s = 0 then -1 else F 15 s) ∧ k_srt G T ∧ (∀ i, i ∈ T ↔ i < n ∧ ¬ F 9 i = 0) ∧ (∀ x ∈ T, 0 ≤ (G x 0).toInt ∧ 1 ≤ (G x 4).toInt) ∧ ∀ x ∈ T, ∀ y ∈ T, (G x 4).toInt = (G y 4).toInt → x = y
theorem k_abP_iff (h : k_sv G F S n T) {e : Nat} (he : e ∈ T) {f : Nat} (hf : f < n) : m_abP F e f = true ↔ f ∈ T ∧ (G f 0).toInt = (G e 0).toInt ∧ (G e 4).toInt < (G f 4).toInt := by
  obtain ⟨h1, h2, h3, h4, h5, h6⟩ := h
  have hen := ((h4 e).mp he).1
  rw [(h1 f hf).1, (h1 f hf).2, (h1 e hen).1, (h1 e hen).2, h4]
  unfold m_abP
  simp only [Bool.and_eq_true, Bool.not_eq_true', decide_eq_false_iff_not, decide_eq_true_eq, Int32.le_iff_toInt_le, Int.not_le, ← Int32.toInt_inj, hf, true_and]
theorem m_f1_iff (h : k_sv G F S n T) {q : Nat} (hq : G q 0 = -1) {e : Nat} (he : e ∈ T) : m_f1 F n e = 0 ↔ e ∈ e_du G (e_ta S G) q T := by
  have habP := fun f => k_abP_iff h he (f := f)
  obtain ⟨h1, h2, h3, h4, h5, h6⟩ := h
  have hen := ((h4 e).mp he).1
  rw [e_du_iff h3 hq (fun x hx => (h5 x hx).1) e]
  unfold m_f1
  rw [if_neg ((h4 e).mp he).2]
  have hsp := m_arg_spec (P := m_abP F e) (k_lo_iff F) n
  revert hsp
  cases m_arg (m_abP F e) (m_lo F) n with
  | none =>
    intro hsp
    refine ⟨fun _ => ⟨he, .inl ?_⟩, fun _ => rfl⟩
    intro y hy hk hs
    have hyn := ((h4 y).mp hy).1
    have := hsp y hyn
    rw [(habP y hyn).mpr ⟨hy, hk, hs⟩] at this
    cases this
  | some f =>
    intro hsp
    obtain ⟨f1, f2, f3⟩ := hsp
    obtain ⟨g1, g2, g3⟩ := (habP f f1).mp f2
    have hab : k_ab G T e f := by
      refine ⟨g1, g2, g3, fun z hz hk hs => ?_⟩
      have hzn := ((h4 z).mp hz).1
      have := f3 z hzn ((habP z hzn).mpr ⟨hz, hk, hs⟩)
      rw [(h1 f f1).2, (h1 z hzn).2]
      exact this
    have hpt : m_pt F e f 3 = true ↔ e_ta S G e f = true := by
      unfold e_ta
      rw [m_pt_iff, e_tar_iff]
      have e1 : (-1 : Int32).toInt = -1 := by decide
      have hs1 := (h5 e he).2
      constructor
      · rintro ⟨s, s1, s2, s3, s4⟩
        refine ⟨s, s1, ?_⟩
        rw [h2 s s1, if_neg s2, (h1 e hen).2, (h1 f f1).2]
        exact ⟨s3, s4⟩
      · rintro ⟨s, s1, s3, s4⟩
        rw [h2 s s1] at s3 s4
        by_cases s2 : F 14 s = 0
        · rw [if_pos s2] at s3; omega
        · rw [if_neg s2, (h1 e hen).2] at s3
          rw [if_neg s2, (h1 f f1).2] at s4
          exact ⟨s, s1, s2, s3, s4⟩
    show (if m_pt F e f 3 = true then (0 : Int32) else 1) = 0 ↔ _
    by_cases hp : m_pt F e f 3 = true
    · rw [if_pos hp]
      exact ⟨fun _ => ⟨he, .inr ⟨f, hab, hpt.mp hp⟩⟩, fun _ => rfl⟩
    · rw [if_neg hp]
      refine ⟨fun h => absurd h (by decide), ?_⟩
      rintro ⟨_, hnw | ⟨y, ⟨y1, y2, y3, y4⟩, y5⟩⟩
      · exact absurd g3 (hnw f g1 g2)
      · exfalso
        have e3 := hab.2.2.2 y y1 y2 y3
        have e4 := y4 f g1 g2 g3
        have : y = f := h6 y y1 f g1 (by omega)
        rw [this] at y5
        exact hp (hpt.mpr y5)
theorem m_fs_eq {t : Int32} {s : Int32} {g : Nat → Int32} (hu : ∀ a b, a < n → b < n → ¬ F 9 a = 0 → ¬ F 9 b = 0 → F 1 a = F 1 b → a = b) : ∀ k, k ≤ n → ∀ i, m_fs F t n s g k i = if i < k ∧ m_s2 F t n s g i = true then 1 else g i
  | 0, _ => fun i => by
    rw [if_neg (by omega)]; rfl
  | k + 1, hk => by
    have ih := m_fs_eq (t := t) (s := s) (g := g) hu k (by omega)
    have hs2 : m_s2 F t n s (m_fs F t n s g k) k = m_s2 F t n s g k := by
      by_cases hc : ¬ F 9 k = 0 ∧ F 1 k = s
      · have hsame : m_fs F t n s g k = g := by
          funext i
          rw [ih i]
          by_cases hi : i < k ∧ m_s2 F t n s g i = true
          · exfalso
            obtain ⟨i1, i2⟩ := hi
            unfold m_s2 at i2
            simp only [Bool.and_eq_true, Bool.not_eq_true', decide_eq_false_iff_not, decide_eq_true_eq] at i2
            have := hu i k (by omega) (by omega) i2.1 hc.1 (by rw [i2.2.1, hc.2])
            omega
          · rw [if_neg hi]
        rw [hsame]
      · unfold m_s2
        by_cases h9 : F 9 k = 0
        · simp [h9]
        · have h1 : ¬ F 1 k = s := fun h => hc ⟨h9, h⟩
          simp [h1]
    intro i
    unfold m_fs
    rw [hs2]
    by_cases h2 : m_s2 F t n s g k = true
    · rw [if_pos h2]
      unfold upd
      by_cases hik : i = k
      · rw [if_pos hik, if_pos ⟨by omega, by rw [hik]; exact h2⟩]
      · rw [if_neg hik, ih i]
        by_cases hi : i < k ∧ m_s2 F t n s g i = true
        · rw [if_pos hi, if_pos ⟨by omega, hi.2⟩]
        · rw [if_neg hi, if_neg (fun h => hi ⟨by omega, h.2⟩)]
    · rw [if_neg h2, ih i]
      by_cases hi : i < k ∧ m_s2 F t n s g i = true
      · rw [if_pos hi, if_pos ⟨by omega, hi.2⟩]
      · rw [if_neg hi, if_neg]
        rintro ⟨h3, h4⟩
        by_cases hik : i = k
        · rw [hik] at h4; exact h2 h4
        · exact hi ⟨by omega, h4⟩
def k_ok (G : Nat → Nat → Int32) (t : Int32) (T : List Nat) (g : Nat → Int32) (i : Nat) : Prop := ∃ y ∈ T, g y = 0 ∧ (G y 0).toInt = (G i 0).toInt ∧ (G y 4).toInt ≤ (G i 4).toInt ∧ e_gone G y t = false
theorem m_fo_iff (h : k_sv G F S n T) {t : Int32} {g : Nat → Int32} (hg : ∀ i, i < n → e_gone G i t = m_gone F t i) : ∀ s, s < 2 ^ 30 → ∀ i, i ∈ T → (m_fo F t n g s i = 0 ↔ g i = 0 ∧ ((G i 4).toInt ≤ s → k_ok G t T g i))
  | 0, _ => by
    intro i hi
    have := (h.2.2.2.2.1 i hi).2
    unfold m_fo
    constructor
    · exact fun q => ⟨q, fun q2 => absurd q2 (by omega)⟩
    · exact fun q => q.1
  | s + 1, hs => by
    intro i hi
    have ih := m_fo_iff (g := g) h hg s (by omega)
    obtain ⟨h1, h2, h3, h4, h5, h6⟩ := h
    have hin := ((h4 i).mp hi).1
    have hi9 := ((h4 i).mp hi).2
    have hu : ∀ a b, a < n → b < n → ¬ F 9 a = 0 → ¬ F 9 b = 0 → F 1 a = F 1 b → a = b := by
      intro a b ha hb ha9 hb9 hab
      exact h6 a ((h4 a).mpr ⟨ha, ha9⟩) b ((h4 b).mpr ⟨hb, hb9⟩) (by rw [(h1 a ha).2, (h1 b hb).2, hab])
    unfold m_fo
    rw [m_fs_eq hu n (Nat.le_refl _) i]
    have hms : m_s2 F t n (nI (s + 1)) (m_fo F t n g s) i = true ↔ (G i 4).toInt = s + 1 ∧ m_fo F t n g s i = 0 ∧ e_gone G i t = true ∧ ∀ f ∈ T, m_fo F t n g s f = 0 → (G f 0).toInt = (G i 0).toInt → ¬ (G f 4).toInt < (G i 4).toInt := by
      unfold m_s2
      simp only [Bool.and_eq_true, Bool.not_eq_true', decide_eq_false_iff_not, decide_eq_true_eq, m_lw_iff, hi9, not_false_eq_true, true_and]
      have e1 : F 1 i = nI (s + 1) ↔ (G i 4).toInt = s + 1 := by
        rw [← Int32.toInt_inj, nI_toInt (by omega), (h1 i hin).2]
        constructor <;> intro h <;> omega
      rw [e1, hg i hin]
      have e2 : (∀ f, f < n → m_lwP (va_up F 10 (m_fo F t n g s)) i f = false) ↔ ∀ f ∈ T, m_fo F t n g s f = 0 → (G f 0).toInt = (G i 0).toInt → ¬ (G f 4).toInt < (G i 4).toInt := by
        have e3 : ∀ f, f < n → (m_lwP (va_up F 10 (m_fo F t n g s)) i f = true ↔ f ∈ T ∧ m_fo F t n g s f = 0 ∧ (G f 0).toInt = (G i 0).toInt ∧ (G f 4).toInt < (G i 4).toInt) := by
          intro f hf
          show (!decide (F 9 f = 0) && (decide (m_fo F t n g s f = 0) && (decide (F 0 f = F 0 i) && !decide (F 1 i ≤ F 1 f)))) = true ↔ _
          rw [h4, (h1 f hf).1, (h1 f hf).2, (h1 i hin).1, (h1 i hin).2]
          simp only [Bool.and_eq_true, Bool.not_eq_true', decide_eq_false_iff_not, decide_eq_true_eq, Int32.le_iff_toInt_le, Int.not_le, ← Int32.toInt_inj, hf, true_and]
        constructor
        · intro hf f hfT f2 f3 f4
          have hfn := ((h4 f).mp hfT).1
          have := hf f hfn
          rw [(e3 f hfn).mpr ⟨hfT, f2, f3, f4⟩] at this
          cases this
        · intro hf f hfn
          by_cases hl : m_lwP (va_up F 10 (m_fo F t n g s)) i f = true
          · obtain ⟨f1, f2, f3, f4⟩ := (e3 f hfn).mp hl
            exact absurd f4 (hf f f1 f2 f3)
          · exact Bool.not_eq_true _ ▸ hl
      rw [e2]
    have hii := ih i hi
    by_cases hm : m_s2 F t n (nI (s + 1)) (m_fo F t n g s) i = true
    · rw [if_pos ⟨hin, hm⟩]
      refine ⟨fun h => absurd h (by decide), ?_⟩
      rintro ⟨q1, q2⟩
      exfalso
      obtain ⟨m1, m2, m3, m4⟩ := hms.mp hm
      obtain ⟨y, y1, y2, y3, y4, y5⟩ := q2 (by omega)
      by_cases hyi : (G y 4).toInt = (G i 4).toInt
      · have := h6 y y1 i hi hyi
        rw [this, m3] at y5; cases y5
      · have hy0 : m_fo F t n g s y = 0 := (ih y y1).mpr ⟨y2, fun _ => ⟨y, y1, y2, rfl, Int.le_refl _, y5⟩⟩
        exact m4 y y1 hy0 y3 (by omega)
    · rw [if_neg (fun h => hm h.2), hii]
      constructor
      · rintro ⟨q1, q2⟩
        refine ⟨q1, fun q3 => ?_⟩
        by_cases q4 : (G i 4).toInt ≤ s
        · exact q2 q4
        · have q5 : (G i 4).toInt = s + 1 := by omega
          by_cases q6 : e_gone G i t = true
          · have hnm : ¬ ∀ f ∈ T, m_fo F t n g s f = 0 → (G f 0).toInt = (G i 0).toInt → ¬ (G f 4).toInt < (G i 4).toInt := by
              intro hall
              exact hm (hms.mpr ⟨q5, hii.mpr ⟨q1, q2⟩, q6, hall⟩)
            have ⟨f, hf⟩ := Classical.not_forall.mp hnm
            have ⟨f1, hf⟩ := Classical.not_imp.mp hf
            have ⟨f2, hf⟩ := Classical.not_imp.mp hf
            have ⟨f3, hf⟩ := Classical.not_imp.mp hf
            have f4 := Classical.not_not.mp hf
            obtain ⟨f5, f6⟩ := (ih f f1).mp f2
            obtain ⟨y, y1, y2, y3, y4, y5⟩ := f6 (by omega)
            exact ⟨y, y1, y2, by omega, by omega, y5⟩
          · exact ⟨i, hi, q1, rfl, Int.le_refl _, Bool.not_eq_true _ ▸ q6⟩
      · rintro ⟨q1, q2⟩
        exact ⟨q1, fun q3 => q2 (by omega)⟩
theorem m_fa_iff (h : k_sv G F S n T) {t : Int32} {q last w : Nat} (hw : w < 3) (hq : G q 0 = -1) (hlb : last < 2 ^ 30) (hl : ∀ x ∈ T, (G x 4).toInt ≤ last) (hg : ∀ i, i < n → e_gone G i t = m_gone F t i) {i : Nat} (hi : i ∈ T) : m_fa F t n last (nI w) i = 0 ↔ i ∈ e_m3 G t q w (e_du G (e_ta S G) q T) := by
  have hf1 : ∀ x ∈ T, m_fill (F 10) (m_f1 F n) n x = 0 ↔ x ∈ e_du G (e_ta S G) q T := by
    intro x hx
    rw [← m_f1_iff h hq hx]
    have hxn := ((h.2.2.2.1 x).mp hx).1
    unfold m_fill
    rw [if_pos hxn]
  unfold m_fa e_m3
  by_cases hw2 : w = 2
  · subst hw2
    rw [if_pos (by decide), if_pos rfl, m_fo_iff h hg last hlb i hi, e_dg_eq, hf1 i hi]
    have hsub := e_du_sub G (e_ta S G) T q
    rw [k_g_iff t hq _ (List.Pairwise.sublist hsub h.2.2.1) (fun x hx => (h.2.2.2.2.1 x (hsub.subset hx)).1)]
    constructor
    · rintro ⟨q1, q2⟩
      refine ⟨q1, ?_⟩
      obtain ⟨y, y1, y2, y3, y4, y5⟩ := q2 (hl i hi)
      exact ⟨y, (hf1 y y1).mp y2, y3, y4, y5⟩
    · rintro ⟨q1, y, y1, y3, y4, y5⟩
      exact ⟨q1, fun _ => ⟨y, hsub.subset y1, (hf1 y (hsub.subset y1)).mpr y1, y3, y4, y5⟩⟩
  · have hn : ¬ nI w = 2 := by
      have h2 : (2 : Int32) = nI 2 := by decide
      rw [h2, nI_eq (by omega) (by omega)]; exact hw2
    rw [if_neg hn, if_neg hw2]
    exact hf1 i hi
theorem e_m3_sub (t : Int32) (q w : Nat) (L : List Nat) : (e_m3 G t q w L).Sublist L := by
  unfold e_m3
  by_cases hw : w = 2
  · rw [if_pos hw, e_dg_eq]; exact k_g_sub t q _
  · rw [if_neg hw]; exact List.Sublist.refl _
theorem m_sf_lev (h : k_sv G F S n T) {t : Int32} {q last w : Nat} (hw : w < 3) (hq : G q 0 = -1) (hlb : last < 2 ^ 30) (hl : ∀ x ∈ T, (G x 4).toInt ≤ last) (hg : ∀ i, i < n → e_gone G i t = m_gone F t i) {i : Nat} (hi : i < n) : m_sf F t n last (nI w) 5 i = if i ∈ T then (if i ∈ e_m3 G t q w (e_du G (e_ta S G) q T) then nI w else 9) else F 5 i := by
  have e1 : m_sf F t n last (nI w) 5 i = m_l3 F (m_fa F t n last (nI w)) (nI w) i := by
    show (if i < n then m_l3 F (m_fa F t n last (nI w)) (nI w) i else F 5 i) = _
    rw [if_pos hi]
  rw [e1]
  unfold m_l3
  by_cases h9 : F 9 i = 0
  · rw [if_pos h9, if_neg (fun hm => ((h.2.2.2.1 i).mp hm).2 h9)]
  · have hiT := (h.2.2.2.1 i).mpr ⟨hi, h9⟩
    rw [if_neg h9, if_pos hiT]
    have := m_fa_iff h hw hq hlb hl hg hiT
    by_cases hr : i ∈ e_m3 G t q w (e_du G (e_ta S G) q T)
    · rw [if_pos hr, if_pos (this.mpr hr)]
    · rw [if_neg hr, if_neg (fun q => hr (this.mp q))]
theorem k_flen (P : Nat → Bool) : ∀ T : List Nat, T.length = (T.filter P).length + (T.filter (fun x => !P x)).length
  | [] => rfl
  | e :: t => by
    have ih := k_flen P t
    by_cases h : P e = true
    · simp only [List.filter_cons, h, if_true, Bool.not_true, Bool.false_eq_true, if_false, List.length_cons]; omega
    · have h : P e = false := Bool.not_eq_true _ ▸ h
      simp only [List.filter_cons, h, if_false, Bool.not_false, Bool.false_eq_true, if_true, List.length_cons]; omega
theorem m_sf_cnt (h : k_sv G F S n T) {t : Int32} {q last w : Nat} (hw : w < 3) (hq : G q 0 = -1) (hlb : last < 2 ^ 30) (hl : ∀ x ∈ T, (G x 4).toInt ≤ last) (hg : ∀ i, i < n → e_gone G i t = m_gone F t i) : m_cn (m_c3 F (m_fa F t n last (nI w))) n = T.length - (e_m3 G t q w (e_du G (e_ta S G) q T)).length := by
  have hsub : (e_m3 G t q w (e_du G (e_ta S G) q T)).Sublist T := (e_m3_sub t q w _).trans (e_du_sub G _ T q)
  have hnd := h.2.2.1.nd
  have hA : m_cn (m_c3 F (m_fa F t n last (nI w))) n = (T.filter (fun x => !decide (x ∈ e_m3 G t q w (e_du G (e_ta S G) q T)))).length := by
    refine m_cn_len (List.Pairwise.filter _ hnd) (fun i => ?_)
    rw [List.mem_filter]
    unfold m_c3
    simp only [Bool.and_eq_true, Bool.not_eq_true', decide_eq_false_iff_not]
    constructor
    · rintro ⟨h1, h2⟩
      obtain ⟨h3, h4⟩ := (h.2.2.2.1 i).mp h1
      exact ⟨h3, h4, fun h5 => h2 ((m_fa_iff h hw hq hlb hl hg h1).mp h5)⟩
    · rintro ⟨h1, h2, h3⟩
      have h4 := (h.2.2.2.1 i).mpr ⟨h1, h2⟩
      exact ⟨h4, fun h5 => h3 ((m_fa_iff h hw hq hlb hl hg h4).mpr h5)⟩
  have hB : (T.filter (fun x => decide (x ∈ e_m3 G t q w (e_du G (e_ta S G) q T)))).length = (e_m3 G t q w (e_du G (e_ta S G) q T)).length := by
    refine List.Perm.length_eq ((List.perm_ext_iff_of_nodup (List.Pairwise.filter _ hnd) (List.Pairwise.sublist hsub hnd)).mpr ?_)
    intro a
    rw [List.mem_filter, decide_eq_true_eq]
    exact ⟨fun h => h.2, fun h => ⟨hsub.subset h, h⟩⟩
  have hC := k_flen (fun x => decide (x ∈ e_m3 G t q w (e_du G (e_ta S G) q T))) T
  omega
end KM
