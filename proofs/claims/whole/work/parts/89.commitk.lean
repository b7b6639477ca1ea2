section KCM
variable {G G' F : Nat → Nat → Int32} {n last nw c0 : Nat} {M L1 L2 : List Nat} {T0 : Nat → List Nat}
theorem e_wr_at (E : Nat → Nat → Int32) (e : Nat) (s t sg ce : Int32) (j : Nat) : e_wr E e s t sg ce e j = if j = 7 then ce else if j = 6 then sg else if j = 5 then t + E e 2 else if j = 4 then s else E e j := by
  unfold e_wr e_plc e_up
  simp only [true_and]
theorem k_wr_ne (E : Nat → Nat → Int32) {e x : Nat} (s t sg ce : Int32) (h : x ≠ e) : e_wr E e s t sg ce x = E x := by
  funext j
  unfold e_wr e_plc e_up
  simp only [h, false_and, if_false]
theorem e_wrs_out (t : Int32) : ∀ (B : List Nat) (E : Nat → Nat → Int32) (s sg k x : Nat), x ∉ B → e_wrs t B E s sg k x = E x
  | [], _, _, _, _, _, _ => rfl
  | e :: B, E, s, sg, k, x, h => by
    rw [List.mem_cons, not_or] at h
    rw [e_wrs, e_wrs_out t B _ _ _ _ x h.2, k_wr_ne _ _ _ _ _ h.1]
theorem e_wrs_in (t : Int32) : ∀ (B : List Nat) (E : Nat → Nat → Int32) (s sg k j x : Nat), B.Nodup → B[j]? = some x → ∀ i, e_wrs t B E s sg k x i = if i = 7 then nI (k + j) else if i = 6 then nI sg else if i = 5 then t + E x 2 else if i = 4 then nI (s + 1 + j) else E x i
  | [], _, _, _, _, _, _, _, h => by simp at h
  | e :: B, E, s, sg, k, 0, x, hn, h => by
    intro i
    simp only [List.getElem?_cons_zero, Option.some.injEq] at h
    subst h
    unfold List.Nodup at hn
    rw [List.pairwise_cons] at hn
    rw [e_wrs, e_wrs_out t B _ _ _ _ e (fun hm => hn.1 e hm rfl), e_wr_at]
    rfl
  | e :: B, E, s, sg, k, j + 1, x, hn, h => by
    intro i
    rw [List.getElem?_cons_succ] at h
    unfold List.Nodup at hn
    rw [List.pairwise_cons] at hn
    rw [e_wrs, e_wrs_in t B _ (s + 1) sg (k + 1) j x hn.2 h i, k_wr_ne _ _ _ _ _ (fun q => hn.1 x (List.mem_of_getElem? h) q.symm)]
    have e1 : k + 1 + j = k + (j + 1) := by omega
    have e2 : s + 1 + 1 + j = s + 1 + (j + 1) := by omega
    rw [e1, e2]
theorem m_we_ne (F : Nat → Nat → Int32) (e : Nat) (ky sr dl vl ex lv sg ce : Int32) {i : Nat} (h : i ≠ e) (j : Nat) : m_we F e ky sr dl vl ex lv sg ce j i = F j i := by
  have hu : ∀ (f : Nat → Int32) (x : Int32), upd f e x i = f i := fun f x => by unfold upd; rw [if_neg h]
  unfold m_we va_up
  (repeat' split) <;> first | rfl | (subst_vars; exact hu _ _)
theorem m_we_j (F : Nat → Nat → Int32) (e : Nat) (ky sr dl vl ex lv sg ce : Int32) {j : Nat} (h : j = 6 ∨ 9 ≤ j) : m_we F e ky sr dl vl ex lv sg ce j = F j := by
  unfold m_we
  rw [va_up_ne _ _ (by omega), va_up_ne _ _ (by omega), va_up_ne _ _ (by omega), va_up_ne _ _ (by omega), va_up_ne _ _ (by omega), va_up_ne _ _ (by omega), va_up_ne _ _ (by omega), va_up_ne _ _ (by omega)]
theorem m_cw_j (F : Nat → Nat → Int32) (t : Int32) (hd a0 n last : Nat) {j : Nat} (h : j = 6 ∨ 9 ≤ j) : ∀ k, m_cw F t hd a0 n last k j = F j
  | 0 => rfl
  | k + 1 => by rw [m_cw, m_we_j _ _ _ _ _ _ _ _ _ _ h, m_cw_j F t hd a0 n last h k]
theorem m_cw_out (F : Nat → Nat → Int32) (t : Int32) (hd a0 n last : Nat) (j i : Nat) : ∀ k, (i < n ∨ n + k ≤ i) → m_cw F t hd a0 n last k j i = F j i
  | 0, _ => rfl
  | k + 1, h => by rw [m_cw, m_we_ne _ _ _ _ _ _ _ _ _ _ (by omega) j, m_cw_out F t hd a0 n last j i k (by omega)]
theorem m_we_at (F : Nat → Nat → Int32) (e : Nat) (ky sr dl vl ex lv sg ce : Int32) : m_we F e ky sr dl vl ex lv sg ce 0 e = ky ∧ m_we F e ky sr dl vl ex lv sg ce 1 e = sr ∧ m_we F e ky sr dl vl ex lv sg ce 3 e = dl ∧ m_we F e ky sr dl vl ex lv sg ce 2 e = vl ∧ m_we F e ky sr dl vl ex lv sg ce 4 e = ex ∧ m_we F e ky sr dl vl ex lv sg ce 5 e = lv ∧ m_we F e ky sr dl vl ex lv sg ce 7 e = sg ∧ m_we F e ky sr dl vl ex lv sg ce 8 e = ce := by
  unfold m_we va_up upd
  simp
theorem m_cw_at (F : Nat → Nat → Int32) (t : Int32) (hd a0 n last q : Nat) : ∀ k, q < k → m_cw F t hd a0 n last k 0 (n + q) = F 11 q ∧ m_cw F t hd a0 n last k 1 (n + q) = nI (last + q + 1) ∧ m_cw F t hd a0 n last k 3 (n + q) = (if F 13 q < 0 then 1 else 0) ∧ m_cw F t hd a0 n last k 2 (n + q) = F 12 q ∧ m_cw F t hd a0 n last k 4 (n + q) = (if F 13 q ≤ 0 then 0 else t + F 13 q) ∧ m_cw F t hd a0 n last k 5 (n + q) = -1 ∧ m_cw F t hd a0 n last k 7 (n + q) = nI hd ∧ m_cw F t hd a0 n last k 8 (n + q) = nI (a0 + q)
  | 0, h => absurd h (Nat.not_lt_zero _)
  | k + 1, h => by
    by_cases hk : q = k
    · subst hk
      rw [m_cw]
      exact m_we_at _ _ _ _ _ _ _ _ _ _
    · have ih := m_cw_at F t hd a0 n last q k (by omega)
      have hne : n + q ≠ n + k := by omega
      rw [m_cw, m_we_ne _ _ _ _ _ _ _ _ _ _ hne, m_we_ne _ _ _ _ _ _ _ _ _ _ hne, m_we_ne _ _ _ _ _ _ _ _ _ _ hne, m_we_ne _ _ _ _ _ _ _ _ _ _ hne, m_we_ne _ _ _ _ _ _ _ _ _ _ hne, m_we_ne _ _ _ _ _ _ _ _ _ _ hne, m_we_ne _ _ _ _ _ _ _ _ _ _ hne, m_we_ne _ _ _ _ _ _ _ _ _ _ hne]
      exact ih
def k_B (G F : Nat → Nat → Int32) (n r : Nat) : Prop := ∀ j, j < r → G (n + j) 0 = F 11 j ∧ G (n + j) 1 = F 12 j ∧ ((F 13 j = -1 ∧ G (n + j) 2 = 0 ∧ G (n + j) 3 = 1) ∨ (0 ≤ (F 13 j).toInt ∧ (F 13 j).toInt ≤ 1000 ∧ G (n + j) 2 = F 13 j ∧ G (n + j) 3 = 0)) ∧ 0 ≤ (F 11 j).toInt ∧ (F 11 j).toInt < 32
def k_Mc (F : Nat → Nat → Int32) (M : List Nat) (last : Nat) : Prop := ∀ (j x : Nat), M[j]? = some x → (F 1 x).toInt = (last : Int) - M.length + 1 + j
theorem k_srt_cg {L : List Nat} (h : k_srt G L) (hc : ∀ x ∈ L, G' x 0 = G x 0 ∧ G' x 4 = G x 4) : k_srt G' L := by
  refine List.Pairwise.imp_of_mem ?_ h
  intro a b ha hb hab
  rw [e_bf_iff] at *
  rw [(hc a ha).1, (hc a ha).2, (hc b hb).1, (hc b hb).2]
  exact hab
def k_cG (G' G : Nat → Nat → Int32) (n r last tt sg c : Nat) : Prop := (∀ i, i < n → G' i = G i) ∧ ∀ q, q < r → ∀ j, G' (n + q) j = if j = 7 then nI (c + q) else if j = 6 then nI sg else if j = 5 then nI tt + G (n + q) 2 else if j = 4 then nI (last + 1 + q) else G (n + q) j
theorem k_dc_cm (hd : k_dc G F n) {r tt hdn a0 : Nat} (hB : k_B G F n r) (ht : tt ≤ 1000000) (hG : k_cG G' G n r last tt hdn a0) : k_dc G' (m_cw F (nI tt) hdn a0 n last r) (n + r) := by
  intro i hi
  by_cases hin : i < n
  · have hF : ∀ j, m_cw F (nI tt) hdn a0 n last r j i = F j i := fun j => m_cw_out F _ _ _ _ _ j i r (.inl hin)
    rw [hG.1 i hin, hF, hF, hF, hF, hF, hF, hF]
    exact hd i hin
  · obtain ⟨q, rfl⟩ : ∃ q, i = n + q := ⟨i - n, by omega⟩
    have hqr : q < r := by omega
    obtain ⟨m0, m1, m3, m2, m4, m5, m7, m8⟩ := m_cw_at F (nI tt) hdn a0 n last q r hqr
    obtain ⟨b0, b1, b2, b3, b4⟩ := hB q hqr
    have g := hG.2 q hqr
    have g0 : G' (n + q) 0 = G (n + q) 0 := by rw [g 0]; rfl
    have g1 : G' (n + q) 1 = G (n + q) 1 := by rw [g 1]; rfl
    have g2 : G' (n + q) 2 = G (n + q) 2 := by rw [g 2]; rfl
    have g3 : G' (n + q) 3 = G (n + q) 3 := by rw [g 3]; rfl
    have g4 : G' (n + q) 4 = nI (last + 1 + q) := by rw [g 4]; rfl
    have g5 : G' (n + q) 5 = nI tt + G (n + q) 2 := by rw [g 5]; rfl
    have g6 : G' (n + q) 6 = nI hdn := by rw [g 6]; rfl
    have g7 : G' (n + q) 7 = nI (a0 + q) := by rw [g 7]; rfl
    rw [g0, g1, g2, g3, g4, g5, g6, g7, m0, m1, m2, m3, m4, m7, m8]
    have e1 : last + 1 + q = last + q + 1 := by omega
    have e0 : (0 : Int32).toInt = 0 := by decide
    have em : (-1 : Int32).toInt = -1 := by decide
    refine ⟨b0, b1, ?_, by rw [e1], ?_, ?_, rfl, rfl⟩
    · rcases b2 with ⟨c1, c2, c3⟩ | ⟨c1, c2, c3, c4⟩
      · rw [c3, c1]; rfl
      · rw [c4, if_neg]
        rw [Int32.lt_iff_toInt_lt]; omega
    · rcases b2 with ⟨c1, c2, c3⟩ | ⟨c1, c2, c3, c4⟩
      · rw [c2, c1, if_pos (by decide), if_pos (by decide)]
      · rw [c3]
    · rcases b2 with ⟨c1, c2, c3⟩ | ⟨c1, c2, c3, c4⟩
      · rw [c2]; exact fun h => absurd (show (0 : Int32) ≤ 0 by decide) h
      · rw [c3]
        intro h
        rw [Int32.le_iff_toInt_le] at h
        have hx : F 13 q = nI (F 13 q).toInt.toNat := by
          rw [← Int32.toInt_inj, nI_toInt (by omega)]; omega
        rw [hx, nI_add, Int32.lt_iff_toInt_lt, nI_toInt (by omega)]
        omega
theorem k_V_cm (hV : k_V G F n last nw c0 M T0 L1 L2) (hMc : k_Mc F M last) {r hdn a0 : Nat} {t : Int32} (hB : k_B G F n r) (hlb : last + r < 2 ^ 30) (hG : ∀ i, i < n → G' i = G i) : k_V G' (m_cw F t hdn a0 n last r) (n + r) (last + r) nw c0 (M ++ List.range' n r) T0 L1 L2 ∧ k_Mc (m_cw F t hdn a0 n last r) (M ++ List.range' n r) (last + r) := by
  obtain ⟨hA, ⟨z0, z4, z5, z6⟩, ⟨a1, a2⟩, ⟨b1, b2⟩, c1, c2, d1, d2, f1, f2⟩ := hV
  have hF : ∀ j i, i < n → m_cw F t hdn a0 n last r j i = F j i := fun j i hi => m_cw_out F _ _ _ _ _ j i r (.inl hi)
  have hN : ∀ i, i < n + r → ¬ i < n → ∃ q, q < r ∧ i = n + q := fun i h1 h2 => ⟨i - n, by omega, by omega⟩
  have h5n : ∀ i, i < n + r → ¬ i < n → m_cw F t hdn a0 n last r 5 i = -1 := by
    intro i h1 h2
    obtain ⟨q, q1, rfl⟩ := hN i h1 h2
    exact (m_cw_at F t hdn a0 n last q r q1).2.2.2.2.2.1
  have h6 : m_cw F t hdn a0 n last r 6 = F 6 := m_cw_j F t hdn a0 n last (.inl rfl) r
  have hs1 : ∀ q, q < r → (m_cw F t hdn a0 n last r 1 (n + q)).toInt = last + q + 1 := by
    intro q hq
    rw [(m_cw_at F t hdn a0 n last q r hq).2.1, nI_toInt (by omega)]; omega
  have hal : ∀ i, k_al (m_cw F t hdn a0 n last r) (n + r) i → i < n → k_al F n i := fun i hi hin => ⟨hin, by rw [← hF 5 i hin]; exact hi.2⟩
  have hat : ∀ (b : Int32) (L : List Nat), b ≠ -1 → k_at F n b L → k_at (m_cw F t hdn a0 n last r) (n + r) b L := by
    intro b L hb hL i
    rw [hL i]
    constructor
    · rintro ⟨h1, h2⟩; exact ⟨by omega, by rw [hF 5 i h1]; exact h2⟩
    · rintro ⟨h1, h2⟩
      by_cases hin : i < n
      · exact ⟨hin, by rw [← hF 5 i hin]; exact h2⟩
      · rw [h5n i h1 hin] at h2; exact absurd h2.symm hb
  have hsrt : ∀ (b : Int32) (L : List Nat), k_at F n b L → k_srt G L → k_srt G' L := fun b L hL hs => k_srt_cg hs (fun x hx => by rw [hG x ((hL x).mp hx).1]; exact ⟨rfl, rfl⟩)
  refine ⟨⟨⟨fun i hi => ?_, fun i j hi hj h => ?_, fun i j hi hj h => ?_, fun i hi => ?_⟩, ⟨z0, fun k hk => ?_, fun i hi h0 => ?_, fun i j hi hj hi0 hj0 h => ?_⟩, ⟨hsrt 1 L1 a2 a1, hat 1 L1 (by decide) a2⟩, ⟨hsrt 2 L2 b2 b1, hat 2 L2 (by decide) b2⟩, c1, c2, fun r' x hx => by rw [h6]; exact d1 r' x hx, fun r' x hx => by rw [h6]; exact d2 r' x hx, ?_, fun i => ?_⟩, fun j x hx => ?_⟩
  · by_cases hin : i < n
    · rw [hF 0 i hin, hF 1 i hin]
      have := hA.1 i (hal i hi hin)
      omega
    · obtain ⟨q, q1, rfl⟩ := hN i hi.1 hin
      rw [hs1 q q1, (m_cw_at F t hdn a0 n last q r q1).1]
      have := hB q q1
      exact ⟨this.2.2.2, by omega, by omega⟩
  · by_cases hin : i < n
    · by_cases hjn : j < n
      · rw [hF 1 i hin, hF 1 j hjn] at h
        exact hA.2.1 i j (hal i hi hin) (hal j hj hjn) h
      · obtain ⟨q, q1, rfl⟩ := hN j hj.1 hjn
        rw [hF 1 i hin, hs1 q q1] at h
        have := (hA.1 i (hal i hi hin)).2.2
        omega
    · obtain ⟨q, q1, rfl⟩ := hN i hi.1 hin
      by_cases hjn : j < n
      · rw [hF 1 j hjn, hs1 q q1] at h
        have := (hA.1 j (hal j hj hjn)).2.2
        omega
      · obtain ⟨q', q1', rfl⟩ := hN j hj.1 hjn
        rw [hs1 q q1, hs1 q' q1'] at h
        omega
  · by_cases hin : i < n
    · by_cases hjn : j < n
      · rw [hF 1 i hin, hF 1 j hjn]
        rw [hF 5 i hin, hF 5 j hjn] at h
        exact hA.2.2.1 i j (hal i hi hin) (hal j hj hjn) h
      · rw [h5n j hj.1 hjn, hF 5 i hin] at h
        exfalso
        have em : (-1 : Int32).toInt = -1 := by decide
        have e0 : (0 : Int32).toInt = 0 := by decide
        have e1 : (1 : Int32).toInt = 1 := by decide
        have e2 : (2 : Int32).toInt = 2 := by decide
        have e9 : (9 : Int32).toInt = 9 := by decide
        rcases hA.2.2.2 i hin with k | k | k | k | k <;> rw [k] at h <;> omega
    · obtain ⟨q, q1, rfl⟩ := hN i hi.1 hin
      by_cases hjn : j < n
      · rw [hF 1 j hjn, hs1 q q1]
        have := (hA.1 j (hal j hj hjn)).2.2
        omega
      · rw [h5n _ hi.1 hin, h5n _ hj.1 hjn] at h; omega
  · by_cases hin : i < n
    · rw [hF 5 i hin]; exact hA.2.2.2 i hin
    · exact .inl (h5n i hi hin)
  · obtain ⟨y1, y2, y3, y4⟩ := z4 k hk
    refine ⟨k_srt_cg y1 (fun x hx => by rw [hG x ((y4 x).mp hx).1]; exact ⟨rfl, rfl⟩), y2, y3, fun i => ?_⟩
    rw [y4 i, h6]
    constructor
    · rintro ⟨h1, h2, h3⟩; exact ⟨by omega, by rw [hF 5 i h1]; exact h2, h3⟩
    · rintro ⟨h1, h2, h3⟩
      by_cases hin : i < n
      · exact ⟨hin, by rw [← hF 5 i hin]; exact h2, h3⟩
      · rw [h5n i h1 hin] at h2; exact absurd h2 (by decide)
  · rw [h6]
    by_cases hin : i < n
    · rw [hF 5 i hin] at h0; exact z5 i hin h0
    · rw [h5n i hi hin] at h0; exact absurd h0 (by decide)
  · rw [h6] at h
    by_cases hin : i < n
    · by_cases hjn : j < n
      · rw [hF 1 i hin, hF 1 j hjn]
        rw [hF 5 i hin] at hi0
        rw [hF 5 j hjn] at hj0
        exact z6 i j hin hjn hi0 hj0 h
      · rw [h5n j hj hjn] at hj0; exact absurd hj0 (by decide)
    · rw [h5n i hi hin] at hi0; exact absurd hi0 (by decide)
  · unfold List.Nodup
    rw [List.pairwise_append]
    refine ⟨f1, List.nodup_range', fun a ha b hb e => ?_⟩
    have h1 := ((f2 a).mp ha).1
    rw [List.mem_range'] at hb
    obtain ⟨q, q1, q2⟩ := hb
    omega
  · rw [List.mem_append, f2 i, List.mem_range']
    constructor
    · rintro (⟨h1, h2⟩ | ⟨q, q1, q2⟩)
      · exact ⟨by omega, by rw [hF 5 i h1]; exact h2⟩
      · exact ⟨by omega, h5n i (by omega) (by omega)⟩
    · rintro ⟨h1, h2⟩
      by_cases hin : i < n
      · exact .inl ⟨hin, by rw [← hF 5 i hin]; exact h2⟩
      · exact .inr ⟨i - n, by omega, by omega⟩
  · rw [List.length_append, List.length_range']
    by_cases hj : j < M.length
    · rw [List.getElem?_append_left hj] at hx
      have h1 := hMc j x hx
      have h2 := ((f2 x).mp (List.mem_of_getElem? hx)).1
      rw [hF 1 x h2, h1]
      omega
    · rw [List.getElem?_append_right (by omega), List.getElem?_eq_some_iff] at hx
      obtain ⟨h1, h2⟩ := hx
      rw [List.length_range'] at h1
      rw [List.getElem_range'] at h2
      have h3 : x = n + (j - M.length) := by omega
      rw [h3, hs1 _ h1]
      omega
end KCM
