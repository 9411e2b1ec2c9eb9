/-! the lake: names, schemas that are alike -/
theorem nI_nm {a : Nat} (h : a < 2147483647) : nI a ≠ -1 := by
  rw [← zI_S, ← zI_0]
  intro e
  rw [zI_eqE (by omega) (by omega)] at e
  omega
/-- a name stands there -/
def kNk (q : kP) (a : Nat) : Prop := q.2.1 40 a < 33 ∧ a + 1 + q.2.1 40 a ≤ q.1 6 ∧ ∀ i, i < q.2.1 40 a → q.2.1 40 (a + 1 + i) < 128
theorem kNk_of {T : Nat → Nat → Nat} {q : kP} {a x : Nat} (hn : kNam T x = true) (hp : kPo T q a x) : kNk q a := by
  unfold kNam at hn
  simp only [decide_eq_true_eq] at hn
  obtain ⟨h1, h2, h3⟩ := hp
  refine ⟨by rw [h2]; exact hn.2.2.1, by rw [h2]; exact h1, fun i hi => ?_⟩
  rw [h2] at hi
  rw [h3 i hi]
  have := hn.2.2.2 i hi
  omega
section
variable {b1 pb1 qb1 b2 pb2 qb2 m1 m2 : Nat} {q1 q2 : kP} {T1 T2 : Nat → Nat → Nat} {t : aT}
theorem kNk_s {q : kP} {T : Nat → Nat → Nat} {m x : Nat} (hI : kIv T m q) (h6 : 6 ≤ x) (hx : x < q.1 1) (h9 : 9 ≤ q.2.1 0 x) : kNk q (q.2.1 9 x) ∧ q.2.1 1 x ≠ 0 := by
  rcases (hI.2.2.1 x h6 hx).2.1 with ⟨h, _⟩ | ⟨_, h0, _, h1, h2⟩
  · omega
  · exact ⟨kNk_of h1 h2, by omega⟩
theorem kNk_p {q : kP} {T : Nat → Nat → Nat} {m x i : Nat} (hI : kIv T m q) (h6 : 6 ≤ x) (hx : x < q.1 1) (h9 : 10 ≤ q.2.1 0 x) (hi : i < q.2.1 4 x) : kNk q (q.2.2 4 x i) ∧ q.2.2 2 x i ≠ 0 := by
  rcases (hI.2.2.2.1 x i h6 hx hi).2.2.2.2.2 with ⟨h, _⟩ | ⟨_, h0, _, h1, h2⟩
  · omega
  · exact ⟨kNk_of h1 h2, by omega⟩
theorem Sc_sn16 (hV1 : lV b1 pb1 qb1 q1 t) (hV2 : lV b2 pb2 qb2 q2 t) (d : Nat) {a1 a2 l : Nat} (h1 : kNk q1 a1) (h2 : kNk q2 a2) (e1 : q1.2.1 40 a1 = l) (e2 : q2.2.1 40 a2 = l) : ∀ k j, j + k = l → fSc_isSameName_16 d (nI (qb1 + a1)) (nI (qb2 + a2)) (nI l) (nI (j + 1)) t = rI (if ∀ i, i < l → j ≤ i → q1.2.1 40 (a1 + 1 + i) = q2.2.1 40 (a2 + 1 + i) then 1 else 0) t := by
  obtain ⟨P1, p11, p12, p13⟩ := hV1.2.1
  obtain ⟨P2, p21, p22, p23⟩ := hV2.2.1
  obtain ⟨n11, n12, n13⟩ := h1
  obtain ⟨n21, n22, n23⟩ := h2
  rw [e1] at n11 n12 n13
  rw [e2] at n21 n22 n23
  intro k
  induction k with
  | zero =>
    intro j hj
    refine eSc_isSameName_16 d _ _ _ _ _ _ ?_
    rw [if_pos (show nI l < nI (j + 1) by rw [nI_ltE (by omega) (by omega)]; omega), if_pos (fun i a b => by omega)]
    rfl
  | succ k ih =>
    intro j hj
    have hjl : j < l := by omega
    refine eSc_isSameName_16 d _ _ _ _ _ _ ?_
    rw [if_neg (show ¬ nI l < nI (j + 1) by rw [nI_ltE (by omega) (by omega)]; omega), nI_addE, nI_addE, ldI_n (by omega) (by omega), ldI_n (by omega) (by omega), show qb1 + a1 + (j + 1) = qb1 + (a1 + 1 + j) by omega, show qb2 + a2 + (j + 1) = qb2 + (a2 + 1 + j) by omega, hV1.2.2.2.2.2 _ (by omega), hV2.2.2.2.2.2 _ (by omega)]
    have hA := n13 j hjl
    have hB := n23 j hjl
    simp only [mI_inj (show q1.2.1 40 (a1 + 1 + j) < 256 by omega) (show q2.2.1 40 (a2 + 1 + j) < 256 by omega)]
    by_cases he : q1.2.1 40 (a1 + 1 + j) = q2.2.1 40 (a2 + 1 + j)
    · rw [if_pos he, nI_add1, ih (j + 1) (by omega)]
      have : (∀ i, i < l → j ≤ i → q1.2.1 40 (a1 + 1 + i) = q2.2.1 40 (a2 + 1 + i)) ↔ (∀ i, i < l → j + 1 ≤ i → q1.2.1 40 (a1 + 1 + i) = q2.2.1 40 (a2 + 1 + i)) := by
        constructor
        · intro h i a b; exact h i a (by omega)
        · intro h i a b
          rcases Nat.lt_or_ge j i with g | g
          · exact h i a g
          · have : i = j := by omega
            rw [this]; exact he
      simp only [this]
      rfl
    · rw [if_neg he, if_neg (fun h => he (h j hjl (Nat.le_refl _)))]
      rfl
theorem Sc_sn (hV1 : lV b1 pb1 qb1 q1 t) (hV2 : lV b2 pb2 qb2 q2 t) (d : Nat) {a1 a2 : Nat} (h1 : kNk q1 a1) (h2 : kNk q2 a2) : fSc_isSameName d (nI (qb1 + a1)) (nI (qb2 + a2)) t = rI (if kSnm q1 a1 q2 a2 = true then 1 else 0) t := by
  obtain ⟨P1, p11, p12, p13⟩ := hV1.2.1
  obtain ⟨P2, p21, p22, p23⟩ := hV2.2.1
  have n1 := h1
  have n2 := h2
  obtain ⟨n11, n12, n13⟩ := n1
  obtain ⟨n21, n22, n23⟩ := n2
  have g1 : gI t 33 (qb1 + a1) = nI (q1.2.1 40 a1) := by rw [hV1.2.2.2.2.2 _ (by omega), mI_nI (by omega)]
  have g2 : gI t 33 (qb2 + a2) = nI (q2.2.1 40 a2) := by rw [hV2.2.2.2.2.2 _ (by omega), mI_nI (by omega)]
  refine eSc_isSameName d _ _ _ _ ?_
  rw [if_neg (nI_nm (by omega)), if_pos (nI_nm (by omega)), ldI_n (by omega) (by omega), g1]
  unfold kSnm
  simp only [decide_eq_true_eq]
  have z0 : fSc_isSameName_16 d (nI (qb1 + a1)) (nI (qb2 + a2)) (nI (q1.2.1 40 a1)) 0 t = (if q1.2.1 40 a1 = q2.2.1 40 a2 then rI (if ∀ i, i < q1.2.1 40 a1 → 0 ≤ i → q1.2.1 40 (a1 + 1 + i) = q2.2.1 40 (a2 + 1 + i) then 1 else 0) t else rI 0 t) := by
    by_cases he : q1.2.1 40 a1 = q2.2.1 40 a2
    · rw [if_pos he]
      have h := Sc_sn16 hV1 hV2 d h1 h2 rfl he.symm _ 0 (Nat.zero_add _)
      have go : ∀ r, fSc_isSameName_16 d (nI (qb1 + a1)) (nI (qb2 + a2)) (nI (q1.2.1 40 a1)) (nI (0 + 1)) t = some r → fSc_isSameName_16 d (nI (qb1 + a1)) (nI (qb2 + a2)) (nI (q1.2.1 40 a1)) 0 t = some r := by
        intro r hr
        refine eSc_isSameName_16 d _ _ _ _ _ _ ?_
        rw [if_neg (show ¬ nI (q1.2.1 40 a1) < 0 by rw [show (0 : Int32) = nI 0 from rfl, nI_ltE (by omega) (by omega)]; omega), show (0 : Int32) = nI 0 from rfl, nI_addE, nI_addE, ldI_n (by omega) (by omega), ldI_n (by omega) (by omega), Nat.add_zero, Nat.add_zero, g1, g2, if_pos (by rw [he]), nI_add1]
        exact hr
      exact go _ h
    · rw [if_neg he]
      refine eSc_isSameName_16 d _ _ _ _ _ _ ?_
      rw [if_neg (show ¬ nI (q1.2.1 40 a1) < 0 by rw [show (0 : Int32) = nI 0 from rfl, nI_ltE (by omega) (by omega)]; omega), show (0 : Int32) = nI 0 from rfl, nI_addE, nI_addE, ldI_n (by omega) (by omega), ldI_n (by omega) (by omega), Nat.add_zero, Nat.add_zero, g1, g2, if_neg (by rw [nI_eqE (by omega) (by omega)]; exact he)]
      rfl
  rw [z0]
  by_cases he : q1.2.1 40 a1 = q2.2.1 40 a2
  · rw [if_pos he]
    by_cases hl : ∀ i, i < q1.2.1 40 a1 → q1.2.1 40 (a1 + 1 + i) = q2.2.1 40 (a2 + 1 + i)
    · rw [if_pos (fun i a _ => hl i a), if_pos ⟨he, hl⟩]
      rfl
    · rw [if_neg (fun h => hl (fun i a => h i a (Nat.zero_le _))), if_neg (fun h => hl h.2)]
      rfl
  · rw [if_neg he, if_neg (fun h => he h.1)]
    rfl
/-- words -/
theorem Ma_word (d : Nat) {a b : Nat} (ha : a < 100) (hb : b < 100) : fMa_isAlikeWord d (nI a) (nI b) t = rI (if kSix a b then 1 else 0) t := by
  have e19 : ∀ z : Nat, z ≤ 1 → fMa_isAlikeWord_19 d (nI b) (nI z) t = rI (if z = 1 ∧ (b = 4 ∨ b = 5) then 1 else 0) t := by
    intro z hz
    refine eMa_isAlikeWord_19 d _ _ _ _ ?_
    simp only [show (0 : Int32) = nI 0 from rfl, show (4 : Int32) = nI 4 from rfl, show (5 : Int32) = nI 5 from rfl]
    simp (disch := omega) only [nI_eqE]
    by_cases h0 : z = 0
    · rw [if_pos h0, if_neg (by omega)]; rfl
    · rw [if_neg h0]
      by_cases h4 : b = 4
      · rw [if_pos h4, if_pos (by omega)]; rfl
      · rw [if_neg h4]
        by_cases h5 : b = 5
        · rw [if_neg (by omega), if_pos (by omega)]; rfl
        · rw [if_pos h5, if_neg (by omega)]; rfl
  have e9 : ∀ z : Nat, z ≤ 1 → fMa_isAlikeWord_9 d (nI a) (nI b) (nI z) t = rI (if a = b ∨ a = 2 ∧ b = 3 ∨ z = 1 ∧ (b = 4 ∨ b = 5) then 1 else 0) t := by
    intro z hz
    refine eMa_isAlikeWord_9 d _ _ _ _ _ ?_
    rw [e19 z hz]
    simp only [show (2 : Int32) = nI 2 from rfl, show (3 : Int32) = nI 3 from rfl]
    simp (disch := omega) only [nI_eqE]
    by_cases hab : a = b
    · rw [if_pos hab, if_pos (.inl hab)]; rfl
    · rw [if_neg hab]
      by_cases h2 : a = 2
      · rw [if_neg (by omega)]
        by_cases h3 : b = 3
        · rw [if_pos h3, if_pos (.inr (.inl ⟨h2, h3⟩))]; rfl
        · rw [if_neg h3]
          by_cases h : z = 1 ∧ (b = 4 ∨ b = 5)
          · rw [if_pos h, if_pos (.inr (.inr h))]; rfl
          · rw [if_neg h, if_neg (by omega)]; rfl
      · rw [if_pos h2]
        by_cases h : z = 1 ∧ (b = 4 ∨ b = 5)
        · rw [if_pos h, if_pos (.inr (.inr h))]; rfl
        · rw [if_neg h, if_neg (by omega)]; rfl
  refine eMa_isAlikeWord d _ _ _ _ ?_
  have e6 : fMa_isAlikeWord_6 d (nI a) (nI b) t = rI (if a = b ∨ a = 2 ∧ b = 3 ∨ (b = 4 ∨ b = 5) then 1 else 0) t := by
    have h := eMa_isAlikeWord_6 d _ _ _ _ (e9 1 (by omega))
    simp only [true_and] at h
    exact h
  rw [e6, show (0 : Int32) = nI 0 from rfl, e9 0 (by omega)]
  simp only [show (4 : Int32) = nI 4 from rfl, show (5 : Int32) = nI 5 from rfl]
  simp (disch := omega) only [nI_eqE]
  have k0 : kSix a b ↔ (a = b ∨ a = 2 ∧ b = 3 ∨ (a = 4 ∨ a = 5) ∧ (b = 4 ∨ b = 5)) := Iff.rfl
  by_cases h4 : a = 4
  · rw [if_pos h4]
    by_cases h : a = b ∨ a = 2 ∧ b = 3 ∨ (b = 4 ∨ b = 5)
    · rw [if_pos h, if_pos (k0.mpr (by omega))]; rfl
    · rw [if_neg h, if_neg (fun e => h (by have := k0.mp e; omega))]; rfl
  · rw [if_neg h4]
    by_cases h5 : a = 5
    · rw [if_neg (by omega)]
      by_cases h : a = b ∨ a = 2 ∧ b = 3 ∨ (b = 4 ∨ b = 5)
      · rw [if_pos h, if_pos (k0.mpr (by omega))]; rfl
      · rw [if_neg h, if_neg (fun e => h (by have := k0.mp e; omega))]; rfl
    · rw [if_pos h5]
      by_cases h : a = b ∨ a = 2 ∧ b = 3 ∨ 0 = 1 ∧ (b = 4 ∨ b = 5)
      · rw [if_pos h, if_pos (k0.mpr (by omega))]; rfl
      · rw [if_neg h, if_neg (fun e => h (by have := k0.mp e; omega))]; rfl
end
