/-! the lake: schemas that match -/
/-- a version, looked at -/
def lW (b pb qb : Nat) (q : kP) (T : Nat → Nat → Nat) (m : Nat) (t : aT) : Prop := lV b pb qb q t ∧ kIv T m q ∧ kCd q ∧ ∀ x i, 6 ≤ x → x < q.1 1 → q.2.1 0 x = 11 → i < q.2.1 4 x → (q.2.1 32 (q.2.1 6 x + i) = 0 ↔ q.2.2 3 x i = 0) ∧ q.2.1 32 (q.2.1 6 x + i) ≤ q.1 6 + 1
theorem kKi {q : kP} {T : Nat → Nat → Nat} {m x : Nat} (hI : kIv T m q) (hx : x < q.1 1) : q.2.1 0 x ≤ 11 ∧ (6 ≤ q.2.1 0 x ↔ 6 ≤ x) := by
  by_cases h : x < 6
  · have := (hI.2.1 x h).1; omega
  · have := (hI.2.2.1 x (by omega) hx).1; omega
theorem kPx_lt {q : kP} {T : Nat → Nat → Nat} {m x i : Nat} (hI : kIv T m q) (hcd : kCd q) (h6 : 6 ≤ x) (hx : x < q.1 1) (h9 : q.2.1 0 x ≠ 9) (h10 : q.2.1 0 x ≠ 10) (hi : i < q.2.1 4 x) : q.2.2 1 x i ≠ 0 ∧ kPx q x i < q.1 1 := by
  have h1 := (hcd x h6 hx).2 h9 h10 i hi
  have h2 := (hI.2.2.2.1 x i h6 hx hi).2.2.2.1
  exact ⟨h1, by show q.2.2 1 x i - 1 < _; omega⟩
section
variable {b pb qb b1 pb1 qb1 b2 pb2 qb2 m m1 m2 : Nat} {q q1 q2 : kP} {T T1 T2 : Nat → Nat → Nat} {t : aT}
theorem lW_fr {s : aT} (h : ∀ k i, 23 ≤ k → k ≤ 33 → gI t k i = gI s k i) (hw : lW b pb qb q T m s) : lW b pb qb q T m t := ⟨lV_fr h hw.1, hw.2⟩
theorem lW_item (hw : lW b pb qb q T m t) {x : Nat} (hx : x < q.1 1) (hr : q.2.1 0 x = 6 ∨ q.2.1 0 x = 7) : gI t 27 (lo b x) = nI (lo b (kPx q x 0)) ∧ q.2.1 4 x = 1 := by
  obtain ⟨hv, hI, hcd, _⟩ := hw
  have h6 := (kKi hI hx).2.mp (by omega)
  have h4 := (hcd x h6 hx).1.2.2.1 hr
  have h1 := (hcd x h6 hx).2 (by omega) (by omega) 0 (by omega)
  have h18 := ((hI.2.2.1 x h6 hx).2.2.2.2.1 hr).2.2
  rw [if_neg (by omega)] at h18
  refine ⟨?_, h4⟩
  rw [(hv.2.2.2.1 x h6 hx).2.2.2.2, if_pos hr, h18]
  unfold zL
  rw [if_neg h1]
theorem Ma_row (hw : lW b pb qb q T m t) (d : Nat) {x : Nat} (hx : x < q.1 1) : fMa_isRow d (nI (lo b x)) t = rI (if q.2.1 0 x = 6 ∨ q.2.1 0 x = 7 then 1 else 0) t := by
  have hlx := lV_lo hw.1 hx
  have hk := kKi hw.2.1 hx
  refine eMa_isRow d _ _ _ ?_
  rw [ldI_n hlx (by omega), lV_kind hw.1 hw.2.1 hx, show (6 : Int32) = nI 6 from rfl, show (7 : Int32) = nI 7 from rfl, ldI_n hlx (by omega), lV_kind hw.1 hw.2.1 hx]
  simp (disch := omega) only [nI_eqE]
  by_cases h6 : q.2.1 0 x = 6
  · rw [if_pos h6, if_pos (.inl h6)]; rfl
  · rw [if_neg h6]
    by_cases h7 : q.2.1 0 x = 7
    · rw [if_neg (fun e => e h7), if_pos (.inr h7)]; rfl
    · rw [if_pos h7, if_neg (by omega)]; rfl
theorem Ma_a42 (h1 : lW b1 pb1 qb1 q1 T1 m1 t) (h2 : lW b2 pb2 qb2 q2 T2 m2 t) (d : Nat) {x y : Nat} (hx : x < q1.1 1) (hy : y < q2.1 1) (h6 : 6 ≤ q1.2.1 0 x) (h8 : q1.2.1 0 x ≠ 8) (he : q1.2.1 0 x = q2.2.1 0 y) : fMa_isAlike_42 (d + 1) (nI (lo b1 x)) (nI (lo b2 y)) t = rI (if 8 ≤ q1.2.1 0 x → kSnm q1 (q1.2.1 9 x) q2 (q2.2.1 9 y) = true then 1 else 0) t := by
  have hlx := lV_lo h1.1 hx
  have hly := lV_lo h2.1 hy
  have k1 := kKi h1.2.1 hx
  have k2 := kKi h2.2.1 hy
  refine eMa_isAlike_42 d _ _ _ _ ?_
  rw [Ma_row h1 d hx, cG_I]
  by_cases hr : q1.2.1 0 x = 6 ∨ q1.2.1 0 x = 7
  · rw [if_pos hr, if_pos (by decide), if_pos (fun e => by omega)]
    rfl
  · have n1 := kNk_s h1.2.1 (k1.2.mp h6) hx (by omega)
    have n2 := kNk_s h2.2.1 (k2.2.mp (by omega)) hy (by omega)
    rw [if_neg hr, if_neg (fun e => e rfl), ldI_n hlx (by omega), ldI_n hly (by omega), (h1.1.2.2.2.1 x (k1.2.mp h6) hx).2.1, (h2.1.2.2.2.1 y (k2.2.mp (by omega)) hy).2.1, if_neg n1.2, if_neg n2.2, Sc_sn h1.1 h2.1 d n1.1 n2.1, cG_I]
    by_cases hs : kSnm q1 (q1.2.1 9 x) q2 (q2.2.1 9 y) = true
    · rw [if_pos hs, if_neg (by decide), if_pos (fun _ => hs)]
      rfl
    · rw [if_neg hs, if_pos rfl, if_neg (fun e => hs (e (by omega)))]
      rfl
theorem Ma_alike (h1 : lW b1 pb1 qb1 q1 T1 m1 t) (h2 : lW b2 pb2 qb2 q2 T2 m2 t) (d : Nat) {x y : Nat} (hx : x < q1.1 1) (hy : y < q2.1 1) (h8 : q1.2.1 0 x ≠ 8) : fMa_isAlike (d + 1) (nI (lo b1 x)) (nI (lo b2 y)) t = rI (if kAi q1 q2 x y = true then 1 else 0) t := by
  have hlx := lV_lo h1.1 hx
  have hly := lV_lo h2.1 hy
  have k1 := kKi h1.2.1 hx
  have k2 := kKi h2.2.1 hy
  have e6 : ((6 : Int32) ≤ nI (q1.2.1 0 x)) = (6 ≤ q1.2.1 0 x) := by rw [show (6 : Int32) = nI 6 from rfl, nI_leE (by omega) (by omega)]
  have e9 : (nI (q1.2.1 0 x) = 9) = (q1.2.1 0 x = 9) := by rw [show (9 : Int32) = nI 9 from rfl, nI_eqE (by omega) (by omega)]
  unfold kAi
  simp only [decide_eq_true_eq]
  refine eMa_isAlike d _ _ _ _ ?_
  rw [ldI_n hlx (by omega), lV_kind h1.1 h1.2.1 hx]
  by_cases h6 : 6 ≤ q1.2.1 0 x
  · rw [if_pos (by rw [e6]; exact h6), ldI_n hly (by omega), lV_kind h2.1 h2.2.1 hy]
    simp (disch := omega) only [nI_eqE]
    have enot : ¬ q1.2.1 0 x < 6 := by omega
    simp only [if_neg enot]
    by_cases he : q1.2.1 0 x = q2.2.1 0 y
    · rw [if_pos he]
      have ha := Ma_a42 h1 h2 d hx hy h6 h8 he
      by_cases h9 : q1.2.1 0 x = 9
      · have s1 : gI t 27 (lo b1 x) = zI (q1.2.1 8 x) := by rw [(h1.1.2.2.2.1 x (k1.2.mp h6) hx).2.2.2.2, if_neg (by omega)]
        have s2 : gI t 27 (lo b2 y) = zI (q2.2.1 8 y) := by rw [(h2.1.2.2.2.1 y (k2.2.mp (by omega)) hy).2.2.2.2, if_neg (by omega)]
        have b81 := (h1.2.1.2.2.1 x (k1.2.mp h6) hx).2.2.2.2.2.2.1
        have b82 := (h2.2.1.2.2.1 y (k2.2.mp (by omega)) hy).2.2.2.2.2.2.1
        rw [if_neg (fun e => e (by rw [e9]; exact h9)), ldI_n hlx (by omega), ldI_n hly (by omega), s1, s2]
        simp (disch := omega) only [zI_eqE]
        by_cases h88 : q1.2.1 8 x = q2.2.1 8 y
        · rw [if_pos h88, ha]
          by_cases hs : 8 ≤ q1.2.1 0 x → kSnm q1 (q1.2.1 9 x) q2 (q2.2.1 9 y) = true
          · rw [if_pos hs, if_pos ⟨he, fun _ => h88, hs⟩]; rfl
          · rw [if_neg hs, if_neg (fun e => hs e.2.2)]; rfl
        · rw [if_neg h88, if_neg (fun e => h88 (e.2.1 h9))]
          rfl
      · rw [if_pos (by rw [e9]; exact h9), ha]
        by_cases hs : 8 ≤ q1.2.1 0 x → kSnm q1 (q1.2.1 9 x) q2 (q2.2.1 9 y) = true
        · rw [if_pos hs, if_pos ⟨he, fun e => absurd e h9, hs⟩]; rfl
        · rw [if_neg hs, if_neg (fun e => hs e.2.2)]; rfl
    · rw [if_neg he, if_neg (fun e => he e.1)]
      rfl
  · have h6' : q1.2.1 0 x < 6 := by omega
    simp only [if_pos h6']
    rw [if_neg (by rw [e6]; exact h6), ldI_n hly (by omega), lV_kind h2.1 h2.2.1 hy, Ma_word d (by omega) (by omega), cG_I]
    by_cases hs : kSix (q1.2.1 0 x) (q2.2.1 0 y)
    · rw [if_pos hs]; rfl
    · rw [if_neg hs]; rfl
theorem Ma_match (h1 : lW b1 pb1 qb1 q1 T1 m1 t) (h2 : lW b2 pb2 qb2 q2 T2 m2 t) (d : Nat) : ∀ D x y z, x < q1.1 1 → y < q2.1 1 → z + D = 17 → fMa_isMatch (D + d + 2) (nI (lo b1 x)) (nI (lo b2 y)) (nI z) t = rI (if kMs q1 q2 D x y = true then 1 else 0) t := by
  intro D
  induction D with
  | zero =>
    intro x y z hx hy hz
    have hlx := lV_lo h1.1 hx
    have hly := lV_lo h2.1 hy
    have k1 := kKi h1.2.1 hx
    have k2 := kKi h2.2.1 hy
    refine eMa_isMatch (0 + d + 1) _ _ _ _ _ ?_
    unfold kMs
    rw [ldI_n hlx (by omega), lV_kind h1.1 h1.2.1 hx, show (8 : Int32) = nI 8 from rfl, ldI_n hly (by omega), lV_kind h2.1 h2.2.1 hy]
    simp (disch := omega) only [nI_eqE]
    by_cases e1 : q1.2.1 0 x = 8
    · rw [if_pos e1, if_pos (if_pos (.inl e1))]; rfl
    · rw [if_neg e1]
      by_cases e2 : q2.2.1 0 y = 8
      · rw [if_neg (fun e => e e2), if_pos (if_pos (.inr e2))]; rfl
      · rw [if_pos e2, if_pos (show (16 : Int32) < nI z by rw [show (16 : Int32) = nI 16 from rfl, nI_ltE (by omega) (by omega)]; omega), if_neg (fun e => by
          rw [if_neg (by omega)] at e
          cases e)]
        rfl
  | succ D ih =>
    intro x y z hx hy hz
    have hlx := lV_lo h1.1 hx
    have hly := lV_lo h2.1 hy
    have k1 := kKi h1.2.1 hx
    have k2 := kKi h2.2.1 hy
    rw [show D + 1 + d + 2 = D + d + 2 + 1 by omega]
    refine eMa_isMatch (D + d + 2) _ _ _ _ _ ?_
    unfold kMs
    rw [ldI_n hlx (by omega), lV_kind h1.1 h1.2.1 hx, show (8 : Int32) = nI 8 from rfl, ldI_n hly (by omega), lV_kind h2.1 h2.2.1 hy]
    simp (disch := omega) only [nI_eqE]
    by_cases e1 : q1.2.1 0 x = 8
    · rw [if_pos e1, if_pos (if_pos (.inl e1))]; rfl
    · rw [if_neg e1]
      by_cases e2 : q2.2.1 0 y = 8
      · rw [if_neg (fun e => e e2), if_pos (if_pos (.inr e2))]; rfl
      · have e12 : ¬ (q1.2.1 0 x = 8 ∨ q2.2.1 0 y = 8) := fun e => by
          rcases e with g | g
          · exact e1 g
          · exact e2 g
        rw [if_pos e2, if_neg (show ¬ (16 : Int32) < nI z by rw [show (16 : Int32) = nI 16 from rfl, nI_ltE (by omega) (by omega)]; omega), Ma_alike h1 h2 (D + d + 1) hx hy e1, cG_I]
        simp only [if_neg e12]
        by_cases ha : kAi q1 q2 x y = true
        · simp only [if_pos ha]
          rw [if_pos (by decide), Ma_row h1 _ hx, cG_I]
          by_cases hr : q1.2.1 0 x = 6 ∨ q1.2.1 0 x = 7
          · have hr2 : q2.2.1 0 y = 6 ∨ q2.2.1 0 y = 7 := by
              unfold kAi at ha
              simp only [decide_eq_true_eq] at ha
              rw [if_neg (by omega)] at ha
              have := ha.1
              omega
            have i1 := lW_item h1 hx hr
            have i2 := lW_item h2 hy hr2
            have p1 := (kPx_lt h1.2.1 h1.2.2.1 (k1.2.mp (by omega)) hx (by omega) (by omega) (i := 0) (by omega)).2
            have p2 := (kPx_lt h2.2.1 h2.2.2.1 (k2.2.mp (by omega)) hy (by omega) (by omega) (i := 0) (by omega)).2
            have ihh := ih (kPx q1 x 0) (kPx q2 y 0) (z + 1) p1 p2 (by omega)
            simp only [if_pos hr]
            rw [if_neg (show ¬ (1 : Int32) = 0 by decide), ldI_n hlx (by omega), ldI_n hly (by omega), i1.1, i2.1, nI_add1, ihh, cG_I]
            by_cases hm : kMs q1 q2 D (kPx q1 x 0) (kPx q2 y 0) = true
            · rw [if_pos hm, if_neg (by decide)]; rfl
            · rw [if_neg hm, if_pos rfl]; rfl
          · simp only [if_neg hr]
            rw [if_pos trivial]
            rfl
        · simp only [if_neg ha]
          rw [if_neg (fun e => e trivial)]
          rfl
/-- the branch of a union -/
theorem Ma_branch2 (h1 : lW b1 pb1 qb1 q1 T1 m1 t) (h2 : lW b2 pb2 qb2 q2 T2 m2 t) (d : Nat) {x y : Nat} (hx : x < q1.1 1) (hy : y < q2.1 1) (h8 : q2.2.1 0 y = 8) : ∀ k i, i + k = q2.2.1 4 y → fMa_branchFor_2 (d + 20) (nI (lo b1 x)) (nI (lo b2 y)) (nI i) t = rI (zI (kFr (fun i => kMs q1 q2 17 x (kPx q2 y i)) k i)) t := by
  have hly := lV_lo h2.1 hy
  have h6 := (kKi h2.2.1 hy).2.mp (by omega)
  have h47 := (h2.2.2.1 y h6 hy).1.2.2.2.2 (by omega) (by omega)
  have h732 := (h2.2.1.2.2.1 y h6 hy).2.2.2.2.2.2.2
  have e26 : gI t 26 (lo b2 y) = nI (q2.2.1 4 y) := by rw [(h2.1.2.2.2.1 y h6 hy).2.2.2.1, h47]
  intro k
  induction k with
  | zero =>
    intro i hi
    refine eMa_branchFor_2 (d + 19) _ _ _ _ _ ?_
    rw [ldI_n hly (by omega), e26, if_pos (show nI (q2.2.1 4 y) ≤ nI i by rw [nI_leE (by omega) (by omega)]; omega)]
    unfold kFr
    rw [zI_0]
    rfl
  | succ k ih =>
    intro i hi
    obtain ⟨p1, p2⟩ := kPx_lt h2.2.1 h2.2.2.1 h6 hy (by omega) (by omega) (i := i) (by omega)
    have hm := Ma_match h1 h2 d 17 x (kPx q2 y i) 0 hx p2 (by omega)
    rw [show 17 + d + 2 = d + 19 by omega] at hm
    refine eMa_branchFor_2 (d + 19) _ _ _ _ _ ?_
    rw [ldI_n hly (by omega), e26, if_neg (show ¬ nI (q2.2.1 4 y) ≤ nI i by rw [nI_leE (by omega) (by omega)]; omega), lV_ps h2.1 h2.2.1 (d + 19) h6 hy (by omega) (by omega) p1, cG_I, show (0 : Int32) = nI 0 from rfl, hm, cG_I]
    unfold kFr
    by_cases hk : kMs q1 q2 17 x (kPx q2 y i) = true
    · rw [if_pos hk, if_neg (by decide)]
      simp only [if_pos hk]
      rw [zI_S]
      rfl
    · rw [if_neg hk, if_pos (show (0 : Int32) = nI 0 from rfl), nI_add1, ih (i + 1) (by omega)]
      simp only [if_neg hk]
      rfl
theorem Ma_branch (h1 : lW b1 pb1 qb1 q1 T1 m1 t) (h2 : lW b2 pb2 qb2 q2 T2 m2 t) (d : Nat) {x y : Nat} (hx : x < q1.1 1) (hy : y < q2.1 1) (h8 : q2.2.1 0 y = 8) : fMa_branchFor (d + 20) (nI (lo b1 x)) (nI (lo b2 y)) t = rI (zI (kBf q1 q2 x y)) t := by
  refine eMa_branchFor (d + 19) _ _ _ _ ?_
  rw [show (0 : Int32) = nI 0 from rfl, Ma_branch2 h1 h2 d hx hy h8 (q2.2.1 4 y) 0 (by omega)]
  rfl
/-- a part's name's place -/
theorem lW_28 (hw : lW b pb qb q T m t) {x i : Nat} (hx : x < q.1 1) (h10 : 10 ≤ q.2.1 0 x) (hi : i < q.2.1 4 x) : gI t 28 (pb + (q.2.1 6 x + i)) = nI (qb + q.2.2 4 x i) ∧ kNk q (q.2.2 4 x i) ∧ pb + (q.2.1 6 x + i) < 10112 ∧ q.2.1 6 x + i < q.1 3 ∧ q.2.1 4 x = q.2.1 7 x ∧ q.2.1 7 x ≤ 32 := by
  obtain ⟨hv, hI, hcd, _⟩ := hw
  have h6 := (kKi hI hx).2.mp (by omega)
  have h47 := (hcd x h6 hx).1.2.2.2.2 (by omega) (by omega)
  have hs := (hI.2.2.1 x h6 hx)
  have hs4 := hs.2.2.2.1
  have hp := hv.1.2.2.1
  have hj := hI.2.2.2.2 x i h6 hx (by omega)
  have hn := kNk_p hI h6 hx h10 hi
  refine ⟨?_, hn.1, by omega, by omega, h47, hs.2.2.2.2.2.2.2⟩
  rw [(hv.2.2.2.2.1 _ (by omega)).1, hj.2.2, if_pos ⟨hi, hn.2⟩]
  unfold zQ
  rw [if_neg (by omega)]
  rfl
/-- the part that has a name -/
theorem Sc_pl2 (h1 : lW b1 pb1 qb1 q1 T1 m1 t) (h2 : lW b2 pb2 qb2 q2 T2 m2 t) (d : Nat) {x y j : Nat} (hx : x < q1.1 1) (hy : y < q2.1 1) (x10 : 10 ≤ q1.2.1 0 x) (y10 : 10 ≤ q2.2.1 0 y) (hj : j < q2.2.1 4 y) : ∀ k i, i + k = q1.2.1 4 x → fSc_partLike_2 (d + 1) (nI (lo b1 x)) (nI (pb2 + (q2.2.1 6 y + j))) (nI i) t = rI (zI (kFr (fun i => kSnm q1 (q1.2.2 4 x i) q2 (q2.2.2 4 y j)) k i)) t := by
  have hlx := lV_lo h1.1 hx
  have h6 := (kKi h1.2.1 hx).2.mp (by omega)
  have h47 := (h1.2.2.1 x h6 hx).1.2.2.2.2 (by omega) (by omega)
  have h732 := (h1.2.1.2.2.1 x h6 hx).2.2.2.2.2.2.2
  have e26 : gI t 26 (lo b1 x) = nI (q1.2.1 4 x) := by rw [(h1.1.2.2.2.1 x h6 hx).2.2.2.1, h47]
  have e25 : gI t 25 (lo b1 x) = nI (pb1 + q1.2.1 6 x) := (h1.1.2.2.2.1 x h6 hx).2.2.1
  obtain ⟨j1, j2, j3, _⟩ := lW_28 h2 hy y10 hj
  intro k
  induction k with
  | zero =>
    intro i hi
    refine eSc_partLike_2 d _ _ _ _ _ ?_
    rw [ldI_n hlx (by omega), e26, if_pos (show nI (q1.2.1 4 x) ≤ nI i by rw [nI_leE (by omega) (by omega)]; omega)]
    unfold kFr
    rw [zI_0]
    rfl
  | succ k ih =>
    intro i hi
    obtain ⟨i1, i2, i3, _⟩ := lW_28 h1 hx x10 (show i < q1.2.1 4 x by omega)
    refine eSc_partLike_2 d _ _ _ _ _ ?_
    rw [ldI_n hlx (by omega), e26, if_neg (show ¬ nI (q1.2.1 4 x) ≤ nI i by rw [nI_leE (by omega) (by omega)]; omega), ldI_n hlx (by omega), e25, nI_addE, Nat.add_assoc, ldI_n i3 (by omega), i1, ldI_n j3 (by omega), j1, Sc_sn h1.1 h2.1 d i2 j2, cG_I]
    unfold kFr
    by_cases hk : kSnm q1 (q1.2.2 4 x i) q2 (q2.2.2 4 y j) = true
    · rw [if_pos hk, if_neg (by decide)]
      simp only [if_pos hk]
      rw [zI_S]
      rfl
    · rw [if_neg hk, if_pos rfl, nI_add1, ih (i + 1) (by omega)]
      simp only [if_neg hk]
      rfl
theorem Sc_pl (h1 : lW b1 pb1 qb1 q1 T1 m1 t) (h2 : lW b2 pb2 qb2 q2 T2 m2 t) (d : Nat) {x y j : Nat} (hx : x < q1.1 1) (hy : y < q2.1 1) (x10 : 10 ≤ q1.2.1 0 x) (y10 : 10 ≤ q2.2.1 0 y) (hj : j < q2.2.1 4 y) : fSc_partLike (d + 1) (nI (lo b1 x)) (nI (pb2 + (q2.2.1 6 y + j))) t = rI (zI (kPk q1 q2 x y j)) t := by
  refine eSc_partLike d _ _ _ _ ?_
  rw [show (0 : Int32) = nI 0 from rfl, Sc_pl2 h1 h2 d hx hy x10 y10 hj (q1.2.1 4 x) 0 (by omega)]
  rfl
theorem zI_n1 {x : Nat} (h : x < 2147483648) : (zI x = -1) = (x = 0) := by
  rw [← zI_0, zI_eqE h (by omega)]
theorem kPk_le {x y j : Nat} : kPk q1 q2 x y j ≤ q1.2.1 4 x := by
  unfold kPk
  by_cases h : kFr (fun i => kSnm q1 (q1.2.2 4 x i) q2 (q2.2.2 4 y j)) (q1.2.1 4 x) 0 = 0
  · omega
  · have := (kFr_1 _ _ h).2.1
    omega
/-- every symbol -/
theorem Ma_sym2 (h1 : lW b1 pb1 qb1 q1 T1 m1 t) (h2 : lW b2 pb2 qb2 q2 T2 m2 t) (d : Nat) {x y : Nat} (hx : x < q1.1 1) (hy : y < q2.1 1) (x10 : q1.2.1 0 x = 10) (y10 : q2.2.1 0 y = 10) : ∀ k i, i + k = q1.2.1 4 x → fMa_hasAllSymbols_2 (d + 2) (nI (lo b1 x)) (nI (lo b2 y)) (nI i) t = rI (if kSy q1 q2 x y k i = true then 1 else 0) t := by
  have hlx := lV_lo h1.1 hx
  have h6 := (kKi h1.2.1 hx).2.mp (by omega)
  have h47 := (h1.2.2.1 x h6 hx).1.2.2.2.2 (by omega) (by omega)
  have h732 := (h1.2.1.2.2.1 x h6 hx).2.2.2.2.2.2.2
  have e26 : gI t 26 (lo b1 x) = nI (q1.2.1 4 x) := by rw [(h1.1.2.2.2.1 x h6 hx).2.2.2.1, h47]
  have e25 : gI t 25 (lo b1 x) = nI (pb1 + q1.2.1 6 x) := (h1.1.2.2.2.1 x h6 hx).2.2.1
  have h4y : q2.2.1 4 y ≤ 32 := by
    have y6 := (kKi h2.2.1 hy).2.mp (by omega)
    have a := (h2.2.2.1 y y6 hy).1.2.2.2.2 (by omega) (by omega)
    have c := (h2.2.1.2.2.1 y y6 hy).2.2.2.2.2.2.2
    omega
  intro k
  induction k with
  | zero =>
    intro i hi
    refine eMa_hasAllSymbols_2 (d + 1) _ _ _ _ _ ?_
    rw [ldI_n hlx (by omega), e26, if_pos (show nI (q1.2.1 4 x) ≤ nI i by rw [nI_leE (by omega) (by omega)]; omega)]
    rfl
  | succ k ih =>
    intro i hi
    have hk := kPk_le (q1 := q2) (q2 := q1) (x := y) (y := x) (j := i)
    refine eMa_hasAllSymbols_2 (d + 1) _ _ _ _ _ ?_
    rw [ldI_n hlx (by omega), e26, if_neg (show ¬ nI (q1.2.1 4 x) ≤ nI i by rw [nI_leE (by omega) (by omega)]; omega), ldI_n hlx (by omega), e25, nI_addE, Nat.add_assoc, Sc_pl h2 h1 d hy hx (by omega) (by omega) (by omega), cG_I]
    simp only [zI_n1 (show kPk q2 q1 y x i < 2147483648 by omega)]
    unfold kSy
    by_cases h0 : kPk q2 q1 y x i = 0
    · rw [if_neg (fun e => e h0), if_pos h0]
      rfl
    · rw [if_pos h0, if_neg h0, nI_add1, ih (i + 1) (by omega)]
      rfl
theorem Ma_sym (h1 : lW b1 pb1 qb1 q1 T1 m1 t) (h2 : lW b2 pb2 qb2 q2 T2 m2 t) (d : Nat) {x y : Nat} (hx : x < q1.1 1) (hy : y < q2.1 1) (x10 : q1.2.1 0 x = 10) (y10 : q2.2.1 0 y = 10) : fMa_hasAllSymbols (d + 2) (nI (lo b1 x)) (nI (lo b2 y)) t = rI (if kSy q1 q2 x y (q1.2.1 4 x) 0 = true then 1 else 0) t := by
  refine eMa_hasAllSymbols (d + 1) _ _ _ _ ?_
  rw [show (0 : Int32) = nI 0 from rfl, Ma_sym2 h1 h2 d hx hy x10 y10 (q1.2.1 4 x) 0 (by omega)]
  rfl
end
