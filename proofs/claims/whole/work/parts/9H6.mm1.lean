/-! the reference: schemas that match -/
/-- a text of the reference, looked at -/
def mW (c : Nat) (q : kP) (T : Nat → Nat → Nat) (N : Nat → Int) (m l n : Nat) (t : aT) : Prop := isT c ∧ mV c q t ∧ mT c t T N m l ∧ jGt T N m l n ∧ kIv T m q ∧ kCd q ∧ q.1 2 ≤ 2200 ∧ ∀ x, x < q.1 1 → kRo q 16 x
theorem kSnm_po {T1 T2 : Nat → Nat → Nat} {q1 q2 : kP} {a1 a2 x1 x2 : Nat} (p1 : kPo T1 q1 a1 x1) (p2 : kPo T2 q2 a2 x2) : (T1 2 x1 = T2 2 x2 ∧ ∀ i, i < T1 2 x1 → T1 6 (T1 5 x1 + i) = T2 6 (T2 5 x2 + i)) ↔ kSnm q1 a1 q2 a2 = true := by
  unfold kSnm
  simp only [decide_eq_true_eq]
  obtain ⟨_, p12, p13⟩ := p1
  obtain ⟨_, p22, p23⟩ := p2
  rw [p12, p22]
  constructor
  · rintro ⟨h1, h2⟩
    exact ⟨h1, fun i hi => by rw [p13 i hi, p23 i (by omega)]; exact h2 i hi⟩
  · rintro ⟨h1, h2⟩
    exact ⟨h1, fun i hi => by rw [← p13 i hi, ← p23 i (by omega)]; exact h2 i hi⟩
section
variable {c c1 c2 m l n m1 l1 n1 m2 l2 n2 : Nat} {q q1 q2 : kP} {T T1 T2 : Nat → Nat → Nat} {N N1 N2 : Nat → Int} {t : aT}
theorem Mo_sn (h1 : mW c1 q1 T1 N1 m1 l1 n1 t) (h2 : mW c2 q2 T2 N2 m2 l2 n2 t) (d : Nat) {a1 a2 x1 x2 : Nat} (k1 : kNam T1 x1 = true) (k2 : kNam T2 x2 = true) (p1 : kPo T1 q1 a1 x1) (p2 : kPo T2 q2 a2 x2) (hx : x1 < m1) (hy : x2 < m2) : fMt_same d c1 (nI x1) c2 (nI x2) t = rI (if kSnm q1 a1 q2 a2 = true then 1 else 0) t := by
  obtain ⟨hc1, _, hT1, hG1, _⟩ := h1
  obtain ⟨hc2, _, hT2, hG2, _⟩ := h2
  have w1 := kNam_w k1
  have w2 := kNam_w k2
  have hsx := jGt_s hG1 hx w1.1
  have hsy := jGt_s hG2 hy w2.1
  have h := Mt_same hc1 hc2 d (s := t) (x := x1) (y := x2) (la := T1 2 x1) (lb := T2 2 x2) (sa := T1 5 x1) (sb := T2 5 x2) (LA := fun i => T1 6 (T1 5 x1 + i)) (LB := fun i => T2 6 (T2 5 x2 + i)) (by omega) (by omega) (mT_Z hT1 hx (by omega)) (mT_Z hT2 hy (by omega)) (mT_S hT1 hx w1.1) (mT_S hT2 hy w2.1) (fun i hi => hT1.2 _ (by omega)) (fun i hi => hT2.2 _ (by omega)) (by omega) (by omega) (fun i hi => hG1.2.2.1 _ (by omega)) (fun i hi => hG2.2.2.1 _ (by omega))
  rw [h]
  simp only [kSnm_po p1 p2]
theorem Mo_six {d a : Nat} (ha : a < 100) : fMo_sixOf d (nI a) t = rI (if a < 6 then 1 else 0) t := by
  refine eMo_sixOf d _ _ _ ?_
  by_cases h : a < 6
  · rw [if_neg (show ¬ (6 : Int32) ≤ nI a by rw [show (6 : Int32) = nI 6 from rfl, nI_leE (by omega) (by omega)]; omega), if_pos h]
    rfl
  · rw [if_pos (show (6 : Int32) ≤ nI a by rw [show (6 : Int32) = nI 6 from rfl, nI_leE (by omega) (by omega)]; omega), if_neg h]
    rfl
theorem Mo_word (d : Nat) {a b : Nat} (ha : a < 100) (hb : b < 100) : fMo_matchesSix d (nI a) (nI b) t = rI (if kSix a b then 1 else 0) t := by
  have e15 : fMo_matchesSix_15 d (nI b) t = rI (if b = 4 ∨ b = 5 then 1 else 0) t := by
    refine eMo_matchesSix_15 d _ _ _ ?_
    simp only [show (4 : Int32) = nI 4 from rfl, show (5 : Int32) = nI 5 from rfl]
    simp (disch := omega) only [nI_eqE]
    by_cases h4 : b = 4
    · rw [if_pos h4, if_pos (.inl h4)]; rfl
    · rw [if_neg h4]
      by_cases h5 : b = 5
      · rw [if_neg (fun e => e h5), if_pos (.inr h5)]; rfl
      · rw [if_pos h5, if_neg (by omega)]; rfl
  have e9 : fMo_matchesSix_9 d (nI a) (nI b) t = rI (if (a = 4 ∨ a = 5) ∧ (b = 4 ∨ b = 5) then 1 else 0) t := by
    refine eMo_matchesSix_9 d _ _ _ _ ?_
    rw [e15]
    simp only [show (4 : Int32) = nI 4 from rfl, show (5 : Int32) = nI 5 from rfl]
    simp (disch := omega) only [nI_eqE]
    by_cases hb4 : b = 4 ∨ b = 5
    · rw [if_pos hb4]
      by_cases h4 : a = 4
      · rw [if_pos h4, if_pos ⟨.inl h4, hb4⟩]; rfl
      · rw [if_neg h4]
        by_cases h5 : a = 5
        · rw [if_neg (fun e => e h5), if_pos ⟨.inr h5, hb4⟩]; rfl
        · rw [if_pos h5, if_neg (by omega)]; rfl
    · have n45 : ¬ ((a = 4 ∨ a = 5) ∧ (b = 4 ∨ b = 5)) := fun e => hb4 e.2
      rw [if_neg hb4, if_neg n45]
      by_cases h4 : a = 4
      · rw [if_pos h4]; rfl
      · rw [if_neg h4]
        by_cases h5 : a = 5
        · rw [if_neg (fun e => e h5)]; rfl
        · rw [if_pos h5]; rfl
  have k0 : kSix a b ↔ (a = b ∨ a = 2 ∧ b = 3 ∨ (a = 4 ∨ a = 5) ∧ (b = 4 ∨ b = 5)) := Iff.rfl
  refine eMo_matchesSix d _ _ _ _ ?_
  rw [e9]
  simp only [show (2 : Int32) = nI 2 from rfl, show (3 : Int32) = nI 3 from rfl]
  simp (disch := omega) only [nI_eqE]
  by_cases hab : a = b
  · rw [if_pos hab, if_pos (k0.mpr (.inl hab))]; rfl
  · rw [if_neg hab]
    by_cases h23 : a = 2 ∧ b = 3
    · rw [if_neg (fun e => e h23.1), if_pos h23.2, if_pos (k0.mpr (.inr (.inl h23)))]; rfl
    · by_cases h45 : (a = 4 ∨ a = 5) ∧ (b = 4 ∨ b = 5)
      · rw [if_pos h45, if_pos (show ¬ a = 2 by omega), if_pos (k0.mpr (.inr (.inr h45)))]; rfl
      · have ns : ¬ kSix a b := fun e => by
          rcases k0.mp e with e | e | e
          · exact hab e
          · exact h23 e
          · exact h45 e
        rw [if_neg h45, if_neg ns]
        by_cases h2 : a = 2
        · have n2 : ¬ ¬ a = 2 := fun e => e h2
          have n3 : ¬ b = 3 := fun e => h23 ⟨h2, e⟩
          rw [if_neg n2, if_neg n3]; rfl
        · rw [if_pos h2]; rfl
/-- what a schema's rows are -/
theorem mW_r (h : mW c q T N m l n t) {x : Nat} (hx : x < q.1 1) : x < 140 ∧ gI t (c + 9) x = nI (q.2.1 0 x) ∧ (6 ≤ x → gI t (c + 10) x = zI (q.2.1 1 x) ∧ gI t (c + 12) x = zI (kKd q x 0) ∧ gI t (c + 11) x = nI (if q.2.1 0 x = 9 then q.2.1 8 x - 1 else 0) ∧ gI t (c + 14) x = (if q.2.1 0 x = 10 then zI (q.2.1 8 x) else -1)) := by
  obtain ⟨_, hv, _, _, hI, _⟩ := h
  have hr := hv.2.1 x hx
  have h0 := hI.1
  refine ⟨by omega, hr.1, fun h6 => ⟨hr.2.1, ?_, (hv.2.2.1 x h6 hx).1, (hv.2.2.1 x h6 hx).2.2⟩⟩
  rw [hr.2.2, (hI.2.2.1 x h6 hx).2.2.1]
  unfold kKd
  by_cases e : q.2.1 4 x = 0
  · rw [if_pos e, if_neg (by omega)]
  · rw [if_neg e, if_pos (by omega)]
theorem mW_k (h : mW c q T N m l n t) {x i : Nat} (h6 : 6 ≤ x) (hx : x < q.1 1) (hi : i < q.2.1 4 x) : q.2.2 0 x i < 2200 ∧ kKd q x i = q.2.2 0 x i + 1 ∧ gI t (c + 15) (q.2.2 0 x i) = zI (q.2.2 1 x i) ∧ gI t (c + 16) (q.2.2 0 x i) = zI (q.2.2 2 x i) ∧ gI t (c + 17) (q.2.2 0 x i) = zI (q.2.2 3 x i) ∧ gI t (c + 18) (q.2.2 0 x i) = zI (kKd q x (i + 1)) := by
  obtain ⟨_, hv, _, _, hI, _, h22, _⟩ := h
  have hii := hI.2.2.2.1 x i h6 hx hi
  have hr := hv.2.2.2 (q.2.2 0 x i) hii.1.1
  refine ⟨by have := hii.1.1; omega, by unfold kKd; rw [if_pos hi], by rw [hr.1, hii.2.1.1], by rw [hr.2.1, hii.2.1.2.1], by rw [hr.2.2.1, hii.2.1.2.2], ?_⟩
  rw [hr.2.2.2, hii.2.2.1]
  rfl
theorem kKd_e {x : Nat} : kKd q x (q.2.1 4 x) = 0 := by unfold kKd; rw [if_neg (by omega)]
/-- a schema's name -/
theorem mW_n (h : mW c q T N m l n t) {x : Nat} (hx : x < q.1 1) (h9 : 9 ≤ q.2.1 0 x) : 6 ≤ x ∧ 0 < q.2.1 1 x ∧ q.2.1 1 x - 1 < m ∧ kNam T (q.2.1 1 x - 1) = true ∧ kPo T q (q.2.1 9 x) (q.2.1 1 x - 1) := by
  have hI := h.2.2.2.2.1
  have h6 := (kKi hI hx).2.mp (by omega)
  rcases (hI.2.2.1 x h6 hx).2.1 with ⟨g, _⟩ | ⟨_, g1, g2, g3, g4⟩
  · omega
  · exact ⟨h6, g1, by omega, g3, g4⟩
theorem mW_pn (h : mW c q T N m l n t) {x i : Nat} (hx : x < q.1 1) (h9 : 10 ≤ q.2.1 0 x) (hi : i < q.2.1 4 x) : 6 ≤ x ∧ 0 < q.2.2 2 x i ∧ q.2.2 2 x i - 1 < m ∧ kNam T (q.2.2 2 x i - 1) = true ∧ kPo T q (q.2.2 4 x i) (q.2.2 2 x i - 1) := by
  have hI := h.2.2.2.2.1
  have h6 := (kKi hI hx).2.mp (by omega)
  rcases (hI.2.2.2.1 x i h6 hx hi).2.2.2.2.2 with ⟨g, _⟩ | ⟨_, g1, g2, g3, g4⟩
  · omega
  · exact ⟨h6, g1, by omega, g3, g4⟩
theorem Mo_mt24 (d : Nat) {a b : Nat} (ha : a < 100) (hb : b < 100) : fMo_matches_24 (d + 1) (nI a) (nI b) t = rI (if a < 6 ∧ kSix a b then 1 else 0) t := by
  refine eMo_matches_24 d _ _ _ _ ?_
  rw [Mo_six ha, cG_I]
  by_cases h6 : a < 6
  · rw [if_pos h6, if_neg (by decide), Mo_six hb, cG_I]
    by_cases g6 : b < 6
    · rw [if_pos g6, if_neg (by decide), Mo_word d ha hb, cG_I]
      by_cases hs : kSix a b
      · rw [if_pos hs, if_neg (by decide), if_pos ⟨h6, hs⟩]; rfl
      · rw [if_neg hs, if_pos rfl, if_neg (fun e => hs e.2)]; rfl
    · have k0 : kSix a b ↔ (a = b ∨ a = 2 ∧ b = 3 ∨ (a = 4 ∨ a = 5) ∧ (b = 4 ∨ b = 5)) := Iff.rfl
      rw [if_neg g6, if_pos rfl, if_neg (fun e => by have := k0.mp e.2; omega)]
      rfl
  · rw [if_neg h6, if_pos rfl, if_neg (fun e => h6 e.1)]
    rfl
/-- the item of a list or map -/
theorem mW_item (h : mW c q T N m l n t) {x : Nat} (hx : x < q.1 1) (hr : q.2.1 0 x = 6 ∨ q.2.1 0 x = 7) : gI t (c + 12) x = nI (q.2.2 0 x 0) ∧ q.2.2 0 x 0 < 2200 ∧ gI t (c + 15) (q.2.2 0 x 0) = nI (kPx q x 0) ∧ kPx q x 0 < q.1 1 := by
  have hI := h.2.2.2.2.1
  have hcd := h.2.2.2.2.2.1
  have h6 := (kKi hI hx).2.mp (by omega)
  have h4 := (hcd x h6 hx).1.2.2.1 hr
  have hp := kPx_lt hI hcd h6 hx (by omega) (by omega) (i := 0) (by omega)
  have hk := mW_k h h6 hx (i := 0) (by omega)
  exact ⟨by rw [((mW_r h hx).2.2 h6).2.1, hk.2.1, zI_S], hk.1, by rw [hk.2.2.1, zI_pos (by omega)], hp.2⟩
theorem Mo_mt0 (h1 : mW c1 q1 T1 N1 m1 l1 n1 t) (h2 : mW c2 q2 T2 N2 m2 l2 n2 t) (F : Nat) {x y : Nat} {R : Bool} (hx : x < q1.1 1) (hy : y < q2.1 1) (hrec : (q1.2.1 0 x = 6 ∨ q1.2.1 0 x = 7) → (q2.2.1 0 y = 6 ∨ q2.2.1 0 y = 7) → fMo_matches F c1 (nI (kPx q1 x 0)) c2 (nI (kPx q2 y 0)) t = rI (if R = true then 1 else 0) t) : fMo_matches (F + 1) c1 (nI x) c2 (nI y) t = rI (if (if q1.2.1 0 x = 8 ∨ q2.2.1 0 y = 8 then true else if kAi q1 q2 x y = true then (if q1.2.1 0 x = 6 ∨ q1.2.1 0 x = 7 then R else true) else false) = true then 1 else 0) t := by
  have r1 := mW_r h1 hx
  have r2 := mW_r h2 hy
  have k1 := kKi h1.2.2.2.2.1 hx
  have k2 := kKi h2.2.2.2.2.1 hy
  have e8 : ∀ a, a ≤ 11 → (nI a = 8) = (a = 8) := fun a ha => by rw [show (8 : Int32) = nI 8 from rfl, nI_eqE (by omega) (by omega)]
  have go0 : ∀ r, (if q1.2.1 0 x = 8 then rI 1 t else if ¬ q2.2.1 0 y = 8 then cG (fMo_sixOf F (nI (q1.2.1 0 x)) t) (kI fun v4 s3 => if ¬ v4 = 0 then fMo_matches_24 (F + 1) (nI (q1.2.1 0 x)) (nI (q2.2.1 0 y)) s3 else cG (fMo_sixOf F (nI (q2.2.1 0 y)) s3) (kI fun v6 s5 => if v6 = 0 then if nI (q1.2.1 0 x) = nI (q2.2.1 0 y) then if nI (q1.2.1 0 x) = 6 then fMo_matches_49 (F + 1) c1 (nI x) c2 (nI y) s5 else if ¬ nI (q1.2.1 0 x) = 7 then ldI 140 s5 (c1 + 10) (nI x) (fun v7 => ldI 140 s5 (c2 + 10) (nI y) (fun v8 => cN (fMt_same F c1 v7 c2 v8 s5) (kI fun v10 s9 => if v10 = 0 then rI 0 s9 else if ¬ nI (q1.2.1 0 x) = 9 then rI 1 s9 else ldI 140 s9 (c1 + 11) (nI x) (fun v11 => ldI 140 s9 (c2 + 11) (nI y) (fun v12 => if ¬ v11 = v12 then rI 0 s9 else rI 1 s9))))) else fMo_matches_49 (F + 1) c1 (nI x) c2 (nI y) s5 else rI 0 s5 else fMo_matches_24 (F + 1) (nI (q1.2.1 0 x)) (nI (q2.2.1 0 y)) s5)) else rI 1 t) = some r → fMo_matches (F + 1) c1 (nI x) c2 (nI y) t = some r := by
    intro r hr
    refine eMo_matches F _ _ _ _ _ h1.1 h2.1 _ ?_
    rw [ldI_n r1.1 (by omega), ldI_n r2.1 (by omega), r1.2.1, r2.2.1]
    simp only [e8 _ k1.1, e8 _ k2.1]
    exact hr
  by_cases x8 : q1.2.1 0 x = 8
  · simp only [if_pos (show q1.2.1 0 x = 8 ∨ q2.2.1 0 y = 8 from .inl x8)]
    refine go0 _ ?_
    rw [if_pos x8]
    rfl
  by_cases y8 : q2.2.1 0 y = 8
  · simp only [if_pos (show q1.2.1 0 x = 8 ∨ q2.2.1 0 y = 8 from .inr y8)]
    refine go0 _ ?_
    rw [if_neg x8, if_neg (fun e => e y8)]
    rfl
  have n8 : ¬ (q1.2.1 0 x = 8 ∨ q2.2.1 0 y = 8) := by omega
  simp only [if_neg n8]
  refine go0 _ ?_
  rw [if_neg x8, if_pos y8, Mo_six (by omega), cG_I]
  by_cases x6 : q1.2.1 0 x < 6
  · have ek : kAi q1 q2 x y = true ↔ kSix (q1.2.1 0 x) (q2.2.1 0 y) := by
      unfold kAi
      simp only [decide_eq_true_eq, if_pos x6]
    have nr : ¬ (q1.2.1 0 x = 6 ∨ q1.2.1 0 x = 7) := by omega
    simp only [if_neg nr, ek]
    rw [if_pos x6, if_pos (by decide), Mo_mt24 F (by omega) (by omega)]
    by_cases hs : kSix (q1.2.1 0 x) (q2.2.1 0 y)
    · rw [if_pos ⟨x6, hs⟩]
      simp only [if_pos hs]
      rfl
    · rw [if_neg (fun e => hs e.2)]
      simp only [if_neg hs]
      rfl
  · rw [if_neg x6, if_neg (fun e => e rfl), Mo_six (by omega), cG_I]
    by_cases y6 : q2.2.1 0 y < 6
    · have na : ¬ kAi q1 q2 x y = true := by
        unfold kAi
        simp only [decide_eq_true_eq, if_neg x6]
        intro e
        have := e.1
        omega
      simp only [if_neg na]
      rw [if_pos y6, if_neg (by decide), Mo_mt24 F (by omega) (by omega), if_neg (fun e => x6 e.1)]
      rfl
    · rw [if_neg y6, if_pos rfl]
      have ek : kAi q1 q2 x y = true ↔ (q1.2.1 0 x = q2.2.1 0 y ∧ (q1.2.1 0 x = 9 → q1.2.1 8 x = q2.2.1 8 y) ∧ (8 ≤ q1.2.1 0 x → kSnm q1 (q1.2.1 9 x) q2 (q2.2.1 9 y) = true)) := by
        unfold kAi
        simp only [decide_eq_true_eq, if_neg x6]
      by_cases he : q1.2.1 0 x = q2.2.1 0 y
      · rw [if_pos (by rw [he])]
        have e6 : (nI (q1.2.1 0 x) = 6) = (q1.2.1 0 x = 6) := by rw [show (6 : Int32) = nI 6 from rfl, nI_eqE (by omega) (by omega)]
        have e7 : (nI (q1.2.1 0 x) = 7) = (q1.2.1 0 x = 7) := by rw [show (7 : Int32) = nI 7 from rfl, nI_eqE (by omega) (by omega)]
        have e9 : (nI (q1.2.1 0 x) = 9) = (q1.2.1 0 x = 9) := by rw [show (9 : Int32) = nI 9 from rfl, nI_eqE (by omega) (by omega)]
        simp only [e6, e7, e9]
        by_cases hr : q1.2.1 0 x = 6 ∨ q1.2.1 0 x = 7
        · have hr2 : q2.2.1 0 y = 6 ∨ q2.2.1 0 y = 7 := by omega
          have ha : kAi q1 q2 x y = true := ek.mpr ⟨he, fun e => by omega, fun e => by omega⟩
          have i1 := mW_item h1 hx hr
          have i2 := mW_item h2 hy hr2
          have e49 : fMo_matches_49 (F + 1) c1 (nI x) c2 (nI y) t = rI (if R = true then 1 else 0) t := by
            refine eMo_matches_49 F _ _ _ _ _ h1.1 h2.1 _ ?_
            rw [ldI_n r1.1 (by omega), i1.1, ldI_n i1.2.1 (by omega), i1.2.2.1, ldI_n r2.1 (by omega), i2.1, ldI_n i2.2.1 (by omega), i2.2.2.1, hrec hr hr2, cG_I]
            by_cases hR : R = true
            · rw [if_pos hR]; rfl
            · rw [if_neg hR]; rfl
          simp only [if_pos ha, if_pos hr]
          by_cases x6' : q1.2.1 0 x = 6
          · rw [if_pos x6', e49]; rfl
          · rw [if_neg x6', if_neg (fun e => e (by omega)), e49]; rfl
        · have w1 := mW_n h1 hx (by omega)
          have w2 := mW_n h2 hy (by omega)
          simp only [if_neg hr]
          rw [if_neg (by omega), if_pos (by omega), ldI_n r1.1 (by omega), ldI_n r2.1 (by omega), (r1.2.2 w1.1).1, (r2.2.2 w2.1).1, zI_pos w1.2.1, zI_pos w2.2.1, Mo_sn h1 h2 F w1.2.2.2.1 w2.2.2.2.1 w1.2.2.2.2 w2.2.2.2.2 w1.2.2.1 w2.2.2.1, cN_I]
          by_cases hs : kSnm q1 (q1.2.1 9 x) q2 (q2.2.1 9 y) = true
          · rw [if_pos hs, if_neg (by decide)]
            by_cases x9 : q1.2.1 0 x = 9
            · have b1 := (h1.2.2.2.2.1.2.2.1 x w1.1 hx).2.2.2.2.2.2.1
              have b2 := (h2.2.2.2.2.1.2.2.1 y w2.1 hy).2.2.2.2.2.2.1
              have g1 := (h1.2.2.2.2.2.1 x w1.1 hx).1.1 x9
              have g2 := (h2.2.2.2.2.2.1 y w2.1 hy).1.1 (by omega)
              rw [if_neg (fun e => e x9), ldI_n r1.1 (by omega), ldI_n r2.1 (by omega), (r1.2.2 w1.1).2.2.1, (r2.2.2 w2.1).2.2.1, if_pos x9, if_pos (show q2.2.1 0 y = 9 by omega)]
              simp (disch := omega) only [nI_eqE]
              by_cases h88 : q1.2.1 8 x = q2.2.1 8 y
              · have ha : kAi q1 q2 x y = true := ek.mpr ⟨he, fun _ => h88, fun _ => hs⟩
                simp only [if_pos ha]
                rw [if_neg (fun e => e (by omega))]
                rfl
              · have ha : ¬ kAi q1 q2 x y = true := fun e => h88 ((ek.mp e).2.1 x9)
                simp only [if_neg ha]
                rw [if_pos (by omega)]
                rfl
            · have ha : kAi q1 q2 x y = true := ek.mpr ⟨he, fun e => absurd e x9, fun _ => hs⟩
              simp only [if_pos ha]
              rw [if_pos x9]
              rfl
          · have ha : ¬ kAi q1 q2 x y = true := fun e => hs ((ek.mp e).2.2 (by omega))
            simp only [if_neg ha]
            rw [if_neg hs, if_pos rfl]
            rfl
      · have na : ¬ kAi q1 q2 x y = true := fun e => he (ek.mp e).1
        simp only [if_neg na]
        rw [if_neg (by rw [nI_eqE (by omega) (by omega)]; exact he)]
        rfl
/-- matching, in the reference -/
theorem Mo_mt (h1 : mW c1 q1 T1 N1 m1 l1 n1 t) (h2 : mW c2 q2 T2 N2 m2 l2 n2 t) (d : Nat) : ∀ D x y, kRo q1 D x → x < q1.1 1 → y < q2.1 1 → fMo_matches (D + d + 1) c1 (nI x) c2 (nI y) t = rI (if kMs q1 q2 (D + 1) x y = true then 1 else 0) t := by
  intro D
  induction D with
  | zero =>
    intro x y hr hx hy
    exact Mo_mt0 h1 h2 (0 + d) hx hy (fun e => absurd e hr)
  | succ D ih =>
    intro x y hr hx hy
    have e : D + 1 + d + 1 = (D + d + 1) + 1 := by omega
    rw [e]
    exact Mo_mt0 h1 h2 (D + d + 1) hx hy (fun e1 e2 => ih _ _ (hr e1) (mW_item h1 hx e1).2.2.2 (mW_item h2 hy e2).2.2.2)
end
