/-! the lake: a pair, and all pairs -/
def lPz (S : Nat) (t : aT) (F : aRs) (L : List (Nat × Nat)) (o : Option (List (Nat × Nat))) : Prop := match o with
  | some M => F = rI 1 (lAk S (kAsl L M) t)
  | none => ∃ L', F = rI 0 (lAk S L' t)
section
variable {S b1 pb1 qb1 b2 pb2 qb2 m1 m2 : Nat} {q1 q2 : kP} {T1 T2 : Nat → Nat → Nat} {t : aT} {L : List (Nat × Nat)}
/-- two versions, and where pairs are asked -/
def lBo (S b1 pb1 qb1 : Nat) (q1 : kP) (T1 : Nat → Nat → Nat) (m1 b2 pb2 qb2 : Nat) (q2 : kP) (T2 : Nat → Nat → Nat) (m2 : Nat) (t : aT) : Prop := lW b1 pb1 qb1 q1 T1 m1 t ∧ lW b2 pb2 qb2 q2 T2 m2 t ∧ lAc S b1 b2 t
theorem lAk_W {b pb qb m : Nat} {q : kP} {T : Nat → Nat → Nat} (h : lW b pb qb q T m t) : lW b pb qb q T m (lAk S L t) := lW_fr (fun k i h1 h2 => lAk_o (by omega)) h
theorem lBo_ask (h : lBo S b1 pb1 qb1 q1 T1 m1 b2 pb2 qb2 q2 T2 m2 t) (hp : kPr2 (q1.1 1) (q2.1 1) L) (d : Nat) {x y : Nat} (hx : x < q1.1 1) (hy : y < q2.1 1) : fMa_ask (d + 1) (nI (lo b1 x)) (nI (lo b2 y)) (lAk S L t) = rV (lAk S (kAs L (x, y)) t) := by
  have n1 := h.1.2.1.1
  have n2 := h.2.1.2.1.1
  exact Ma_ask h.2.2 hp (by omega) (by omega) d hx hy
theorem Ma_p9 (h : lBo S b1 pb1 qb1 q1 T1 m1 b2 pb2 qb2 q2 T2 m2 t) (d : Nat) {x y : Nat} (hx : x < q1.1 1) (hy : y < q2.1 1) (h8 : q1.2.1 0 x = 8) : ∀ k i L, kPr2 (q1.1 1) (q2.1 1) L → i + k = q1.2.1 4 x → fMa_isPairFitting_9 (d + 2) (nI (lo b1 x)) (nI (lo b2 y)) (nI i) (lAk S L t) = rI 1 (lAk S (kAsl L (kUa q1 x y k i)) t) := by
  have h1 := h.1
  have hlx := lV_lo h1.1 hx
  have h6 := (kKi h1.2.1 hx).2.mp (by omega)
  have h47 := (h1.2.2.1 x h6 hx).1.2.2.2.2 (by omega) (by omega)
  have h732 := (h1.2.1.2.2.1 x h6 hx).2.2.2.2.2.2.2
  have e26 : ∀ L, gI (lAk S L t) 26 (lo b1 x) = nI (q1.2.1 4 x) := fun L => by rw [lAk_o (by omega), (h1.1.2.2.2.1 x h6 hx).2.2.2.1, h47]
  intro k
  induction k with
  | zero =>
    intro i L hp hi
    refine eMa_isPairFitting_9 (d + 1) _ _ _ _ _ ?_
    rw [ldI_n hlx (by omega), e26, if_pos (show nI (q1.2.1 4 x) ≤ nI i by rw [nI_leE (by omega) (by omega)]; omega)]
    rfl
  | succ k ih =>
    intro i L hp hi
    obtain ⟨p1, p2⟩ := kPx_lt h1.2.1 h1.2.2.1 h6 hx (by omega) (by omega) (i := i) (by omega)
    refine eMa_isPairFitting_9 (d + 1) _ _ _ _ _ ?_
    rw [ldI_n hlx (by omega), e26, if_neg (show ¬ nI (q1.2.1 4 x) ≤ nI i by rw [nI_leE (by omega) (by omega)]; omega), lV_ps (lAk_W h1).1 h1.2.1 (d + 1) h6 hx (by omega) (by omega) p1, cG_I, lBo_ask h hp d p2 hy, cG_V, nI_add1, ih (i + 1) _ (kAs_pr hp p2 hy) (by omega)]
    rfl
theorem zQ_n1 {qb x : Nat} (h : qb + x < 2147483647) : (zQ qb x = -1) = (x = 0) := by
  unfold zQ
  by_cases h0 : x = 0
  · rw [if_pos h0]; exact propext ⟨fun _ => h0, fun _ => rfl⟩
  · rw [if_neg h0]; exact propext ⟨fun e => absurd e (nI_nm (by omega)), fun e => absurd e h0⟩
/-- a reader's field's default -/
theorem lW_30 {b pb qb m : Nat} {q : kP} {T : Nat → Nat → Nat} (hw : lW b pb qb q T m t) {x i : Nat} (hx : x < q.1 1) (h11 : q.2.1 0 x = 11) (hi : i < q.2.1 4 x) : (gI t 30 (pb + (q.2.1 6 x + i)) = -1) = (q.2.2 3 x i = 0) := by
  have h28 := lW_28 hw hx (by omega) hi
  obtain ⟨P, p1, p2, p3⟩ := hw.1.2.1
  have h6 := (kKi hw.2.1 hx).2.mp (by omega)
  have h32 := hw.2.2.2 x i h6 hx h11 hi
  rw [(hw.1.2.2.2.2.1 _ h28.2.2.2.1).2.2.1, zQ_n1 (by have := h32.2; omega)]
  exact propext h32.1
/-- the reader's fields -/
theorem Ma_af (h : lBo S b1 pb1 qb1 q1 T1 m1 b2 pb2 qb2 q2 T2 m2 t) (d : Nat) {x y : Nat} (hx : x < q1.1 1) (hy : y < q2.1 1) (x11 : q1.2.1 0 x = 11) (y11 : q2.2.1 0 y = 11) : ∀ k j L, kPr2 (q1.1 1) (q2.1 1) L → j + k = q2.2.1 4 y → lPz S t (fMa_askFields_2 (d + 2) (nI (lo b1 x)) (nI (lo b2 y)) (nI j) (lAk S L t)) L (kAf q1 q2 x y k j) := by
  have h1 := h.1
  have h2 := h.2.1
  have hly := lV_lo h2.1 hy
  have h6 := (kKi h2.2.1 hy).2.mp (by omega)
  have x6 := (kKi h1.2.1 hx).2.mp (by omega)
  have h47 := (h2.2.2.1 y h6 hy).1.2.2.2.2 (by omega) (by omega)
  have h732 := (h2.2.1.2.2.1 y h6 hy).2.2.2.2.2.2.2
  have x47 := (h1.2.2.1 x x6 hx).1.2.2.2.2 (by omega) (by omega)
  have x732 := (h1.2.1.2.2.1 x x6 hx).2.2.2.2.2.2.2
  have e26 : ∀ L, gI (lAk S L t) 26 (lo b2 y) = nI (q2.2.1 4 y) := fun L => by rw [lAk_o (by omega), (h2.1.2.2.2.1 y h6 hy).2.2.2.1, h47]
  have e25 : ∀ L, gI (lAk S L t) 25 (lo b2 y) = nI (pb2 + q2.2.1 6 y) := fun L => by rw [lAk_o (by omega)]; exact (h2.1.2.2.2.1 y h6 hy).2.2.1
  intro k
  induction k with
  | zero =>
    intro j L hp hj
    refine eMa_askFields_2 (d + 1) _ _ _ _ _ ?_
    rw [ldI_n hly (by omega), e26, if_pos (show nI (q2.2.1 4 y) ≤ nI j by rw [nI_leE (by omega) (by omega)]; omega)]
    rfl
  | succ k ih =>
    intro j L hp hj
    have hjl : j < q2.2.1 4 y := by omega
    have h28 := lW_28 h2 hy (by omega) hjl
    have h30 := lW_30 (lAk_W (S := S) (L := L) h2) hy y11 hjl
    have hk := kPk_le (q1 := q1) (q2 := q2) (x := x) (y := y) (j := j)
    have hpl := Sc_pl (lAk_W (S := S) (L := L) h1) (lAk_W h2) d hx hy (by omega) (by omega) hjl
    have go : ∀ r, (if kPk q1 q2 x y j = 0 then (if q2.2.2 3 y j = 0 then rI 0 (lAk S L t) else fMa_askFields_35 (d + 2) (nI (lo b1 x)) (nI (lo b2 y)) (nI j) (nI (pb2 + (q2.2.1 6 y + j))) (zI (kPk q1 q2 x y j)) (lAk S L t)) else fMa_askFields_35 (d + 2) (nI (lo b1 x)) (nI (lo b2 y)) (nI j) (nI (pb2 + (q2.2.1 6 y + j))) (zI (kPk q1 q2 x y j)) (lAk S L t)) = some r → fMa_askFields_2 (d + 2) (nI (lo b1 x)) (nI (lo b2 y)) (nI j) (lAk S L t) = some r := by
      intro r hr
      refine eMa_askFields_2 (d + 1) _ _ _ _ _ ?_
      rw [ldI_n hly (by omega), e26, if_neg (show ¬ nI (q2.2.1 4 y) ≤ nI j by rw [nI_leE (by omega) (by omega)]; omega), ldI_n hly (by omega), e25, nI_addE, Nat.add_assoc, hpl, cG_I]
      by_cases h0 : kPk q1 q2 x y j = 0
      · rw [if_pos h0] at hr
        rw [if_neg (fun e => e (by rw [zI_n1 (by omega)]; exact h0)), ldI_n h28.2.2.1 (by omega)]
        by_cases h3 : q2.2.2 3 y j = 0
        · rw [if_pos h3] at hr
          rw [if_neg (fun e => e (by rw [h30]; exact h3))]
          exact hr
        · rw [if_neg h3] at hr
          rw [if_pos (by rw [h30]; exact h3)]
          exact hr
      · rw [if_neg h0] at hr
        rw [if_pos (by rw [zI_n1 (by omega)]; exact h0)]
        exact hr
    unfold kAf
    by_cases h0 : kPk q1 q2 x y j = 0
    · rw [if_pos h0]
      simp only [if_pos h0] at go
      by_cases h3 : q2.2.2 3 y j = 0
      · rw [if_pos h3]
        simp only [if_pos h3] at go
        exact ⟨L, go _ rfl⟩
      · rw [if_neg h3]
        simp only [if_neg h3] at go
        have ihh := ih (j + 1) L hp (by omega)
        have go2 : ∀ r, fMa_askFields_2 (d + 2) (nI (lo b1 x)) (nI (lo b2 y)) (nI (j + 1)) (lAk S L t) = some r → fMa_askFields_2 (d + 2) (nI (lo b1 x)) (nI (lo b2 y)) (nI j) (lAk S L t) = some r := by
          intro r hr
          refine go r (eMa_askFields_35 (d + 1) _ _ _ _ _ _ _ ?_)
          rw [h0, if_pos zI_0]
          refine eMa_askFields_50 (d + 1) _ _ _ _ _ ?_
          rw [nI_add1]
          exact hr
        unfold lPz at ihh ⊢
        split at ihh
        · exact go2 _ ihh
        · obtain ⟨L', ihh⟩ := ihh
          exact ⟨L', go2 _ ihh⟩
    · rw [if_neg h0]
      simp only [if_neg h0] at go
      obtain ⟨p1, p2⟩ := kPx_lt h1.2.1 h1.2.2.1 x6 hx (by omega) (by omega) (i := kPk q1 q2 x y j - 1) (by omega)
      obtain ⟨r1, r2⟩ := kPx_lt h2.2.1 h2.2.2.1 h6 hy (by omega) (by omega) (i := j) hjl
      have hij := h2.2.1.2.2.2.2 y j h6 hy (by omega)
      have e29 : gI (lAk S L t) 29 (pb2 + (q2.2.1 6 y + j)) = nI (lo b2 (kPx q2 y j)) := by
        rw [lAk_o (by omega), (h2.1.2.2.2.2.1 _ h28.2.2.2.1).2.1, hij.2.1, if_pos hjl]
        unfold zL
        rw [if_neg r1]
      have ihh := ih (j + 1) (kAs L (kPx q1 x (kPk q1 q2 x y j - 1), kPx q2 y j)) (kAs_pr hp p2 r2) (by omega)
      have go2 : ∀ r, fMa_askFields_2 (d + 2) (nI (lo b1 x)) (nI (lo b2 y)) (nI (j + 1)) (lAk S (kAs L (kPx q1 x (kPk q1 q2 x y j - 1), kPx q2 y j)) t) = some r → fMa_askFields_2 (d + 2) (nI (lo b1 x)) (nI (lo b2 y)) (nI j) (lAk S L t) = some r := by
        intro r hr
        refine go r (eMa_askFields_35 (d + 1) _ _ _ _ _ _ _ ?_)
        rw [if_neg (by rw [zI_n1 (by omega)]; exact h0), zI_pos (by omega), lV_ps (lAk_W h1).1 h1.2.1 (d + 1) x6 hx (by omega) (by omega) p1, cG_I, ldI_n h28.2.2.1 (by omega), e29, lBo_ask h hp d p2 r2, cG_V]
        refine eMa_askFields_50 (d + 1) _ _ _ _ _ ?_
        rw [nI_add1]
        exact hr
      cases hkf : kAf q1 q2 x y k (j + 1) with
      | none =>
        rw [hkf] at ihh
        obtain ⟨L', ihh⟩ := ihh
        exact ⟨L', go2 _ ihh⟩
      | some M =>
        rw [hkf] at ihh
        exact go2 _ ihh
end
