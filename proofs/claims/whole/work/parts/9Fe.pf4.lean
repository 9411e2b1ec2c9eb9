/-! the lake's PlainForm: forms, prints, whether two are the same -/
section
variable {b pb qb c : Nat} {q : kP} {t s : aT} {T : Nat → Nat → Nat} {m : Nat} {L M W : List Nat}
theorem oB_41 (hc : isO c) {v : Int32} : pI (oB c L t) 41 4 v = oB c L (pI t 41 4 v) := by
  have := hc.2
  refine aT_ext (fun k i => ?_) (fun _ _ => rfl) rfl
  rw [gI_pI, oB_I, oB_I, gI_pI]
  by_cases e : k = 41 ∧ i = 4
  · rw [if_pos e, if_neg (show ¬ k = c by omega), if_neg (show ¬ k = c + 1 by omega), if_pos e]
  · rw [if_neg e, if_neg e]
theorem oB_cm {c' : Nat} (h : c ≠ c' ∧ c ≠ c' + 1 ∧ c + 1 ≠ c' ∧ c + 1 ≠ c' + 1) : oB c L (oB c' M t) = oB c' M (oB c L t) := by
  refine aT_ext (fun k i => ?_) (fun _ _ => rfl) rfl
  by_cases h1 : k = c ∨ k = c + 1
  · have e : gI (oB c' M (oB c L t)) k i = gI (oB c L t) k i := oB_o (by omega) (by omega)
    have e2 : gI (oB c' M t) k i = gI t k i := oB_o (by omega) (by omega)
    rw [e, oB_I (c := c) (L := L) (t := oB c' M t), oB_I (c := c) (L := L) (t := t), e2]
  · have e : gI (oB c L (oB c' M t)) k i = gI (oB c' M t) k i := oB_o (by omega) (by omega)
    have e2 : gI (oB c L t) k i = gI t k i := oB_o (by omega) (by omega)
    rw [e, oB_I (c := c') (L := M) (t := t), oB_I (c := c') (L := M) (t := oB c L t), e2]
/-- what a version's root has -/
def lRo (b pb qb : Nat) (q : kP) (t : aT) (T : Nat → Nat → Nat) (m x : Nat) : Prop := lV b pb qb q t ∧ kIv T m q ∧ kCd q ∧ (∀ v i, v < m → T 0 v = 2 → i < T 2 v → T 6 (T 5 v + i) < 256) ∧ kOc q (kTt q 16) x 6 (q.1 1) ∧ (kPl T q 16 x 6).1.length ≤ 4096
theorem lRo_fr (h : ∀ k i, 23 ≤ k → k ≤ 33 → gI t k i = gI s k i) {x : Nat} (hv : lRo b pb qb q s T m x) : lRo b pb qb q t T m x := ⟨lV_fr h hv.1, hv.2⟩
theorem Pf_to (d : Nat) (hc : isO c) {x : Nat} (hR : lRo b pb qb q s T m x) (hl : L.length + (kPl T q 16 x 6).1.length ≤ alen (c + 1)) : fPf_writeTo (d + 58) c (nI (lo b x)) (oB c L s) = rV (oP c (L ++ (kPl T q 16 x 6).1) b (q.1 1) (pM4 s c)) := by
  obtain ⟨hv, hI, hcd, hT, hoc, _⟩ := hR
  have hP : lPc b pb qb c q (pM4 s c) T m := ⟨hc, rfl, lV_fr (fun _ _ _ _ => rfl) hv, hI, hcd, hT⟩
  have hw := Pf_wr hP 16 (Nat.le_refl _) d x 6 (q.1 1) 0 L hoc (Nat.le_refl _) (Nat.le_refl _) (by omega) hl
  rw [show 3 * 16 + 9 + d = d + 57 by omega] at hw
  refine ePf_writeTo (d + 57) c _ _ hc.1 _ ?_
  show wI (oB c L (pM4 s c)) 41 4 (-1) (fun s2 => cG (fPf_write (d + 57) (nI (lo b x)) 0 s2) (kV fun s3 => rV s3)) = _
  rw [wI_eq, oB_41 hc]
  have e : oB c L (pI (pM4 s c) 41 4 (-1)) = oP c L b 6 (pM4 s c) := by
    unfold oP zT
    rw [if_pos (Nat.le_refl _)]
  rw [e, show (0 : Int32) = nI 0 from rfl, hw, cG_V]
  rfl
theorem isO_42 : isO 42 := ⟨by unfold isB; decide, by omega⟩
theorem isO_44 : isO 44 := ⟨by unfold isB; decide, by omega⟩
/-- a version's print, in the lake -/
theorem Pf_print (d : Nat) {x : Nat} (hR : lRo b pb qb q s T m x) : fPf_printOf (d + 59) (nI (lo b x)) s = rL (kCr (-4513414715797952619) (kPl T q 16 x 6).1) (oP 42 (kPl T q 16 x 6).1 b (q.1 1) (pM4 s 42)) := by
  have hto := Pf_to (L := []) d isO_42 hR (by show 0 + _ ≤ 4096; have := hR.2.2.2.2.2; omega)
  have hb := kPl_b hR.2.1 hR.2.2.2.1 16 x 6 (q.1 1) (Nat.le_refl _) (Nat.le_refl _) hR.2.2.2.2.1
  refine ePf_printOf (d + 58) _ _ _ ?_
  rw [wI_eq, oB_nil, hto, cG_V, List.nil_append]
  exact Pf_p13 (d + 58) hR.2.2.2.2.2 hb (kPl T q 16 x 6).1.length 0 _ (by omega)
theorem By_same {W1 W2 : List Nat} (d : Nat) (h1 : W1.length ≤ 4096) (h2 : W2.length ≤ 4096) (b1 : kBt W1) (b2 : kBt W2) (n1 : gI t 42 1 = nI W1.length) (n2 : gI t 44 1 = nI W2.length) (r1 : ∀ i, i < W1.length → gI t (42 + 1) i = mI (W1.getD i 0)) (r2 : ∀ i, i < W2.length → gI t (44 + 1) i = mI (W2.getD i 0)) : fBy_isSame d 42 44 t = rI (if W1 = W2 then 1 else 0) t := by
  refine eBy_isSame d 42 44 _ isO_42.1 isO_44.1 _ ?_
  rw [n1, n2]
  have eE : (nI W1.length = nI W2.length) = (W1.length = W2.length) := nI_eqE (by omega) (by omega)
  simp only [eE]
  by_cases hl : W1.length = W2.length
  · rw [if_pos hl]
    have loop : ∀ k i, i + k = W1.length → fBy_isSame_9 d 42 44 (nI i) t = rI (if W1.drop i = W2.drop i then 1 else 0) t := by
      intro k
      induction k with
      | zero =>
        intro i hi
        refine eBy_isSame_9 d 42 44 _ _ isO_42.1 isO_44.1 _ ?_
        rw [n1]
        simp (disch := omega) only [nI_leE]
        rw [if_pos (by omega), List.drop_eq_nil_of_le (by omega), List.drop_eq_nil_of_le (by omega), if_pos rfl]
        rfl
      | succ k ih =>
        intro i hi
        have i1 : i < W1.length := by omega
        have i2 : i < W2.length := by omega
        have ihh := ih (i + 1) (by omega)
        refine eBy_isSame_9 d 42 44 _ _ isO_42.1 isO_44.1 _ ?_
        rw [n1]
        simp (disch := omega) only [nI_leE]
        rw [if_neg (by omega), ldI_n (show i < alen (42 + 1) from (show i < 4096 by omega)) (by decide), r1 i i1, ldI_n (show i < alen (44 + 1) from (show i < 4096 by omega)) (by decide), r2 i i2]
        have eM : (mI (W1.getD i 0) = mI (W2.getD i 0)) = (W1.getD i 0 = W2.getD i 0) := mI_inj (kBt_g b1 i1) (kBt_g b2 i2)
        simp only [eM]
        rw [drop_g i1, drop_g i2]
        by_cases e : W1.getD i 0 = W2.getD i 0
        · rw [if_pos e, nI_add1, ihh, e]
          by_cases e2 : W1.drop (i + 1) = W2.drop (i + 1)
          · rw [if_pos e2, if_pos (by rw [e2])]
            rfl
          · rw [if_neg e2, if_neg (fun h => e2 (List.cons.inj h).2)]
            rfl
        · rw [if_neg e, if_neg (fun h => e (List.cons.inj h).1)]
          rfl
    have := loop W1.length 0 (by omega)
    rw [show (0 : Int32) = nI 0 from rfl, this]
    rfl
  · rw [if_neg hl, if_neg (fun e => hl (by rw [e]))]
    rfl
/-- whether two versions' forms are the same, in the lake -/
theorem Pf_same (d : Nat) {x b' pb' qb' x' m' : Nat} {q' : kP} {T' : Nat → Nat → Nat} (hR : lRo b pb qb q s T m x) (hR' : lRo b' pb' qb' q' s T' m' x') : ∃ t, fPf_isSame (d + 59) (nI (lo b x)) (nI (lo b' x')) s = rI (if (kPl T q 16 x 6).1 = (kPl T' q' 16 x' 6).1 then 1 else 0) t ∧ (∀ k i, k < 41 ∨ 46 ≤ k → gI t k i = gI s k i) ∧ (∀ k i, gL t k i = gL s k i) ∧ t.2.2 = (pM4 s 44).2.2 := by
  have hb := kPl_b hR.2.1 hR.2.2.2.1 16 x 6 (q.1 1) (Nat.le_refl _) (Nat.le_refl _) hR.2.2.2.2.1
  have hb' := kPl_b hR'.2.1 hR'.2.2.2.1 16 x' 6 (q'.1 1) (Nat.le_refl _) (Nat.le_refl _) hR'.2.2.2.2.1
  have hl := hR.2.2.2.2.2
  have hl' := hR'.2.2.2.2.2
  have hto := Pf_to (L := []) (s := oB 44 [] s) d isO_42 (lRo_fr (fun k i _ _ => oB_o (by omega) (by omega)) hR) (by show 0 + _ ≤ 4096; omega)
  generalize hW : (kPl T q 16 x 6).1 = W1 at *
  generalize hW' : (kPl T' q' 16 x' 6).1 = W2 at *
  rw [List.nil_append] at hto
  have e1 : oP 42 W1 b (q.1 1) (pM4 (oB 44 [] s) 42) = oB 44 [] (oP 42 W1 b (q.1 1) (pM4 s 42)) := by
    unfold oP
    have : pM4 (oB 44 [] s) 42 = oB 44 [] (pM4 s 42) := rfl
    rw [this, oB_41 isO_44, oB_cm (by omega)]
  have hto' := Pf_to (L := []) (s := oP 42 W1 b (q.1 1) (pM4 s 42)) d isO_44 (lRo_fr (s := s) (fun k i _ _ => by rw [oP_o (by omega)]; rfl) hR') (by show 0 + _ ≤ 4096; rw [hW']; omega)
  rw [hW', List.nil_append] at hto'
  have go : ∀ r, cG (fBy_isSame (d + 58) 42 44 (oP 44 W2 b' (q'.1 1) (pM4 (oP 42 W1 b (q.1 1) (pM4 s 42)) 44))) (kI fun v6 s5 => rZ v6 s5) = some r → fPf_isSame (d + 59) (nI (lo b x)) (nI (lo b' x')) s = some r := by
    intro r hr
    refine ePf_isSame (d + 58) _ _ _ _ ?_
    rw [wI_eq, wI_eq, oB_nil, oB_nil, oB_cm (by omega), hto, cG_V, e1, hto', cG_V]
    exact hr
  have f42 : ∀ k i, k ≠ 44 ∧ k ≠ 45 ∧ k ≠ 41 → gI (oP 44 W2 b' (q'.1 1) (pM4 (oP 42 W1 b (q.1 1) (pM4 s 42)) 44)) k i = gI (oP 42 W1 b (q.1 1) (pM4 s 42)) k i := fun k i h => by
    rw [oP_o (by omega)]
    rfl
  have hsame := By_same (W1 := W1) (W2 := W2) (t := oP 44 W2 b' (q'.1 1) (pM4 (oP 42 W1 b (q.1 1) (pM4 s 42)) 44)) (d + 58) hl hl' hb hb' (by rw [f42 42 1 (by omega)]; exact oB_n) oB_n (fun i hi => by rw [f42 (42 + 1) i (by omega)]; exact oB_r hi) (fun i hi => oB_r hi)
  refine ⟨oP 44 W2 b' (q'.1 1) (pM4 (oP 42 W1 b (q.1 1) (pM4 s 42)) 44), go _ ?_, fun k i hk => ?_, fun k i => rfl, rfl⟩
  · rw [hsame, cG_I]
    split <;> rfl
  · rw [f42 k i (by omega), oP_o (by omega)]
    rfl
end
