/-! prints: the reference's, the lake's -/
def kS8 (l : Int64) : Int64 := (l.toUInt64 >>> ((8 : Int32).toInt64.toUInt64 &&& Int64.toUInt64 63)).toInt64
theorem kS8_b (l : Int64) : (kS8 l).toBitVec = l.toBitVec >>> 8 := by
  unfold kS8
  have e : ((8 : Int32).toInt64.toUInt64 &&& Int64.toUInt64 63) = 8 := by decide
  rw [e]
  show (l.toUInt64 >>> 8).toBitVec = _
  rfl
theorem b255 : ∀ i, i < 64 → (255 : Int64).toBitVec.getLsbD i = decide (i < 8) := by decide +kernel
theorem mI_low : ∀ x, x < 256 → ∀ i, i < 8 → (mI x).toInt64.toBitVec.getLsbD i = (Int64.ofNat x).toBitVec.getLsbD i := by decide +kernel
theorem n_high {x i : Nat} (hx : x < 256) (hi : 8 ≤ i) : (Int64.ofNat x).toBitVec.getLsbD i = false := by
  have e : (Int64.ofNat x).toBitVec = BitVec.ofNat 64 x := rfl
  rw [e, BitVec.getLsbD_ofNat]
  have : x.testBit i = false := Nat.testBit_lt_two_pow (Nat.lt_of_lt_of_le (show x < 2 ^ 8 from hx) (Nat.pow_le_pow_right (by omega) hi))
  rw [this, Bool.and_false]
theorem kCr_ref {x : Nat} (l : Int64) (hx : x < 256) : kS8 l ^^^ kCk 8 ((l ^^^ (mI x).toInt64) &&& 255) = kCk 8 (l ^^^ Int64.ofNat x) := by
  apply Int64.toBitVec_inj.mp
  rw [Int64.toBitVec_xor, kS8_b, kCk_b, kCk_b]
  obtain ⟨H, hH⟩ : ∃ H : BitVec 64, H = (l.toBitVec >>> 8) <<< 8 := ⟨_, rfl⟩
  have bH : ∀ i, i < 64 → H.getLsbD i = if i < 8 then false else l.toBitVec.getLsbD i := by
    intro i hi
    rw [hH, BitVec.getLsbD_shiftLeft]
    by_cases h : i < 8
    · simp [h]
    · rw [if_neg h, BitVec.getLsbD_ushiftRight, show 8 + (i - 8) = i by omega]
      simp [h, hi]
  have e1 : (l ^^^ Int64.ofNat x).toBitVec = H ^^^ ((l ^^^ (mI x).toInt64) &&& 255).toBitVec := by
    apply BitVec.eq_of_getLsbD_eq
    intro i hi
    rw [Int64.toBitVec_xor, Int64.toBitVec_and, Int64.toBitVec_xor, BitVec.getLsbD_xor, BitVec.getLsbD_xor, BitVec.getLsbD_and, BitVec.getLsbD_xor, b255 i hi, bH i hi]
    by_cases h : i < 8
    · rw [if_pos h, mI_low x hx i h]
      simp [h]
    · rw [if_neg h, n_high hx (by omega)]
      simp [h]
  have e2 : H >>> 8 = l.toBitVec >>> 8 := by
    apply BitVec.eq_of_getLsbD_eq
    intro i hi
    rw [BitVec.getLsbD_ushiftRight, BitVec.getLsbD_ushiftRight]
    by_cases h : 8 + i < 64
    · rw [bH _ h, if_neg (by omega)]
    · rw [BitVec.getLsbD_of_ge _ _ (by omega), BitVec.getLsbD_of_ge _ _ (by omega)]
  rw [e1, bCk_x 8 _ _ (fun i hi => by rw [bH i (by omega), if_pos hi]), e2]
section
variable {c : Nat} {t : aT} {W : List Nat}
theorem kC1_r (l : Int64) : (if ¬ aLcmp (l &&& 1) 1 = 0 then kS1 l ^^^ 0 else kS1 l ^^^ (-4513414715797952619)) = kC1 l := by
  have h := l_odd l
  unfold kC1
  by_cases hb : l.toBitVec.getLsbD 0 = false
  · rw [if_pos (by rw [h.2, hb]; decide), if_pos (by rw [h.1]; exact hb), Int64.xor_zero]
  · have hb' : l.toBitVec.getLsbD 0 = true := by simpa using hb
    rw [if_neg (by rw [h.2]; exact fun e => e hb'), if_neg (by rw [h.1]; exact hb)]
theorem Mt_p20 (hc : isT c) (d : Nat) (l1 : Int64) (z3 : Int32) : ∀ k j l4 r, j + k = 8 → fMt_print_4 d c (kS8 l1 ^^^ kCk k l4) (z3 + 1) t = some r → fMt_print_20 d c l1 z3 l4 (nI j) t = some r := by
  intro k
  induction k with
  | zero =>
    intro j l4 r hj hr
    refine eMt_print_20 d c _ _ _ _ _ hc _ ?_
    rw [show j = 8 by omega, if_pos (by decide)]
    exact hr
  | succ k ih =>
    intro j l4 r hj hr
    have ihh := ih (j + 1) (kC1 l4) r (by omega) hr
    refine eMt_print_20 d c _ _ _ _ _ hc _ ?_
    have e8 : ¬ (8 : Int32) ≤ nI j := by rw [nI_lit 8, nI_leE (by omega) (by omega)]; omega
    rw [if_neg e8]
    have hk := kC1_r l4
    by_cases h : ¬ aLcmp (l4 &&& 1) 1 = 0
    · rw [if_pos h] at hk ⊢
      refine eMt_print_35 d c _ _ _ _ _ _ hc _ ?_
      rw [nI_add1]
      show fMt_print_20 d c l1 z3 (kS1 l4 ^^^ 0) (nI (j + 1)) t = some r
      rw [hk]
      exact ihh
    · rw [if_neg h] at hk ⊢
      refine eMt_print_35 d c _ _ _ _ _ _ hc _ ?_
      rw [nI_add1]
      show fMt_print_20 d c l1 z3 (kS1 l4 ^^^ (-4513414715797952619)) (nI (j + 1)) t = some r
      rw [hk]
      exact ihh
theorem kBt_g {i : Nat} (h : kBt W) (hi : i < W.length) : W.getD i 0 < 256 := by
  have : W.getD i 0 = W[i] := by simp [List.getD, hi]
  rw [this]
  exact h _ (List.getElem_mem hi)
theorem drop_g {i : Nat} (hi : i < W.length) : W.drop i = W.getD i 0 :: W.drop (i + 1) := by
  rw [List.drop_eq_getElem_cons hi]
  simp [List.getD, hi]
theorem Mt_p4 (hc : isT c) (d : Nat) (hl : W.length ≤ 4200) (hW : kBt W) (h33 : gI t c 33 = nI W.length) (hr : ∀ i, i < W.length → gI t (c + 20) i = mI (W.getD i 0)) : ∀ k i l, i + k = W.length → fMt_print_4 d c l (nI i) t = rL (kCr l (W.drop i)) t := by
  intro k
  induction k with
  | zero =>
    intro i l hi
    refine eMt_print_4 d c _ _ _ hc _ ?_
    rw [h33]
    simp (disch := omega) only [nI_leE]
    rw [if_pos (by omega), List.drop_eq_nil_of_le (by omega)]
    rfl
  | succ k ih =>
    intro i l hi
    have hlt : i < W.length := by omega
    have hb := kBt_g hW hlt
    have ihh := ih (i + 1) (kCk 8 (l ^^^ Int64.ofNat (W.getD i 0))) (by omega)
    refine eMt_print_4 d c _ _ _ hc _ ?_
    rw [h33]
    simp (disch := omega) only [nI_leE]
    rw [if_neg (by omega), ldI_n (by omega) (by omega), hr i hlt]
    refine Mt_p20 hc d l (nI i) 8 0 _ _ rfl ?_
    rw [kCr_ref l hb, nI_add1, ihh, drop_g hlt]
    rfl
/-- a text's print, in the reference -/
theorem Mt_print (hc : isT c) (d : Nat) (hl : W.length ≤ 4200) (hW : kBt W) (h33 : gI t c 33 = nI W.length) (hr : ∀ i, i < W.length → gI t (c + 20) i = mI (W.getD i 0)) : fMt_print d c t = rL (kCr (-4513414715797952619) W) t := by
  refine eMt_print d c _ hc _ ?_
  exact Mt_p4 hc d hl hW h33 hr W.length 0 _ (by omega)
theorem Pf_p28 (d : Nat) (z4 : Int32) : ∀ k j l r, j + k = 8 → fPf_printOf_13 (d + 1) (kCk k l) (z4 + 1) t = some r → fPf_printOf_28 (d + 1) l z4 (nI j) t = some r := by
  intro k
  induction k with
  | zero =>
    intro j l r hj hr
    refine ePf_printOf_28 d _ _ _ _ _ ?_
    rw [show j = 8 by omega, if_pos (by decide)]
    exact hr
  | succ k ih =>
    intro j l r hj hr
    have ihh := ih (j + 1) (kC1 l) r (by omega) hr
    refine ePf_printOf_28 d _ _ _ _ _ ?_
    have e8 : ¬ (8 : Int32) ≤ nI j := by rw [nI_lit 8, nI_leE (by omega) (by omega)]; omega
    rw [if_neg e8]
    by_cases h : aLcmp (l &&& 1) 0 = 0
    · have e : kC1 l = kS1 l := by unfold kC1; rw [if_pos h]
      rw [if_neg (fun e => e h)]
      refine ePf_printOf_46 d _ _ _ _ _ ?_
      rw [nI_add1]
      show fPf_printOf_28 (d + 1) (kS1 l) z4 (nI (j + 1)) t = some r
      rw [← e]
      exact ihh
    · have e : kC1 l = kS1 l ^^^ (-4513414715797952619) := by unfold kC1; rw [if_neg h]
      rw [if_pos h]
      refine ePf_printOf_46 d _ _ _ _ _ ?_
      rw [nI_add1]
      show fPf_printOf_28 (d + 1) (kS1 l ^^^ (-4513414715797952619)) z4 (nI (j + 1)) t = some r
      rw [← e]
      exact ihh
theorem Pf_p13 (d : Nat) (hl : W.length ≤ 4096) (hW : kBt W) : ∀ k i l, i + k = W.length → fPf_printOf_13 (d + 1) l (nI i) (oB 42 W t) = rL (kCr l (W.drop i)) (oB 42 W t) := by
  intro k
  induction k with
  | zero =>
    intro i l hi
    refine ePf_printOf_13 d _ _ _ _ ?_
    rw [oB_n]
    simp (disch := omega) only [nI_leE]
    rw [if_pos (by omega), List.drop_eq_nil_of_le (by omega)]
    rfl
  | succ k ih =>
    intro i l hi
    have hlt : i < W.length := by omega
    have hb := kBt_g hW hlt
    have ihh := ih (i + 1) (kCk 8 (l ^^^ Int64.ofNat (W.getD i 0))) (by omega)
    refine ePf_printOf_13 d _ _ _ _ ?_
    rw [oB_n]
    simp (disch := omega) only [nI_leE]
    rw [if_neg (by omega), Ob_at d (by unfold isB; decide) hlt (by show W.length ≤ 4096; exact hl) hW, cG_I, nI_long (by omega)]
    refine Pf_p28 d (nI i) 8 0 _ _ rfl ?_
    rw [nI_add1, ihh, drop_g hlt]
    rfl
end
