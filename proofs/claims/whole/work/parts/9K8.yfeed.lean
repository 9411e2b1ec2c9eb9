/-! feed; versions -/
theorem a_b8 (x : Int32) {k : Nat} (hk : k < 4) : (x >>> (nI (8 * k) &&& 31)).toInt8 = (nI (lU x.toInt64 / 256 ^ k % 256)).toInt8 := by
  have h32 : ∀ j, j < 32 → Nat.testBit (lU x.toInt64) j = x.toBitVec.getLsbD j := by
    intro j hj
    show x.toInt64.toBitVec.getLsbD j = _
    rw [Int32.toBitVec_toInt64, BitVec.getLsbD_signExtend]
    simp [hj, show j < 64 by omega]
  have key : ∀ m, m ≤ 24 → ((x.toBitVec.sshiftRight m).setWidth 8) = BitVec.ofNat 8 (lU x.toInt64 / 2 ^ m % 256) := by
    intro m hm
    apply BitVec.eq_of_getLsbD_eq
    intro i hi
    rw [BitVec.getLsbD_setWidth, BitVec.getLsbD_sshiftRight, BitVec.getLsbD_ofNat]
    have e : Nat.testBit (lU x.toInt64 / 2 ^ m % 256) i = x.toBitVec.getLsbD (m + i) := by
      rw [show (256 : Nat) = 2 ^ 8 from rfl, Nat.testBit_mod_two_pow, Nat.testBit_div_two_pow, show i + m = m + i by omega, h32 (m + i) (by omega)]
      simp [hi]
    rw [e]
    simp [hi, show m + i < 32 by omega, show ¬ 32 ≤ i by omega]
  apply Int8.toBitVec_inj.mp
  have r : ∀ v, v < 256 → (nI v).toInt8.toBitVec = BitVec.ofNat 8 v := by
    intro v hv
    apply BitVec.eq_of_toNat_eq
    rw [Int32.toBitVec_toInt8, BitVec.signExtend_eq_setWidth_of_le _ (by omega), BitVec.toNat_setWidth]
    show v % 4294967296 % 2 ^ 8 = v % 2 ^ 8
    omega
  rw [r _ (Nat.mod_lt _ (by omega)), Int32.toBitVec_toInt8, BitVec.signExtend_eq_setWidth_of_le _ (by omega)]
  rcases (show k = 0 ∨ k = 1 ∨ k = 2 ∨ k = 3 by omega) with h | h | h | h
  · subst h
    exact key 0 (by omega)
  · subst h
    exact key 8 (by omega)
  · subst h
    exact key 16 (by omega)
  · subst h
    exact key 24 (by omega)
/-- the reference's tape -/
def oTa (L : List Nat) (t : aT) : aT := (fun k i => if k = 67 ∧ i = 2 then nI L.length else if k = 68 ∧ i < L.length then mI (L.getD i 0) else t.1 k i, t.2)
section
variable {c : Nat} {S : yS} {s t : aT} {L : List Nat}
theorem oTa_I {k i : Nat} : gI (oTa L t) k i = if k = 67 ∧ i = 2 then nI L.length else if k = 68 ∧ i < L.length then mI (L.getD i 0) else gI t k i := rfl
theorem oTa_n : gI (oTa L t) 67 2 = nI L.length := by rw [oTa_I, if_pos ⟨rfl, rfl⟩]
theorem oTa_o {k i : Nat} (h : k ≠ 68) (h2 : k ≠ 67 ∨ i ≠ 2) : gI (oTa L t) k i = gI t k i := by rw [oTa_I, if_neg (by omega), if_neg (by omega)]
theorem oTa_put {x : Nat} : pI (pI (oTa L t) 68 L.length (mI x)) 67 2 (nI (L.length + 1)) = oTa (L ++ [x]) t := by
  have hl : (L ++ [x]).length = L.length + 1 := by simp
  refine aT_ext (fun k i => ?_) (fun _ _ => rfl) rfl
  rw [gI_pI, gI_pI, oTa_I, oTa_I, hl]
  by_cases h0 : k = 67 ∧ i = 2
  · rw [if_pos h0, if_pos h0]
  · rw [if_neg h0, if_neg h0, if_neg h0]
    by_cases h1 : k = 68 ∧ i = L.length
    · rw [if_pos h1, if_pos (show k = 68 ∧ i < L.length + 1 by omega), h1.2, getD_r (Nat.le_refl _), Nat.sub_self]
      rfl
    · rw [if_neg h1]
      by_cases h2 : k = 68 ∧ i < L.length
      · rw [if_pos h2, if_pos (show k = 68 ∧ i < L.length + 1 by omega), getD_l h2.2]
      · rw [if_neg h2, if_neg (show ¬ (k = 68 ∧ i < L.length + 1) by omega)]
theorem oTa_id (h : gI s 67 2 = nI L.length ∧ ∀ i, i < L.length → gI s 68 i = mI (L.getD i 0)) : oTa L s = s := by
  refine aT_ext (fun k i => ?_) (fun _ _ => rfl) rfl
  rw [oTa_I]
  by_cases h0 : k = 67 ∧ i = 2
  · rw [if_pos h0, h0.1, h0.2, h.1]
  · rw [if_neg h0]
    by_cases h1 : k = 68 ∧ i < L.length
    · rw [if_pos h1, h1.1, h.2 i h1.2]
    · rw [if_neg h1]
theorem lBy_id {cc : Nat} (h : lBy cc L s) : oB cc L s = s := by
  refine aT_ext (fun k i => ?_) (fun _ _ => rfl) rfl
  rw [oB_I]
  by_cases h0 : k = cc
  · rw [if_pos h0]
    by_cases h1 : i = 1
    · rw [if_pos h1, h0, h1, h.1]
    · rw [if_neg h1]
  · rw [if_neg h0]
    by_cases h1 : k = cc + 1
    · rw [if_pos h1]
      by_cases h2 : i < L.length
      · rw [if_pos h2, h1, h.2.1 i h2]
      · rw [if_neg h2]
    · rw [if_neg h1]
theorem Mo_ai (d : Nat) {x : Int32} (hl : L.length + 4 ≤ 4096) : fMo_addInt d x (oTa L t) = rV (oTa (L ++ yBe 4 (lU x.toInt64)) t) := by
  have step : ∀ k L, k < 4 → L.length < 4096 → ∀ r, fMo_addInt_2 d x (nI (8 * k) + (-8)) (oTa (L ++ [lU x.toInt64 / 256 ^ k % 256]) t) = some r → fMo_addInt_2 d x (nI (8 * k)) (oTa L t) = some r := by
    intro k L hk hl r hr
    refine eMo_addInt_2 d _ _ _ _ ?_
    rw [if_neg (nI_n0 (by omega)), oTa_n, a_b8 x hk, nI_byte (Nat.mod_lt _ (by omega)), stI_n (by omega) (by omega), wI_eq, gI_pI, if_neg (by omega), oTa_n, nI_add1, oTa_put]
    exact hr
  refine eMo_addInt d _ _ _ (step 3 L (by omega) (by omega) _ (step 2 _ (by omega) (by rw [List.length_append]; show _ + 1 < _; omega) _ (step 1 _ (by omega) (by rw [List.length_append, List.length_append]; show _ + 1 + 1 < _; omega) _ (step 0 _ (by omega) (by rw [List.length_append, List.length_append, List.length_append]; show _ + 1 + 1 + 1 < _; omega) _ ?_))))
  refine eMo_addInt_2 d _ _ _ _ ?_
  rw [if_pos (by decide)]
  have e : (((L ++ [lU x.toInt64 / 256 ^ 3 % 256]) ++ [lU x.toInt64 / 256 ^ 2 % 256]) ++ [lU x.toInt64 / 256 ^ 1 % 256]) ++ [lU x.toInt64 / 256 ^ 0 % 256] = L ++ yBe 4 (lU x.toInt64) := by
    simp only [List.append_assoc]
    rfl
  rw [e]
  rfl
def yFb (a b c d e : Int32) : List Nat := yBe 4 (lU a.toInt64) ++ (yBe 4 (lU b.toInt64) ++ (yBe 4 (lU c.toInt64) ++ (yBe 4 (lU d.toInt64) ++ yBe 4 (lU e.toInt64))))
def y_feed (a b c d e : Int32) (S : yS) : Nat × Int32 × yS := if 4076 < S.tp.length then (1, 0, S) else (0, nI (S.tp.length + 20), S.stp (S.tp ++ yFb a b c d e))
theorem yFb_len {a b c d e : Int32} : (yFb a b c d e).length = 20 := by
  unfold yFb
  simp only [List.length_append, yBe_len]
theorem L_feed (hw : yWf S) (h : yLI c S s) (d : Nat) {E : Nat → Nat} (hE : E 1 = 0) (x1 x2 x3 x4 x5 : Int32) : yLr c s E (fLk_feed (d + 2) x1 x2 x3 x4 x5 s) (y_feed x1 x2 x3 x4 x5 S) := by
  have hl := hw.1.2
  have h1 := h.2.1.1
  have hB : isB 1 := by unfold isB; decide
  have ha : alen (1 + 1) = 4096 := rfl
  by_cases hf : 4076 < S.tp.length
  · have er : y_feed x1 x2 x3 x4 x5 S = (1, 0, S) := if_pos hf
    rw [er]
    refine yLr_k (by omega) (eLk_feed (d + 1) _ _ _ _ _ _ _ ?_)
    rw [h1.1, if_neg (show ¬ nI S.tp.length ≤ 4076 by rw [show (4076 : Int32) = nI 4076 from rfl, nI_leE (by omega) (by omega)]; omega), hE]
    rfl
  · have er : y_feed x1 x2 x3 x4 x5 S = (0, nI (S.tp.length + 20), S.stp (S.tp ++ yFb x1 x2 x3 x4 x5)) := if_neg hf
    rw [er]
    have hid := lBy_id h1
    have go : fLk_feed (d + 2) x1 x2 x3 x4 x5 s = rI (nI (S.tp.length + 20)) (oB 1 (S.tp ++ yFb x1 x2 x3 x4 x5) s) := by
      refine eLk_feed (d + 1) _ _ _ _ _ _ _ ?_
      rw [h1.1, if_pos (show nI S.tp.length ≤ 4076 by rw [show (4076 : Int32) = nI 4076 from rfl, nI_leE (by omega) (by omega)]; omega)]
      have n4 : (4 : Int32) = nI 4 := rfl
      have st : ∀ (L : List Nat) (x : Int32), L.length + 4 ≤ 4096 → fBy_putNumber (d + 1) 1 x.toInt64 4 (oB 1 L s) = rV (oB 1 (L ++ yBe 4 (lU x.toInt64)) s) := fun L x hL => by
        rw [n4]
        exact Ob_nu (by omega) hB (by omega) (by rw [ha]; exact hL)
      have s1 := st S.tp x1 (by omega)
      rw [hid] at s1
      rw [s1, cG_V, st _ x2 (by rw [List.length_append, yBe_len]; omega), cG_V, st _ x3 (by rw [List.length_append, List.length_append, yBe_len, yBe_len]; omega), cG_V, st _ x4 (by rw [List.length_append, List.length_append, List.length_append, yBe_len, yBe_len, yBe_len]; omega), cG_V, st _ x5 (by rw [List.length_append, List.length_append, List.length_append, List.length_append, yBe_len, yBe_len, yBe_len, yBe_len]; omega), cG_V, oB_n]
      have e : ((((S.tp ++ yBe 4 (lU x1.toInt64)) ++ yBe 4 (lU x2.toInt64)) ++ yBe 4 (lU x3.toInt64)) ++ yBe 4 (lU x4.toInt64)) ++ yBe 4 (lU x5.toInt64) = S.tp ++ yFb x1 x2 x3 x4 x5 := by
        unfold yFb
        simp only [List.append_assoc]
      rw [e, List.length_append, yFb_len]
      rfl
    have hlen : (S.tp ++ yFb x1 x2 x3 x4 x5).length = S.tp.length + 20 := by rw [List.length_append, yFb_len]
    have hbt : kBt (S.tp ++ yFb x1 x2 x3 x4 x5) := kBt_app hw.1.1 (kBt_app (yBe_bt _ _) (kBt_app (yBe_bt _ _) (kBt_app (yBe_bt _ _) (kBt_app (yBe_bt _ _) (yBe_bt _ _)))))
    refine yLr_0 ⟨_, go, yLI_ch (pl := S.pl) (ou := S.ou) (pc := S.pc) (fun k i hk hn => oB_o (fun e => hn (by unfold xTw; omega)) (fun e => hn (by unfold xTw; omega))) (by omega) ⟨oB_n, fun i hi => oB_r hi, hbt, by rw [hlen, ha]; omega⟩ (lBy_fr (fun k i hk => oB_o (by omega) (by omega)) h.2.1.2.1) (lBy_fr (fun k i hk => oB_o (by omega) (by omega)) h.2.1.2.2) (by rw [oB_o (by omega) (by omega)]; exact h.1.1) h, fun k i hk => oB_o (by omega) (by omega)⟩
theorem M_feed (hw : yWf S) (h : yMI S s) (d : Nat) (x1 x2 x3 x4 x5 : Int32) : yMr s (fMo_feed (d + 1) x1 x2 x3 x4 x5 s) (y_feed x1 x2 x3 x4 x5 S) := by
  have hl := hw.1.2
  by_cases hf : 4076 < S.tp.length
  · have er : y_feed x1 x2 x3 x4 x5 S = (1, 0, S) := if_pos hf
    rw [er]
    refine ⟨pI s 67 0 (nI 1), eMo_feed d _ _ _ _ _ _ _ ?_, by rw [gI_pI, if_pos ⟨rfl, rfl⟩], yMI_0 h, xMo_0⟩
    rw [h.2.1.1, show (20 : Int32) = nI 20 from rfl, nI_addE, if_neg (show ¬ nI (S.tp.length + 20) ≤ 4096 by rw [show (4096 : Int32) = nI 4096 from rfl, nI_leE (by omega) (by omega)]; omega)]
    refine eMo_feed_10 d _ _ _ _ _ _ _ _ ?_
    have e0 : fMo_refused d 1 0 s = rI 1 (pI s 67 0 (nI 1)) := Mo_ref d (a := true) (b := false)
    rw [e0, cG_I, if_neg (by decide)]
    rfl
  · have er : y_feed x1 x2 x3 x4 x5 S = (0, nI (S.tp.length + 20), S.stp (S.tp ++ yFb x1 x2 x3 x4 x5)) := if_neg hf
    rw [er]
    have hy := yMI_0 (v := nI 0) h
    have hid := oTa_id hy.2.1
    have hlen : (S.tp ++ yFb x1 x2 x3 x4 x5).length = S.tp.length + 20 := by rw [List.length_append, yFb_len]
    have go : fMo_feed (d + 1) x1 x2 x3 x4 x5 s = rI (nI (S.tp.length + 20)) (oTa (S.tp ++ yFb x1 x2 x3 x4 x5) (pI s 67 0 (nI 0))) := by
      refine eMo_feed d _ _ _ _ _ _ _ ?_
      rw [h.2.1.1, show (20 : Int32) = nI 20 from rfl, nI_addE, if_pos (show nI (S.tp.length + 20) ≤ 4096 by rw [show (4096 : Int32) = nI 4096 from rfl, nI_leE (by omega) (by omega)]; omega)]
      refine eMo_feed_10 d _ _ _ _ _ _ _ _ ?_
      have e0 : fMo_refused d 0 0 s = rI 0 (pI s 67 0 (nI 0)) := Mo_ref d (a := false) (b := false)
      have s1 := Mo_ai (L := S.tp) (t := pI s 67 0 (nI 0)) d (x := x1) (by omega)
      rw [hid] at s1
      rw [e0, cG_I, if_pos rfl, s1, cG_V, Mo_ai d (by rw [List.length_append, yBe_len]; omega), cG_V, Mo_ai d (by rw [List.length_append, List.length_append, yBe_len, yBe_len]; omega), cG_V, Mo_ai d (by rw [List.length_append, List.length_append, List.length_append, yBe_len, yBe_len, yBe_len]; omega), cG_V, Mo_ai d (by rw [List.length_append, List.length_append, List.length_append, List.length_append, yBe_len, yBe_len, yBe_len, yBe_len]; omega), cG_V, oTa_n]
      have e : ((((S.tp ++ yBe 4 (lU x1.toInt64)) ++ yBe 4 (lU x2.toInt64)) ++ yBe 4 (lU x3.toInt64)) ++ yBe 4 (lU x4.toInt64)) ++ yBe 4 (lU x5.toInt64) = S.tp ++ yFb x1 x2 x3 x4 x5 := by
        unfold yFb
        simp only [List.append_assoc]
      rw [e, hlen]
      rfl
    refine ⟨_, go, ?_, ?_, fun k i hk => ?_, Nat.le_add_right _ _, rfl⟩
    · rw [oTa_o (by omega) (by omega), gI_pI, if_pos ⟨rfl, rfl⟩]
    · refine yMI_ch (pl := S.pl) (ou := S.ou) (pc := S.pc) (s := pI s 67 0 (nI 0)) (fun k i hk hn => oTa_o (fun e => hn (by unfold xTn; omega)) (by
        by_cases e : k = 67 ∧ i = 2
        · exact absurd (show xTn k i by unfold xTn; omega) hn
        · omega)) ⟨oTa_n, fun i hi => by rw [oTa_I, if_neg (by omega), if_pos ⟨rfl, hi⟩]⟩ ⟨by rw [oTa_o (by omega) (by omega)]; exact hy.2.2.1.1, fun i hi => by rw [oTa_o (by omega) (by omega)]; exact hy.2.2.1.2 i hi⟩ ⟨by rw [oTa_o (by omega) (by omega)]; exact hy.2.2.2.1.1, fun i hi => by rw [oTa_o (by omega) (by omega)]; exact hy.2.2.2.1.2 i hi⟩ (by rw [oTa_o (by omega) (by omega)]; exact hy.1.1) hy
    · rw [oTa_o (by omega) (by omega), gI_pI, if_neg (by omega)]
end
/-! versions -/
section
variable {L : List yFi}
theorem yVc_mo (x : Nat) : ∀ k n, yVc L x n ≤ yVc L x (n + k)
  | 0, _ => Nat.le_refl _
  | k + 1, n => by
    have ih := yVc_mo x k n
    have e : yVc L x (n + (k + 1)) = yVc L x (n + k) + (if yIv (L.getD (n + k) yF0) x then 1 else 0) := rfl
    rw [e]
    omega
theorem yVc_at {x v : Nat} : ∀ n, v < yVc L x n → ∃ i, i < n ∧ yIv (L.getD i yF0) x ∧ yVc L x i = v
  | 0, h => absurd h (Nat.not_lt_zero _)
  | n + 1, h => by
    have e : yVc L x (n + 1) = yVc L x n + (if yIv (L.getD n yF0) x then 1 else 0) := rfl
    by_cases h1 : v < yVc L x n
    · obtain ⟨i, i1, i2, i3⟩ := yVc_at n h1
      exact ⟨i, by omega, i2, i3⟩
    · by_cases hi : yIv (L.getD n yF0) x
      · rw [if_pos hi] at e
        exact ⟨n, by omega, hi, by omega⟩
      · rw [if_neg hi] at e
        omega
theorem yVc_un {x i j : Nat} (hi : yIv (L.getD i yF0) x) (hj : yIv (L.getD j yF0) x) (e : yVc L x i = yVc L x j) : i = j := by
  have a : ∀ i j, yIv (L.getD i yF0) x → i < j → yVc L x i < yVc L x j := fun i j hi h => by
    have e1 : yVc L x (i + 1) = yVc L x i + (if yIv (L.getD i yF0) x then 1 else 0) := rfl
    rw [if_pos hi] at e1
    have := yVc_mo (L := L) x (j - (i + 1)) (i + 1)
    rw [show i + 1 + (j - (i + 1)) = j by omega] at this
    omega
  rcases Nat.lt_trichotomy i j with h | h | h
  · have := a i j hi h; omega
  · exact h
  · have := a j i hj h; omega
/-- a version that there is, and its file -/
theorem yVf_iff (h : yLw L) {x v : Nat} : (yVf L x v ≠ 0 ↔ v < yVc L x L.length) ∧ (yVf L x v ≠ 0 → yVf L x v - 1 < L.length ∧ yIv (L.getD (yVf L x v - 1) yF0) x ∧ (L.getD (yVf L x v - 1) yF0).2.1 = v) := by
  have at1 : yVf L x v ≠ 0 → yVf L x v - 1 < L.length ∧ yIv (L.getD (yVf L x v - 1) yF0) x ∧ (L.getD (yVf L x v - 1) yF0).2.1 = v := by
    intro h0
    have h1 := kFr_1 _ _ h0
    have h2 := of_decide_eq_true h1.2.2
    unfold yVf at h0 ⊢
    exact ⟨by omega, h2⟩
  refine ⟨⟨fun h0 => ?_, fun hv => ?_⟩, at1⟩
  · obtain ⟨a1, a2, a3⟩ := at1 h0
    have hv := (h.2.2.1 _ a1 a2.2).2.2
    rw [a2.1, a3] at hv
    have e1 : yVc L x (yVf L x v - 1 + 1) = yVc L x (yVf L x v - 1) + (if yIv (L.getD (yVf L x v - 1) yF0) x then 1 else 0) := rfl
    rw [if_pos a2] at e1
    have := yVc_mo (L := L) x (L.length - (yVf L x v - 1 + 1)) (yVf L x v - 1 + 1)
    rw [show yVf L x v - 1 + 1 + (L.length - (yVf L x v - 1 + 1)) = L.length by omega] at this
    omega
  · obtain ⟨i, i1, i2, i3⟩ := yVc_at _ hv
    have hvi := (h.2.2.1 i i1 i2.2).2.2
    rw [i2.1, i3] at hvi
    intro e0
    have := (kFr_0 _ _).mp e0 i (by omega) (by omega)
    have := of_decide_eq_false this
    exact this ⟨i2, hvi⟩
end
