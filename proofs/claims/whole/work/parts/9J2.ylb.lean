/-! numbers in bytes, and the list's block -/
/-- k bytes of a number, the highest first -/
def yBe : Nat → Nat → List Nat
  | 0, _ => []
  | k + 1, u => (u / 256 ^ k % 256) :: yBe k u
theorem yBe_len : ∀ k u, (yBe k u).length = k
  | 0, _ => rfl
  | k + 1, u => by show (yBe k u).length + 1 = k + 1; rw [yBe_len k u]
theorem yBe_bt : ∀ k u, kBt (yBe k u)
  | 0, _ => kBt_nil
  | k + 1, u => fun y hy => by
    rcases List.mem_cons.mp hy with e | e
    · rw [e]; exact Nat.mod_lt _ (by omega)
    · exact yBe_bt k u y e
theorem nI_b8 (x : Nat) : (nI x).toInt8 = (nI (x % 256)).toInt8 := by
  apply Int8.toBitVec_inj.mp
  apply BitVec.eq_of_toNat_eq
  rw [Int32.toBitVec_toInt8, Int32.toBitVec_toInt8, BitVec.signExtend_eq_setWidth_of_le _ (by omega), BitVec.signExtend_eq_setWidth_of_le _ (by omega), BitVec.toNat_setWidth, BitVec.toNat_setWidth]
  show x % 4294967296 % 2 ^ 8 = x % 256 % 4294967296 % 2 ^ 8
  omega
theorem l_low2 (x : Int64) : x.toInt32 = nI (lU x) := by
  apply Int32.toBitVec_inj.mp
  apply BitVec.eq_of_toNat_eq
  unfold lU
  rw [Int64.toBitVec_toInt32, BitVec.signExtend_eq_setWidth_of_le _ (by omega), BitVec.toNat_setWidth]
  rfl
theorem v_sh8 (x : Int64) {z : Nat} (hz : z < 4) : lU ((x.toUInt64 >>> ((8 * nI z).toInt64.toUInt64 &&& Int64.toUInt64 63)).toInt64) = lU x / 256 ^ z := by
  have key : ∀ k : UInt64, k.toNat < 64 → lU ((x.toUInt64 >>> k).toInt64) = lU x / 2 ^ k.toNat := by
    intro k hk
    show (x.toUInt64 >>> k).toNat = _
    rw [UInt64.toNat_shiftRight, Nat.mod_eq_of_lt hk]
    show x.toBitVec.toNat >>> k.toNat = _
    rw [Nat.shiftRight_eq_div_pow]
    rfl
  rcases (show z = 0 ∨ z = 1 ∨ z = 2 ∨ z = 3 by omega) with h | h | h | h
  · subst h
    have e : ((8 * nI 0).toInt64.toUInt64 &&& Int64.toUInt64 63) = 0 := by decide
    rw [e, key 0 (by decide)]
    rfl
  · subst h
    have e : ((8 * nI 1).toInt64.toUInt64 &&& Int64.toUInt64 63) = 8 := by decide
    rw [e, key 8 (by decide)]
    rfl
  · subst h
    have e : ((8 * nI 2).toInt64.toUInt64 &&& Int64.toUInt64 63) = 16 := by decide
    rw [e, key 16 (by decide)]
    rfl
  · subst h
    have e : ((8 * nI 3).toInt64.toUInt64 &&& Int64.toUInt64 63) = 24 := by decide
    rw [e, key 24 (by decide)]
    rfl
theorem nI_m1 (k : Nat) : nI k + (-1) = zI k := by
  unfold zI
  rw [Int32.sub_eq_add_neg]
section
variable {c : Nat} {L : List Nat} {t : aT}
theorem Ob_pu (d : Nat) (hc : isB c) {x : Nat} (hl : L.length < alen (c + 1)) : fBy_put d c (nI x) (oB c L t) = rI 1 (oB c (L ++ [x % 256]) t) := by
  have ha := isB_al c hc
  refine eBy_put d c _ _ hc _ ?_
  rw [oB_n]
  simp (disch := omega) only [nI_ltE]
  rw [if_pos hl, stI_n hl (by omega), nI_b8, nI_byte (Nat.mod_lt _ (by omega)), wI_eq, gI_pI, if_neg (by omega), oB_n, nI_add1, oB_put]
  rfl
theorem Ob_nu4 (d : Nat) (hc : isB c) {y : Int64} : ∀ k L, k ≤ 4 → L.length + k ≤ alen (c + 1) → fBy_putNumber_4 (d + 1) c y (zI k) (oB c L t) = rV (oB c (L ++ yBe k (lU y)) t)
  | 0, L, _, _ => by
    refine eBy_putNumber_4 d c _ _ _ hc _ ?_
    rw [if_pos (by decide)]
    show rV (oB c L t) = rV (oB c (L ++ []) t)
    rw [List.append_nil]
  | k + 1, L, hk, hl => by
    refine eBy_putNumber_4 d c _ _ _ hc _ ?_
    rw [zI_S, if_neg (nI_n0 (by omega)), l_low2, v_sh8 y (by omega), Ob_pu d hc (by omega), cG_I, nI_m1, Ob_nu4 d hc k _ (by omega) (by rw [List.length_append]; show L.length + 1 + k ≤ _; omega), List.append_assoc]
    rfl
theorem Ob_nu {d : Nat} (hd : 1 ≤ d) (hc : isB c) {y : Int64} {k : Nat} (hk : k ≤ 4) (hl : L.length + k ≤ alen (c + 1)) : fBy_putNumber d c y (nI k) (oB c L t) = rV (oB c (L ++ yBe k (lU y)) t) := by
  obtain ⟨d, rfl⟩ : ∃ d', d = d' + 1 := ⟨d - 1, by omega⟩
  exact eBy_putNumber d c _ _ _ hc _ (Ob_nu4 d hc k L hk hl)
theorem Ob_ze4 (d : Nat) (hc : isB c) {n : Nat} (hn : n ≤ 100000) : ∀ k z L, z + k = n → L.length + k ≤ alen (c + 1) → fBy_putZeros_4 (d + 1) c (nI n) 1 (nI z) (oB c L t) = rI 1 (oB c (L ++ List.replicate k 0) t) := by
  intro k
  induction k with
  | zero =>
    intro z L hz hl
    refine eBy_putZeros_4 d c _ _ _ _ hc _ ?_
    rw [if_pos (show nI n ≤ nI z by rw [nI_leE (by omega) (by omega)]; omega), rZ1, show List.replicate 0 0 = ([] : List Nat) from rfl, List.append_nil]
    rfl
  | succ k ih =>
    intro z L hz hl
    refine eBy_putZeros_4 d c _ _ _ _ hc _ ?_
    rw [if_neg (show ¬ nI n ≤ nI z by rw [nI_leE (by omega) (by omega)]; omega), show (0 : Int32) = nI 0 from rfl, Ob_pu d hc (by omega), cG_I, nI_add1, ih (z + 1) _ (by omega) (by rw [List.length_append]; show L.length + 1 + k ≤ _; omega), List.append_assoc]
    rfl
theorem Ob_ze {d : Nat} (hd : 1 ≤ d) (hc : isB c) {k : Nat} (hk : k ≤ 100000) (hl : L.length + k ≤ alen (c + 1)) : fBy_putZeros d c (nI k) (oB c L t) = rI 1 (oB c (L ++ List.replicate k 0) t) := by
  obtain ⟨d, rfl⟩ : ∃ d', d = d' + 1 := ⟨d - 1, by omega⟩
  exact eBy_putZeros d c _ _ hc _ (Ob_ze4 d hc hk k 0 L (by omega) hl)
end
/-- a file's row in the list -/
def yEn (f : yFi) : List Nat := [(f.1 * 16 + f.2.1) % 256, f.2.2.1 % 256] ++ (yBe 2 f.2.2.2.1 ++ yBe 2 (f.2.2.2.2.1 - 1))
theorem yEn_len (f : yFi) : (yEn f).length = 6 := by
  unfold yEn
  rw [List.length_append, List.length_append, yBe_len, yBe_len]
  rfl
theorem yEn_bt (f : yFi) : kBt (yEn f) := by
  unfold yEn
  refine kBt_app (fun y hy => ?_) (kBt_app (yBe_bt _ _) (yBe_bt _ _))
  rcases List.mem_cons.mp hy with e | e
  · rw [e]; exact Nat.mod_lt _ (by omega)
  · rw [List.mem_singleton] at e
    rw [e]; exact Nat.mod_lt _ (by omega)
/-- rows of files, from j on -/
def yEs (L : List yFi) : Nat → Nat → List Nat
  | 0, _ => []
  | k + 1, j => yEn (L.getD j yF0) ++ yEs L k (j + 1)
theorem yEs_len {L : List yFi} : ∀ k j, (yEs L k j).length = 6 * k
  | 0, _ => rfl
  | k + 1, j => by
    show (yEn (L.getD j yF0) ++ yEs L k (j + 1)).length = _
    rw [List.length_append, yEn_len, yEs_len k (j + 1)]
    omega
theorem yEs_bt {L : List yFi} : ∀ k j, kBt (yEs L k j)
  | 0, _ => kBt_nil
  | k + 1, j => kBt_app (yEn_bt _) (yEs_bt k (j + 1))
/-- the list's block -/
def yLb (tn : Nat) (L : List yFi) : List Nat := yBe 4 tn ++ ([L.length % 256] ++ (yEs L L.length 0 ++ (List.replicate (247 - 6 * L.length) 0 ++ yBe 4 tn)))
theorem yLb_len {tn : Nat} {L : List yFi} (h : L.length ≤ 40) : (yLb tn L).length = 256 := by
  unfold yLb
  simp only [List.length_append, yBe_len, yEs_len, List.length_replicate, List.length_cons, List.length_nil]
  omega
theorem yLb_bt {tn : Nat} {L : List yFi} : kBt (yLb tn L) := by
  refine kBt_app (yBe_bt _ _) (kBt_app (kBt_1 (Nat.mod_lt _ (by omega))) (kBt_app (yEs_bt _ _) (kBt_app (fun y hy => ?_) (yBe_bt _ _))))
  rw [List.mem_replicate] at hy
  omega
section
variable {L : List yFi} {s : aT}
theorem lU_n {v : Nat} (h : v < 2147483648) : lU (nI v).toInt64 = v := by
  rw [nI_long h]
  show (Int64.ofNat v).toBitVec.toNat = v
  show v % 2 ^ 64 = v
  omega
theorem Fl_w25 {tn pw : Nat} (hl : lFi L s) (hs : yLs L) (h6 : gI s 58 6 = nI tn) (htn : tn < 1000000) (hp : gI s 56 1 = zI pw) (hp2 : pw < 2147483648) (d : Nat) : ∀ k j, j + k = L.length → ∀ W, W.length = 5 + 6 * j → kBt W → fFl_writeTo_25 (d + 12) (nI j) (oB 64 W s) = (if pw = 1 then rI 0 (pI (yDw (tn % 2) 128 0 (W ++ (yEs L k j ++ (List.replicate (247 - 6 * L.length) 0 ++ yBe 4 tn))) (oB 64 (W ++ (yEs L k j ++ (List.replicate (247 - 6 * L.length) 0 ++ yBe 4 tn))) s)) 56 1 (-1)) else rI 1 (pI (yDw (tn % 2) 256 0 (W ++ (yEs L k j ++ (List.replicate (247 - 6 * L.length) 0 ++ yBe 4 tn))) (oB 64 (W ++ (yEs L k j ++ (List.replicate (247 - 6 * L.length) 0 ++ yBe 4 tn))) s)) 56 1 (zI (pw - 1)))) := by
  have h40 := hs.1
  have hB : isB 64 := by unfold isB; decide
  have ha : alen (64 + 1) = 256 := rfl
  have g58 : ∀ W i, gI (oB 64 W s) 58 i = gI s 58 i := fun W i => oB_o (by omega) (by omega)
  intro k
  induction k with
  | zero =>
    intro j hj W hW hbt
    have hj : j = L.length := by omega
    subst hj
    have eW : W ++ (yEs L 0 L.length ++ (List.replicate (247 - 6 * L.length) 0 ++ yBe 4 tn)) = W ++ List.replicate (247 - 6 * L.length) 0 ++ yBe 4 tn := by
      show W ++ ([] ++ _) = _
      rw [List.nil_append, List.append_assoc]
    rw [eW]
    have hlen : (W ++ List.replicate (247 - 6 * L.length) 0 ++ yBe 4 tn).length = 256 := by
      rw [List.length_append, List.length_append, List.length_replicate, yBe_len, hW]
      omega
    have hby : lBy 64 (W ++ List.replicate (247 - 6 * L.length) 0 ++ yBe 4 tn) (oB 64 (W ++ List.replicate (247 - 6 * L.length) 0 ++ yBe 4 tn) s) := ⟨oB_n, fun i hi => oB_r hi, kBt_app (kBt_app hbt (fun y hy => by rw [List.mem_replicate] at hy; omega)) (yBe_bt _ _), by rw [hlen, ha]; omega⟩
    have hwb := Di_wb hB (by omega) hby (d + 5) (b := tn % 2) (fr := 0) (by omega) (by omega) (by rw [oB_o (by omega) (by omega)]; exact hp) hp2
    have e252 : (252 : Int32) - nI W.length = nI (247 - 6 * L.length) := by
      rw [show (252 : Int32) = nI 252 from rfl, nI_sub (by omega), hW]
      congr 1
      omega
    have emod : nI tn - nI tn / 2 * 2 = nI (tn % 2) := by
      rw [show (2 : Int32) = nI 2 from rfl, nI_divE (by omega) (by omega), nI_mulE, nI_sub (by omega)]
      congr 1
      omega
    have go : ∀ r, cG (fDi_writeBlock (d + 11) (nI (tn % 2)) 64 0 (oB 64 (W ++ List.replicate (247 - 6 * L.length) 0 ++ yBe 4 tn) s)) (kI fun v5 s4 => rZ v5 s4) = some r → fFl_writeTo_25 (d + 12) (nI L.length) (oB 64 W s) = some r := by
      intro r hr
      refine eFl_writeTo_25 (d + 6) _ _ _ ?_
      rw [g58, hl.1, if_pos (show nI L.length ≤ nI L.length by rw [nI_leE (by omega) (by omega)]; omega), oB_n, e252, show d + 6 + 5 = d + 11 from rfl, Ob_ze (by omega) hB (by omega) (by rw [hW, ha]; omega), cG_I, g58, h6, show (4 : Int32) = nI 4 from rfl, Ob_nu (by omega) hB (by omega) (by rw [List.length_append, List.length_replicate, hW, ha]; omega), lU_n (by omega), cG_V, g58, h6, emod]
      exact hr
    rw [show (0 : Int32) = nI 0 from rfl, show d + 11 = d + 5 + 6 from rfl, hwb] at go
    by_cases h1 : pw = 1
    · rw [if_pos h1] at go ⊢
      exact go _ (by rw [cG_I, rZ0]; rfl)
    · rw [if_neg h1] at go ⊢
      exact go _ (by rw [cG_I, rZ1]; rfl)
  | succ k ih =>
    intro j hj W hW hbt
    have hj2 : j < L.length := by omega
    obtain ⟨a1, a2, a3, a4, a5⟩ := hl.2 j hj2
    obtain ⟨b1, b2, b3, b4, b5⟩ := hs.2 j hj2
    have g : ∀ W k i, 59 ≤ k → k ≤ 63 → gI (oB 64 W s) k i = gI s k i := fun W k i h1 h2 => oB_o (by omega) (by omega)
    have emax : (if (0 : Int32) < zI (L.getD j yF0).2.2.2.2.1 then zI (L.getD j yF0).2.2.2.2.1 else 0) = nI ((L.getD j yF0).2.2.2.2.1 - 1) := by
      by_cases h : (L.getD j yF0).2.2.2.2.1 = 0
      · rw [h]; rfl
      · rw [zI_pos (Nat.pos_of_ne_zero h)]
        by_cases h0 : 0 < (L.getD j yF0).2.2.2.2.1 - 1
        · rw [if_pos (by rw [show (0 : Int32) = nI 0 from rfl, nI_ltE (by omega) (by omega)]; exact h0)]
        · rw [if_neg (by rw [show (0 : Int32) = nI 0 from rfl, nI_ltE (by omega) (by omega)]; exact h0), show (L.getD j yF0).2.2.2.2.1 - 1 = 0 by omega]
          rfl
    have ihh := ih (j + 1) (by omega) (W ++ yEn (L.getD j yF0)) (by rw [List.length_append, yEn_len, hW]; omega) (kBt_app hbt (yEn_bt _))
    have eW : W ++ yEn (L.getD j yF0) ++ (yEs L k (j + 1) ++ (List.replicate (247 - 6 * L.length) 0 ++ yBe 4 tn)) = W ++ (yEs L (k + 1) j ++ (List.replicate (247 - 6 * L.length) 0 ++ yBe 4 tn)) := by
      show _ = W ++ ((yEn (L.getD j yF0) ++ yEs L k (j + 1)) ++ _)
      simp only [List.append_assoc]
    rw [eW] at ihh
    have eE : (((W ++ [((L.getD j yF0).1 * 16 + (L.getD j yF0).2.1) % 256]) ++ [(L.getD j yF0).2.2.1 % 256]) ++ yBe 2 (L.getD j yF0).2.2.2.1) ++ yBe 2 ((L.getD j yF0).2.2.2.2.1 - 1) = W ++ yEn (L.getD j yF0) := by
      unfold yEn
      simp only [List.append_assoc, List.cons_append, List.nil_append]
    have go : ∀ r, fFl_writeTo_25 (d + 12) (nI (j + 1)) (oB 64 (W ++ yEn (L.getD j yF0)) s) = some r → fFl_writeTo_25 (d + 12) (nI j) (oB 64 W s) = some r := by
      intro r hr
      refine eFl_writeTo_25 (d + 6) _ _ _ ?_
      rw [g58, hl.1, if_neg (show ¬ nI L.length ≤ nI j by rw [nI_leE (by omega) (by omega)]; omega), ldI_n (by omega) (by omega), g _ 59 _ (by omega) (by omega), a1, ldI_n (by omega) (by omega), g _ 60 _ (by omega) (by omega), a2, show (16 : Int32) = nI 16 from rfl, nI_mulE, nI_addE, Ob_pu _ hB (by rw [hW, ha]; omega), cG_I, ldI_n (by omega) (by omega), g _ 61 _ (by omega) (by omega), a3, Ob_pu _ hB (by rw [List.length_append, hW, ha]; show _ + 1 < _; omega), cG_I, ldI_n (by omega) (by omega), g _ 62 _ (by omega) (by omega), a4, show (2 : Int32) = nI 2 from rfl, Ob_nu (by omega) hB (by omega) (by rw [List.length_append, List.length_append, hW, ha]; show _ + 1 + 1 + 2 ≤ _; omega), lU_n (by omega), cG_V, ldI_n (by omega) (by omega), g _ 63 _ (by omega) (by omega), a5, cP_911, emax, Ob_nu (by omega) hB (by omega) (by rw [List.length_append, List.length_append, List.length_append, yBe_len, hW, ha]; show _ + 1 + 1 + 2 + 2 ≤ _; omega), lU_n (by omega), cG_V, eE, nI_add1]
      exact hr
    by_cases h1 : pw = 1
    · rw [if_pos h1] at ihh ⊢
      exact go _ ihh
    · rw [if_neg h1] at ihh ⊢
      exact go _ ihh
/-- the list is written over the older one of the two -/
theorem Fl_wt {tn pw : Nat} (hl : lFi L s) (hs : yLs L) (h6 : gI s 58 6 = nI tn) (htn : tn + 1 < 1000000) (hp : gI s 56 1 = zI pw) (hp2 : pw < 2147483648) (d : Nat) : fFl_writeTo (d + 12) s = (if pw = 1 then rI 0 (pI (yDw ((tn + 1) % 2) 128 0 (yLb (tn + 1) L) (oB 64 (yLb (tn + 1) L) (pI s 58 6 (nI (tn + 1))))) 56 1 (-1)) else rI 1 (pI (yDw ((tn + 1) % 2) 256 0 (yLb (tn + 1) L) (oB 64 (yLb (tn + 1) L) (pI s 58 6 (nI (tn + 1))))) 56 1 (zI (pw - 1)))) := by
  have h40 := hs.1
  have hB : isB 64 := by unfold isB; decide
  have ha : alen (64 + 1) = 256 := rfl
  have hl' : lFi L (pI s 58 6 (nI (tn + 1))) := by
    refine ⟨by rw [gI_pI, if_neg (by omega)]; exact hl.1, fun i hi => ?_⟩
    rw [gI_pI, if_neg (by omega), gI_pI, if_neg (by omega), gI_pI, if_neg (by omega), gI_pI, if_neg (by omega), gI_pI, if_neg (by omega)]
    exact hl.2 i hi
  have h := Fl_w25 hl' hs (tn := tn + 1) (by rw [gI_pI, if_pos ⟨rfl, rfl⟩]) htn (pw := pw) (by rw [gI_pI, if_neg (by omega)]; exact hp) hp2 d L.length 0 (by omega) (yBe 4 (tn + 1) ++ [L.length % 256]) (by rw [List.length_append, yBe_len]; rfl) (kBt_app (yBe_bt _ _) (kBt_1 (Nat.mod_lt _ (by omega))))
  rw [List.append_assoc] at h
  have go : ∀ r, fFl_writeTo_25 (d + 12) (nI 0) (oB 64 (yBe 4 (tn + 1) ++ [L.length % 256]) (pI s 58 6 (nI (tn + 1)))) = some r → fFl_writeTo (d + 12) s = some r := by
    intro r hr
    refine eFl_writeTo (d + 6) _ _ ?_
    have g6 : ∀ W, gI (oB 64 W (pI s 58 6 (nI (tn + 1)))) 58 6 = nI (tn + 1) := fun W => by rw [oB_o (by omega) (by omega), gI_pI, if_pos ⟨rfl, rfl⟩]
    have g5 : ∀ W, gI (oB 64 W (pI s 58 6 (nI (tn + 1)))) 58 5 = nI L.length := fun W => by rw [oB_o (by omega) (by omega)]; exact hl'.1
    rw [wI_eq, h6, nI_add1, wI_eq, oB_nil, g6, show (4 : Int32) = nI 4 from rfl, show d + 6 + 5 = d + 11 from rfl, Ob_nu (by omega) hB (by omega) (by rw [ha]; show 0 + 4 ≤ 256; omega), lU_n (by omega), cG_V, g5, List.nil_append, Ob_pu _ hB (by rw [yBe_len, ha]; omega), cG_I]
    exact hr
  by_cases h1 : pw = 1
  · rw [if_pos h1] at h ⊢
    exact go _ h
  · rw [if_neg h1] at h ⊢
    exact go _ h
end
