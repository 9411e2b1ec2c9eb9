/-! the reference's looking: what is put; what is no list -/
section
variable {n : Nat} {B : Nat → Nat} {t : aT} {p : kB} {u : Bool}
theorem uF_0 : (uF u = 0) = (u = false) := by cases u <;> simp [uF]
/-- what is put, if it is put -/
def oA (u : Bool) (p : kB) (L : List Nat) (t : aT) : aT := oM u (p.1, p.2.1, p.2.2.1, p.2.2.2 ++ L) t
theorem Mo_pb (d : Nat) {x : Int32} {k : Nat} (hx : vp_nar .byte x.toInt8.toInt32 = mI k) (hl : p.2.2.2.length + 1 ≤ 4200) : fMo_putByte d x (oM true p t) = rV (oM true (p.1, p.2.1, p.2.2.1, p.2.2.2 ++ [k]) t) := by
  refine eMo_putByte d _ _ _ ?_
  have e : ¬ (4200 : Int32) ≤ gI (oM true p t) 67 22 := by rw [oM_n, nI_lit 4200, nI_leE (by omega) (by omega)]; omega
  rw [if_neg e, oM_n, stI_n (by omega) (by omega), hx, wI_eq, gI_pI, if_neg (by omega), oM_n, nI_add1, oM_put]
  rfl
theorem Mo_put {d : Nat} (hd : 1 ≤ d) {x : Int32} {k : Nat} (hx : vp_nar .byte x.toInt8.toInt32 = mI k) (hl : p.2.2.2.length + 1 ≤ 4200) : fMo_put d x (uF u) (oM u p t) = rV (oM u (p.1, p.2.1, p.2.2.1, p.2.2.2 ++ [k]) t) := by
  obtain ⟨d, rfl⟩ : ∃ d', d = d' + 1 := ⟨d - 1, by omega⟩
  refine eMo_put d _ _ _ _ ?_
  cases u with
  | true =>
    rw [if_neg (by decide), Mo_pb d hx hl, cG_V]
    rfl
  | false =>
    rw [if_pos (by decide)]
    exact congrArg rV (oM_f (p := p) (L := p.2.2.2 ++ [k])).symm
theorem lU_0 (x : Int64) : (aLcmp x 0 = 0) = (lU x = 0) := by
  rw [aLcmp_eq]
  apply propext
  rw [Int64.toInt_inj, ← Int64.toBitVec_inj]
  unfold lU
  constructor
  · intro h; rw [h]; rfl
  · intro h; exact BitVec.eq_of_toNat_eq (by rw [h]; rfl)
theorem l_low {x : Int64} (h : lU x < 128) : x.toInt32 = nI (lU x) := by
  apply Int32.toBitVec_inj.mp
  apply BitVec.eq_of_toNat_eq
  unfold lU at h ⊢
  rw [Int64.toBitVec_toInt32, BitVec.signExtend_eq_setWidth_of_le _ (by omega), BitVec.toNat_setWidth]
  show _ = x.toBitVec.toNat % 4294967296
  rfl
theorem Mo_pv8 (d : Nat) : ∀ k x p, lU x < 128 ^ (k + 1) → p.2.2.2.length + (kVu (k + 1) (lU x)).length ≤ 4200 → fMo_putVarint_8 (d + 1) x (oM true p t) = rV (oM true (p.1, p.2.1, p.2.2.1, p.2.2.2 ++ kVu (k + 1) (lU x)) t) := by
  intro k
  induction k with
  | zero =>
    intro x p hx hl
    have h : lU x < 128 := by simpa using hx
    have ek : kVu (0 + 1) (lU x) = [lU x] := by show (if lU x < 128 then _ else _) = _; rw [if_pos h]
    rw [ek] at hl ⊢
    refine eMo_putVarint_8 d _ _ _ ?_
    rw [if_pos (by rw [lU_0, v_sh]; omega), Mo_pb d (k := lU x) (by rw [l_low h]; exact nI_byte (by omega)) hl, cG_V]
    rfl
  | succ k ih =>
    intro x p hx hl
    refine eMo_putVarint_8 d _ _ _ ?_
    by_cases h : lU x < 128
    · have ek : kVu (k + 1 + 1) (lU x) = [lU x] := by show (if lU x < 128 then _ else _) = _; rw [if_pos h]
      rw [ek] at hl ⊢
      rw [if_pos (by rw [lU_0, v_sh]; omega), Mo_pb d (k := lU x) (by rw [l_low h]; exact nI_byte (by omega)) hl, cG_V]
      rfl
    · have ek : kVu (k + 1 + 1) (lU x) = (lU x % 128 + 128) :: kVu (k + 1) (lU x / 128) := by show (if lU x < 128 then _ else _) = _; rw [if_neg h]
      rw [ek] at hl ⊢
      rw [List.length_cons] at hl
      have eu : (x &&& 127).toInt32 ||| 128 = nI (lU x % 128 + 128) := by rw [v_low, nI_or128 _ (by omega)]
      have ihh := ih ((x.toUInt64 >>> ((7 : Int32).toInt64.toUInt64 &&& Int64.toUInt64 63)).toInt64) (p.1, p.2.1, p.2.2.1, p.2.2.2 ++ [lU x % 128 + 128]) (by rw [v_sh]; rw [Nat.pow_succ] at hx; exact Nat.div_lt_of_lt_mul (by rw [Nat.mul_comm]; exact hx)) (by rw [v_sh]; show (p.2.2.2 ++ [lU x % 128 + 128]).length + _ ≤ _; rw [List.length_append]; show p.2.2.2.length + 1 + _ ≤ _; omega)
      rw [v_sh] at ihh
      rw [if_neg (by rw [lU_0, v_sh]; omega), eu, Mo_pb d (k := lU x % 128 + 128) (nI_byte (by omega)) (by omega), cG_V, ihh, List.append_assoc]
      rfl
theorem Mo_pv {d : Nat} (hd : 1 ≤ d) {v : Int64} (hl : p.2.2.2.length + (kVb v).length ≤ 4200) : fMo_putVarint d v (oM true p t) = rV (oM true (p.1, p.2.1, p.2.2.1, p.2.2.2 ++ kVb v) t) := by
  obtain ⟨d, rfl⟩ : ∃ d', d = d' + 1 := ⟨d - 1, by omega⟩
  refine eMo_putVarint d _ _ _ ?_
  refine Mo_pv8 d 9 _ p ?_ hl
  exact Nat.lt_of_lt_of_le (BitVec.isLt _) (by decide)
/-- a number is put, if anything is -/
theorem Mo_pu {d : Nat} (hd : 1 ≤ d) {v : Int64} (hl : p.2.2.2.length + (kVb v).length ≤ 4200) {K : aT → aRs} : (if uF u = 0 then K (oM u p t) else cG (fMo_putVarint d v (oM u p t)) (kV K)) = K (oM u (p.1, p.2.1, p.2.2.1, p.2.2.2 ++ kVb v) t) := by
  cases u with
  | true => rw [if_neg (by decide), Mo_pv hd hl, cG_V]
  | false =>
    rw [if_pos (by decide)]
    exact congrArg K (oM_f (p := p) (L := p.2.2.2 ++ kVb v)).symm
theorem mI_by {x : Nat} (h : x < 256) : vp_nar .byte (mI x).toInt8.toInt32 = mI x := mI_byte h
theorem kTp_s {a k : Nat} : kTp B a (k + 1) = B a :: kTp B (a + 1) k := by
  unfold kTp
  rw [List.range_succ_eq_map, List.map_cons, List.map_map, Nat.add_zero]
  congr 1
  apply List.map_congr_left
  intro i _
  show B (a + (i + 1)) = B (a + 1 + i)
  rw [show a + (i + 1) = a + 1 + i by omega]
theorem Mo_s27 (hin : mIn B n t) (d : Nat) : ∀ k a p, a + k = p.1 → p.1 ≤ n → p.2.2.2.length + k ≤ 4200 → fMo_string_27 (d + 1) (nI a) (oM true p t) = rV (oM true (p.1, p.2.1, p.2.2.1, p.2.2.2 ++ kTp B a k) t) := by
  have hn := hin.2.1
  intro k
  induction k with
  | zero =>
    intro a p ha hp hl
    refine eMo_string_27 d _ _ _ ?_
    rw [oM_at]
    simp (disch := omega) only [nI_leE]
    rw [if_pos (by omega)]
    show _ = rV (oM true (p.1, p.2.1, p.2.2.1, p.2.2.2 ++ []) t)
    rw [List.append_nil]
  | succ k ih =>
    intro a p ha hp hl
    refine eMo_string_27 d _ _ _ ?_
    rw [oM_at]
    simp (disch := omega) only [nI_leE]
    have ihh := ih (a + 1) (p.1, p.2.1, p.2.2.1, p.2.2.2 ++ [B a]) (by show a + 1 + k = p.1; omega) hp (by show (p.2.2.2 ++ [B a]).length + k ≤ _; rw [List.length_append]; show p.2.2.2.length + 1 + k ≤ _; omega)
    rw [if_neg (by omega), ldI_n (by omega) (by omega), oM_b hin (by omega), Mo_pb d (k := B a) (mI_by (hin.2.2.2 a)) (by omega), cG_V, nI_add1, ihh, kTp_s, List.append_assoc]
    rfl
theorem Mo_d83 (hin : mIn B n t) (d : Nat) : ∀ k a p, a + k = p.1 → p.1 ≤ n → p.2.2.2.length + k ≤ 4200 → fMo_datum_83 (d + 2) (uF u) (nI a) (oM u p t) = rV (oM u (p.1, p.2.1, p.2.2.1, p.2.2.2 ++ kTp B a k) t) := by
  have hn := hin.2.1
  intro k
  induction k with
  | zero =>
    intro a p ha hp hl
    refine eMo_datum_83 (d + 1) _ _ _ _ ?_
    rw [oM_at]
    simp (disch := omega) only [nI_leE]
    rw [if_pos (by omega)]
    show _ = rV (oM u (p.1, p.2.1, p.2.2.1, p.2.2.2 ++ []) t)
    rw [List.append_nil]
  | succ k ih =>
    intro a p ha hp hl
    refine eMo_datum_83 (d + 1) _ _ _ _ ?_
    rw [oM_at]
    simp (disch := omega) only [nI_leE]
    have ihh := ih (a + 1) (p.1, p.2.1, p.2.2.1, p.2.2.2 ++ [B a]) (by show a + 1 + k = p.1; omega) hp (by show (p.2.2.2 ++ [B a]).length + k ≤ _; rw [List.length_append]; show p.2.2.2.length + 1 + k ≤ _; omega)
    rw [if_neg (by omega), ldI_n (by omega) (by omega), oM_b hin (by omega), Mo_put (d := d + 1) (by omega) (k := B a) (mI_by (hin.2.2.2 a)) (by omega), cG_V, nI_add1, ihh, kTp_s, List.append_assoc]
    rfl
theorem Mo_pass (hin : mIn B n t) {d : Nat} (hd : 1 ≤ d) {v : Int64} (hv : 0 ≤ v.toInt) (hp : p.1 ≤ n) : (v.toInt ≤ (n - p.1 : Nat) → fMo_pass d v (oM u p t) = rV (oM u (p.1 + v.toInt.toNat, p.2) t)) ∧ (¬ v.toInt ≤ (n - p.1 : Nat) → mKf t (fMo_pass d v (oM u p t)) 1 n) := by
  obtain ⟨d, rfl⟩ : ∃ d', d = d' + 1 := ⟨d - 1, by omega⟩
  have hn := hin.2.1
  have hcond : (aLcmp v ((gI (oM u p t) 67 2) - (gI (oM u p t) 67 23)).toInt64 ≤ 0) = (v.toInt ≤ (n - p.1 : Nat)) := by
    rw [aLcmp_le, oM_end hin, oM_at, nI_sub hp, nI_long (by omega), Int64.toInt_ofNat_of_lt (by omega)]
  refine ⟨fun h => ?_, fun h => ?_⟩
  · refine eMo_pass d _ _ _ ?_
    rw [if_pos (by rw [hcond]; exact h)]
    refine eMo_pass_14 d _ _ _ ?_
    rw [wI_eq, oM_at, v_nat hv (by omega), nI_addE, oM_w23]
    rfl
  · obtain ⟨t', h1, h2, h3, h4⟩ := Mo_fail d (p := p) (u := u) (t := t) (k := 1) (e := n)
    refine ⟨t', eMo_pass d _ _ _ ?_, h2, h3, h4⟩
    rw [if_neg (by rw [hcond]; exact h), oM_end hin, show (1 : Int32) = nI 1 from rfl, h1, cG_T]
    rfl
theorem Mo_str (hin : mIn B n t) (ho : mKo n p) {d : Nat} (hd : 3 ≤ d) : mKr u t (fMo_string d (uF u) (oM u p t)) (kSt B n p) := by
  obtain ⟨d, rfl⟩ : ∃ d', d = d' + 1 := ⟨d - 1, by omega⟩
  have hvi := Mo_vi (u := u) (p := p) hin (d := d) (by omega) ho.1
  have ho2 := ho.2.1
  unfold kSt
  cases hk : kVr B n p.1 with
  | error e =>
    rw [hk] at hvi
    obtain ⟨t', h1, h2, h3, h4⟩ := hvi
    refine ⟨t', eMo_string d _ _ _ ?_, h2, h3, h4⟩
    rw [h1, cG_T]
    rfl
  | ok va =>
    obtain ⟨v, a⟩ := va
    rw [hk] at hvi
    have hvi : fMo_varint d (oM u p t) = rL v (oM u (a, p.2) t) := hvi
    have hl := kVr_len hin.2.2.2 hk
    have h0 : (0 ≤ aLcmp v 0) = (0 ≤ v.toInt) := by rw [aLcmp_ge]; rfl
    simp only
    by_cases hneg : v.toInt < 0
    · rw [if_pos hneg]
      obtain ⟨t', h1, h2, h3, h4⟩ := Mo_fail d (p := (a, p.2)) (u := u) (t := t) (k := 6) (e := p.1)
      refine ⟨t', eMo_string d _ _ _ ?_, h2, h3, h4⟩
      rw [hvi, cG_L, if_neg (by rw [h0]; omega), oM_at, show (6 : Int32) = nI 6 from rfl, h1, cG_T]
      rfl
    · rw [if_neg hneg]
      have hpa := Mo_pass (p := (a, p.2)) (u := u) hin (d := d) (by omega) (v := v) (by omega) hl.2.2
      show mKr u t _ (if v.toInt ≤ (n - a : Nat) then .ok (a + v.toInt.toNat, p.2.1, p.2.2.1, p.2.2.2 ++ (kVb v ++ kTp B a v.toInt.toNat)) else .error (1, n))
      have go : ∀ r, fMo_string_14 (d + 1) (uF u) v (oM u (a, p.2) t) = some r → fMo_string (d + 1) (uF u) (oM u p t) = some r := by
        intro r hr
        refine eMo_string d _ _ _ ?_
        rw [hvi, cG_L, if_pos (by rw [h0]; omega)]
        exact hr
      by_cases hle : v.toInt ≤ (n - a : Nat)
      · rw [if_pos hle]
        have hpa1 : fMo_pass d v (oM u (a, p.2) t) = rV (oM u (a + v.toInt.toNat, p.2) t) := hpa.1 hle
        refine go _ (eMo_string_14 d _ _ _ _ ?_)
        rw [hpa1, cG_V, oM_at]
        have h27 := Mo_s27 hin d v.toInt.toNat a (a + v.toInt.toNat, p.2.1, p.2.2.1, p.2.2.2 ++ kVb v) rfl (by show a + v.toInt.toNat ≤ n; omega) (by show (p.2.2.2 ++ kVb v).length + _ ≤ _; rw [List.length_append]; omega)
        cases u with
        | true =>
          rw [if_neg (by decide), Mo_pv (p := (a + v.toInt.toNat, p.2)) (by omega) (by show p.2.2.2.length + _ ≤ _; omega), cG_V]
          show fMo_string_27 (d + 1) (nI a) (oM true (a + v.toInt.toNat, p.2.1, p.2.2.1, p.2.2.2 ++ kVb v) t) = _
          rw [h27, List.append_assoc]
          rfl
        | false =>
          rw [if_pos (by decide)]
          exact congrArg rV (oM_f (p := (a + v.toInt.toNat, p.2)) (L := p.2.2.2 ++ (kVb v ++ kTp B a v.toInt.toNat))).symm
      · rw [if_neg hle]
        obtain ⟨t', h1, h2, h3, h4⟩ := hpa.2 hle
        refine ⟨t', go _ (eMo_string_14 d _ _ _ _ ?_), h2, h3, h4⟩
        rw [h1, cG_T]
        rfl
end
