/-! the reference's looking: a count put in; items -/
def oI (L : List Nat) (a w : Nat) (s : aT) : aT := (fun k i => if k = 144 ∧ a + w ≤ i ∧ i < L.length + w then mI (L.getD (i - w) 0) else s.1 k i, s.2)
section
variable {n : Nat} {B : Nat → Nat} {t : aT} {p : kB} {u : Bool}
theorem oI_I {L : List Nat} {a w k i : Nat} {s : aT} : gI (oI L a w s) k i = if k = 144 ∧ a + w ≤ i ∧ i < L.length + w then mI (L.getD (i - w) 0) else gI s k i := rfl
theorem oI_0 {L : List Nat} {w : Nat} {s : aT} : oI L L.length w s = s := by
  refine aT_ext (fun k i => ?_) (fun _ _ => rfl) rfl
  rw [oI_I, if_neg (by omega)]
theorem oI_s {L : List Nat} {a w : Nat} {s : aT} (ha : a < L.length) : pI (oI L (a + 1) w s) 144 (a + w) (mI (L.getD a 0)) = oI L a w s := by
  refine aT_ext (fun k i => ?_) (fun _ _ => rfl) rfl
  rw [gI_pI, oI_I, oI_I]
  by_cases h : k = 144 ∧ i = a + w
  · rw [if_pos h, if_pos (show k = 144 ∧ a + w ≤ i ∧ i < L.length + w by omega), h.2, Nat.add_sub_cancel]
  · rw [if_neg h]
    by_cases h2 : k = 144 ∧ a + 1 + w ≤ i ∧ i < L.length + w
    · rw [if_pos h2, if_pos (show k = 144 ∧ a + w ≤ i ∧ i < L.length + w by omega)]
    · rw [if_neg h2, if_neg (show ¬ (k = 144 ∧ a + w ≤ i ∧ i < L.length + w) by omega)]
theorem Mo_vs (d : Nat) {s : aT} : ∀ k x i, lU x < 128 ^ (k + 1) → 1 ≤ i → fMo_varintSize_10 d x (nI i) s = rI (nI (i + (kVu (k + 1) (lU x)).length - 1)) s := by
  intro k
  induction k with
  | zero =>
    intro x i hx hi
    have h : lU x < 128 := by simpa using hx
    have ek : (kVu (0 + 1) (lU x)).length = 1 := by show (if lU x < 128 then [lU x] else _).length = _; rw [if_pos h]; rfl
    refine eMo_varintSize_10 d _ _ _ _ ?_
    rw [if_pos (by rw [lU_0, v_sh]; omega), ek]
    rfl
  | succ k ih =>
    intro x i hx hi
    refine eMo_varintSize_10 d _ _ _ _ ?_
    by_cases h : lU x < 128
    · have ek : (kVu (k + 1 + 1) (lU x)).length = 1 := by show (if lU x < 128 then [lU x] else _).length = _; rw [if_pos h]; rfl
      rw [if_pos (by rw [lU_0, v_sh]; omega), ek]
      rfl
    · have ek : (kVu (k + 1 + 1) (lU x)).length = (kVu (k + 1) (lU x / 128)).length + 1 := by show (if lU x < 128 then _ else (lU x % 128 + 128) :: kVu (k + 1) (lU x / 128)).length = _; rw [if_neg h, List.length_cons]
      have ihh := ih ((x.toUInt64 >>> ((7 : Int32).toInt64.toUInt64 &&& Int64.toUInt64 63)).toInt64) (i + 1) (by rw [v_sh]; rw [Nat.pow_succ] at hx; exact Nat.div_lt_of_lt_mul (by rw [Nat.mul_comm]; exact hx)) (by omega)
      rw [v_sh] at ihh
      rw [if_neg (by rw [lU_0, v_sh]; omega), nI_add1, ihh, ek, show i + 1 + (kVu (k + 1) (lU x / 128)).length - 1 = i + ((kVu (k + 1) (lU x / 128)).length + 1) - 1 by omega]
      rfl
theorem Mo_vz (d : Nat) {s : aT} (y : Int64) : fMo_varintSize d y s = rI (nI (kVb y).length) s := by
  refine eMo_varintSize d _ _ _ ?_
  have h := Mo_vs (s := s) d 9 ((y <<< ((1 : Int32).toInt64 &&& 63)) ^^^ (y >>> ((63 : Int32).toInt64 &&& 63))) 1 (Nat.lt_of_lt_of_le (BitVec.isLt _) (by decide)) (by omega)
  have e : 1 + (kVu (9 + 1) (lU ((y <<< ((1 : Int32).toInt64 &&& 63)) ^^^ (y >>> ((63 : Int32).toInt64 &&& 63))))).length - 1 = (kVb y).length := by
    show 1 + (kVb y).length - 1 = _
    omega
  rw [e] at h
  exact h
theorem Mo_ins {d : Nat} (hd : 2 ≤ d) {z cnt : Nat} (hc : 0 < cnt) (hc2 : cnt ≤ 2000) (hz : z ≤ p.2.2.2.length) (hb : kBt p.2.2.2) (hl : p.2.2.2.length + (kVb (Int64.ofNat cnt)).length ≤ 4200) : fMo_insert d (nI z) (nI cnt) (oM true p t) = rV (oM true (p.1, p.2.1, p.2.2.1, p.2.2.2.take z ++ (kVb (Int64.ofNat cnt) ++ p.2.2.2.drop z)) t) := by
  obtain ⟨d, rfl⟩ : ∃ d', d = d' + 1 := ⟨d - 1, by omega⟩
  have hw := kVb_pos (Int64.ofNat cnt)
  have hlong : (nI cnt).toInt64 = Int64.ofNat cnt := nI_long (by omega)
  generalize hW : kVb (Int64.ofNat cnt) = W at *
  have hn22 : ∀ a, gI (oI p.2.2.2 a W.length (oM true p t)) 67 22 = nI p.2.2.2.length := fun a => by
    rw [oI_I, if_neg (by omega), oM_n]
  have h33 : fMo_insert_33 (d + 1) (nI z) (nI cnt) (nI W.length) (oI p.2.2.2 z W.length (oM true p t)) = rV (oM true (p.1, p.2.1, p.2.2.1, p.2.2.2.take z ++ (W ++ p.2.2.2.drop z)) t) := by
    refine eMo_insert_33 d _ _ _ _ _ ?_
    have hlt : (p.2.2.2.take z).length = z := by rw [List.length_take, Nat.min_eq_left hz]
    obtain ⟨s, hs⟩ : ∃ s, s = oI p.2.2.2 z W.length (oM true p t) := ⟨_, rfl⟩
    have e1 : pI s 67 22 (nI z) = oM true (p.1, p.2.1, p.2.2.1, p.2.2.2.take z) s := by
      refine aT_ext (fun k i => ?_) (fun _ _ => rfl) rfl
      rw [gI_pI]
      by_cases hk : k = 67
      · subst hk
        have es : gI s 67 i = gI (oM true p t) 67 i := by rw [hs, oI_I, if_neg (by omega)]
        rw [oM_67, es, oM_67]
        show _ = (if i = 23 then nI p.1 else if i = 26 then nI p.2.1 else if i = 27 then nI p.2.2.1 else if i = 22 ∧ true = true then nI (p.2.2.2.take z).length else _)
        rw [hlt]
        by_cases h22 : i = 22
        · rw [if_pos ⟨rfl, h22⟩, if_neg (by omega), if_neg (by omega), if_neg (by omega), if_pos ⟨h22, rfl⟩]
        · rw [if_neg (fun e => h22 e.2)]
          by_cases h23 : i = 23
          · rw [if_pos h23, if_pos h23]
          · rw [if_neg h23, if_neg h23]
            by_cases h26 : i = 26
            · rw [if_pos h26, if_pos h26]
            · rw [if_neg h26, if_neg h26]
              by_cases h27 : i = 27
              · rw [if_pos h27, if_pos h27]
              · have n2 : ¬ (i = 22 ∧ true = true) := fun e => h22 e.1
                rw [if_neg h27, if_neg h27, if_neg n2, if_neg n2]
      · rw [if_neg (fun e => hk e.1), oM_k hk]
        show _ = (if k = 144 ∧ true = true ∧ i < (p.2.2.2.take z).length then mI ((p.2.2.2.take z).getD i 0) else gI s k i)
        rw [hlt]
        by_cases h1 : k = 144 ∧ true = true ∧ i < z
        · rw [if_pos h1, hs, oI_I, if_neg (by omega), h1.1, oM_row (by omega)]
          congr 1
          simp [List.getD, List.getElem?_take, h1.2.2]
        · rw [if_neg h1]
    rw [← hs, wI_eq, e1, hlong, Mo_pv (p := (p.1, p.2.1, p.2.2.1, p.2.2.2.take z)) (t := s) (d := d) (by omega) (by rw [hW]; show (p.2.2.2.take z).length + _ ≤ _; omega), hW, cG_V, wI_eq]
    have e22 : gI s 67 22 = nI p.2.2.2.length := by rw [hs]; exact hn22 z
    rw [e22, nI_addE]
    have e2 : pI (oM true (p.1, p.2.1, p.2.2.1, p.2.2.2.take z ++ W) s) 67 22 (nI (p.2.2.2.length + W.length)) = oM true (p.1, p.2.1, p.2.2.1, p.2.2.2.take z ++ (W ++ p.2.2.2.drop z)) t := by
      have hl1 : (p.2.2.2.take z ++ W).length = z + W.length := by rw [List.length_append, hlt]
      have hl2 : (p.2.2.2.take z ++ (W ++ p.2.2.2.drop z)).length = p.2.2.2.length + W.length := by rw [List.length_append, List.length_append, hlt, List.length_drop]; omega
      refine aT_ext (fun k i => ?_) (fun _ _ => by rw [hs]; rfl) (by rw [hs]; rfl)
      rw [gI_pI]
      by_cases hk : k = 67
      · subst hk
        have es : gI s 67 i = gI (oM true p t) 67 i := by rw [hs, oI_I, if_neg (by omega)]
        have hr : gI (oM true (p.1, p.2.1, p.2.2.1, p.2.2.2.take z ++ (W ++ p.2.2.2.drop z)) t) 67 i = (if i = 23 then nI p.1 else if i = 26 then nI p.2.1 else if i = 27 then nI p.2.2.1 else if i = 22 ∧ true = true then nI (p.2.2.2.length + W.length) else gI t 67 i) := by rw [← hl2]; rfl
        have hlf : gI (oM true (p.1, p.2.1, p.2.2.1, p.2.2.2.take z ++ W) s) 67 i = (if i = 23 then nI p.1 else if i = 26 then nI p.2.1 else if i = 27 then nI p.2.2.1 else if i = 22 ∧ true = true then nI (z + W.length) else gI s 67 i) := by rw [← hl1]; rfl
        rw [hr, hlf, es, oM_67]
        by_cases h22 : i = 22
        · rw [if_pos ⟨rfl, h22⟩, if_neg (by omega), if_neg (by omega), if_neg (by omega), if_pos ⟨h22, rfl⟩]
        · have n2 : ¬ (i = 22 ∧ true = true) := fun e => h22 e.1
          rw [if_neg (fun e => h22 e.2), if_neg n2, if_neg n2, if_neg n2]
          by_cases h23 : i = 23
          · rw [if_pos h23, if_pos h23]
          · by_cases h26 : i = 26
            · simp [h26]
            · by_cases h27 : i = 27
              · simp [h27]
              · simp [h23, h26, h27]
      · rw [if_neg (fun e => hk e.1), oM_k hk, oM_k hk]
        show (if k = 144 ∧ true = true ∧ i < (p.2.2.2.take z ++ W).length then mI ((p.2.2.2.take z ++ W).getD i 0) else gI s k i) = (if k = 144 ∧ true = true ∧ i < (p.2.2.2.take z ++ (W ++ p.2.2.2.drop z)).length then mI ((p.2.2.2.take z ++ (W ++ p.2.2.2.drop z)).getD i 0) else gI t k i)
        rw [hl1, hl2]
        by_cases h144 : k = 144
        · by_cases hi : i < z + W.length
          · rw [if_pos ⟨h144, rfl, hi⟩, if_pos ⟨h144, rfl, by omega⟩, ← List.append_assoc, getD_l (L := p.2.2.2.take z ++ W) (M := p.2.2.2.drop z) (by rw [hl1]; exact hi)]
          · rw [if_neg (fun e => hi e.2.2), hs, oI_I]
            by_cases hi2 : i < p.2.2.2.length + W.length
            · rw [if_pos ⟨h144, by omega, hi2⟩, if_pos ⟨h144, rfl, hi2⟩, ← List.append_assoc, getD_r (L := p.2.2.2.take z ++ W) (M := p.2.2.2.drop z) (by rw [hl1]; omega), hl1]
              congr 1
              simp only [List.getD, List.getElem?_drop]
              rw [show z + (i - (z + W.length)) = i - W.length by omega]
            · rw [if_neg (fun e => hi2 e.2.2), if_neg (fun e => hi2 e.2.2), oM_k hk, if_neg (fun e => hi2 (by have := e.2.2; omega))]
        · rw [if_neg (fun e => h144 e.1), if_neg (fun e => h144 e.1), hs, oI_I, if_neg (fun e => h144 e.1), oM_o ⟨hk, h144⟩]
    rw [e2]
    rfl
  have loop : ∀ j a, z + j = a → a ≤ p.2.2.2.length → fMo_insert_12 (d + 1) (nI z) (nI cnt) (nI W.length) (zI a) (oI p.2.2.2 a W.length (oM true p t)) = rV (oM true (p.1, p.2.1, p.2.2.1, p.2.2.2.take z ++ (W ++ p.2.2.2.drop z)) t) := by
    intro j
    induction j with
    | zero =>
      intro a ha hle
      refine eMo_insert_12 d _ _ _ _ _ _ ?_
      have e : zI a < nI z := by
        rcases Nat.eq_zero_or_pos a with h0 | h0
        · rw [h0, zI_0]
          rw [Int32.lt_iff_toInt_lt, nI_toInt (by omega)]
          show (-1 : Int) < _
          omega
        · rw [zI_pos h0, nI_ltE (by omega) (by omega)]
          omega
      rw [if_pos e, show a = z by omega]
      exact h33
    | succ j ih =>
      intro a ha hle
      obtain ⟨a, rfl⟩ : ∃ a', a = a' + 1 := ⟨a - 1, by omega⟩
      have ihh := ih a (by omega) (by omega)
      refine eMo_insert_12 d _ _ _ _ _ _ ?_
      have e4200 : ¬ (4200 : Int32) < nI p.2.2.2.length + nI W.length := by rw [nI_addE, nI_lit 4200, nI_ltE (by omega) (by omega)]; omega
      have hrd : gI (oI p.2.2.2 (a + 1) W.length (oM true p t)) 144 a = mI (p.2.2.2.getD a 0) := by
        rw [oI_I, if_neg (by omega), oM_row (by omega)]
      rw [zI_S]
      simp (disch := omega) only [nI_ltE]
      rw [if_neg (by omega), hn22, if_neg e4200, ldI_n (by omega) (by omega), hrd, nI_addE, stI_n (by omega) (by omega), mI_nar _ (kBt_g hb (by omega)), oI_s (by omega)]
      have e1 : nI a + (-1) = zI a := by
        unfold zI
        rw [Int32.sub_eq_add_neg]
      rw [e1]
      exact ihh
  refine eMo_insert d _ _ _ _ ?_
  have e0 : ¬ nI cnt = 0 := by rw [show (0 : Int32) = nI 0 from rfl, nI_eqE (by omega) (by omega)]; omega
  have := loop (p.2.2.2.length - z) p.2.2.2.length (by omega) (Nat.le_refl _)
  rw [oI_0] at this
  rw [if_pos e0, hlong, Mo_vz, cG_I, hW, oM_n]
  exact this
end
