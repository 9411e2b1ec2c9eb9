/-! the lake: a file of rows is opened; a row is read -/
theorem oK_nw (t : aT) {a : Nat} (h1 : gI t 46 1 = nI a) : ∃ p y, pI t 47 1 0 = oK p y t ∧ p.1 = a ∧ p.2.2.2 = [] := by
  obtain ⟨k8, h8⟩ := nI_sur (gI t 46 8)
  obtain ⟨k9, h9⟩ := nI_sur (gI t 46 9)
  refine ⟨(a, k9, k8, []), gL t 46 4, aT_ext (fun k i => ?_) (fun k i => ?_) rfl, rfl, rfl⟩
  · rw [gI_pI]
    by_cases e6 : k = 46
    · subst e6
      rw [if_neg (by omega), oK_46]
      by_cases i1 : i = 1
      · rw [if_pos i1, i1, h1]
      · rw [if_neg i1]
        by_cases i8 : i = 8
        · rw [if_pos i8, i8]; exact h8
        · rw [if_neg i8]
          by_cases i9 : i = 9
          · rw [if_pos i9, i9]; exact h9
          · rw [if_neg i9]
    · by_cases e7 : k = 47
      · subst e7
        by_cases i1 : i = 1
        · subst i1; rw [if_pos ⟨rfl, rfl⟩, oK_n]; rfl
        · rw [if_neg (fun e => i1 e.2)]
          show gI t 47 i = if i = 1 then nI 0 else gI t 47 i
          rw [if_neg i1]
      · rw [if_neg (fun e => e7 e.1)]
        by_cases e8 : k = 48
        · subst e8; rfl
        · rw [oK_o ⟨e6, e7, e8⟩]
  · show gL t k i = if k = 46 ∧ i = 4 then gL t 46 4 else gL t k i
    by_cases h : k = 46 ∧ i = 4
    · rw [if_pos h, h.1, h.2]
    · rw [if_neg h]
theorem iM_lt (w : Int32) : iM w < 256 := by unfold iM; omega
/-- where a file's data begin -/
def yPa (f : yFi) : Nat := 11 + (kVb (Int64.ofNat (f.2.2.2.2.1 - 1))).length + (kVb (Int64.ofNat f.2.2.2.2.2.length)).length
section
variable {L : List yFi} {s : aT}
theorem yPk_at {f : yFi} (h0 : f.2.2.2.2.1 ≠ 0) : (∀ i, i < (kVb (Int64.ofNat (f.2.2.2.2.1 - 1))).length → (yPk f).getD (11 + i) 0 = (kVb (Int64.ofNat (f.2.2.2.2.1 - 1))).getD i 0) ∧ (∀ i, i < (kVb (Int64.ofNat f.2.2.2.2.2.length)).length → (yPk f).getD (11 + (kVb (Int64.ofNat (f.2.2.2.2.1 - 1))).length + i) 0 = (kVb (Int64.ofNat f.2.2.2.2.2.length)).getD i 0) ∧ (∀ i, i < f.2.2.2.2.2.length → (yPk f).getD (yPa f + i) 0 = f.2.2.2.2.2.getD i 0) := by
  have hr : (List.replicate 11 0 : List Nat).length = 11 := List.length_replicate
  unfold yPk yPa
  rw [if_neg h0]
  refine ⟨fun i hi => ?_, fun i hi => ?_, fun i hi => ?_⟩
  · rw [getD_r (by omega), hr, show 11 + i - 11 = i by omega, getD_l hi]
  · rw [getD_r (by omega), hr, getD_r (by omega), show 11 + (kVb (Int64.ofNat (f.2.2.2.2.1 - 1))).length + i - 11 - (kVb (Int64.ofNat (f.2.2.2.2.1 - 1))).length = i by omega, getD_l hi]
  · rw [getD_r (by omega), hr, getD_r (by omega), getD_r (by omega), show 11 + (kVb (Int64.ofNat (f.2.2.2.2.1 - 1))).length + (kVb (Int64.ofNat f.2.2.2.2.2.length)).length + i - 11 - (kVb (Int64.ofNat (f.2.2.2.2.1 - 1))).length - (kVb (Int64.ofNat f.2.2.2.2.2.length)).length = i by omega, getD_l hi]
theorem Lk_or (hL : yLw L) (hdf : lDf L s) (hl : lFi L s) (hV : ∀ i, i < 32768 → ∃ v, v < 256 ∧ gI s 57 i = mI v) {i : Nat} (hi : i < L.length) (hr : (L.getD i yF0).2.2.2.2.1 ≠ 0) (d : Nat) : ∃ s', fLk_openRows (d + 2) (nI i) s = rV s' ∧ lTi 57 (fun j => iM (gI s 57 j)) (256 * (L.getD i yF0).2.2.1 + yPa (L.getD i yF0) + (L.getD i yF0).2.2.2.2.2.length) s' ∧ gI s' 52 0 = nI (256 * (L.getD i yF0).2.2.1 + yPa (L.getD i yF0)) ∧ (∀ k i, ¬ (46 ≤ k ∧ k ≤ 48) → k ≠ 52 → gI s' k i = gI s k i) ∧ (∀ j, j < (L.getD i yF0).2.2.2.2.2.length → iM (gI s 57 (256 * (L.getD i yF0).2.2.1 + yPa (L.getD i yF0) + j)) = (L.getD i yF0).2.2.2.2.2.getD j 0) := by
  obtain ⟨a1, a2, a3, a4, a5⟩ := hl.2 i hi
  obtain ⟨b1, b2, b3, b4, b5⟩ := hL.1.2 i hi
  obtain ⟨c1, c2, _⟩ := hL.2.2.2 i hi hr
  have h40 := hL.1.1
  have hpl := (yLw_dl hL hi).2
  have hbn := yBk_n (L.getD i yF0).2.2.2.1
  obtain ⟨p1, p2, p3⟩ := yPk_at hr
  have hd := hdf i hi
  have hwa : (L.getD i yF0).2.2.2.1 = yPa (L.getD i yF0) + (L.getD i yF0).2.2.2.2.2.length + 8 := by rw [c2]; unfold yWa yPa; omega
  have hpa : yPa (L.getD i yF0) = 11 + (kVb (Int64.ofNat ((L.getD i yF0).2.2.2.2.1 - 1))).length + (kVb (Int64.ofNat (L.getD i yF0).2.2.2.2.2.length)).length := rfl
  generalize L.getD i yF0 = f at *
  -- bytes of the file
  have hby : ∀ j, j < f.2.2.2.1 → (yPk f).getD j 0 < 256 → iM (gI s 57 (256 * f.2.2.1 + j)) = (yPk f).getD j 0 := fun j hj hb => by
    rw [hd j (by omega), iM_m _ hb]
  have hdat : ∀ j, j < f.2.2.2.2.2.length → iM (gI s 57 (256 * f.2.2.1 + yPa f + j)) = f.2.2.2.2.2.getD j 0 := fun j hj => by
    have e := p3 j hj
    have hb := kBt_gd c1 j
    rw [show 256 * f.2.2.1 + yPa f + j = 256 * f.2.2.1 + (yPa f + j) by omega, hby _ (by omega) (by rw [e]; exact hb), e]
  have hb1 : ∀ j, j < (kVb (Int64.ofNat (f.2.2.2.2.1 - 1))).length → iM (gI s 57 (256 * f.2.2.1 + 11 + j)) = (kVb (Int64.ofNat (f.2.2.2.2.1 - 1))).getD j 0 := fun j hj => by
    have e := p1 j hj
    have hb := kBt_gd (kBt_vb (Int64.ofNat (f.2.2.2.2.1 - 1))) j
    rw [show 256 * f.2.2.1 + 11 + j = 256 * f.2.2.1 + (11 + j) by omega, hby _ (by omega) (by rw [e]; exact hb), e]
  have hb2 : ∀ j, j < (kVb (Int64.ofNat f.2.2.2.2.2.length)).length → iM (gI s 57 (256 * f.2.2.1 + 11 + (kVb (Int64.ofNat (f.2.2.2.2.1 - 1))).length + j)) = (kVb (Int64.ofNat f.2.2.2.2.2.length)).getD j 0 := fun j hj => by
    have e := p2 j hj
    have hb := kBt_gd (kBt_vb (Int64.ofNat f.2.2.2.2.2.length)) j
    rw [show 256 * f.2.2.1 + 11 + (kVb (Int64.ofNat (f.2.2.2.2.1 - 1))).length + j = 256 * f.2.2.1 + (11 + (kVb (Int64.ofNat (f.2.2.2.2.1 - 1))).length + j) by omega, hby _ (by omega) (by rw [e]; exact hb), e]
  have hcell : ∀ j, j < 256 * f.2.2.1 + yPa f + f.2.2.2.2.2.length → gI s 57 j = mI (iM (gI s 57 j)) := fun j hj => by
    obtain ⟨v, v1, v2⟩ := hV j (by omega)
    rw [v2, iM_m v v1]
  have hlim : 256 * f.2.2.1 + yPa f + f.2.2.2.2.2.length ≤ 32768 := by omega
  have elim : (nI f.2.2.1 * 256 + nI f.2.2.2.1) - 8 = nI (256 * f.2.2.1 + yPa f + f.2.2.2.2.2.length) := by
    rw [show (256 : Int32) = nI 256 from rfl, nI_mulE, nI_addE, show (8 : Int32) = nI 8 from rfl, nI_sub (by omega)]
    congr 1
    omega
  have efr : nI f.2.2.1 * 256 + 11 = nI (256 * f.2.2.1 + 11) := by
    rw [show (256 : Int32) = nI 256 from rfl, nI_mulE, show (11 : Int32) = nI 11 from rfl, nI_addE, Nat.mul_comm]
  -- the Looker
  have T46 : ∀ k i, k ≠ 46 → gI (pI (pI (pM1 s 57) 46 1 (nI (256 * f.2.2.1 + 11))) 46 7 (nI (256 * f.2.2.1 + yPa f + f.2.2.2.2.2.length))) k i = gI s k i := fun k i hk => by
    rw [gI_pI, if_neg (by omega), gI_pI, if_neg (by omega)]
    rfl
  obtain ⟨p, y, he, hp1, hp2⟩ := oK_nw (pI (pI (pM1 s 57) 46 1 (nI (256 * f.2.2.1 + 11))) 46 7 (nI (256 * f.2.2.1 + yPa f + f.2.2.2.2.2.length))) (a := 256 * f.2.2.1 + 11) (by rw [gI_pI, if_neg (by omega), gI_pI, if_pos ⟨rfl, rfl⟩])
  have hop : ∀ d, fLo_open d 57 (nI (256 * f.2.2.1 + 11)) (nI (256 * f.2.2.1 + yPa f + f.2.2.2.2.2.length)) s = rV (oK p y (pI (pI (pM1 s 57) 46 1 (nI (256 * f.2.2.1 + 11))) 46 7 (nI (256 * f.2.2.1 + yPa f + f.2.2.2.2.2.length)))) := fun d => by
    refine eLo_open d _ _ _ _ _ ?_
    rw [wM_eq, wI_eq, wI_eq, wI_eq, ← he]
    rfl
  have hin : lIn 57 (fun j => iM (gI s 57 j)) (256 * f.2.2.1 + yPa f + f.2.2.2.2.2.length) (pI (pI (pM1 s 57) 46 1 (nI (256 * f.2.2.1 + 11))) 46 7 (nI (256 * f.2.2.1 + yPa f + f.2.2.2.2.2.length))) := ⟨⟨rfl, by omega, rfl⟩, by rw [gI_pI, if_pos ⟨rfl, rfl⟩], ⟨hlim, by decide⟩, fun j hj => by rw [T46 57 j (by omega)]; exact hcell j hj, fun j => iM_lt _⟩
  generalize pI (pI (pM1 s 57) 46 1 (nI (256 * f.2.2.1 + 11))) 46 7 (nI (256 * f.2.2.1 + yPa f + f.2.2.2.2.2.length)) = T at *
  have v1 := Lo_vi (p := p) (y := y) hin (d := d + 1) (by omega) (by omega)
  rw [hp1, kVr_vb (v := Int64.ofNat (f.2.2.2.2.1 - 1)) (by omega) hb1] at v1
  have v1 : fLo_varint (d + 1) (oK p y T) = rI 1 (oK (256 * f.2.2.1 + 11 + (kVb (Int64.ofNat (f.2.2.2.2.1 - 1))).length, p.2) (Int64.ofNat (f.2.2.2.2.1 - 1)) T) := v1
  have v2 := Lo_vi (p := (256 * f.2.2.1 + 11 + (kVb (Int64.ofNat (f.2.2.2.2.1 - 1))).length, p.2)) (y := Int64.ofNat (f.2.2.2.2.1 - 1)) hin (d := d + 1) (by omega) (by show 256 * f.2.2.1 + 11 + _ ≤ _; omega)
  rw [kVr_vb (v := Int64.ofNat f.2.2.2.2.2.length) (by show 256 * f.2.2.1 + 11 + (kVb (Int64.ofNat (f.2.2.2.2.1 - 1))).length + _ ≤ _; omega) hb2] at v2
  have v2 : fLo_varint (d + 1) (oK (256 * f.2.2.1 + 11 + (kVb (Int64.ofNat (f.2.2.2.2.1 - 1))).length, p.2) (Int64.ofNat (f.2.2.2.2.1 - 1)) T) = rI 1 (oK (256 * f.2.2.1 + 11 + (kVb (Int64.ofNat (f.2.2.2.2.1 - 1))).length + (kVb (Int64.ofNat f.2.2.2.2.2.length)).length, p.2) (Int64.ofNat f.2.2.2.2.2.length) T) := v2
  have eat : 256 * f.2.2.1 + 11 + (kVb (Int64.ofNat (f.2.2.2.2.1 - 1))).length + (kVb (Int64.ofNat f.2.2.2.2.2.length)).length = 256 * f.2.2.1 + yPa f := by omega
  rw [eat] at v2
  refine ⟨pI (pI (pM2 (oK (256 * f.2.2.1 + yPa f, p.2) (Int64.ofNat f.2.2.2.2.2.length) T) 57) 52 0 (nI (256 * f.2.2.1 + yPa f))) 52 1 (nI (256 * f.2.2.1 + yPa f + f.2.2.2.2.2.length)), eLk_openRows (d + 1) _ _ _ ?_, ⟨⟨rfl, by omega⟩, by rw [gI_pI, if_pos ⟨rfl, rfl⟩], ⟨hlim, by decide⟩, fun j hj => ?_, fun j => iM_lt _⟩, by rw [gI_pI, if_neg (by omega), gI_pI, if_pos ⟨rfl, rfl⟩], fun k i h1 h2 => ?_, hdat⟩
  · have hto : ∀ u : aT, fTe_open (d + 1) 57 (nI (256 * f.2.2.1 + yPa f)) (nI (256 * f.2.2.1 + yPa f + f.2.2.2.2.2.length)) u = rV (pI (pI (pM2 u 57) 52 0 (nI (256 * f.2.2.1 + yPa f))) 52 1 (nI (256 * f.2.2.1 + yPa f + f.2.2.2.2.2.length))) := fun u => by
      refine eTe_open (d + 1) _ _ _ _ _ ?_
      rw [wM_eq, wI_eq, wI_eq]
      rfl
    rw [ldI_n (by omega) (by omega), a3, ldI_n (by omega) (by omega), a4, elim, efr, hop, cG_V, v1, cG_I, v2, cG_I, oK_at, hto, cG_V]
    rfl
  · rw [gI_pI, if_neg (by omega), gI_pI, if_neg (by omega)]
    show gI (oK (256 * f.2.2.1 + yPa f, p.2) (Int64.ofNat f.2.2.2.2.2.length) T) 57 j = _
    rw [oK_o (by omega), T46 57 j (by omega)]
    exact hcell j hj
  · rw [gI_pI, if_neg (by omega), gI_pI, if_neg (by omega)]
    show gI (oK (256 * f.2.2.1 + yPa f, p.2) (Int64.ofNat f.2.2.2.2.2.length) T) k i = _
    rw [oK_o (by omega), T46 k i (by omega)]
end
