/-! the lake's disk: blocks are written -/
/-- what a Bytes holds -/
def lBy (c : Nat) (C : List Nat) (s : aT) : Prop := gI s c 1 = nI C.length ∧ (∀ i, i < C.length → gI s (c + 1) i = mI (C.getD i 0)) ∧ kBt C ∧ C.length ≤ alen (c + 1)
/-- letters onto the disk, from block b on -/
def yDw (b w fr : Nat) (C : List Nat) (s : aT) : aT := (fun k i => if k = 57 ∧ 256 * b ≤ i ∧ i < 256 * b + w then mI (C.getD (fr + (i - 256 * b)) 0) else s.1 k i, s.2)
section
variable {c : Nat} {C : List Nat} {s : aT}
theorem yDw_I {b w fr k i : Nat} : gI (yDw b w fr C s) k i = if k = 57 ∧ 256 * b ≤ i ∧ i < 256 * b + w then mI (C.getD (fr + (i - 256 * b)) 0) else gI s k i := rfl
theorem yDw_o {b w fr k i : Nat} (h : k ≠ 57) : gI (yDw b w fr C s) k i = gI s k i := by rw [yDw_I, if_neg (fun e => h e.1)]
theorem yDw_0 {b fr : Nat} : yDw b 0 fr C s = s := by
  refine aT_ext (fun k i => ?_) (fun _ _ => rfl) rfl
  rw [yDw_I, if_neg (by omega)]
theorem yDw_1 {b w fr : Nat} : pI (yDw b w fr C s) 57 (256 * b + w) (mI (C.getD (fr + w) 0)) = yDw b (w + 1) fr C s := by
  refine aT_ext (fun k i => ?_) (fun _ _ => rfl) rfl
  rw [gI_pI, yDw_I, yDw_I]
  by_cases h : k = 57 ∧ i = 256 * b + w
  · rw [if_pos h, if_pos (by omega), show i - 256 * b = w by omega]
  · rw [if_neg h]
    by_cases h2 : k = 57 ∧ 256 * b ≤ i ∧ i < 256 * b + w
    · rw [if_pos h2, if_pos (by omega)]
    · rw [if_neg h2, if_neg (by omega)]
theorem yDw_56 {b w fr : Nat} {v : Int32} : yDw b w fr C (pI s 56 1 v) = pI (yDw b w fr C s) 56 1 v := by
  refine aT_ext (fun k i => ?_) (fun _ _ => rfl) rfl
  rw [gI_pI, yDw_I, yDw_I, gI_pI]
  by_cases h : k = 56 ∧ i = 1
  · rw [if_pos h, if_neg (by omega)]
    rw [if_pos h]
  · rw [if_neg h, if_neg h]
theorem yDw_c {b i : Nat} : yDw (b + i) 256 (256 * i) C (yDw b (256 * i) 0 C s) = yDw b (256 * (i + 1)) 0 C s := by
  refine aT_ext (fun k j => ?_) (fun _ _ => rfl) rfl
  rw [yDw_I, yDw_I, yDw_I]
  by_cases h : k = 57 ∧ 256 * (b + i) ≤ j ∧ j < 256 * (b + i) + 256
  · rw [if_pos h, if_pos (by omega), show 256 * i + (j - 256 * (b + i)) = 0 + (j - 256 * b) by omega]
  · rw [if_neg h]
    by_cases h2 : k = 57 ∧ 256 * b ≤ j ∧ j < 256 * b + 256 * i
    · rw [if_pos h2, if_pos (by omega)]
    · rw [if_neg h2, if_neg (by omega)]
theorem pI_56 {v w : Int32} : pI (pI s 56 1 v) 56 1 w = pI s 56 1 w := by
  refine aT_ext (fun k i => ?_) (fun _ _ => rfl) rfl
  rw [gI_pI, gI_pI, gI_pI]
  by_cases h : k = 56 ∧ i = 1
  · rw [if_pos h, if_pos h]
  · rw [if_neg h, if_neg h, if_neg h]
theorem pI_same {k i : Nat} {v : Int32} (h : gI s k i = v) : pI s k i v = s := by
  refine aT_ext (fun k' i' => ?_) (fun _ _ => rfl) rfl
  rw [gI_pI]
  by_cases e : k' = k ∧ i' = i
  · rw [if_pos e, e.1, e.2, h]
  · rw [if_neg e]
theorem lBy_fr {s' : aT} (h : ∀ k i, k = c ∨ k = c + 1 → gI s' k i = gI s k i) (hb : lBy c C s) : lBy c C s' := ⟨by rw [h c _ (.inl rfl)]; exact hb.1, fun i hi => by rw [h (c + 1) _ (.inr rfl)]; exact hb.2.1 i hi, hb.2.2⟩
theorem kBt_gd (h : kBt C) (i : Nat) : C.getD i 0 < 256 := by
  rw [List.getD_eq_getElem?_getD]
  by_cases hi : i < C.length
  · rw [List.getElem?_eq_getElem hi]
    exact h _ (List.getElem_mem hi)
  · rw [List.getElem?_eq_none (by omega)]
    show 0 < 256
    omega
theorem By_at0 (hc : isB c) (hb : lBy c C s) (d : Nat) {i : Nat} (hi : i < 2147483648) : fBy_at d c (nI i) s = rI (if i < C.length then nI (C.getD i 0) else -1) s := by
  have ha := isB_al c hc
  have hl := hb.2.2.2
  refine eBy_at d c _ _ hc _ ?_
  rw [if_neg (nI_n0 hi), hb.1]
  simp (disch := omega) only [nI_ltE]
  by_cases h : i < C.length
  · rw [if_pos h, if_pos h, ldI_n (by omega) (by omega), hb.2.1 i h, mI_and (kBt_gd hb.2.2.1 i)]
    rfl
  · rw [if_neg h, if_neg h]
    rfl
/-- letters of a block, or zeros -/
theorem Di_w15 (hc : isB c) (h56 : c ≠ 56 ∧ c ≠ 57 ∧ c + 1 ≠ 56 ∧ c + 1 ≠ 57) (hb : lBy c C s) (d : Nat) {b fr w : Nat} {z4 : Int32} (hbl : b < 128) (hfr : fr ≤ 100000) (hw : w ≤ 256) : ∀ k z, z + k = w → ∀ r, fDi_writeBlock_15 (d + 6) (nI b) c (nI fr) z4 (nI w) (nI w) (yDw b w fr C s) = some r → fDi_writeBlock_15 (d + 6) (nI b) c (nI fr) z4 (nI w) (nI z) (yDw b z fr C s) = some r := by
  intro k
  induction k with
  | zero =>
    intro z hz r hr
    rw [show z = w by omega]
    exact hr
  | succ k ih =>
    intro z hz r hr
    have hb2 : lBy c C (yDw b z fr C s) := lBy_fr (fun k i hk => yDw_o (by omega)) hb
    have hx := kBt_gd hb.2.2.1 (fr + z)
    have emax : (if (0 : Int32) < (if fr + z < C.length then nI (C.getD (fr + z) 0) else -1) then (if fr + z < C.length then nI (C.getD (fr + z) 0) else -1) else 0) = nI (C.getD (fr + z) 0) := by
      by_cases h : fr + z < C.length
      · rw [if_pos h]
        by_cases h0 : 0 < C.getD (fr + z) 0
        · rw [if_pos (by rw [show (0 : Int32) = nI 0 from rfl, nI_ltE (by omega) (by omega)]; exact h0)]
        · rw [if_neg (by rw [show (0 : Int32) = nI 0 from rfl, nI_ltE (by omega) (by omega)]; exact h0), show C.getD (fr + z) 0 = 0 by omega]
          rfl
      · rw [if_neg h, if_neg (by decide), List.getD_eq_getElem?_getD, List.getElem?_eq_none (by omega)]
        rfl
    refine eDi_writeBlock_15 d _ c _ _ _ _ _ hc _ ?_
    rw [if_neg (show ¬ nI w ≤ nI z by rw [nI_leE (by omega) (by omega)]; omega), nI_addE, By_at0 hc hb2 (d + 5) (by omega), cG_I, cP_911, emax, show (256 : Int32) = nI 256 from rfl, nI_mulE, nI_addE, stI_n (by omega) (by omega), nI_byte hx, show b * 256 + z = 256 * b + z by omega, yDw_1, nI_add1]
    exact ih (z + 1) (by omega) r hr
/-- one block: whole, or torn -/
theorem Di_wb (hc : isB c) (h56 : c ≠ 56 ∧ c ≠ 57 ∧ c + 1 ≠ 56 ∧ c + 1 ≠ 57) (hb : lBy c C s) (d : Nat) {b fr pw : Nat} (hbl : b < 128) (hfr : fr ≤ 100000) (hp : gI s 56 1 = zI pw) (hp2 : pw < 2147483648) : fDi_writeBlock (d + 6) (nI b) c (nI fr) s = (if pw = 1 then rI 0 (pI (yDw b 128 fr C s) 56 1 (-1)) else rI 1 (pI (yDw b 256 fr C s) 56 1 (zI (pw - 1)))) := by
  have e0 : (gI s 56 1 = 0) = (pw = 1) := by
    rw [hp]
    by_cases h : pw = 0
    · rw [h]
      exact propext ⟨fun e => absurd e (by decide), fun e => by omega⟩
    · rw [zI_pos (Nat.pos_of_ne_zero h), show (0 : Int32) = nI 0 from rfl, nI_eqE (by omega) (by omega)]
      exact propext ⟨fun e => by omega, fun e => by omega⟩
  by_cases h1 : pw = 1
  · rw [if_pos h1]
    refine eDi_writeBlock d _ c _ _ hc _ ?_
    rw [if_neg (fun e => e (by rw [e0]; exact h1))]
    refine eDi_writeBlock_6 d _ c _ _ _ hc _ ?_
    rw [if_neg (by decide)]
    refine eDi_writeBlock_12 d _ c _ _ _ _ hc _ ?_
    have := Di_w15 hc h56 hb d (z4 := 1) hbl hfr (w := 128) (by omega) 128 0 (by omega)
    rw [yDw_0] at this
    refine this _ ?_
    refine eDi_writeBlock_15 d _ c _ _ _ _ _ hc _ ?_
    rw [if_pos (by decide), if_neg (by decide), wI_eq]
    refine eDi_writeBlock_52 d _ _ _ ?_
    rw [if_pos (by decide)]
    rfl
  · rw [if_neg h1]
    refine eDi_writeBlock d _ c _ _ hc _ ?_
    rw [if_pos (by rw [e0]; exact h1)]
    refine eDi_writeBlock_6 d _ c _ _ _ hc _ ?_
    rw [if_pos rfl]
    refine eDi_writeBlock_12 d _ c _ _ _ _ hc _ ?_
    have := Di_w15 hc h56 hb d (z4 := 0) hbl hfr (w := 256) (by omega) 256 0 (by omega)
    rw [yDw_0] at this
    refine this _ ?_
    refine eDi_writeBlock_15 d _ c _ _ _ _ _ hc _ ?_
    have g56 : gI (yDw b 256 fr C s) 56 1 = zI pw := by rw [yDw_o (by omega)]; exact hp
    rw [if_pos (by decide), if_pos rfl, g56]
    by_cases h0 : pw = 0
    · rw [if_pos (by rw [h0]; rfl), h0, pI_same (by rw [g56, h0])]
      refine eDi_writeBlock_52 d _ _ _ ?_
      rw [if_neg (fun e => e rfl)]
      rfl
    · rw [if_neg (by rw [zI_n1 hp2]; exact h0), wI_eq, zI_pos (Nat.pos_of_ne_zero h0), show (1 : Int32) = nI 1 from rfl, nI_sub (by omega), zI_pos (show 0 < pw - 1 by omega)]
      refine eDi_writeBlock_52 d _ _ _ ?_
      rw [if_neg (fun e => e rfl)]
      rfl
/-- what a lost file may have changed -/
abbrev x57 (b n : Nat) : Nat → Nat → Prop := fun k i => k = 57 ∧ 256 * b ≤ i ∧ i < 256 * (b + n) ∨ k = 56 ∧ i = 1
/-- a file -/
theorem Di_wf (hc : isB c) (h56 : c ≠ 56 ∧ c ≠ 57 ∧ c + 1 ≠ 56 ∧ c + 1 ≠ 57) (hb : lBy c C s) (d : Nat) {b pw : Nat} (hbl : b + yBk C.length ≤ 128) (hp : gI s 56 1 = zI pw) (hp2 : pw < 2147483648) (hC : C.length ≤ 4096) : if pw = 0 ∨ yBk C.length < pw then fDi_writeFile (d + 8) (nI b) c s = rI 1 (pI (yDw b (256 * yBk C.length) 0 C s) 56 1 (zI (pw - yBk C.length))) else ∃ s', fDi_writeFile (d + 8) (nI b) c s = rI 0 s' ∧ xF (x57 b (yBk C.length)) s s' ∧ gI s' 56 1 = -1 ∧ ∀ i, gI s' 57 i = gI s 57 i ∨ ∃ v, v < 256 ∧ gI s' 57 i = mI v := by
  have hk := yBk_16 hC
  have hst : ∀ i, gI (pI (yDw b (256 * i) 0 C s) 56 1 (zI (pw - i))) c 1 = nI C.length := fun i => by rw [gI_pI, if_neg (by omega), yDw_o (by omega)]; exact hb.1
  have hbi : ∀ i, lBy c C (pI (yDw b (256 * i) 0 C s) 56 1 (zI (pw - i))) := fun i => lBy_fr (fun k j hk => by rw [gI_pI, if_neg (by omega), yDw_o (by omega)]) hb
  have hpi : ∀ i, gI (pI (yDw b (256 * i) 0 C s) 56 1 (zI (pw - i))) 56 1 = zI (pw - i) := fun i => by rw [gI_pI, if_pos ⟨rfl, rfl⟩]
  have e0 : pI (yDw b (256 * 0) 0 C s) 56 1 (zI (pw - 0)) = s := by rw [show 256 * 0 = 0 from rfl, yDw_0, Nat.sub_zero, pI_same hp]
  have step : ∀ i, i < yBk C.length → pw - i ≠ 1 → ∀ r, fDi_writeFile_2 (d + 8) (nI b) c (nI (i + 1)) (pI (yDw b (256 * (i + 1)) 0 C s) 56 1 (zI (pw - (i + 1)))) = some r → fDi_writeFile_2 (d + 8) (nI b) c (nI i) (pI (yDw b (256 * i) 0 C s) 56 1 (zI (pw - i))) = some r := by
    intro i hi h1 r hr
    have hw := Di_wb hc h56 (hbi i) (d + 1) (b := b + i) (fr := 256 * i) (by omega) (by omega) (hpi i) (by omega)
    rw [if_neg h1] at hw
    refine eDi_writeFile_2 (d + 7) _ c _ _ hc _ ?_
    rw [hst, show d + 7 = d + 1 + 6 from rfl, Di_bk (d + 1) (by omega), cG_I, if_neg (show ¬ nI (yBk C.length) ≤ nI i by rw [nI_leE (by omega) (by omega)]; omega), nI_addE, show (256 : Int32) = nI 256 from rfl, nI_mulE, Nat.mul_comm i 256, hw, cG_I, if_pos (by decide), nI_add1, yDw_56, yDw_c, pI_56, show pw - i - 1 = pw - (i + 1) by omega]
    exact hr
  have run : ∀ k i, i + k ≤ yBk C.length → (∀ j, i ≤ j → j < i + k → pw - j ≠ 1) → ∀ r, fDi_writeFile_2 (d + 8) (nI b) c (nI (i + k)) (pI (yDw b (256 * (i + k)) 0 C s) 56 1 (zI (pw - (i + k)))) = some r → fDi_writeFile_2 (d + 8) (nI b) c (nI i) (pI (yDw b (256 * i) 0 C s) 56 1 (zI (pw - i))) = some r := by
    intro k
    induction k with
    | zero => intro i _ _ r hr; exact hr
    | succ k ih =>
      intro i hi hj r hr
      refine step i (by omega) (hj i (Nat.le_refl _) (by omega)) r (ih (i + 1) (by omega) (fun j a b => hj j (by omega) (by omega)) r ?_)
      rw [show i + 1 + k = i + (k + 1) by omega]
      exact hr
  by_cases h : pw = 0 ∨ yBk C.length < pw
  · rw [if_pos h]
    refine eDi_writeFile (d + 7) _ c _ hc _ ?_
    have := run (yBk C.length) 0 (by omega) (fun j a b => by omega)
    rw [e0, Nat.zero_add] at this
    refine this _ ?_
    refine eDi_writeFile_2 (d + 7) _ c _ _ hc _ ?_
    rw [hst, show d + 7 = d + 1 + 6 from rfl, Di_bk (d + 1) (by omega), cG_I, if_pos (show nI (yBk C.length) ≤ nI (yBk C.length) by rw [nI_leE (by omega) (by omega)]; omega)]
    rfl
  · rw [if_neg h]
    have hw := Di_wb hc h56 (hbi (pw - 1)) (d + 1) (b := b + (pw - 1)) (fr := 256 * (pw - 1)) (by omega) (by omega) (hpi (pw - 1)) (by omega)
    rw [if_pos (show pw - (pw - 1) = 1 by omega)] at hw
    refine ⟨pI (yDw (b + (pw - 1)) 128 (256 * (pw - 1)) C (pI (yDw b (256 * (pw - 1)) 0 C s) 56 1 (zI (pw - (pw - 1))))) 56 1 (-1), ?_, ⟨fun k i hki => ?_, rfl⟩, by rw [gI_pI, if_pos ⟨rfl, rfl⟩], fun i => ?_⟩
    · refine eDi_writeFile (d + 7) _ c _ hc _ ?_
      have := run (pw - 1) 0 (by omega) (fun j a b => by omega)
      rw [e0, Nat.zero_add] at this
      refine this _ ?_
      refine eDi_writeFile_2 (d + 7) _ c _ _ hc _ ?_
      rw [hst, show d + 7 = d + 1 + 6 from rfl, Di_bk (d + 1) (by omega), cG_I, if_neg (show ¬ nI (yBk C.length) ≤ nI (pw - 1) by rw [nI_leE (by omega) (by omega)]; omega), nI_addE, show (256 : Int32) = nI 256 from rfl, nI_mulE, Nat.mul_comm (pw - 1) 256, hw, cG_I, if_neg (fun e => e rfl)]
      rfl
    · have hki : ¬ (k = 57 ∧ 256 * b ≤ i ∧ i < 256 * (b + yBk C.length) ∨ k = 56 ∧ i = 1) := hki
      rw [gI_pI, if_neg (fun e => hki (.inr e)), yDw_I, if_neg (by omega), gI_pI, if_neg (fun e => hki (.inr e)), yDw_I, if_neg (by omega)]
    · rw [gI_pI, if_neg (by omega), yDw_I]
      split
      · exact .inr ⟨_, kBt_gd hb.2.2.1 _, rfl⟩
      · rw [gI_pI, if_neg (by omega), yDw_I]
        split
        · exact .inr ⟨_, kBt_gd hb.2.2.1 _, rfl⟩
        · exact .inl rfl
end
