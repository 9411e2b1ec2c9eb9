/-! the lake: a file is stored, or power is lost -/
section
variable {s : aT} {L : List yFi}
/-- all schemas are dropped -/
theorem Sc_da (d : Nat) (h6 : ∀ t, t < 6 → gI s 23 t = nI t) : ∃ s', fSc_dropAll (d + 1) s = rV s' ∧ lSc [] s' ∧ ∀ k i, ¬ (k = 22 ∧ (i = 11 ∨ i = 14 ∨ i = 15 ∨ i = 16 ∨ i = 17) ∨ k = 32 ∧ i = 1 ∨ k = 34) → gI s' k i = gI s k i := by
  have n0 : (0 : Int32) = nI 0 := rfl
  have n6 : (6 : Int32) = nI 6 := rfl
  have loop : ∀ k z t, z + k = 4 → (∀ x, x < z → gI t 34 x = nI 0) → ∃ t', fSc_dropAll_13 (d + 1) (nI z) t = rV t' ∧ (∀ x, x < 4 → gI t' 34 x = nI 0) ∧ ∀ k i, k ≠ 34 → gI t' k i = gI t k i := by
    intro k
    induction k with
    | zero =>
      intro z t hz h
      refine ⟨t, eSc_dropAll_13 d _ _ _ ?_, fun x hx => h x (by omega), fun _ _ _ => rfl⟩
      rw [if_pos (show (4 : Int32) ≤ nI z by rw [show (4 : Int32) = nI 4 from rfl, nI_leE (by omega) (by omega)]; omega)]
      rfl
    | succ k ih =>
      intro z t hz h
      obtain ⟨t', r1, r2, r3⟩ := ih (z + 1) (pI t 34 z (nI 0)) (by omega) (fun x hx => by
        rw [gI_pI]
        by_cases e : x = z
        · rw [if_pos ⟨rfl, e⟩]
        · rw [if_neg (by omega)]; exact h x (by omega))
      refine ⟨t', eSc_dropAll_13 d _ _ _ ?_, r2, fun k i hk => by rw [r3 k i hk, gI_pI, if_neg (by omega)]⟩
      rw [if_neg (show ¬ (4 : Int32) ≤ nI z by rw [show (4 : Int32) = nI 4 from rfl, nI_leE (by omega) (by omega)]; omega), stI_n (by omega) (by omega), nI_add1]
      exact r1
  have hdr : fSc_drop d (pI (pI (pI s 22 11 6) 22 16 0) 22 17 0) = rV (pI (pI (pI (pI (pI (pI s 22 11 6) 22 16 0) 22 17 0) 22 14 6) 22 15 0) 32 1 0) := by
    refine eSc_drop d _ _ ?_
    simp only [wI_eq, gI_pI]
    simp
    rfl
  obtain ⟨t', r1, r2, r3⟩ := loop 4 0 (pI (pI (pI (pI (pI (pI s 22 11 6) 22 16 0) 22 17 0) 22 14 6) 22 15 0) 32 1 0) (by omega) (fun x hx => by omega)
  have ho : ∀ k i, ¬ (k = 22 ∧ (i = 11 ∨ i = 14 ∨ i = 15 ∨ i = 16 ∨ i = 17) ∨ k = 32 ∧ i = 1 ∨ k = 34) → gI t' k i = gI s k i := fun k i hk => by
    rw [r3 k i (by omega), gI_pI, if_neg (by omega), gI_pI, if_neg (by omega), gI_pI, if_neg (by omega), gI_pI, if_neg (by omega), gI_pI, if_neg (by omega), gI_pI, if_neg (by omega)]
  refine ⟨t', eSc_dropAll d _ _ ?_, ⟨⟨⟨?_, ?_⟩, ⟨?_, ?_⟩, ⟨?_, ?_⟩⟩, fun t ht => by rw [ho 23 t (by omega)]; exact h6 t ht, fun x hx => r2 x hx, fun i hi => absurd hi (Nat.not_lt_zero _)⟩, ho⟩
  · rw [wI_eq, wI_eq, wI_eq, hdr, cG_V]
    exact r1
  all_goals
    rw [r3 _ _ (by omega)]
    simp only [gI_pI]
    simp
    rfl
theorem Lk_lp (d : Nat) (h6 : ∀ t, t < 6 → gI s 23 t = nI t) : ∃ s', fLk_losePower (d + 2) s = rI (-32) s' ∧ lSc [] s' ∧ lFi [] s' ∧ gI s' 0 16 = 1 ∧ ∀ k i, ¬ (k = 22 ∧ (i = 11 ∨ i = 14 ∨ i = 15 ∨ i = 16 ∨ i = 17) ∨ k = 32 ∧ i = 1 ∨ k = 34 ∨ k = 0 ∧ i = 16 ∨ k = 58 ∧ i = 5) → gI s' k i = gI s k i := by
  obtain ⟨t, r1, r2, r3⟩ := Sc_da (s := pI s 0 16 1) d (fun t ht => by rw [gI_pI, if_neg (by omega)]; exact h6 t ht)
  refine ⟨pI t 58 5 0, eLk_losePower (d + 1) _ _ ?_, lSc_fr (fun k i a b => by rw [gI_pI, if_neg (by omega)]) r2, ⟨by rw [gI_pI, if_pos ⟨rfl, rfl⟩]; rfl, fun i hi => absurd hi (Nat.not_lt_zero _)⟩, ?_, fun k i hk => ?_⟩
  · have ez : wZ s 0 16 1 (fun s1 => cG (fSc_dropAll (d + 1) s1) (kV fun s2 => wI s2 58 5 0 (fun s3 => rI (-32) s3))) = cG (fSc_dropAll (d + 1) (pI s 0 16 1)) (kV fun s2 => wI s2 58 5 0 (fun s3 => rI (-32) s3)) := rfl
    rw [ez, r1, cG_V, wI_eq]
    rfl
  · rw [gI_pI, if_neg (by omega), r3 0 16 (by omega), gI_pI, if_pos ⟨rfl, rfl⟩]
  · rw [gI_pI, if_neg (by omega), r3 k i (by omega), gI_pI, if_neg (by omega)]
/-! the disk's two lists, when blocks are written -/
/-- a byte's number -/
def iM (w : Int32) : Nat := (w.toInt % 256).toNat
theorem iM_m : ∀ v, v < 256 → iM (mI v) = v := by decide +kernel
theorem yNv_f {V W : Nat → Nat} (h : ∀ i, i < 4 → V i = W i) : yNv V 4 = yNv W 4 := yNv_e 4 h
/-- the lists stay, and bytes stand elsewhere -/
theorem lDl_by {tn : Nat} {s' : aT} (h5 : ∀ i, i < 512 → gI s' 57 i = gI s 57 i) (hb : ∀ i, gI s' 57 i = gI s 57 i ∨ ∃ v, v < 256 ∧ gI s' 57 i = mI v) (h : lDl tn L s) : lDl tn L s' := by
  obtain ⟨V, v1, v2, v3, v4⟩ := h
  have eV : ∀ i, i < 512 → (fun i => if i < 512 then V i else iM (gI s' 57 i)) i = V i := fun i hi => if_pos hi
  refine ⟨fun i => if i < 512 then V i else iM (gI s' 57 i), fun i hi => ?_, fun h0 i hi => by rw [eV _ (by omega)]; exact v2 h0 i hi, fun h0 => ⟨(v3 h0).1, ?_⟩, ?_⟩
  · dsimp only
    by_cases h : i < 512
    · rw [if_pos h, h5 i h]
      exact v1 i hi
    · rw [if_neg h]
      have : ∃ v, v < 256 ∧ gI s' 57 i = mI v := by
        rcases hb i with e | e
        · exact ⟨V i, (v1 i hi).2, by rw [e]; exact (v1 i hi).1⟩
        · exact e
      obtain ⟨v, w1, w2⟩ := this
      rw [w2, iM_m v w1]
      exact ⟨rfl, w1⟩
  · rw [← (v3 h0).2]
    exact yNv_f (fun i hi => eV _ (by omega))
  · have e : yNv (fun i => (fun i => if i < 512 then V i else iM (gI s' 57 i)) (256 * ((tn + 1) % 2) + 252 + i)) 4 = yNv (fun i => V (256 * ((tn + 1) % 2) + 252 + i)) 4 := yNv_f (fun i hi => eV _ (by omega))
    show yNv _ 4 ≤ tn - 1
    rw [e]
    exact v4
theorem lDl_w {tn w : Nat} {C : List Nat} {b : Nat} (hC : kBt C) (hb : 2 ≤ b) (h : lDl tn L s) {fr : Nat} : lDl tn L (yDw b w fr C s) := lDl_by (fun i hi => by rw [yDw_I, if_neg (by omega)]) (fun i => by
  rw [yDw_I]
  split
  · exact .inr ⟨_, kBt_gd hC _, rfl⟩
  · exact .inl rfl) h
/-- the list is written whole -/
theorem lDl_new {tn : Nat} {L' : List yFi} (htn : tn + 1 < 1000000) (hL : L.length ≤ 40) (h40 : L'.length ≤ 40) (h : lDl tn L s) : lDl (tn + 1) L' (yDw ((tn + 1) % 2) 256 0 (yLb (tn + 1) L') s) := by
  obtain ⟨V, v1, v2, v3, v4⟩ := h
  refine ⟨fun i => if 256 * ((tn + 1) % 2) ≤ i ∧ i < 256 * ((tn + 1) % 2) + 256 then (yLb (tn + 1) L').getD (i - 256 * ((tn + 1) % 2)) 0 else V i, fun i hi => ?_, fun _ i hi => ?_, fun e => by omega, ?_⟩
  · rw [yDw_I]
    dsimp only
    by_cases hh : 256 * ((tn + 1) % 2) ≤ i ∧ i < 256 * ((tn + 1) % 2) + 256
    · rw [if_pos ⟨rfl, hh⟩, if_pos hh, Nat.zero_add]
      exact ⟨rfl, kBt_gd yLb_bt _⟩
    · rw [if_neg (fun e => hh e.2), if_neg hh]
      exact v1 i hi
  · show (if _ then _ else _) = _
    rw [if_pos (by omega), show 256 * ((tn + 1) % 2) + i - 256 * ((tn + 1) % 2) = i by omega]
  · show yNv _ 4 ≤ tn + 1 - 1
    have e : ∀ i, i < 4 → (fun i => if 256 * ((tn + 1) % 2) ≤ 256 * ((tn + 1 + 1) % 2) + 252 + i ∧ 256 * ((tn + 1 + 1) % 2) + 252 + i < 256 * ((tn + 1) % 2) + 256 then (yLb (tn + 1) L').getD (256 * ((tn + 1 + 1) % 2) + 252 + i - 256 * ((tn + 1) % 2)) 0 else V (256 * ((tn + 1 + 1) % 2) + 252 + i)) i = (fun i => V (256 * (tn % 2) + 252 + i)) i := fun i hi => by
      show (if _ then _ else _) = _
      rw [if_neg (by omega), show (tn + 1 + 1) % 2 = tn % 2 by omega]
    rw [yNv_f e]
    by_cases h0 : tn = 0
    · have := (v3 h0).2
      rw [h0]
      show yNv (fun i => V (256 * (0 % 2) + 252 + i)) 4 ≤ 0
      have e2 : (fun i => V (256 * (0 % 2) + 252 + i)) = (fun i => V (252 + i)) := rfl
      rw [e2]
      omega
    · rw [yNv_f (W := fun i => (yBe 4 tn).getD i 0) (fun i hi => by
        show V (256 * (tn % 2) + 252 + i) = _
        rw [show 256 * (tn % 2) + 252 + i = 256 * (tn % 2) + (252 + i) by omega, v2 (by omega) (252 + i) (by omega)]
        exact yLb_a hL hi), yNv_4 (by omega)]
      omega
/-- the list's block is torn -/
theorem lDl_torn {tn : Nat} {C : List Nat} (hC : kBt C) (h : lDl tn L s) : lDl tn L (yDw ((tn + 1) % 2) 128 0 C s) := by
  obtain ⟨V, v1, v2, v3, v4⟩ := h
  refine ⟨fun i => if 256 * ((tn + 1) % 2) ≤ i ∧ i < 256 * ((tn + 1) % 2) + 128 then C.getD (i - 256 * ((tn + 1) % 2)) 0 else V i, fun i hi => ?_, fun h0 i hi => ?_, fun e => ⟨(v3 e).1, ?_⟩, ?_⟩
  · rw [yDw_I]
    dsimp only
    by_cases hh : 256 * ((tn + 1) % 2) ≤ i ∧ i < 256 * ((tn + 1) % 2) + 128
    · rw [if_pos ⟨rfl, hh⟩, if_pos hh, Nat.zero_add]
      exact ⟨rfl, kBt_gd hC _⟩
    · rw [if_neg (fun e => hh e.2), if_neg hh]
      exact v1 i hi
  · show (if _ then _ else _) = _
    rw [if_neg (by omega)]
    exact v2 h0 i hi
  · rw [← (v3 e).2]
    refine yNv_f (fun i hi => ?_)
    show (if _ then _ else _) = _
    rw [if_neg (by omega)]
  · have : yNv (fun i => if 256 * ((tn + 1) % 2) ≤ 256 * ((tn + 1) % 2) + 252 + i ∧ 256 * ((tn + 1) % 2) + 252 + i < 256 * ((tn + 1) % 2) + 128 then C.getD (256 * ((tn + 1) % 2) + 252 + i - 256 * ((tn + 1) % 2)) 0 else V (256 * ((tn + 1) % 2) + 252 + i)) 4 = yNv (fun i => V (256 * ((tn + 1) % 2) + 252 + i)) 4 := yNv_f (fun i hi => by
      show (if _ then _ else _) = _
      rw [if_neg (by omega)])
    show yNv _ 4 ≤ tn - 1
    rw [this]
    exact v4
/-- files that lie elsewhere -/
theorem lDf_w (hs : yLs L) (hp : ∀ i, i < L.length → (yPk (L.getD i yF0)).length ≤ 256 * yBk (L.getD i yF0).2.2.2.1) {b w fr n : Nat} {C : List Nat} (hw : w ≤ 256 * n) (ha : b + n ≤ 2 ∨ ∀ i, i < L.length → yAw (L.getD i yF0) b n) (h : lDf L s) : lDf L (yDw b w fr C s) := fun i hi j hj => by
  have h1 := hp i hi
  have h2 := (hs.2 i hi).2.1
  rw [yDw_I, if_neg (fun e => ?_)]
  · exact h i hi j hj
  · rcases ha with ha | ha
    · omega
    · have := ha i hi
      unfold yAw at this
      omega
end
