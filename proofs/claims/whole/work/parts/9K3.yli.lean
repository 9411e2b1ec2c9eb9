/-! what the lake and the reference keep, between calls -/
/-- tape, plain form, what was read, place, down, power + 1, files -/
def yS : Type := List Nat × List Nat × List Nat × Int32 × Bool × Nat × List yFi
def yMk (tp pl ou : List Nat) (pc : Int32) (dn : Bool) (pw : Nat) (fs : List yFi) : yS := (tp, pl, ou, pc, dn, pw, fs)
def yS.tp (S : yS) : List Nat := Prod.fst S
def yS.pl (S : yS) : List Nat := Prod.fst (Prod.snd S)
def yS.ou (S : yS) : List Nat := Prod.fst (Prod.snd (Prod.snd S))
def yS.pc (S : yS) : Int32 := Prod.fst (Prod.snd (Prod.snd (Prod.snd S)))
def yS.dn (S : yS) : Bool := Prod.fst (Prod.snd (Prod.snd (Prod.snd (Prod.snd S))))
def yS.pw (S : yS) : Nat := Prod.fst (Prod.snd (Prod.snd (Prod.snd (Prod.snd (Prod.snd S)))))
def yS.fs (S : yS) : List yFi := Prod.snd (Prod.snd (Prod.snd (Prod.snd (Prod.snd (Prod.snd S)))))
def yWf (S : yS) : Prop := (kBt S.tp ∧ S.tp.length ≤ 4096) ∧ (kBt S.pl ∧ S.pl.length ≤ 4096) ∧ (kBt S.ou ∧ S.ou.length ≤ 4096) ∧ S.pw ≤ 1001 ∧ yLw S.fs
/-- what is in memory of the files -/
def yUp (S : yS) : List yFi := if S.dn = true then [] else S.fs
/-- a file's bytes on the lake's disk -/
def yPk (f : yFi) : List Nat := if f.2.2.2.2.1 = 0 then f.2.2.2.2.2 else List.replicate 11 0 ++ (kVb (Int64.ofNat (f.2.2.2.2.1 - 1)) ++ (kVb (Int64.ofNat f.2.2.2.2.2.length) ++ (f.2.2.2.2.2 ++ List.replicate 8 0)))
def lDf (L : List yFi) (s : aT) : Prop := ∀ i, i < L.length → ∀ j, j < (yPk (L.getD i yF0)).length → gI s 57 (256 * (L.getD i yF0).2.2.1 + j) = mI ((yPk (L.getD i yF0)).getD j 0)
def lSc (L : List yFi) (s : aT) : Prop := ((gI s 22 11 = nI (yB0 L L.length) ∧ gI s 22 14 = nI (yB0 L L.length)) ∧ (gI s 22 16 = nI (yP0 L L.length) ∧ gI s 22 15 = nI (yP0 L L.length)) ∧ (gI s 22 17 = nI (yQ0 L L.length) ∧ gI s 32 1 = nI (yQ0 L L.length))) ∧ (∀ t, t < 6 → gI s 23 t = nI t) ∧ (∀ x, x < 4 → gI s 34 x = nI (yVc L x L.length)) ∧ ∀ i, i < L.length → (L.getD i yF0).2.2.2.2.1 = 0 → gI s 35 (16 * (L.getD i yF0).1 + (L.getD i yF0).2.1) = nI (lo (yB0 L i) (yX (L.getD i yF0).2.2.2.2.2)) ∧ gI s 36 (16 * (L.getD i yF0).1 + (L.getD i yF0).2.1) = nI (yB0 L i) ∧ lV (yB0 L i) (yP0 L i) (yQ0 L i) (yQ (L.getD i yF0).2.2.2.2.2) s
def lMk (c : Nat) (s : aT) : Prop := ∃ S0, S0 ≤ 20 * c ∧ gI s 49 4 = nI S0 ∧ ∀ i, i < 17956 → ∃ k, k ≤ S0 ∧ gI s 50 i = nI k
def uB (b : Bool) : Int32 := if b = true then 1 else 0
/-- the lake -/
def yLI (c : Nat) (S : yS) (s : aT) : Prop := (gI s 0 15 = S.pc ∧ gI s 0 16 = uB S.dn) ∧ (lBy 1 S.tp s ∧ lBy 3 S.pl s ∧ lBy 5 S.ou s) ∧ gI s 56 1 = zI S.pw ∧ (∃ tn, tn ≤ c ∧ lDl tn S.fs s ∧ (S.dn = false → gI s 58 6 = nI tn)) ∧ lFi (yUp S) s ∧ lSc (yUp S) s ∧ lDf S.fs s ∧ lMk c s
/-- the reference's disk holds bytes -/
def lDz (s : aT) : Prop := ∀ i, i < 32768 → ∃ v, v < 256 ∧ gI s 143 i = mI v
/-- the reference -/
def yMI (S : yS) (s : aT) : Prop := (gI s 67 3 = S.pc ∧ gI s 67 11 = uB S.dn) ∧ (gI s 67 2 = nI S.tp.length ∧ ∀ i, i < S.tp.length → gI s 68 i = mI (S.tp.getD i 0)) ∧ (gI s 67 8 = nI S.pl.length ∧ ∀ i, i < S.pl.length → gI s 135 i = mI (S.pl.getD i 0)) ∧ (gI s 67 10 = nI S.ou.length ∧ ∀ i, i < S.ou.length → gI s 136 i = mI (S.ou.getD i 0)) ∧ gI s 67 12 = zI S.pw ∧ mFi S.fs s ∧ (∀ i, i < S.fs.length → ∀ j, j < (S.fs.getD i yF0).2.2.2.2.2.length → gI s 143 (256 * (S.fs.getD i yF0).2.2.1 + j) = mI ((S.fs.getD i yF0).2.2.2.2.2.getD j 0)) ∧ lDz s
/-- cells that do not count between calls, in the lake -/
def xTr (k i : Nat) : Prop := (7 ≤ k ∧ k ≤ 21) ∨ (37 ≤ k ∧ k ≤ 48) ∨ (k = 49 ∧ i ≠ 4) ∨ (51 ≤ k ∧ k ≤ 55) ∨ 64 ≤ k
/-- in the reference -/
def xTm (k i : Nat) : Prop := k < 67 ∨ (69 ≤ k ∧ k ≤ 134) ∨ (144 ≤ k) ∨ k = 67 ∧ (13 < i ∨ i = 0)
/-- a lake's method leaves the reference as it is -/
def xLk (s s' : aT) : Prop := ∀ k i, 67 ≤ k → gI s' k i = gI s k i
/-- .. and makes at most n exceptions -/
def xMk (n : Nat) (s s' : aT) : Prop := (∀ k i, k < 67 → gI s' k i = gI s k i) ∧ s'.2.2.2 ≤ s.2.2.2 + n ∧ gL s' 149 0 = gL s 149 0
abbrev xMo (s s' : aT) : Prop := xMk 1 s s'
theorem xLk_r {s : aT} : xLk s s := fun _ _ _ => rfl
theorem xMo_r {n : Nat} {s : aT} : xMk n s s := ⟨fun _ _ _ => rfl, by omega, rfl⟩
theorem xLk_t {s s1 s2 : aT} (h : xLk s s1) (h2 : xLk s1 s2) : xLk s s2 := fun k i hk => by rw [h2 k i hk, h k i hk]
theorem xMo_t {n : Nat} {s s1 s2 : aT} (h : xMk 0 s s1) (h2 : xMk n s1 s2) : xMk n s s2 := ⟨fun k i hk => by rw [h2.1 k i hk, h.1 k i hk], by
  have a := h.2.1
  have b := h2.2.1
  omega, by rw [h2.2.2, h.2.2]⟩
theorem xMo_w {n : Nat} {s s1 : aT} (h : xMk 0 s s1) : xMk n s s1 := ⟨h.1, by
  have a := h.2.1
  omega, h.2.2⟩
section
variable {c c' : Nat} {S : yS} {s s' : aT}
theorem lSc_fr {L : List yFi} (h : ∀ k i, 22 ≤ k → k ≤ 36 → gI s' k i = gI s k i) (hs : lSc L s) : lSc L s' := by
  obtain ⟨h1, h2, h3, h4⟩ := hs
  refine ⟨?_, fun t ht => by rw [h 23 _ (by omega) (by omega)]; exact h2 t ht, fun x hx => by rw [h 34 _ (by omega) (by omega)]; exact h3 x hx, fun i hi h0 => ?_⟩
  · rw [h 22 11 (by omega) (by omega), h 22 14 (by omega) (by omega), h 22 16 (by omega) (by omega), h 22 15 (by omega) (by omega), h 22 17 (by omega) (by omega), h 32 1 (by omega) (by omega)]
    exact h1
  · obtain ⟨a1, a2, a3⟩ := h4 i hi h0
    rw [h 35 _ (by omega) (by omega), h 36 _ (by omega) (by omega)]
    exact ⟨a1, a2, lV_fr (fun k i g1 g2 => h k i (by omega) (by omega)) a3⟩
theorem lDl_fr {tn : Nat} {L : List yFi} (h : ∀ i, i < 32768 → gI s' 57 i = gI s 57 i) (hd : lDl tn L s) : lDl tn L s' := by
  obtain ⟨V, h1, h2⟩ := hd
  exact ⟨V, fun i hi => by rw [h i hi]; exact h1 i hi, h2⟩
theorem lMk_fr (h4 : gI s' 49 4 = gI s 49 4) (h5 : ∀ i, i < 17956 → gI s' 50 i = gI s 50 i) (hc : c ≤ c') (h : lMk c s) : lMk c' s' := by
  obtain ⟨S0, a1, a2, a3⟩ := h
  exact ⟨S0, by omega, by rw [h4]; exact a2, fun i hi => by rw [h5 i hi]; exact a3 i hi⟩
theorem yLI_fr (h : ∀ k i, k < 67 → ¬ xTr k i → gI s' k i = gI s k i) (hc : c ≤ c') (hl : yLI c S s) : yLI c' S s' := by
  obtain ⟨⟨a1, a2⟩, ⟨b1, b2, b3⟩, d1, ⟨tn, e1, e2, e3⟩, f1, g1, i1, j1⟩ := hl
  have hx : ∀ k i, k < 67 → (k < 7 ∨ 22 ≤ k ∧ k ≤ 36 ∨ k = 49 ∧ i = 4 ∨ k = 50 ∨ 56 ≤ k ∧ k ≤ 63) → gI s' k i = gI s k i := fun k i h1 h2 => h k i h1 (fun e => by unfold xTr at e; omega)
  refine ⟨⟨by rw [hx 0 15 (by omega) (by omega)]; exact a1, by rw [hx 0 16 (by omega) (by omega)]; exact a2⟩, ⟨lBy_fr (fun k i hk => hx k i (by omega) (by omega)) b1, lBy_fr (fun k i hk => hx k i (by omega) (by omega)) b2, lBy_fr (fun k i hk => hx k i (by omega) (by omega)) b3⟩, by rw [hx 56 1 (by omega) (by omega)]; exact d1, ⟨tn, by omega, lDl_fr (fun i _ => hx 57 i (by omega) (by omega)) e2, fun hd => by rw [hx 58 6 (by omega) (by omega)]; exact e3 hd⟩, lFi_fr (fun k i h1 h2 => hx k i (by omega) (by omega)) f1, lSc_fr (fun k i h1 h2 => hx k i (by omega) (by omega)) g1, fun i hi j hj => by rw [hx 57 _ (by omega) (by omega)]; exact i1 i hi j hj, lMk_fr (hx 49 4 (by omega) (by omega)) (fun i _ => hx 50 i (by omega) (by omega)) hc j1⟩
theorem yMI_fr (h : ∀ k i, 67 ≤ k → ¬ xTm k i → gI s' k i = gI s k i) (hl : yMI S s) : yMI S s' := by
  obtain ⟨⟨a1, a2⟩, ⟨b1, b2⟩, ⟨d1, d2⟩, ⟨e1, e2⟩, f1, g1, i1⟩ := hl
  have hx : ∀ k i, (k = 68 ∨ 135 ≤ k ∧ k ≤ 143 ∨ k = 67 ∧ i ≤ 13 ∧ i ≠ 0) → gI s' k i = gI s k i := fun k i h2 => h k i (by omega) (fun e => by unfold xTm at e; omega)
  refine ⟨⟨by rw [hx 67 3 (by omega)]; exact a1, by rw [hx 67 11 (by omega)]; exact a2⟩, ⟨by rw [hx 67 2 (by omega)]; exact b1, fun i hi => by rw [hx 68 i (by omega)]; exact b2 i hi⟩, ⟨by rw [hx 67 8 (by omega)]; exact d1, fun i hi => by rw [hx 135 i (by omega)]; exact d2 i hi⟩, ⟨by rw [hx 67 10 (by omega)]; exact e1, fun i hi => by rw [hx 136 i (by omega)]; exact e2 i hi⟩, by rw [hx 67 12 (by omega)]; exact f1, mFi_fr (hx 67 13 (by omega)) (fun k i h1 h2 => hx k i (by omega)) g1, fun i hi j hj => by rw [hx 143 _ (by omega)]; exact i1.1 i hi j hj, fun i hi => by rw [hx 143 _ (by omega)]; exact i1.2 i hi⟩
/-- a lake's method leaves the reference's state, and the other way round -/
theorem yMI_lk (h : xLk s s') (hl : yMI S s) : yMI S s' := yMI_fr (fun k i hk _ => h k i hk) hl
theorem yLI_mo {n : Nat} (h : xMk n s s') (hl : yLI c S s) : yLI c S s' := yLI_fr (fun k i hk _ => h.1 k i hk) (Nat.le_refl _) hl
theorem yLI_c (hc : c ≤ c') (hl : yLI c S s) : yLI c' S s := yLI_fr (fun _ _ _ _ => rfl) hc hl
theorem yUp_w (h : yWf S) : yLw (yUp S) := by
  unfold yUp
  split
  · refine ⟨⟨by show 0 ≤ 40; omega, fun i hi => absurd hi (Nat.not_lt_zero _)⟩, fun i j hi => absurd hi (Nat.not_lt_zero _), fun i hi => absurd hi (Nat.not_lt_zero _), fun i hi => absurd hi (Nat.not_lt_zero _)⟩
  · exact h.2.2.2.2
theorem yUp_f (h : S.dn = false) : yUp S = S.fs := by
  unfold yUp
  rw [if_neg (by rw [h]; decide)]
end
