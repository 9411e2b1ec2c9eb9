/-! a text is read into the lake's tables, behind all versions -/
/-- cells that a reading may change -/
def xRg (b pb qb : Nat) (k i : Nat) : Prop := (23 ≤ k ∧ k ≤ 27 ∧ b ≤ i) ∨ (28 ≤ k ∧ k ≤ 31 ∧ pb ≤ i) ∨ (k = 33 ∧ qb ≤ i) ∨ (k = 22 ∧ (i = 14 ∨ i = 15)) ∨ (k = 32 ∧ i = 1) ∨ (7 ≤ k ∧ k ≤ 21) ∨ (37 ≤ k ∧ k ≤ 40)
section
variable {b pb qb b0 pb0 qb0 : Nat} {q : kP} {s s' : aT} {L : List yFi}
theorem lV_rg (h1 : ∀ k i, 23 ≤ k → k ≤ 27 → i < b → gI s' k i = gI s k i) (h2 : ∀ k i, 28 ≤ k → k ≤ 31 → i < pb → gI s' k i = gI s k i) (h3 : ∀ i, i < qb → gI s' 33 i = gI s 33 i) (hv : lV b0 pb0 qb0 q s) (hb6 : 6 ≤ b) (e1 : b0 + (q.1 1 - 6) ≤ b) (e2 : pb0 + q.1 3 ≤ pb) (e3 : qb0 + q.1 6 ≤ qb) {P : Nat} (hP : gI s' 32 1 = nI P ∧ qb ≤ P ∧ P ≤ 72704) : lV b0 pb0 qb0 q s' := by
  obtain ⟨a1, a2, a3, a4, a5, a6⟩ := hv
  refine ⟨a1, ⟨P, hP.1, by omega, hP.2.2⟩, fun x hx => by rw [h1 23 x (by omega) (by omega) (by omega)]; exact a3 x hx, fun x h6 hx => ?_, fun j hj => ?_, fun j hj => by rw [h3 _ (by omega)]; exact a6 j hj⟩
  · have hlo : lo b0 x < b := by unfold lo; rw [if_neg (by omega)]; omega
    rw [h1 23 _ (by omega) (by omega) hlo, h1 24 _ (by omega) (by omega) hlo, h1 25 _ (by omega) (by omega) hlo, h1 26 _ (by omega) (by omega) hlo, h1 27 _ (by omega) (by omega) hlo]
    exact a4 x h6 hx
  · rw [h2 28 _ (by omega) (by omega) (by omega), h2 29 _ (by omega) (by omega) (by omega), h2 30 _ (by omega) (by omega) (by omega), h2 31 _ (by omega) (by omega) (by omega)]
    exact a5 j hj
/-- all versions are as they were -/
theorem lSc_vs (hL : yLw L) (h : lSc L s) (hx : ∀ k i, 22 ≤ k → k ≤ 36 → ¬ xRg (yB0 L L.length) (yP0 L L.length) (yQ0 L L.length) k i → gI s' k i = gI s k i) {P : Nat} (hP : gI s' 32 1 = nI P ∧ yQ0 L L.length ≤ P ∧ P ≤ 72704) : (∀ t, t < 6 → gI s' 23 t = nI t) ∧ ∀ i, i < L.length → (L.getD i yF0).2.2.2.2.1 = 0 → lV (yB0 L i) (yP0 L i) (yQ0 L i) (yQ (L.getD i yF0).2.2.2.2.2) s' := by
  have h6 := (yB0_le hL L.length (Nat.le_refl _)).1
  have g1 : ∀ k i, 23 ≤ k → k ≤ 27 → i < yB0 L L.length → gI s' k i = gI s k i := fun k i a b e => hx k i (by omega) (by omega) (fun x => by unfold xRg at x; omega)
  refine ⟨fun t ht => by rw [g1 23 t (by omega) (by omega) (by omega)]; exact h.2.1 t ht, fun i hi h0 => ?_⟩
  have hv := (h.2.2.2 i hi h0).2.2
  have hm := yB0_mo hL (L.length - (i + 1)) (i + 1) (by omega)
  rw [show i + 1 + (L.length - (i + 1)) = L.length by omega] at hm
  have e1 : yB0 L (i + 1) = yB0 L i + (if (L.getD i yF0).2.2.2.2.1 = 0 then (yQ (L.getD i yF0).2.2.2.2.2).1 1 - 6 else 0) := rfl
  have e2 : yP0 L (i + 1) = yP0 L i + (if (L.getD i yF0).2.2.2.2.1 = 0 then (yQ (L.getD i yF0).2.2.2.2.2).1 3 else 0) := rfl
  have e3 : yQ0 L (i + 1) = yQ0 L i + (if (L.getD i yF0).2.2.2.2.1 = 0 then (yQ (L.getD i yF0).2.2.2.2.2).1 6 else 0) := rfl
  rw [if_pos h0] at e1 e2 e3
  exact lV_rg (b := yB0 L L.length) (pb := yP0 L L.length) (qb := yQ0 L L.length) g1 (fun k i a b e => hx k i (by omega) (by omega) (fun x => by unfold xRg at x; omega)) (fun i e => hx 33 i (by omega) (by omega) (fun x => by unfold xRg at x; omega)) hv h6 (by omega) (by omega) (by omega) hP
/-- what a reading leaves -/
def lRead (L : List yFi) (s s' : aT) : Prop := (∀ k i, k < 67 → ¬ xRg (yB0 L L.length) (yP0 L L.length) (yQ0 L L.length) k i → gI s' k i = gI s k i) ∧ xLk s s'
/-- the drop: the tables are as before -/
theorem Sc_dr (hL : yLw L) (h : lSc L s) (hx : ∀ k i, 22 ≤ k → k ≤ 36 → ¬ xRg (yB0 L L.length) (yP0 L L.length) (yQ0 L L.length) k i → gI s' k i = gI s k i) (d : Nat) : ∃ s2, fSc_drop d s' = rV s2 ∧ lSc L s2 ∧ (∀ k i, ¬ (k = 22 ∧ (i = 14 ∨ i = 15) ∨ k = 32 ∧ i = 1) → gI s2 k i = gI s' k i) := by
  have g : ∀ i, i = 11 ∨ i = 16 ∨ i = 17 → gI s' 22 i = gI s 22 i := fun i hi => hx 22 i (by omega) (by omega) (fun x => by unfold xRg at x; omega)
  have hroom := yB0_room hL (Nat.le_refl L.length)
  have e : fSc_drop d s' = rV (pI (pI (pI s' 22 14 (nI (yB0 L L.length))) 22 15 (nI (yP0 L L.length))) 32 1 (nI (yQ0 L L.length))) := by
    refine eSc_drop d _ _ ?_
    simp only [wI_eq, gI_pI]
    rw [if_neg (by omega), if_neg (by omega), if_neg (by omega), g 11 (by omega), g 16 (by omega), g 17 (by omega), h.1.1.1, h.1.2.1.1, h.1.2.2.1]
    rfl
  have ho : ∀ k i, ¬ (k = 22 ∧ (i = 14 ∨ i = 15) ∨ k = 32 ∧ i = 1) → gI (pI (pI (pI s' 22 14 (nI (yB0 L L.length))) 22 15 (nI (yP0 L L.length))) 32 1 (nI (yQ0 L L.length))) k i = gI s' k i := fun k i hk => by
    rw [gI_pI, if_neg (by omega), gI_pI, if_neg (by omega), gI_pI, if_neg (by omega)]
  refine ⟨_, e, ?_, ho⟩
  have p32 : gI (pI (pI (pI s' 22 14 (nI (yB0 L L.length))) 22 15 (nI (yP0 L L.length))) 32 1 (nI (yQ0 L L.length))) 32 1 = nI (yQ0 L L.length) := by rw [gI_pI, if_pos ⟨rfl, rfl⟩]
  have hv := lSc_vs (s' := pI (pI (pI s' 22 14 (nI (yB0 L L.length))) 22 15 (nI (yP0 L L.length))) 32 1 (nI (yQ0 L L.length))) hL h (fun k i hk hk2 hn => by
    rw [ho k i (fun e => hn (by unfold xRg; omega))]
    exact hx k i hk hk2 hn) ⟨p32, Nat.le_refl _, by omega⟩
  have o34 : ∀ k i, 34 ≤ k → k ≤ 36 → gI (pI (pI (pI s' 22 14 (nI (yB0 L L.length))) 22 15 (nI (yP0 L L.length))) 32 1 (nI (yQ0 L L.length))) k i = gI s k i := fun k i h1 h2 => by
    rw [ho k i (by omega)]
    exact hx k i (by omega) (by omega) (fun x => by unfold xRg at x; omega)
  refine ⟨⟨⟨?_, ?_⟩, ⟨?_, ?_⟩, ⟨?_, p32⟩⟩, hv.1, fun x hx2 => by rw [o34 34 x (by omega) (by omega)]; exact h.2.2.1 x hx2, fun i hi h0 => ⟨?_, ?_, hv.2 i hi h0⟩⟩
  · rw [ho 22 11 (by omega), g 11 (by omega)]; exact h.1.1.1
  · rw [gI_pI, if_neg (by omega), gI_pI, if_neg (by omega), gI_pI, if_pos ⟨rfl, rfl⟩]
  · rw [ho 22 16 (by omega), g 16 (by omega)]; exact h.1.2.1.1
  · rw [gI_pI, if_neg (by omega), gI_pI, if_pos ⟨rfl, rfl⟩]
  · rw [ho 22 17 (by omega), g 17 (by omega)]; exact h.1.2.2.1
  · rw [o34 35 _ (by omega) (by omega)]; exact (h.2.2.2 i hi h0).1
  · rw [o34 36 _ (by omega) (by omega)]; exact (h.2.2.2 i hi h0).2.1
end
theorem lS_out {b pb qb k i : Nat} {q : kP} {s : aT} (h37 : ¬ (37 ≤ k ∧ k ≤ 40)) (hc : ¬ (23 ≤ k ∧ k ≤ 27 ∧ b ≤ i) ∧ ¬ (28 ≤ k ∧ k ≤ 31 ∧ pb ≤ i) ∧ ¬ (k = 33 ∧ qb ≤ i) ∧ ¬ (k = 22 ∧ (i = 14 ∨ i = 15)) ∧ ¬ (k = 32 ∧ i = 1)) : gI (lS b pb qb q s) k i = gI s k i := by
  by_cases hf : k < 22 ∨ 34 ≤ k ∧ k ≤ 36 ∨ 41 ≤ k
  · exact lS_far hf
  · by_cases h22 : k = 22
    · subst h22
      exact lS_22 (by omega)
    · by_cases h32 : k = 32
      · subst h32
        have : ¬ i = 1 := by omega
        simp [gI, lS, this]
      · by_cases h33 : k = 33
        · subst h33
          have : ¬ (qb ≤ i ∧ i < qb + q.1 6) := by omega
          simp [gI, lS, this]
        · by_cases h27 : k ≤ 27
          · have hn : ¬ (b ≤ i ∧ i < b + (q.1 1 - 6)) := by omega
            rcases (show k = 23 ∨ k = 24 ∨ k = 25 ∨ k = 26 ∨ k = 27 by omega) with h | h | h | h | h <;> subst h <;> simp [gI, lS, hn]
          · have hn : ¬ (pb ≤ i ∧ i < pb + q.1 3) := by omega
            rcases (show k = 28 ∨ k = 29 ∨ k = 30 ∨ k = 31 by omega) with h | h | h | h <;> subst h <;> simp [gI, lS, hn]
/-- a text that was parsed -/
theorem lT_J {s : aT} {p : jP} {n : Nat} : lT (lJ (jTo p n) s) p.2.2.2.1 p.2.2.2.2 p.2.1 p.2.2.1 := by
  refine ⟨fun i hi => ⟨lJ_K (p := jTo p n) hi, lJ_F (p := jTo p n) hi, ?_, ?_, lJ_X (p := jTo p n) hi, fun h3 => lJ_N (p := jTo p n) hi h3⟩, fun i hi => lJ_L (p := jTo p n) hi, lJ_l (p := jTo p n)⟩
  · by_cases h2 : p.2.2.2.1 0 i = 2
    · rw [if_pos h2]; exact lJ_S (p := jTo p n) hi h2
    · rw [if_neg h2]; exact lJ_I (p := jTo p n) hi h2
  · by_cases h3 : p.2.2.2.1 0 i = 3
    · rw [if_pos h3]
      have hi' : i < (jTo p n).2.1 := hi
      have h3' : (jTo p n).2.2.2.1 0 i = 3 := h3
      simp [gI, lJ, hi', h3']
    · rw [if_neg h3]; exact lJ_Z (p := jTo p n) hi h3
/-- reading, in the lake: parse, readSchema -/
theorem Lk_rd {L : List yFi} {s : aT} (hL : yLw L) (h : lSc L s) {C : List Nat} {a fr : Nat} (ha : a = 2 ∨ a = 57) (hC : C.length ≤ 4096) (hb : kBt C) (hl : fr + C.length ≤ alen a) (hA : ∀ i, i < C.length → gI s a (fr + i) = mI (C.getD i 0)) (d : Nat) : ∃ s1 s2, fTx_parse (d + 89) a (nI fr) (nI C.length) s = rV s1 ∧ lRead L s s2 ∧ (match kTx (yB C) C.length with
    | .ok (p, q, x) => fSr_readSchema (d + 89) s1 = rI (nI (lo (yB0 L L.length) x)) s2 ∧ gI s2 37 0 = 0 ∧ gI s2 37 1 = -1 ∧ gI s2 13 9 = nI p.1 ∧ lV (yB0 L L.length) (yP0 L L.length) (yQ0 L L.length) (kVe p.2.2.2.1 p.2.2.2.2 q) s2 ∧ gI s2 22 14 = nI (yB0 L L.length + ((kVe p.2.2.2.1 p.2.2.2.2 q).1 1 - 6)) ∧ gI s2 22 15 = nI (yP0 L L.length + (kVe p.2.2.2.1 p.2.2.2.2 q).1 3) ∧ gI s2 32 1 = nI (yQ0 L L.length + (kVe p.2.2.2.1 p.2.2.2.2 q).1 6)
    | .error (k, e) => fSr_readSchema (d + 89) s1 = rI (-1) s2 ∧ gI s2 37 0 = nI k ∧ gI s2 37 1 = nI e) := by
  have hroom := yB0_room hL (Nat.le_refl L.length)
  have hBt := yB_bt hb
  have hp := Tx_parse (s := s) (a := a) (B := yB C) (n := C.length) (fr := fr) (d + 9) ha hC hl (fun i hi => hA i hi) hBt
  rw [show d + 9 + 80 = d + 89 by omega] at hp
  -- what a parse leaves
  have far : ∀ (p : jP) (x y z : Int32) k i, 22 ≤ k ∨ k < 13 → gI (lJ p (lPs s a fr C.length x y z)) k i = gI s k i := fun p x y z k i hk => by
    rw [lJ_far (by omega)]
    unfold lPs lP0
    rw [gI_pI, if_neg (by omega), gI_pI, if_neg (by omega), gI_pI, if_neg (by omega), gI_pI, if_neg (by omega), gI_pI, if_neg (by omega), gI_pI, if_neg (by omega)]
    rfl
  have f13 : ∀ (p : jP) (x y z : Int32), gI (lJ p (lPs s a fr C.length x y z)) 13 8 = y ∧ gI (lJ p (lPs s a fr C.length x y z)) 13 9 = z ∧ gI (lJ p (lPs s a fr C.length x y z)) 13 10 = x := fun p x y z => by
    rw [lJ_f (by omega), lJ_f (by omega), lJ_f (by omega)]
    unfold lPs
    simp [gI_pI]
  have lOo : ∀ (t : aT) k i, (∀ k i, 22 ≤ k ∨ k < 13 → gI t k i = gI s k i) → (22 ≤ k ∨ k < 13) → ¬ (37 ≤ k ∧ k ≤ 40) → gI (lO (yB0 L L.length) (yP0 L L.length) (yQ0 L L.length) t) k i = gI s k i := fun t k i ht hk h37 => by
    unfold lO
    rw [gI_pI, if_neg (by omega), gI_pI, if_neg (by omega), gI_pI, if_neg (by omega), gI_pI, if_neg (by omega), gI_pI]
    by_cases h1 : k = 22 ∧ i = 17
    · rw [if_pos h1, h1.1, h1.2, h.1.2.2.1]
    · rw [if_neg h1, gI_pI]
      by_cases h2 : k = 22 ∧ i = 16
      · rw [if_pos h2, h2.1, h2.2, h.1.2.1.1]
      · rw [if_neg h2, gI_pI]
        by_cases h3 : k = 22 ∧ i = 11
        · rw [if_pos h3, h3.1, h3.2, h.1.1.1]
        · rw [if_neg h3, ht k i hk]
  cases hj : jRd (yB C) C.length with
  | error e =>
    rw [hj] at hp
    obtain ⟨p1, z, hp⟩ := hp
    have hk : kTx (yB C) C.length = .error (1, e) := by unfold kTx; rw [hj]
    rw [hk]
    obtain ⟨g8, g9, g10⟩ := f13 p1 (nI e) (-1) z
    have hf := far p1 (nI e) (-1) z
    generalize lJ p1 (lPs s a fr C.length (nI e) (-1) z) = s1 at *
    have o13 : ∀ i, gI (lO (yB0 L L.length) (yP0 L L.length) (yQ0 L L.length) s1) 13 i = gI s1 13 i := fun i => by
      unfold lO
      simp only [gI_pI]
      rw [if_neg (by omega), if_neg (by omega), if_neg (by omega), if_neg (by omega), if_neg (by omega), if_neg (by omega), if_neg (by omega)]
    refine ⟨s1, pI (pI (lO (yB0 L L.length) (yP0 L L.length) (yQ0 L L.length) s1) 37 0 1) 37 1 (nI e), hp, ⟨fun k i hk67 hn => ?_, fun k i hk67 => ?_⟩, ?_, by rw [gI_pI, if_neg (by omega), gI_pI, if_pos ⟨rfl, rfl⟩]; rfl, by rw [gI_pI, if_pos ⟨rfl, rfl⟩]⟩
    · have hn2 : ¬ (7 ≤ k ∧ k ≤ 21) ∧ ¬ (37 ≤ k ∧ k ≤ 40) := ⟨fun e => hn (by unfold xRg; omega), fun e => hn (by unfold xRg; omega)⟩
      rw [gI_pI, if_neg (by omega), gI_pI, if_neg (by omega), lOo s1 k i hf (by omega) hn2.2]
    · rw [gI_pI, if_neg (by omega), gI_pI, if_neg (by omega), lOo s1 k i hf (by omega) (by omega)]
    · refine eSr_readSchema (d + 88) _ _ ?_
      have hopen : fSc_open (d + 88) s1 = rV (pI (pI (pI s1 22 11 (nI (yB0 L L.length))) 22 16 (nI (yP0 L L.length))) 22 17 (nI (yQ0 L L.length))) := by
        refine eSc_open (d + 88) _ _ ?_
        simp only [wI_eq, gI_pI]
        rw [if_neg (by omega), if_neg (by omega), if_neg (by omega), hf 22 14 (by omega), hf 22 15 (by omega), hf 32 1 (by omega), h.1.1.2, h.1.2.1.2, h.1.2.2.2]
        rfl
      have hfor : ∀ t, fDf_forget (d + 88) t = rV (pI t 38 4 0) := fun t => eDf_forget (d + 88) _ _ rfl
      rw [hopen, cG_V, hfor, cG_V, wI_eq, wI_eq, wI_eq]
      have e0 : pI (pI (pI (pI (pI (pI (pI s1 22 11 (nI (yB0 L L.length))) 22 16 (nI (yP0 L L.length))) 22 17 (nI (yQ0 L L.length))) 38 4 0) 37 5 0) 37 0 0) 37 1 (-1) = lO (yB0 L L.length) (yP0 L L.length) (yQ0 L L.length) s1 := rfl
      rw [e0, o13, g8, if_neg (fun e => e rfl), wI_eq, wI_eq, gI_pI, if_neg (by omega), o13, g10]
      rfl
  | ok r =>
    obtain ⟨p, v, e⟩ := r
    rw [hj] at hp
    obtain ⟨hv0, he, hpe, hG⟩ := jRd_gt hC hj
    subst hv0
    subst he
    have hp : fTx_parse (d + 89) a (nI fr) (nI C.length) s = rV (lJ (jTo p C.length) (lPs s a fr C.length (-1) (nI 0) (nI p.1))) := hp
    obtain ⟨g8, g9, g10⟩ := f13 (jTo p C.length) (-1) (nI 0) (nI p.1)
    have hf := far (jTo p C.length) (-1) (nI 0) (nI p.1)
    have hT := lT_J (s := lPs s a fr C.length (-1) (nI 0) (nI p.1)) (p := p) (n := C.length)
    generalize lJ (jTo p C.length) (lPs s a fr C.length (-1) (nI 0) (nI p.1)) = s1 at *
    have o13 : ∀ i, gI (lO (yB0 L L.length) (yP0 L L.length) (yQ0 L L.length) s1) 13 i = gI s1 13 i := fun i => by
      unfold lO
      simp only [gI_pI]
      rw [if_neg (by omega), if_neg (by omega), if_neg (by omega), if_neg (by omega), if_neg (by omega), if_neg (by omega), if_neg (by omega)]
    have hrs := Sr_rs (s := s1) (b := yB0 L L.length) (pb := yP0 L L.length) (qb := yQ0 L L.length) d hT hG g8 (by rw [hf 22 14 (by omega)]; exact h.1.1.2) (by rw [hf 22 15 (by omega)]; exact h.1.2.1.2) (by rw [hf 32 1 (by omega)]; exact h.1.2.2.2) hroom.1 hroom.2.1 (fun t ht => by rw [hf 23 t (by omega)]; exact h.2.1 t ht) (by omega) (by omega)
    cases hs : kSr p.2.2.2.1 p.2.2.2.2 with
    | error x =>
      obtain ⟨k, e⟩ := x
      rw [hs] at hrs
      obtain ⟨t, ht, hg⟩ := hrs
      have hk : kTx (yB C) C.length = .error (k, e) := by unfold kTx; rw [hj]; show (match kSr p.2.2.2.1 p.2.2.2.2 with | .error x => _ | .ok (q, x) => _) = _; rw [hs]
      rw [hk]
      have hgo := hg.1
      refine ⟨s1, t, hp, ⟨fun k' i hk67 hn => ?_, fun k' i hk67 => ?_⟩, ht, ?_, ?_⟩
      · have hn2 : ¬ (7 ≤ k' ∧ k' ≤ 21) ∧ ¬ (37 ≤ k' ∧ k' ≤ 40) := ⟨fun e => hn (by unfold xRg; omega), fun e => hn (by unfold xRg; omega)⟩
        rw [hgo k' i (fun e => hn (by unfold lGa at e; unfold xRg; omega))]
        unfold lF
        rw [gI_pI, if_neg (by omega), gI_pI, if_neg (by omega), lOo s1 k' i hf (by omega) hn2.2]
      · rw [hgo k' i (fun e => by unfold lGa at e; omega)]
        unfold lF
        rw [gI_pI, if_neg (by omega), gI_pI, if_neg (by omega), lOo s1 k' i hf (by omega) (by omega)]
      · rw [hgo 37 0 (fun e => by unfold lGa at e; omega)]
        unfold lF
        rw [gI_pI, if_neg (by omega), gI_pI, if_pos ⟨rfl, rfl⟩]
      · rw [hgo 37 1 (fun e => by unfold lGa at e; omega)]
        unfold lF
        rw [gI_pI, if_pos ⟨rfl, rfl⟩]
    | ok x =>
      obtain ⟨q, x⟩ := x
      rw [hs] at hrs
      have hk : kTx (yB C) C.length = .ok (p, q, x) := by unfold kTx; rw [hj]; show (match kSr p.2.2.2.1 p.2.2.2.2 with | .error x => _ | .ok (q, x) => _) = _; rw [hs]
      rw [hk]
      obtain ⟨_, _, hg, hso, _⟩ := kTx_ok hC hk
      have hdk : kDk p.2.2.2.1 p.2.2.2.2 q (q.1 4) 0 = 0 := by
        unfold kSr at hs
        split at hs
        · cases hs
        · rename_i q2 x2 hk2
          split at hs
          · rename_i hd
            cases hs
            exact hd
          · cases hs
      have hsq := kVe_sq (T := p.2.2.2.1) (N := p.2.2.2.2) (q0 := q)
      have h6 := kVe_6 hG hg hdk
      have c3 := hsq.2.2.1 3 (by omega)
      have b3 := hg.2.2.2.2.2.2.2.1
      have b6 := hg.2.2.2.2.2.2.2.2.1
      have hrs : fSr_readSchema (d + 89) s1 = rI (nI (lo (yB0 L L.length) x)) (lS (yB0 L L.length) (yP0 L L.length) (yQ0 L L.length) (kVe p.2.2.2.1 p.2.2.2.2 q) (lO (yB0 L L.length) (yP0 L L.length) (yQ0 L L.length) s1)) := hrs
      have hcx : lCx (yB0 L L.length) (yP0 L L.length) (yQ0 L L.length) (lO (yB0 L L.length) (yP0 L L.length) (yQ0 L L.length) s1) := ⟨hroom.1, hroom.2.1, by rw [lOo s1 22 11 hf (by omega) (by omega)]; exact h.1.1.1, fun t ht => by rw [lOo s1 23 t hf (by omega) (by omega)]; exact h.2.1 t ht, by omega, by omega⟩
      refine ⟨s1, _, hp, ⟨fun k' i hk67 hn => ?_, fun k' i hk67 => ?_⟩, hrs, ?_, ?_, ?_, lV_S hcx (kVe_iv hg.1) (by omega) (by omega), lS_ns, lS_np, lS_pool⟩
      · have hn2 : ¬ (7 ≤ k' ∧ k' ≤ 21) ∧ ¬ (37 ≤ k' ∧ k' ≤ 40) := ⟨fun e => hn (by unfold xRg; omega), fun e => hn (by unfold xRg; omega)⟩
        have e1 := lOo s1 k' i hf (by omega) hn2.2
        rw [← e1]
        have hc : ¬ (23 ≤ k' ∧ k' ≤ 27 ∧ yB0 L L.length ≤ i) ∧ ¬ (28 ≤ k' ∧ k' ≤ 31 ∧ yP0 L L.length ≤ i) ∧ ¬ (k' = 33 ∧ yQ0 L L.length ≤ i) ∧ ¬ (k' = 22 ∧ (i = 14 ∨ i = 15)) ∧ ¬ (k' = 32 ∧ i = 1) := ⟨fun e => hn (by unfold xRg; omega), fun e => hn (by unfold xRg; omega), fun e => hn (by unfold xRg; omega), fun e => hn (by unfold xRg; omega), fun e => hn (by unfold xRg; omega)⟩
        exact lS_out (by omega) hc
      · rw [lS_far (by omega), lOo s1 k' i hf (by omega) (by omega)]
      · rw [lS_37 (by omega)]
        unfold lO
        simp [gI_pI]
      · rw [lS_37 (by omega)]
        unfold lO
        simp [gI_pI]
      · rw [lS_far (by omega), o13, g9]
