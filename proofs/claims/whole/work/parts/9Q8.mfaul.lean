/-! copy: the reference looks at all rows -/
/-- letters come over into a cell -/
def oPx (c : Nat) (C : List Nat) (j : Nat) (t : aT) : aT := (fun k i => if k = c ∧ i < j then mI (C.getD i 0) else t.1 k i, t.2)
section
variable {s : aT} {c : Nat} {C : List Nat}
theorem oPx_I {j k i : Nat} : gI (oPx c C j s) k i = if k = c ∧ i < j then mI (C.getD i 0) else gI s k i := rfl
theorem oPx_o {j k i : Nat} (h : k ≠ c) : gI (oPx c C j s) k i = gI s k i := by rw [oPx_I, if_neg (fun e => h e.1)]
theorem oPx_s {j : Nat} : pI (oPx c C j s) c j (mI (C.getD j 0)) = oPx c C (j + 1) s := by
  refine aT_ext (fun k i => ?_) (fun _ _ => rfl) rfl
  rw [gI_pI, oPx_I, oPx_I]
  by_cases h : k = c ∧ i = j
  · rw [if_pos h, if_pos (by omega), h.2]
  · rw [if_neg h]
    by_cases h2 : k = c ∧ i < j
    · rw [if_pos h2, if_pos (by omega)]
    · rw [if_neg h2, if_neg (by omega)]
theorem oPx_0 : oPx c C 0 s = s := by
  refine aT_ext (fun k i => ?_) (fun _ _ => rfl) rfl
  rw [oPx_I, if_neg (by omega)]
theorem Mo_f8 (d : Nat) {x1 z3 : Int32} (hl : C.length ≤ 4096) (hb : kBt C) (h : ∀ i, i < C.length → gI s 68 i = mI (C.getD i 0)) : ∀ k j, j + k = C.length → ∀ R, fMo_isFaulty_23 (d + 1) x1 (nI C.length) z3 0 (oPx 148 C C.length s) = some R → fMo_isFaulty_8 (d + 1) x1 (nI C.length) z3 (nI j) (oPx 148 C j s) = some R := by
  intro k
  induction k with
  | zero =>
    intro j hj R hR
    refine eMo_isFaulty_8 d _ _ _ _ _ _ ?_
    rw [if_pos (show nI C.length ≤ nI j by rw [nI_leE (by omega) (by omega)]; omega), show j = C.length by omega]
    exact hR
  | succ k ih =>
    intro j hj R hR
    refine eMo_isFaulty_8 d _ _ _ _ _ _ ?_
    rw [if_neg (show ¬ nI C.length ≤ nI j by rw [nI_leE (by omega) (by omega)]; omega), ldI_n (by omega) (by omega), oPx_o (by omega), h j (by omega), mI_nar _ (kBt_gd hb j), stI_n (by omega) (by omega), oPx_s, nI_add1]
    exact ih (j + 1) (by omega) R hR
theorem Mo_f23 (d : Nat) {z2 z3 : Int32} (hl : C.length ≤ 4096) (hb : kBt C) (h : ∀ i, i < C.length → gI s 147 i = mI (C.getD i 0)) : ∀ k j, j + k = C.length → ∀ R, wI (oPx 68 C C.length s) 67 2 (nI C.length) (fun s1 => cN (fMo_lookAtRows d 113 0 s1) (kI fun v3 s2 => if 0 ≤ v3 then fMo_isFaulty_48 (d + 1) z2 z3 0 s2 else fMo_isFaulty_48 (d + 1) z2 z3 1 s2)) = some R → fMo_isFaulty_23 (d + 1) (nI C.length) z2 z3 (nI j) (oPx 68 C j s) = some R := by
  intro k
  induction k with
  | zero =>
    intro j hj R hR
    refine eMo_isFaulty_23 d _ _ _ _ _ _ ?_
    rw [if_pos (show nI C.length ≤ nI j by rw [nI_leE (by omega) (by omega)]; omega), show j = C.length by omega]
    exact hR
  | succ k ih =>
    intro j hj R hR
    refine eMo_isFaulty_23 d _ _ _ _ _ _ ?_
    rw [if_neg (show ¬ nI C.length ≤ nI j by rw [nI_leE (by omega) (by omega)]; omega), ldI_n (by omega) (by omega), oPx_o (by omega), h j (by omega), mI_nar _ (kBt_gd hb j), stI_n (by omega) (by omega), oPx_s, nI_add1]
    exact ih (j + 1) (by omega) R hR
theorem Mo_f57 (d : Nat) {v : Bool} (hl : C.length ≤ 4096) (hb : kBt C) (h : ∀ i, i < C.length → gI s 148 i = mI (C.getD i 0)) : ∀ k j, j + k = C.length → fMo_isFaulty_57 (d + 1) (nI C.length) (uB v) (nI j) (oPx 68 C j s) = rI (uB v) (oPx 68 C C.length s) := by
  intro k
  induction k with
  | zero =>
    intro j hj
    refine eMo_isFaulty_57 d _ _ _ _ _ ?_
    rw [if_pos (show nI C.length ≤ nI j by rw [nI_leE (by omega) (by omega)]; omega), show j = C.length by omega]
    cases v with
    | true => exact rZ1 _
    | false => exact rZ0 _
  | succ k ih =>
    intro j hj
    refine eMo_isFaulty_57 d _ _ _ _ _ ?_
    rw [if_neg (show ¬ nI C.length ≤ nI j by rw [nI_leE (by omega) (by omega)]; omega), ldI_n (by omega) (by omega), oPx_o (by omega), h j (by omega), mI_nar _ (kBt_gd hb j), stI_n (by omega) (by omega), oPx_s, nI_add1]
    exact ih (j + 1) (by omega)
end
section
variable {S : yS} {s : aT}
/-- the reference's isFaulty -/
theorem Mo_fau (hw : yWf S) (h : yMI S s) (h0 : gI s 67 0 = nI 0) {R : List Nat} (hR : yVk R) (w2 : mW 113 (yQ R) (yT R) (yN R) (yM R) (yL R) R.length s) (r2 : gI s 113 31 = nI (yX R)) {N : Nat} {Ms : Nat → List Nat} (hM : ∀ i, i < N → kBt (Ms i) ∧ kWz (yQ R) 114 (yX R) (Ms i) ∧ 0 < (Ms i).length) (hN : 1 ≤ N) (hNl : N ≤ (yCat Ms N).length) (hT : (yCat Ms N).length ≤ 4096) (h147 : ∀ i, i < (yCat Ms N).length → gI s 147 i = mI ((yCat Ms N).getD i 0)) (d : Nat) : ∃ s', fMo_isFaulty (d + 105) (nI (yCat Ms N).length) s = rI (uB (!ySo (yQ R) (yX R) Ms N)) s' ∧ yMI S s' ∧ gI s' 67 0 = nI 0 ∧ xMk (if ySo (yQ R) (yX R) Ms N = true then 0 else 1) s s' ∧ ∀ i, gI s' 147 i = gI s 147 i := by
  obtain ⟨hI, hcd, hy⟩ := yVk_iv hR
  have hbT : kBt (yCat Ms N) := yCat_bt N (fun i hi => (hM i hi).1)
  have htp := h.2.1
  have hkl := kLw_cat hI hcd hy hM N 0 (yCat Ms N).length 0 (0, 0, 0, []) (by omega) hN hNl rfl
  have ekk : kLk (yQ R) (yB (yCat Ms N)) (yCat Ms N).length (yX R) = kLw (yQ R) (yB (yCat Ms N)) (yCat Ms N).length (yX R) (yCat Ms N).length 0 (0, 0, 0, []) := if_neg (by omega)
  rw [← ekk] at hkl
  have hso : (∀ j, j < N → 0 ≤ j → yLok (yQ R) (yX R) (Ms j) = true) ↔ ySo (yQ R) (yX R) Ms N = true := by
    rw [ySo_iff]
    exact ⟨fun e => ⟨hT, fun i hi => e i hi (Nat.zero_le _)⟩, fun e i hi _ => e.2 i hi⟩
  have hlt := hw.1.2
  have hbt := hw.1.1
  generalize yCat Ms N = C at *
  -- the tape goes away, all comes in
  generalize hu : pI (oPx 68 C C.length (oPx 148 S.tp S.tp.length s)) 67 2 (nI C.length) = u at *
  have ou : ∀ k i, k ≠ 68 → k ≠ 148 → ¬ (k = 67 ∧ i = 2) → gI u k i = gI s k i := fun k i a b e => by rw [← hu, gI_pI, if_neg e, oPx_o a, oPx_o b]
  have u148 : ∀ i, i < S.tp.length → gI u 148 i = mI (S.tp.getD i 0) := fun i hi => by rw [← hu, gI_pI, if_neg (by omega), oPx_o (by omega), oPx_I, if_pos ⟨rfl, hi⟩]
  have u68 : ∀ i, i < C.length → gI u 68 i = mI (C.getD i 0) := fun i hi => by rw [← hu, gI_pI, if_neg (by omega), oPx_I, if_pos ⟨rfl, hi⟩]
  have u2 : gI u 67 2 = nI C.length := by rw [← hu, gI_pI, if_pos ⟨rfl, rfl⟩]
  have uL : ∀ k i, gL u k i = gL s k i := fun k i => by rw [← hu]; rfl
  have uc : u.2.2.2 = s.2.2.2 := by rw [← hu]; rfl
  have go : ∀ r, cN (fMo_lookAtRows (d + 104) 113 0 u) (kI fun v3 s2 => if 0 ≤ v3 then fMo_isFaulty_48 (d + 105) (nI S.tp.length) S.pc 0 s2 else fMo_isFaulty_48 (d + 105) (nI S.tp.length) S.pc 1 s2) = some r → fMo_isFaulty (d + 105) (nI C.length) s = some r := fun r hr => by
    refine eMo_isFaulty (d + 104) _ _ _ ?_
    rw [htp.1, h.1.1]
    have h8 := Mo_f8 (d + 104) (s := s) (C := S.tp) (x1 := nI C.length) (z3 := S.pc) hlt hbt htp.2 S.tp.length 0 (by omega) r
    rw [oPx_0] at h8
    refine h8 ?_
    have h23 := Mo_f23 (d + 104) (s := oPx 148 S.tp S.tp.length s) (C := C) (z2 := nI S.tp.length) (z3 := S.pc) hT hbT (fun i hi => by rw [oPx_o (by omega)]; exact h147 i hi) C.length 0 (by omega) r
    rw [oPx_0, wI_eq, hu] at h23
    exact h23 hr
  clear hu
  have hK : mKc 113 (yB C) C.length (yQ R) (yT R) (yM R) (mOp u) := by
    have w2u : mW 113 (yQ R) (yT R) (yN R) (yM R) (yL R) R.length u := mW_frg (fun k i a b => ⟨ou k i (by omega) (by omega) (by omega), uL k i⟩) w2
    refine ⟨w2u.1, ⟨?_, hT, fun i hi => ?_, yB_bt hbT⟩, ?_, w2u.2.2.2.2.1, w2u.2.2.2.2.2.1, w2u.2.2.2.2.2.2.1⟩
    · unfold mOp
      rw [gI_pI, if_neg (by omega), gI_pI, if_neg (by omega), gI_pI, if_neg (by omega)]
      exact u2
    · rw [mOp_o (by omega)]
      exact u68 i hi
    · exact (mW_frc (fun k i a b => mOp_o (by omega)) (fun _ _ => rfl) w2u).2.1
  have hmt := Mo_tape (u := false) (s := u) hK d hy (by rw [ou 113 31 (by omega) (by omega) (by omega)]; exact r2)
  have m67 : ∀ i, i ≠ 23 → i ≠ 22 → i ≠ 3 → gI (mOp u) 67 i = gI u 67 i := fun i a b e => by
    unfold mOp
    rw [gI_pI, if_neg (by omega), gI_pI, if_neg (by omega), gI_pI, if_neg (by omega)]
  -- all goes away, the tape comes back
  have fin : ∀ (t : aT) (v : Bool) (z : Nat), t.2.2.2 ≤ s.2.2.2 + z → gL t 149 0 = gL s 149 0 → (∀ k i, k ≠ 67 → k ≠ 144 → gI t k i = gI u k i) → (∀ i, i < 22 → i ≠ 3 → gI t 67 i = gI u 67 i) → ∃ s', fMo_isFaulty_48 (d + 105) (nI S.tp.length) S.pc (uB v) t = rI (uB v) s' ∧ yMI S s' ∧ gI s' 67 0 = nI 0 ∧ xMk z s s' ∧ ∀ i, gI s' 147 i = gI s 147 i := fun t v z hz hzg g1 g2 => by
    have ot : ∀ k i, k ≠ 68 → k ≠ 148 → k ≠ 144 → ¬ (k = 67 ∧ (i = 2 ∨ i = 3 ∨ 22 ≤ i)) → gI (oPx 68 S.tp S.tp.length (pI (pI t 67 2 (nI S.tp.length)) 67 3 S.pc)) k i = gI s k i := fun k i a b e f => by
      rw [oPx_o a, gI_pI, if_neg (by omega), gI_pI, if_neg (by omega)]
      by_cases h67 : k = 67
      · rw [h67, g2 i (by omega) (by omega), ou 67 i (by omega) (by omega) (by omega)]
      · rw [g1 k i h67 e, ou k i a b (by omega)]
    refine ⟨oPx 68 S.tp S.tp.length (pI (pI t 67 2 (nI S.tp.length)) 67 3 S.pc), eMo_isFaulty_48 (d + 104) _ _ _ _ _ ?_, ?_, by rw [ot 67 0 (by omega) (by omega) (by omega) (by omega)]; exact h0, ⟨fun k i hk => ot k i (by omega) (by omega) (by omega) (by omega), hz, hzg⟩, fun i => ot 147 i (by omega) (by omega) (by omega) (by omega)⟩
    · rw [wI_eq, wI_eq]
      have h57 := Mo_f57 (d + 104) (s := pI (pI t 67 2 (nI S.tp.length)) 67 3 S.pc) (C := S.tp) (v := v) hlt hbt (fun i hi => by rw [gI_pI, if_neg (by omega), gI_pI, if_neg (by omega), g1 148 i (by omega) (by omega)]; exact u148 i hi) S.tp.length 0 (by omega)
      rw [oPx_0] at h57
      exact h57
    · exact yMI_ch (s := s) (tp := S.tp) (pl := S.pl) (ou := S.ou) (pc := S.pc) (fun k i hk hn => ot k i (fun e => hn (by unfold xTn xTm; omega)) (fun e => hn (by unfold xTn xTm; omega)) (fun e => hn (by unfold xTn xTm; omega)) (fun e => hn (by unfold xTn xTm; omega))) ⟨by rw [oPx_o (by omega), gI_pI, if_neg (by omega), gI_pI, if_pos ⟨rfl, rfl⟩], fun i hi => by rw [oPx_I, if_pos ⟨rfl, hi⟩]⟩ ⟨by rw [ot 67 8 (by omega) (by omega) (by omega) (by omega)]; exact h.2.2.1.1, fun i hi => by rw [ot 135 i (by omega) (by omega) (by omega) (by omega)]; exact h.2.2.1.2 i hi⟩ ⟨by rw [ot 67 10 (by omega) (by omega) (by omega) (by omega)]; exact h.2.2.2.1.1, fun i hi => by rw [ot 136 i (by omega) (by omega) (by omega) (by omega)]; exact h.2.2.2.1.2 i hi⟩ (by rw [oPx_o (by omega), gI_pI, if_pos ⟨rfl, rfl⟩]) h
  by_cases hs : ySo (yQ R) (yX R) Ms N = true
  · rw [if_pos (hso.mpr hs)] at hkl
    obtain ⟨p, hkl⟩ := hkl
    rw [hkl] at hmt
    have hmt : fMo_lookAtRows (d + 104) 113 0 u = rI (nI (0 + N)) (oM false p (mOp u)) := hmt
    obtain ⟨s', f1, f2⟩ := fin (oM false p (mOp u)) false 0 (by show u.2.2.2 ≤ _; omega) (uL 149 0) (fun k i a b => by
      have e : gI (oM false p (mOp u)) k i = gI (mOp u) k i := by
        show (if k = 67 then _ else if k = 144 ∧ false = true ∧ i < p.2.2.2.length then _ else _) = _
        rw [if_neg a, if_neg (fun e => b e.1)]
        rfl
      rw [e, mOp_o a]) (fun i a b => by
      show (if i = 23 then nI p.1 else if i = 26 then nI p.2.1 else if i = 27 then nI p.2.2.1 else if i = 22 ∧ false = true then nI p.2.2.2.length else gI (mOp u) 67 i) = _
      rw [if_neg (by omega), if_neg (by omega), if_neg (by omega), if_neg (by omega)]
      exact m67 i (by omega) (by omega) b)
    rw [hs, if_pos rfl]
    refine ⟨s', go _ ?_, f2⟩
    rw [hmt, cN_I, if_pos (show (0 : Int32) ≤ nI (0 + N) by rw [show (0 : Int32) = nI 0 from rfl, nI_leE (by omega) (by omega)]; omega)]
    exact f1
  · rw [if_neg (fun e => hs (hso.mp e))] at hkl
    obtain ⟨e, hkl⟩ := hkl
    have he := kLk_ek hkl
    rw [hkl] at hmt
    obtain ⟨t', t1, t2⟩ := hmt
    have t1 : fMo_lookAtRows (d + 104) 113 0 u = rI (nEg e.1) (pI t' 67 3 (nI e.2)) := t1
    obtain ⟨s', f1, f2⟩ := fin (pI t' 67 3 (nI e.2)) true 1 (by
      show t'.2.2.2 ≤ _
      rw [t2.2.2.1]
      show u.2.2.2 + 1 ≤ _
      omega) (by
      show gL t' 149 0 = _
      rw [t2.2.1]
      exact uL 149 0) (fun k i a b => by rw [gI_pI, if_neg (by omega), t2.1 k i a b]; exact mOp_o a) (fun i a b => by rw [gI_pI, if_neg (by omega), t2.2.2.2 i (.inl a)]; exact m67 i (by omega) (by omega) b)
    have hsf : ySo (yQ R) (yX R) Ms N = false := by simpa using hs
    rw [hsf, if_neg (by decide)]
    refine ⟨s', go _ ?_, f2⟩
    rw [t1, cN_I, if_neg (nEg_lt he.1 (by have := he.2; omega))]
    exact f1
end
