/-! the lake: a symbol, a default -/
section
variable {A n b1 pb1 qb1 b2 pb2 qb2 m1 m2 c : Nat} {B : Nat → Nat} {q1 q2 : kP} {T1 T2 : Nat → Nat → Nat} {t : aT} {L : List Nat}
/-- a number is told -/
theorem Te_pv (h : lTc A B n c t) (hl : L.length ≤ alen (c + 1)) {d : Nat} (hd : 1 ≤ d) {v : Int64} {e : Nat} : lTl c t (cG (fBy_putVarint d c v (oT e (oB c L t))) (kI fun v3 s2 => if v3 = 0 then rI (-31) s2 else rI 0 s2)) L (kVb v) true e := by
  have hc := h.2.2.2.1
  unfold lTl
  rw [oT_oB (by omega)]
  by_cases hq : L.length + (kVb v).length ≤ alen (c + 1)
  · rw [if_pos hq, if_pos rfl, Ob_vi hd h.2.2.1 hq, cG_I, if_neg (by decide), oT_oB (by omega)]
  · rw [if_neg hq]
    obtain ⟨L', hv⟩ := Ob_viF (t := oT e t) hd h.2.2.1 hl (Nat.lt_of_not_le hq)
    refine ⟨e, L', ?_⟩
    rw [hv, cG_I, if_pos rfl, oT_oB (by omega)]
theorem lTl_go {F G : aRs} {M : List Nat} {b : Bool} {e : Nat} (h : lTl c t F L M b e) (go : ∀ r, F = some r → G = some r) : lTl c t G L M b e := by
  unfold lTl at h ⊢
  by_cases hq : L.length + M.length ≤ alen (c + 1)
  · rw [if_pos hq] at h ⊢
    cases b with
    | true => rw [if_pos rfl] at h ⊢; exact go _ h
    | false =>
      rw [if_neg (by decide)] at h ⊢
      obtain ⟨a', L', h⟩ := h
      exact ⟨a', L', go _ h⟩
  · rw [if_neg hq] at h ⊢
    obtain ⟨a', L', h⟩ := h
    exact ⟨a', L', go _ h⟩
theorem Te_sy41 (h : lTc A B n c t) (hl : L.length ≤ alen (c + 1)) (d : Nat) {k e : Nat} (hk : k < 1000) : lTl c t (fTe_symbol_41 (d + 2) (zI k) (oT e (oB c L t))) L (if k = 0 then [] else kVb (Int64.ofNat (k - 1))) (if k = 0 then false else true) e := by
  by_cases h0 : k = 0
  · rw [if_pos h0, if_pos h0]
    unfold lTl
    rw [if_pos (show L.length + ([] : List Nat).length ≤ _ from hl), if_neg (by decide)]
    refine ⟨e, L, eTe_symbol_41 (d + 1) _ _ _ ?_⟩
    rw [h0, if_neg (fun e => e zI_0)]
    rfl
  · rw [if_neg h0, if_neg h0]
    refine lTl_go (Te_pv (d := d + 1) h hl (by omega)) (fun r hr => eTe_symbol_41 (d + 1) _ _ _ ?_)
    have g3 : gM3 (oT e (oB c L t)) = c := h.2.1
    rw [if_pos (show ¬ zI k = -1 by rw [zI_n1 (by omega)]; exact h0), g3, gC_B h.2.2.1, zI_pos (by omega), nI_long (by omega)]
    exact hr
/-- a symbol -/
theorem Te_sy (h : lTc A B n c t) (h1 : lW b1 pb1 qb1 q1 T1 m1 t) (h2 : lW b2 pb2 qb2 q2 T2 m2 t) (hl : L.length ≤ alen (c + 1)) (d : Nat) {x y a e i : Nat} (hx : x < q1.1 1) (hy : y < q2.1 1) (x10 : q1.2.1 0 x = 10) (y10 : q2.2.1 0 y = 10) (hi : i < q1.2.1 4 x) (hnu : kNu B n a (Int64.ofNat i) e) {M : List Nat} {b : Bool} (hM : if kPk q2 q1 y x i ≠ 0 then M = kVb (Int64.ofNat (kPk q2 q1 y x i - 1)) ∧ b = true else if q2.2.1 8 y ≠ 0 then M = kVb (Int64.ofNat (q2.2.1 8 y - 1)) ∧ b = true else M = [] ∧ b = false) : lTl c t (fTe_symbol (d + 2) (nI (lo b1 x)) (nI (lo b2 y)) (oT a (oB c L t))) L M b e := by
  have hc := h.2.2.2.1
  have w1 : ∀ a, lW b1 pb1 qb1 q1 T1 m1 (oT a (oB c L t)) := fun a => oT_W (lTc_W h h1)
  have w2 : ∀ a, lW b2 pb2 qb2 q2 T2 m2 (oT a (oB c L t)) := fun a => oT_W (lTc_W h h2)
  have hlx := lV_lo h1.1 hx
  have hly := lV_lo h2.1 hy
  have x6 := (kKi h1.2.1 hx).2.mp (by omega)
  have y6 := (kKi h2.2.1 hy).2.mp (by omega)
  have h47 := (h1.2.2.1 x x6 hx).1.2.2.2.2 (by omega) (by omega)
  have h732 := (h1.2.1.2.2.1 x x6 hx).2.2.2.2.2.2.2
  have b8 := (h2.2.1.2.2.1 y y6 hy).2.2.2.2.2.2.1
  have h4y : q2.2.1 4 y ≤ 32 := by
    have a := (h2.2.2.1 y y6 hy).1.2.2.2.2 (by omega) (by omega)
    have c := (h2.2.1.2.2.1 y y6 hy).2.2.2.2.2.2.2
    omega
  have hpk := kPk_le (q1 := q2) (q2 := q1) (x := y) (y := x) (j := i)
  have e26 : gI (oT e (oB c L t)) 26 (lo b1 x) = nI (q1.2.1 4 x) := by rw [((w1 e).1.2.2.2.1 x x6 hx).2.2.2.1, h47]
  have e25 : gI (oT e (oB c L t)) 25 (lo b1 x) = nI (pb1 + q1.2.1 6 x) := ((w1 e).1.2.2.2.1 x x6 hx).2.2.1
  have e27 : gI (oT e (oB c L t)) 27 (lo b2 y) = zI (q2.2.1 8 y) := by rw [((w2 e).1.2.2.2.1 y y6 hy).2.2.2.2, if_neg (by omega)]
  have hpl := Sc_pl (w2 e) (w1 e) d hy hx (by omega) (by omega) hi
  have go : ∀ r, (if kPk q2 q1 y x i = 0 then fTe_symbol_41 (d + 2) (zI (q2.2.1 8 y)) (oT e (oB c L t)) else fTe_symbol_41 (d + 2) (zI (kPk q2 q1 y x i)) (oT e (oB c L t))) = some r → fTe_symbol (d + 2) (nI (lo b1 x)) (nI (lo b2 y)) (oT a (oB c L t)) = some r := by
    intro r hr
    refine eTe_symbol (d + 1) _ _ _ _ ?_
    rw [Te_vi (lTc_i h) _ hnu.1, cG_L, if_neg (show ¬ aLcmp (Int64.ofNat i) 0 < 0 by rw [aLcmp_lt, ofN_t (by omega), show (0 : Int64).toInt = 0 from rfl]; omega), ldI_n hlx (by omega), e26, nI_long (by omega), if_pos (show aLcmp (Int64.ofNat i) (Int64.ofNat (q1.2.1 4 x)) < 0 by rw [aLcmp_lt, ofN_t (by omega), ofN_t (by omega)]; omega), ldI_n hlx (by omega), e25, ofN_i (by omega), nI_addE, Nat.add_assoc, hpl, cG_I]
    by_cases h0 : kPk q2 q1 y x i = 0
    · rw [if_pos h0] at hr
      rw [if_neg (fun e => e (by rw [zI_n1 (by omega)]; exact h0)), ldI_n hly (by omega), e27]
      exact hr
    · rw [if_neg h0] at hr
      rw [if_pos (by rw [zI_n1 (by omega)]; exact h0)]
      exact hr
  by_cases h0 : kPk q2 q1 y x i = 0
  · rw [if_neg (fun e => e h0)] at hM
    have hs := Te_sy41 (e := e) h hl d (k := q2.2.1 8 y) (by omega)
    simp only [if_pos h0] at go
    by_cases h8 : q2.2.1 8 y = 0
    · rw [if_neg (fun e => e h8)] at hM
      rw [if_pos h8, if_pos h8] at hs
      rw [hM.1, hM.2]
      exact lTl_go hs go
    · rw [if_pos h8] at hM
      rw [if_neg h8, if_neg h8] at hs
      rw [hM.1, hM.2]
      exact lTl_go hs go
  · rw [if_pos h0] at hM
    have hs := Te_sy41 (e := e) h hl d (k := kPk q2 q1 y x i) (by omega)
    simp only [if_neg h0] at go hs
    rw [hM.1, hM.2]
    exact lTl_go hs go
end
