/-! the lake's PlainForm -/
theorem sWd_P : ∀ k ∈ [23, 24, 25, 26, 27, 28, 29, 30, 31], sWd (1000 + k) (kPw k) := by
  unfold sWd
  decide +kernel
/-- the latest schema that was written -/
def zT (b c : Nat) : Int32 := if c ≤ 6 then -1 else nI (lo b (c - 1))
/-- letters that have been written, and how far -/
def oP (c : Nat) (L : List Nat) (b h : Nat) (t : aT) : aT := oB c L (pI t 41 4 (zT b h))
/-- where plain forms go -/
def isO (c : Nat) : Prop := isB c ∧ (c < 20 ∨ 42 ≤ c)
section
variable {b pb qb c : Nat} {q : kP} {t : aT} {T : Nat → Nat → Nat} {N : Nat → Int} {m : Nat} {L M W : List Nat} {h : Nat}
theorem oP_o {k i : Nat} (hk : k ≠ c ∧ k ≠ c + 1 ∧ k ≠ 41) : gI (oP c L b h t) k i = gI t k i := by
  unfold oP
  rw [oB_o hk.1 hk.2.1, gI_pI, if_neg (by omega)]
theorem oP_V (hc : isO c) (hv : lV b pb qb q t) : lV b pb qb q (oP c L b h t) := lV_fr (fun k i h1 h2 => oP_o (by have := hc.2; omega)) hv
theorem oP_l (hc : isO c) : gI (oP c L b h t) 41 4 = zT b h := by
  unfold oP
  have := hc.2
  rw [oB_o (by omega) (by omega), gI_pI, if_pos ⟨rfl, rfl⟩]
theorem oP_w (hc : isO c) {h' : Nat} : pI (oP c L b h t) 41 4 (zT b h') = oP c L b h' t := by
  have := hc.2
  refine aT_ext (fun k i => ?_) (fun _ _ => rfl) rfl
  rw [gI_pI]
  unfold oP
  rw [oB_I, oB_I, gI_pI, gI_pI]
  by_cases e : k = 41 ∧ i = 4
  · rw [if_pos e, if_neg (by omega), if_neg (by omega), if_pos e]
  · rw [if_neg e, if_neg e, if_neg e]
theorem Op_put (d : Nat) (hc : isO c) {x : Nat} (hx : x < 256) (hl : L.length + 1 ≤ alen (c + 1)) : fBy_put d c (nI x) (oP c L b h t) = rI 1 (oP c (L ++ [x]) b h t) := Ob_put d hc.1 hx (by omega)
theorem Op_word (d : Nat) (hc : isO c) {w : Nat} (hw : sWd w W) (hl : L.length + W.length ≤ alen (c + 1)) : fBy_putWord (d + 6) c w (oP c L b h t) = rI 1 (oP c (L ++ W) b h t) := Ob_word d hc.1 hw hl
theorem gC_ok {F : aRs} (hc : isO c) : gC c 0 F = F := by
  unfold gC
  rw [if_pos (isB_sh hc.1)]
theorem oP_g : gM4 (oP c L b h t) = gM4 t := rfl
theorem Pf_quote (d : Nat) (hc : isO c) (hg : gM4 t = c) {w : Nat} (hw : sWd w W) (hl : L.length + (kQt W).length ≤ alen (c + 1)) : fPf_quote (d + 7) w (oP c L b h t) = rV (oP c (L ++ kQt W) b h t) := by
  rw [kQt_len] at hl
  refine ePf_quote (d + 6) _ _ _ ?_
  rw [oP_g, hg, gC_ok hc, show (34 : Int32) = nI 34 from rfl, Op_put (d + 6) hc (by omega) (by omega), cG_I, oP_g, hg, gC_ok hc, Op_word d hc hw (by rw [List.length_append]; show L.length + 1 + _ ≤ _; omega), cG_I, oP_g, hg, gC_ok hc, Op_put (d + 6) hc (by omega) (by rw [List.length_append, List.length_append]; show L.length + 1 + _ + 1 ≤ _; omega), cG_I]
  have e : L ++ [34] ++ W ++ [34] = L ++ kQt W := by unfold kQt; simp
  rw [e]
  rfl
theorem Pf_name (d : Nat) (hc : isO c) (hg : gM4 t = c) (hv : lV b pb qb q t) {a x : Nat} (hn : kNam T x = true) (hp : kPo T q a x) (hl : L.length + (kQt (kLe T x)).length ≤ alen (c + 1)) (hT : ∀ i, i < T 2 x → T 6 (T 5 x + i) < 256) : fPf_writeName (d + 7) (nI (qb + a)) (oP c L b h t) = rV (oP c (L ++ kQt (kLe T x)) b h t) := by
  rw [kQt_len, kLe_len] at hl
  have hnw := kNam_w hn
  obtain ⟨P, p1, p2, p3⟩ := hv.2.1
  have hc2 := hc.2
  obtain ⟨q1, q2, q3⟩ := hp
  refine ePf_writeName (d + 6) _ _ _ ?_
  have hat : ∀ L, fBy_at (d + 6) 32 (nI (qb + a)) (oP c L b h t) = rI (nI (T 2 x)) (oP c L b h t) := by
    intro L
    refine eBy_at (d + 6) 32 _ _ isB_32 _ ?_
    rw [if_neg (nI_pos (by omega)), oP_o (by omega), p1]
    simp (disch := omega) only [nI_ltE]
    rw [if_pos (by omega), alen_33, ldI_n (by omega) (by omega), oP_o (by omega), hv.2.2.2.2.2 a (by omega), q2, mI_and (by omega)]
    rfl
  have hM : (kLe T x).length = T 2 x := kLe_len
  have hrow : fBy_putRow (d + 6) c 33 (nI (qb + a + 1)) (nI (T 2 x)) (oP c (L ++ [34]) b h t) = rI 1 (oP c (L ++ [34] ++ kLe T x) b h t) := by
    have hget : ∀ i, i < T 2 x → (kLe T x).getD i 0 = T 6 (T 5 x + i) := fun i hi => by
      unfold kLe
      simp [List.getD, hi]
    have := Ob_row (c := c) (L := L ++ [34]) (M := kLe T x) (t := pI t 41 4 (zT b h)) d hc.1 (a := 33) (st := qb + a + 1) (by rw [List.length_append, hM]; show L.length + 1 + _ ≤ _; omega) rfl (by rw [hM, alen_33]; omega) (by decide) (by omega) (fun i hi => by
      rw [hM] at hi
      have e := oP_o (c := c) (L := L ++ [34]) (b := b) (h := h) (t := t) (k := 33) (i := qb + a + 1 + i) (by omega)
      have e2 : gI (oB c (L ++ [34]) (pI t 41 4 (zT b h))) 33 (qb + a + 1 + i) = gI t 33 (qb + a + 1 + i) := e
      rw [e2, show qb + a + 1 + i = qb + (a + 1 + i) by omega, hv.2.2.2.2.2 _ (by omega), q3 i hi, hget i hi]) (fun i hi => by
      rw [hM] at hi
      rw [hget i hi]
      exact hT i hi)
    rw [hM] at this
    exact this
  rw [oP_g, hg, gC_ok hc, show (34 : Int32) = nI 34 from rfl, Op_put (d + 6) hc (by omega) (by omega), cG_I, hat, cG_I, oP_g, hg, gC_ok hc, nI_add1, hrow, cG_I, oP_g, hg, gC_ok hc, Op_put (d + 6) hc (by omega) (by rw [List.length_append, List.length_append, hM]; show L.length + 1 + _ + 1 ≤ _; omega), cG_I]
  have e : L ++ [34] ++ kLe T x ++ [34] = L ++ kQt (kLe T x) := by unfold kQt; simp
  rw [e]
  rfl
/-- a schema's own name -/
theorem Pf_own (d : Nat) (hc : isO c) (hg : gM4 t = c) (hv : lV b pb qb q t) (hI : kIv T m q) (hT : ∀ v i, v < m → T 0 v = 2 → i < T 2 v → T 6 (T 5 v + i) < 256) {x : Nat} (h6 : 6 ≤ x) (hx : x < q.1 1) (h9 : 9 ≤ q.2.1 0 x) (hl : L.length + (kQt (kLe T (q.2.1 1 x - 1))).length ≤ alen (c + 1)) : gI t 24 (lo b x) = nI (qb + q.2.1 9 x) ∧ fPf_writeName (d + 7) (nI (qb + q.2.1 9 x)) (oP c L b h t) = rV (oP c (L ++ kQt (kLe T (q.2.1 1 x - 1))) b h t) := by
  have hs := (hI.2.2.1 x h6 hx).2.1
  rcases hs with hs | ⟨_, h1, h2, h3, h4⟩
  · omega
  · refine ⟨?_, ?_⟩
    · rw [(hv.2.2.2.1 x h6 hx).2.1, if_neg (by omega)]
    · exact Pf_name d hc hg hv h3 h4 hl (fun i hi => hT _ i (by omega) (kNam_w h3).1 hi)
/-- a part's name -/
theorem Pf_part (d : Nat) (hc : isO c) (hg : gM4 t = c) (hv : lV b pb qb q t) (hI : kIv T m q) (hT : ∀ v i, v < m → T 0 v = 2 → i < T 2 v → T 6 (T 5 v + i) < 256) {x i : Nat} (h6 : 6 ≤ x) (hx : x < q.1 1) (h10 : 10 ≤ q.2.1 0 x) (hi : i < q.2.1 4 x) (hl : L.length + (kQt (kLe T (q.2.2 2 x i - 1))).length ≤ alen (c + 1)) : (pb + q.2.1 6 x + i < 10112 ∧ gI t 28 (pb + q.2.1 6 x + i) = nI (qb + q.2.2 4 x i)) ∧ fPf_writeName (d + 7) (nI (qb + q.2.2 4 x i)) (oP c L b h t) = rV (oP c (L ++ kQt (kLe T (q.2.2 2 x i - 1))) b h t) := by
  have hs := hI.2.2.1 x h6 hx
  have h47 := hs.2.2.2.2.2.1 (.inr (by omega))
  have h63 := hs.2.2.2.1
  have hii := (hI.2.2.2.1 x i h6 hx hi).2.2.2.2.2
  have hij := hI.2.2.2.2 x i h6 hx (by omega)
  have hp := hv.1.2.2.1
  rcases hii with hii | ⟨_, h1, h2, h3, h4⟩
  · omega
  · refine ⟨⟨by omega, ?_⟩, ?_⟩
    · rw [Nat.add_assoc, (hv.2.2.2.2.1 _ (by omega)).1, hij.2.2, if_pos ⟨hi, by omega⟩]
      unfold zQ
      rw [if_neg (by omega)]
      rfl
    · exact Pf_name d hc hg hv h3 h4 hl (fun i hi => hT _ i (by omega) (kNam_w h3).1 hi)
theorem Sc_wOf (d : Nat) {k : Nat} (hk : k ≤ 11) (h8 : k ≠ 8) : ∃ w, sWd w (kWs k) ∧ ∀ s, fSc_wordOf d (nI k) s = rA w s := by
  have e : ∀ k ∈ [0, 1, 2, 3, 4, 5, 6, 7, 9, 10, 11], sWd (if k < 8 then 1003 + k else 1002 + k) (kWs k) := by
    unfold sWd
    decide +kernel
  refine ⟨if k < 8 then 1003 + k else 1002 + k, e k (by simp; omega), fun s => ?_⟩
  refine eSc_wordOf d _ _ _ ?_
  have : k = 0 ∨ k = 1 ∨ k = 2 ∨ k = 3 ∨ k = 4 ∨ k = 5 ∨ k = 6 ∨ k = 7 ∨ k = 9 ∨ k = 10 ∨ k = 11 := by omega
  rcases this with rfl | rfl | rfl | rfl | rfl | rfl | rfl | rfl | rfl | rfl | rfl <;> rfl
theorem Pf_size (d : Nat) (hc : isO c) (hg : gM4 t = c) {n : Nat} (hn : n ≤ 64) (hl : L.length + (kDg n).length ≤ alen (c + 1)) : fPf_writeSize (d + 1) (nI n) (oP c L b h t) = rV (oP c (L ++ kDg n) b h t) := by
  have e1 : ∀ n, n ≤ 64 → nI n / 10 = nI (n / 10) := by decide +kernel
  have e2 : ∀ n, n ≤ 64 → nI n - nI n / 10 * 10 = nI (n % 10) := by decide +kernel
  have h12 : ∀ L : List Nat, L.length + 1 ≤ alen (c + 1) → fPf_writeSize_12 (d + 1) (nI n) (oP c L b h t) = rV (oP c (L ++ [48 + n % 10]) b h t) := by
    intro L hl
    refine ePf_writeSize_12 d _ _ _ ?_
    rw [oP_g, hg, gC_ok hc, e2 n hn, show (48 : Int32) = nI 48 from rfl, nI_addE, Op_put d hc (by omega) hl, cG_I]
    rfl
  refine ePf_writeSize d _ _ _ ?_
  rw [show (10 : Int32) = nI 10 from rfl]
  simp (disch := omega) only [nI_ltE]
  unfold kDg at hl ⊢
  by_cases h10 : n < 10
  · have n10 : ¬ 10 ≤ n := by omega
    rw [if_neg n10] at hl ⊢
    rw [if_pos h10]
    exact h12 L hl
  · have n10 : 10 ≤ n := by omega
    rw [if_pos n10] at hl ⊢
    rw [if_neg h10]
    have hl : L.length + 2 ≤ alen (c + 1) := hl
    rw [oP_g, hg, gC_ok hc, show nI n / nI 10 = nI (n / 10) from e1 n hn, show (48 : Int32) = nI 48 from rfl, nI_addE, Op_put d hc (by omega) (by omega), cG_I, h12 _ (by rw [List.length_append]; show L.length + 1 + 1 ≤ _; omega)]
    have e : L ++ [48 + n / 10] ++ [48 + n % 10] = L ++ [48 + n / 10, 48 + n % 10] := by simp
    rw [e]
    rfl
end
