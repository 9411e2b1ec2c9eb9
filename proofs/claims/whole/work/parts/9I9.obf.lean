/-! the lake's Bytes: no room -/
section
variable {c : Nat} {L : List Nat} {t : aT}
theorem Ob_putF (d : Nat) (hc : isB c) {x : Int32} (hl : L.length = alen (c + 1)) : fBy_put d c x (oB c L t) = rI 0 (oB c L t) := by
  have ha := isB_al c hc
  refine eBy_put d c _ _ hc _ ?_
  rw [oB_n, if_neg (show ¬ nI L.length < nI (alen (c + 1)) by rw [nI_ltE (by omega) (by omega)]; omega)]
  rfl
theorem Ob_vuF (d : Nat) (hc : isB c) : ∀ k x j L, j + k = 10 → L.length ≤ alen (c + 1) → alen (c + 1) < L.length + (kVu k (lU x)).length → ∃ L', fBy_putVarint_10 (d + 1) c x (nI j) (oB c L t) = rI 0 (oB c L' t) := by
  intro k
  induction k with
  | zero =>
    intro x j L hj h1 h2
    have h2 : alen (c + 1) < L.length + 0 := h2
    omega
  | succ k ih =>
    intro x j L hj h1 h2
    have e10 : ¬ (10 : Int32) ≤ nI j := by rw [nI_lit 10, nI_leE (by omega) (by omega)]; omega
    by_cases hfull : L.length = alen (c + 1)
    · refine ⟨L, eBy_putVarint_10 d c _ _ _ hc _ ?_⟩
      rw [if_neg e10]
      simp only [v_hi]
      by_cases h : lU x < 128
      · rw [if_neg (fun e => e h)]
        refine eBy_putVarint_22 d c _ _ _ _ hc _ ?_
        rw [if_neg (by decide)]
        refine eBy_putVarint_33 d c _ _ _ _ _ _ hc _ ?_
        rw [Ob_putF d hc hfull, cG_I, if_neg (fun e => e rfl)]
        rfl
      · rw [if_pos h]
        refine eBy_putVarint_22 d c _ _ _ _ hc _ ?_
        rw [if_pos (by decide)]
        refine eBy_putVarint_33 d c _ _ _ _ _ _ hc _ ?_
        rw [Ob_putF d hc hfull, cG_I, if_neg (fun e => e rfl)]
        rfl
    · by_cases h : lU x < 128
      · have ek : kVu (k + 1) (lU x) = [lU x] := by show (if lU x < 128 then _ else _) = _; rw [if_pos h]
        rw [ek] at h2
        have h2 : alen (c + 1) < L.length + 1 := h2
        omega
      · have ek : kVu (k + 1) (lU x) = (lU x % 128 + 128) :: kVu k (lU x / 128) := by show (if lU x < 128 then _ else _) = _; rw [if_neg h]
        rw [ek, List.length_cons] at h2
        obtain ⟨L', ihh⟩ := ih ((x.toUInt64 >>> ((7 : Int32).toInt64.toUInt64 &&& Int64.toUInt64 63)).toInt64) (j + 1) (L ++ [lU x % 128 + 128]) (by omega) (by rw [List.length_append]; show L.length + 1 ≤ _; omega) (by rw [v_sh, List.length_append]; show _ < L.length + 1 + _; omega)
        refine ⟨L', eBy_putVarint_10 d c _ _ _ hc _ ?_⟩
        rw [if_neg e10]
        simp only [v_hi]
        rw [if_pos h]
        refine eBy_putVarint_22 d c _ _ _ _ hc _ ?_
        rw [if_pos (by decide)]
        refine eBy_putVarint_33 d c _ _ _ _ _ _ hc _ ?_
        have eu : (x &&& 127).toInt32 ||| 128 = nI (lU x % 128 + 128) := by rw [v_low, nI_or128 _ (by omega)]
        rw [eu, Ob_put d hc (by omega) (by omega), cG_I, if_pos (by decide), if_pos rfl, nI_add1, ihh]
        rfl
/-- a number for which there is no room -/
theorem Ob_viF {n : Nat} (hn : 1 ≤ n) (hc : isB c) {y : Int64} (hl : L.length ≤ alen (c + 1)) (hq : alen (c + 1) < L.length + (kVb y).length) : ∃ L', fBy_putVarint n c y (oB c L t) = rI 0 (oB c L' t) := by
  obtain ⟨d, rfl⟩ : ∃ d, n = d + 1 := ⟨n - 1, by omega⟩
  obtain ⟨L', h⟩ := Ob_vuF (t := t) d hc 10 _ 0 L rfl hl hq
  exact ⟨L', eBy_putVarint d c _ _ hc _ h⟩
/-- a row for which there is no room -/
theorem Ob_rowF (d : Nat) (hc : isB c) {a st k : Nat} (hl : L.length ≤ alen (c + 1)) (hq : alen (c + 1) < L.length + k) (ha : aSh0 a = some (.inl (0, alen a))) (hal : st + k ≤ alen a) (hal2 : alen a < 2147483648) : fBy_putRow (d + 6) c a (nI st) (nI k) (oB c L t) = rI 0 (oB c L t) := by
  have hac2 := isB_al c hc
  refine eBy_putRow d c a _ _ _ hc _ ?_
  rw [if_neg (nI_pos (by omega)), if_neg (nI_pos (by omega))]
  unfold gA
  rw [if_pos ha, oB_n, nI_sub (by omega), nI_sub (by omega)]
  simp (disch := omega) only [nI_ltE, nI_leE]
  rw [if_neg (by omega), if_neg (by omega)]
  rfl
end
