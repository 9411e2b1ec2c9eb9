/-! the lake: a pair; fitting -/
section
variable {S b1 pb1 qb1 b2 pb2 qb2 m1 m2 : Nat} {q1 q2 : kP} {T1 T2 : Nat → Nat → Nat} {t : aT} {L : List (Nat × Nat)}
theorem lPz_go {F G : aRs} {o : Option (List (Nat × Nat))} (h : lPz S t F L o) (go : ∀ r, F = some r → G = some r) : lPz S t G L o := by
  unfold lPz at h ⊢
  split at h
  · exact go _ h
  · obtain ⟨L', h⟩ := h
    exact ⟨L', go _ h⟩
theorem kBf_le {x y : Nat} : kBf q1 q2 x y ≤ q2.2.1 4 y := by
  unfold kBf
  by_cases h : kFr (fun i => kMs q1 q2 17 x (kPx q2 y i)) (q2.2.1 4 y) 0 = 0
  · omega
  · have := (kFr_1 _ _ h).2.1
    omega
theorem Ma_pair (h : lBo S b1 pb1 qb1 q1 T1 m1 b2 pb2 qb2 q2 T2 m2 t) (hp : kPr2 (q1.1 1) (q2.1 1) L) (d : Nat) {x y : Nat} (hx : x < q1.1 1) (hy : y < q2.1 1) : lPz S t (fMa_isPairFitting (d + 21) (nI (lo b1 x)) (nI (lo b2 y)) (lAk S L t)) L (kPq q1 q2 x y) := by
  have h1 := h.1
  have h2 := h.2.1
  have w1 := lAk_W (S := S) (L := L) h1
  have w2 := lAk_W (S := S) (L := L) h2
  have hlx := lV_lo h1.1 hx
  have hly := lV_lo h2.1 hy
  have k1 := kKi h1.2.1 hx
  have k2 := kKi h2.2.1 hy
  have g1 := lV_kind w1.1 h1.2.1 hx
  have g2 := lV_kind w2.1 h2.2.1 hy
  have e8 : ∀ a, a ≤ 11 → (nI a = 8) = (a = 8) := fun a ha => by rw [show (8 : Int32) = nI 8 from rfl, nI_eqE (by omega) (by omega)]
  unfold kPq
  by_cases x8 : q1.2.1 0 x = 8
  · rw [if_pos x8]
    refine eMa_isPairFitting (d + 20) _ _ _ _ ?_
    rw [ldI_n hlx (by omega), g1, if_neg (fun e => e (by rw [e8 _ k1.1]; exact x8)), show (0 : Int32) = nI 0 from rfl, Ma_p9 h (d + 19) hx hy x8 (q1.2.1 4 x) 0 L hp (by omega)]
    rfl
  · rw [if_neg x8]
    have go0 : ∀ r, (if ¬ nI (q2.2.1 0 y) = 8 then cG (fMa_isAlike (d + 20) (nI (lo b1 x)) (nI (lo b2 y)) (lAk S L t)) (kI fun v4 s3 => if ¬ v4 = 0 then cG (fMa_isRow (d + 20) (nI (lo b1 x)) s3) (kI fun v6 s5 => if v6 = 0 then fMa_isPairFitting_81 (d + 21) (nI (lo b1 x)) (nI (lo b2 y)) s5 else ldI 5254 s5 27 (nI (lo b1 x)) (fun v7 => ldI 5254 s5 27 (nI (lo b2 y)) (fun v8 => cG (fMa_ask (d + 20) v7 v8 s5) (kV fun s9 => fMa_isPairFitting_81 (d + 21) (nI (lo b1 x)) (nI (lo b2 y)) s9)))) else rI 0 s3) else cG (fMa_branchFor (d + 20) (nI (lo b1 x)) (nI (lo b2 y)) (lAk S L t)) (kI fun v11 s10 => if v11 = (-1) then fMa_isPairFitting_51 (d + 21) v11 s10 else cG (fSc_partSchemaOf (d + 20) (nI (lo b2 y)) v11 s10) (kI fun v13 s12 => cG (fMa_ask (d + 20) (nI (lo b1 x)) v13 s12) (kV fun s14 => fMa_isPairFitting_51 (d + 21) v11 s14)))) = some r → fMa_isPairFitting (d + 21) (nI (lo b1 x)) (nI (lo b2 y)) (lAk S L t) = some r := by
      intro r hr
      refine eMa_isPairFitting (d + 20) _ _ _ _ ?_
      rw [ldI_n hlx (by omega), g1, if_pos (by rw [e8 _ k1.1]; exact x8), ldI_n hly (by omega), g2]
      exact hr
    by_cases y8 : q2.2.1 0 y = 8
    · rw [if_pos y8]
      have y6 := k2.2.mp (by omega)
      have h47 := (h2.2.2.1 y y6 hy).1.2.2.2.2 (by omega) (by omega)
      have h732 := (h2.2.1.2.2.1 y y6 hy).2.2.2.2.2.2.2
      have hb := kBf_le (q1 := q1) (q2 := q2) (x := x) (y := y)
      have hbr := Ma_branch w1 w2 d hx hy y8
      by_cases h0 : kBf q1 q2 x y = 0
      · rw [if_pos h0]
        refine ⟨L, go0 _ ?_⟩
        rw [if_neg (fun e => e (by rw [e8 _ k2.1]; exact y8)), hbr, cG_I, h0, if_pos zI_0]
        refine eMa_isPairFitting_51 (d + 20) _ _ _ ?_
        rw [if_pos zI_0]
        rfl
      · rw [if_neg h0]
        obtain ⟨p1, p2⟩ := kPx_lt h2.2.1 h2.2.2.1 y6 hy (by omega) (by omega) (i := kBf q1 q2 x y - 1) (by omega)
        refine go0 _ ?_
        rw [if_neg (fun e => e (by rw [e8 _ k2.1]; exact y8)), hbr, cG_I, if_neg (by rw [zI_n1 (by omega)]; exact h0), zI_pos (by omega), lV_ps w2.1 h2.2.1 (d + 20) y6 hy (by omega) (by omega) p1, cG_I, lBo_ask h hp (d + 19) hx p2, cG_V]
        refine eMa_isPairFitting_51 (d + 20) _ _ _ ?_
        rw [if_neg (nI_nm (by omega))]
        rfl
    · rw [if_neg y8]
      have hal := Ma_alike w1 w2 (d + 19) hx hy x8
      by_cases ha : kAi q1 q2 x y = true
      · rw [if_pos ha]
        rw [if_pos ha] at hal
        have hkk : (6 ≤ q1.2.1 0 x → q1.2.1 0 x = q2.2.1 0 y) := by
          intro h6
          unfold kAi at ha
          simp only [decide_eq_true_eq] at ha
          rw [if_neg (by omega)] at ha
          exact ha.1
        have go1 : ∀ r, (if q1.2.1 0 x = 6 ∨ q1.2.1 0 x = 7 then ldI 5254 (lAk S L t) 27 (nI (lo b1 x)) (fun v7 => ldI 5254 (lAk S L t) 27 (nI (lo b2 y)) (fun v8 => cG (fMa_ask (d + 20) v7 v8 (lAk S L t)) (kV fun s9 => fMa_isPairFitting_81 (d + 21) (nI (lo b1 x)) (nI (lo b2 y)) s9))) else fMa_isPairFitting_81 (d + 21) (nI (lo b1 x)) (nI (lo b2 y)) (lAk S L t)) = some r → fMa_isPairFitting (d + 21) (nI (lo b1 x)) (nI (lo b2 y)) (lAk S L t) = some r := by
          intro r hr
          refine go0 r ?_
          rw [if_pos (by rw [e8 _ k2.1]; exact y8), hal, cG_I, if_pos (by decide), Ma_row w1 _ hx, cG_I]
          by_cases hr6 : q1.2.1 0 x = 6 ∨ q1.2.1 0 x = 7
          · rw [if_pos hr6] at hr
            rw [if_pos hr6, if_neg (by decide)]
            exact hr
          · rw [if_neg hr6] at hr
            rw [if_neg hr6, if_pos rfl]
            exact hr
        have e81 : ∀ L' r, (if q1.2.1 0 x = 10 then ldI 5254 (lAk S L' t) 27 (nI (lo b2 y)) (fun v3 => if ¬ v3 = (-1) then rI 1 (lAk S L' t) else cG (fMa_hasAllSymbols (d + 20) (nI (lo b1 x)) (nI (lo b2 y)) (lAk S L' t)) (kI fun v5 s4 => if v5 = 0 then rI 0 s4 else rI 1 s4)) else if q1.2.1 0 x = 11 then cG (fMa_askFields (d + 20) (nI (lo b1 x)) (nI (lo b2 y)) (lAk S L' t)) (kI fun v8 s7 => rZ v8 s7) else rI 1 (lAk S L' t)) = some r → fMa_isPairFitting_81 (d + 21) (nI (lo b1 x)) (nI (lo b2 y)) (lAk S L' t) = some r := by
          intro L' r hr
          refine eMa_isPairFitting_81 (d + 20) _ _ _ _ ?_
          rw [ldI_n hlx (by omega), lV_kind (lAk_W h1).1 h1.2.1 hx, show (10 : Int32) = nI 10 from rfl, show (11 : Int32) = nI 11 from rfl]
          simp (disch := omega) only [nI_eqE]
          exact hr
        by_cases hr6 : q1.2.1 0 x = 6 ∨ q1.2.1 0 x = 7
        · rw [if_pos hr6]
          have hr2 : q2.2.1 0 y = 6 ∨ q2.2.1 0 y = 7 := by have := hkk (by omega); omega
          have i1 := lW_item w1 hx hr6
          have i2 := lW_item w2 hy hr2
          have p1 := (kPx_lt h1.2.1 h1.2.2.1 (k1.2.mp (by omega)) hx (by omega) (by omega) (i := 0) (by omega)).2
          have p2 := (kPx_lt h2.2.1 h2.2.2.1 (k2.2.mp (by omega)) hy (by omega) (by omega) (i := 0) (by omega)).2
          refine go1 _ ?_
          rw [if_pos hr6, ldI_n hlx (by omega), ldI_n hly (by omega), i1.1, i2.1, lBo_ask h hp (d + 19) p1 p2, cG_V]
          refine e81 _ _ ?_
          rw [if_neg (by omega), if_neg (by omega)]
          rfl
        · rw [if_neg hr6]
          by_cases x10 : q1.2.1 0 x = 10
          · rw [if_pos x10]
            have y10 : q2.2.1 0 y = 10 := by have := hkk (by omega); omega
            have y6 := k2.2.mp (by omega)
            have b8 := (h2.2.1.2.2.1 y y6 hy).2.2.2.2.2.2.1
            have g27 : gI (lAk S L t) 27 (lo b2 y) = zI (q2.2.1 8 y) := by rw [(w2.1.2.2.2.1 y y6 hy).2.2.2.2, if_neg (by omega)]
            have hsy := Ma_sym w1 w2 (d + 18) hx hy x10 y10
            by_cases h8 : q2.2.1 8 y = 0
            · by_cases hs : kSy q1 q2 x y (q1.2.1 4 x) 0 = true
              · rw [if_pos (.inr hs)]
                rw [if_pos hs] at hsy
                refine go1 _ ?_
                rw [if_neg hr6]
                refine e81 _ _ ?_
                rw [if_pos x10, ldI_n hly (by omega), g27, if_neg (fun e => e (by rw [zI_n1 (by omega)]; exact h8)), hsy, cG_I, if_neg (by decide)]
                rfl
              · rw [if_neg (fun e => e.elim (fun g => g h8) hs)]
                rw [if_neg hs] at hsy
                refine ⟨L, go1 _ ?_⟩
                rw [if_neg hr6]
                refine e81 _ _ ?_
                rw [if_pos x10, ldI_n hly (by omega), g27, if_neg (fun e => e (by rw [zI_n1 (by omega)]; exact h8)), hsy, cG_I, if_pos rfl]
                rfl
            · rw [if_pos (.inl h8)]
              refine go1 _ ?_
              rw [if_neg hr6]
              refine e81 _ _ ?_
              rw [if_pos x10, ldI_n hly (by omega), g27, if_pos (by rw [zI_n1 (by omega)]; exact h8)]
              rfl
          · rw [if_neg x10]
            by_cases x11 : q1.2.1 0 x = 11
            · rw [if_pos x11]
              have y11 : q2.2.1 0 y = 11 := by have := hkk (by omega); omega
              have haf := Ma_af h (d + 18) hx hy x11 y11 (q2.2.1 4 y) 0 L hp (by omega)
              have go2 : ∀ v s, fMa_askFields_2 (d + 20) (nI (lo b1 x)) (nI (lo b2 y)) (nI 0) (lAk S L t) = rI v s → v = 0 ∨ v = 1 → fMa_isPairFitting (d + 21) (nI (lo b1 x)) (nI (lo b2 y)) (lAk S L t) = rI v s := by
                intro v s hr hv
                refine go1 _ ?_
                rw [if_neg hr6]
                refine e81 _ _ ?_
                have e1 : fMa_askFields (d + 20) (nI (lo b1 x)) (nI (lo b2 y)) (lAk S L t) = rI v s := eMa_askFields (d + 19) _ _ _ _ hr
                rw [if_neg x10, if_pos x11, e1, cG_I]
                rcases hv with rfl | rfl <;> rfl
              cases hkf : kAf q1 q2 x y (q2.2.1 4 y) 0 with
              | none =>
                rw [hkf] at haf
                obtain ⟨L', haf⟩ := haf
                exact ⟨L', go2 _ _ haf (.inl rfl)⟩
              | some M =>
                rw [hkf] at haf
                exact go2 _ _ haf (.inr rfl)
            · rw [if_neg x11]
              refine go1 _ ?_
              rw [if_neg hr6]
              refine e81 _ _ ?_
              rw [if_neg x10, if_neg x11]
              rfl
      · rw [if_neg ha]
        rw [if_neg ha] at hal
        refine ⟨L, go0 _ ?_⟩
        rw [if_pos (by rw [e8 _ k2.1]; exact y8), hal, cG_I, if_neg (fun e => e rfl)]
        rfl
theorem kUa_in (i1 : kIv T1 m1 q1) (c1 : kCd q1) {x y : Nat} (hx : x < q1.1 1) (hy : y < q2.1 1) (h8 : q1.2.1 0 x = 8) : ∀ k i, i + k = q1.2.1 4 x → ∀ p, p ∈ kUa q1 x y k i → p.1 < q1.1 1 ∧ p.2 < q2.1 1
  | 0, _, _, _, h => by cases h
  | k + 1, i, hi, p, h => by
    unfold kUa at h
    rcases List.mem_cons.mp h with e | e
    · rw [e]
      exact ⟨(kPx_lt i1 c1 ((kKi i1 hx).2.mp (by omega)) hx (by omega) (by omega) (i := i) (by omega)).2, hy⟩
    · exact kUa_in i1 c1 hx hy h8 k (i + 1) (by omega) p e
theorem kAf_in (i1 : kIv T1 m1 q1) (c1 : kCd q1) (i2 : kIv T2 m2 q2) (c2 : kCd q2) {x y : Nat} (hx : x < q1.1 1) (hy : y < q2.1 1) (x11 : q1.2.1 0 x = 11) (y11 : q2.2.1 0 y = 11) : ∀ k j M, j + k = q2.2.1 4 y → kAf q1 q2 x y k j = some M → ∀ p, p ∈ M → p.1 < q1.1 1 ∧ p.2 < q2.1 1
  | 0, _, M, _, hm, p, h => by
    unfold kAf at hm
    cases hm
    cases h
  | k + 1, j, M, hj, hm, p, h => by
    have hk := kPk_le (q1 := q1) (q2 := q2) (x := x) (y := y) (j := j)
    unfold kAf at hm
    split at hm
    · split at hm
      · cases hm
      · exact kAf_in i1 c1 i2 c2 hx hy x11 y11 k (j + 1) M (by omega) hm p h
    · rename_i h0
      cases hkf : kAf q1 q2 x y k (j + 1) with
      | none => rw [hkf] at hm; cases hm
      | some M' =>
        rw [hkf] at hm
        cases hm
        rcases List.mem_cons.mp h with e | e
        · rw [e]
          exact ⟨(kPx_lt i1 c1 ((kKi i1 hx).2.mp (by omega)) hx (by omega) (by omega) (i := kPk q1 q2 x y j - 1) (by omega)).2, (kPx_lt i2 c2 ((kKi i2 hy).2.mp (by omega)) hy (by omega) (by omega) (i := j) (by omega)).2⟩
        · exact kAf_in i1 c1 i2 c2 hx hy x11 y11 k (j + 1) M' (by omega) hkf p e
theorem kPq_in (i1 : kIv T1 m1 q1) (c1 : kCd q1) (i2 : kIv T2 m2 q2) (c2 : kCd q2) {x y : Nat} (hx : x < q1.1 1) (hy : y < q2.1 1) {M : List (Nat × Nat)} (hm : kPq q1 q2 x y = some M) : ∀ p, p ∈ M → p.1 < q1.1 1 ∧ p.2 < q2.1 1 := by
  have k1 := kKi i1 hx
  have k2 := kKi i2 hy
  intro p h
  unfold kPq at hm
  split at hm
  · rename_i h8
    cases hm
    exact kUa_in i1 c1 hx hy h8 _ 0 (by rw [Nat.zero_add]) p h
  · split at hm
    · rename_i h8
      split at hm
      · cases hm
      · rename_i h0
        cases hm
        have hb := kBf_le (q1 := q1) (q2 := q2) (x := x) (y := y)
        rw [List.mem_singleton] at h
        rw [h]
        exact ⟨hx, (kPx_lt i2 c2 (k2.2.mp (by omega)) hy (by omega) (by omega) (i := kBf q1 q2 x y - 1) (by omega)).2⟩
    · split at hm
      · rename_i ha
        have hkk : (6 ≤ q1.2.1 0 x → q1.2.1 0 x = q2.2.1 0 y) := by
          intro h6
          unfold kAi at ha
          simp only [decide_eq_true_eq] at ha
          rw [if_neg (by omega)] at ha
          exact ha.1
        split at hm
        · rename_i hr
          cases hm
          rw [List.mem_singleton] at h
          rw [h]
          have hr2 : q2.2.1 0 y = 6 ∨ q2.2.1 0 y = 7 := by have := hkk (by omega); omega
          have f1 := (c1 x (k1.2.mp (by omega)) hx).1.2.2.1 hr
          have f2 := (c2 y (k2.2.mp (by omega)) hy).1.2.2.1 hr2
          exact ⟨(kPx_lt i1 c1 (k1.2.mp (by omega)) hx (by omega) (by omega) (i := 0) (by omega)).2, (kPx_lt i2 c2 (k2.2.mp (by omega)) hy (by omega) (by omega) (i := 0) (by omega)).2⟩
        · split at hm
          · split at hm
            · cases hm; cases h
            · cases hm
          · split at hm
            · rename_i x11
              exact kAf_in i1 c1 i2 c2 hx hy x11 (by have := hkk (by omega); omega) _ 0 M (by rw [Nat.zero_add]) hm p h
            · cases hm; cases h
      · cases hm
theorem kAs_len {L : List (Nat × Nat)} {p : Nat × Nat} : L.length ≤ (kAs L p).length := by
  unfold kAs
  split
  · exact Nat.le_refl _
  · rw [List.length_append]; omega
theorem kAsl_len : ∀ (M L : List (Nat × Nat)), L.length ≤ (kAsl L M).length
  | [], _ => Nat.le_refl _
  | p :: M, L => Nat.le_trans (kAs_len (p := p)) (kAsl_len M (kAs L p))
/-- all pairs -/
theorem Ma_fit21 (h : lBo S b1 pb1 qb1 q1 T1 m1 b2 pb2 qb2 q2 T2 m2 t) (d : Nat) : ∀ f z L, kPr2 (q1.1 1) (q2.1 1) L → z ≤ L.length → f + z = 17957 → ∃ L', fMa_isFitting_21 (d + 22) (nI z) (lAk S L t) = rI (if kFa q1 q2 f z L = true then 1 else 0) (lAk S L' t) := by
  have n1 := h.1.2.1.1
  have n2 := h.2.1.2.1.1
  intro f
  induction f with
  | zero =>
    intro z L hp hz hf
    have hl := kPr2_len hp (K := 134) (by omega)
    have : q1.1 1 * 134 ≤ 17956 := by omega
    omega
  | succ f ih =>
    intro z L hp hz hf
    have hl := kPr2_len hp (K := 134) (by omega)
    have hmul : q1.1 1 * 134 ≤ 17956 := by omega
    unfold kFa
    by_cases hlz : L.length ≤ z
    · rw [if_pos hlz]
      refine ⟨L, eMa_isFitting_21 (d + 21) _ _ _ ?_⟩
      rw [lAk_n, if_pos (show nI L.length ≤ nI z by rw [nI_leE (by omega) (by omega)]; exact hlz)]
      rfl
    · rw [if_neg hlz]
      have hzl : z < L.length := by omega
      have hmem : L.getD z (0, 0) ∈ L := by
        rw [List.getD_eq_getElem?_getD, List.getElem?_eq_getElem hzl]
        exact List.getElem_mem hzl
      have e51 : gI (lAk S L t) 51 z = nI (cd134 (L.getD z (0, 0))) := lAk_51 hzl
      generalize L.getD z (0, 0) = pr at hmem e51 ⊢
      have hin := hp.2 pr hmem
      obtain ⟨u, v⟩ := pr
      have hin : u < q1.1 1 ∧ v < q2.1 1 := hin
      have ecd : cd134 (u, v) = u * 134 + v := rfl
      have ed : (u * 134 + v) / 134 = u := by omega
      have c134 : (134 : Int32) = nI 134 := rfl
      have hpa := Ma_pair h hp d hin.1 hin.2
      have go : ∀ r, cG (fMa_isPairFitting (d + 21) (nI (lo b1 u)) (nI (lo b2 v)) (lAk S L t)) (kI fun v8 s7 => if ¬ v8 = 0 then fMa_isFitting_21 (d + 22) (nI (z + 1)) s7 else rI 0 s7) = some r → fMa_isFitting_21 (d + 22) (nI z) (lAk S L t) = some r := by
        intro r hr
        refine eMa_isFitting_21 (d + 21) _ _ _ ?_
        rw [lAk_n, if_neg (show ¬ nI L.length ≤ nI z by rw [nI_leE (by omega) (by omega)]; exact hlz), if_neg (show ¬ (17956 : Int32) ≤ nI z by rw [show (17956 : Int32) = nI 17956 from rfl, nI_leE (by omega) (by omega)]; omega), ldI_n (by omega) (by omega), e51, ecd, c134, nI_divE (by omega) (by omega), ed, lAk_o (k := 49) (i := 5) (by omega), h.2.2.2.1, Ma_schema (d + 21) (by omega), cG_I, ldI_n (by omega) (by omega), e51, ecd, nI_divE (by omega) (by omega), ed, nI_mulE, nI_sub (by omega), show u * 134 + v - u * 134 = v by omega, lAk_o (k := 49) (i := 6) (by omega), h.2.2.2.2.1, Ma_schema (d + 21) (by omega), cG_I, nI_add1]
        exact hr
      cases hk : kPq q1 q2 u v with
      | none =>
        rw [hk] at hpa
        obtain ⟨L', hpa⟩ := hpa
        refine ⟨L', go _ ?_⟩
        rw [hpa, cG_I, if_neg (fun e => e rfl)]
        rfl
      | some M =>
        rw [hk] at hpa
        have hpa : fMa_isPairFitting (d + 21) (nI (lo b1 u)) (nI (lo b2 v)) (lAk S L t) = rI 1 (lAk S (kAsl L M) t) := hpa
        have hpr := kAsl_pr M L hp (kPq_in h.1.2.1 h.1.2.2.1 h.2.1.2.1 h.2.1.2.2.1 hin.1 hin.2 hk)
        obtain ⟨L', hL⟩ := ih (z + 1) (kAsl L M) hpr (by have := kAsl_len M L; omega) (by omega)
        refine ⟨L', go _ ?_⟩
        rw [hpa, cG_I, if_pos (by decide), hL]
        rfl
/-- fitting, in the lake -/
theorem Ma_fit {s : aT} (h1 : lW b1 pb1 qb1 q1 T1 m1 s) (h2 : lW b2 pb2 qb2 q2 T2 m2 s) (hb1 : 6 ≤ b1 ∧ b1 < 100000) (hb2 : 6 ≤ b2 ∧ b2 < 100000) {S0 : Nat} (hS : gI s 49 4 = nI S0) (hS2 : S0 + 1 < 2147483648) (hM : ∀ i, i < 17956 → ∃ k, k ≤ S0 ∧ gI s 50 i = nI k) (d : Nat) {x y : Nat} (hx : x < q1.1 1) (hy : y < q2.1 1) : ∃ L', fMa_isFitting (d + 22) (nI (lo b1 x)) (nI b1) (nI (lo b2 y)) (nI b2) s = rI (if kFits q1 q2 x y = true then 1 else 0) (lAk (S0 + 1) L' (pI (pI (pI s 49 5 (nI b1)) 49 6 (nI b2)) 49 4 (nI (S0 + 1)))) := by
  obtain ⟨t, ht⟩ : ∃ t, t = pI (pI (pI s 49 5 (nI b1)) 49 6 (nI b2)) 49 4 (nI (S0 + 1)) := ⟨_, rfl⟩
  have eo : ∀ k i, k ≠ 49 → gI t k i = gI s k i := fun k i hk => by rw [ht, gI_pI, if_neg (by omega), gI_pI, if_neg (by omega), gI_pI, if_neg (by omega)]
  have hbo : lBo (S0 + 1) b1 pb1 qb1 q1 T1 m1 b2 pb2 qb2 q2 T2 m2 t := by
    refine ⟨lW_fr (fun k i g1 g2 => eo k i (by omega)) h1, lW_fr (fun k i g1 g2 => eo k i (by omega)) h2, ?_, ?_, ?_, hb1, hb2, fun i hi => ?_⟩
    · rw [ht, gI_pI, if_pos ⟨rfl, rfl⟩]
    · rw [ht, gI_pI, if_neg (by omega), gI_pI, if_neg (by omega), gI_pI, if_pos ⟨rfl, rfl⟩]
    · rw [ht, gI_pI, if_neg (by omega), gI_pI, if_pos ⟨rfl, rfl⟩]
    · obtain ⟨k, k1, k2⟩ := hM i hi
      rw [eo 50 i (by omega), k2, Ne, nI_eqE (by omega) (by omega)]
      omega
  have e0 : pI t 49 3 0 = lAk (S0 + 1) [] t := by
    refine aT_ext (fun k i => ?_) (fun _ _ => rfl) rfl
    rw [gI_pI]
    by_cases h : k = 49 ∧ i = 3
    · rw [if_pos h, h.1, h.2, lAk_n]; rfl
    · rw [if_neg h, lAk_I, if_neg h, if_neg (fun e => by cases e.2), if_neg (fun e => Nat.not_lt_zero _ e.2)]
  have hp0 : kPr2 (q1.1 1) (q2.1 1) [] := ⟨List.nodup_nil, fun p hp => by cases hp⟩
  have hak := lBo_ask hbo hp0 (d + 20) hx hy
  have ek : kAs [] (x, y) = [(x, y)] := by unfold kAs; rw [if_neg (by intro e; cases e)]; rfl
  have hp1 := kAs_pr (p := (x, y)) hp0 hx hy
  rw [ek] at hak hp1
  obtain ⟨L', hL⟩ := Ma_fit21 hbo d 17957 0 [(x, y)] hp1 (Nat.zero_le _) rfl
  refine ⟨L', ?_⟩
  rw [← ht]
  refine eMa_isFitting (d + 21) _ _ _ _ _ _ ?_
  have e4 : gI (pI (pI s 49 5 (nI b1)) 49 6 (nI b2)) 49 4 = nI S0 := by rw [gI_pI, if_neg (by omega), gI_pI, if_neg (by omega)]; exact hS
  rw [wI_eq, wI_eq, wI_eq, wI_eq, e4, nI_add1, ← ht, e0, hak, cG_V, show (0 : Int32) = nI 0 from rfl, hL]
  rfl
/-- the marks stay below -/
theorem lAk_M {s : aT} {S0 : Nat} (hM : ∀ i, i < 17956 → ∃ k, k ≤ S0 ∧ gI s 50 i = nI k) {L' : List (Nat × Nat)} : ∀ i, i < 17956 → ∃ k, k ≤ S0 + 1 ∧ gI (lAk (S0 + 1) L' (pI (pI (pI s 49 5 (nI b1)) 49 6 (nI b2)) 49 4 (nI (S0 + 1)))) 50 i = nI k := by
  intro i hi
  rw [lAk_50]
  by_cases h : i ∈ L'.map cd134
  · rw [if_pos h]; exact ⟨S0 + 1, Nat.le_refl _, rfl⟩
  · rw [if_neg h, gI_pI, if_neg (by omega), gI_pI, if_neg (by omega), gI_pI, if_neg (by omega)]
    obtain ⟨k, k1, k2⟩ := hM i hi
    exact ⟨k, by omega, k2⟩
end
