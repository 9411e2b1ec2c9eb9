/-! the lake's Text: values, a whole text -/
section
variable {B : Nat → Nat} {n fr : Nat}
theorem lRv_eta {s : aT} {x : Except Nat (jP × Nat)} {F : aRs} (h : lRv s F x) : lRv s (cG F (kI fun v s1 => rI v s1)) x := by
  cases x with
  | error e => obtain ⟨p1, hq, h⟩ := h; exact ⟨p1, hq, by rw [h]; rfl⟩
  | ok q =>
    have h : F = rI (nI q.2) (lJ q.1 s) := h
    show cG F _ = rI (nI q.2) (lJ q.1 s)
    rw [h]
    rfl
theorem Tx_list {s : aT} (hB : lB0 s B n fr) (d : Nat) {x : Nat} (hx : x < 24) {val : jP → Except Nat (jP × Nat)} (hval : ∀ p r, jOk n p → val p = .ok r → jVo n p r.1 r.2) (hle : ∀ p r, val p = .ok r → jLe p → jLe r.1) (hv : lVal s B n (d + 2) (nI x + 1) val) {p : jP} (hg : jGd n p) (hb : jBt B n p.1 = 91) : lRv s (fTx_listOfValues (d + 3) (nI x) (lJ p s)) (jCo B n val p) := by
  have hn := hB.1
  have hlt := jBt_lt hb (by omega)
  have hs := jSk_le (B := B) (n := n) (a := p.1 + 1) (by omega)
  obtain ⟨o1, o2, o3⟩ := hg.1
  have hb2 := jBt_le (n := n) (a := jSk B n (p.1 + 1)) hB.2.2.2.2.2.2
  have go : ∀ r, (if jBt B n (jSk B n (p.1 + 1)) = 93 then rI (nI p.2.1) (lJ (jTo (jNd 1 p) (jSk B n (p.1 + 1) + 1)) s) else fTx_listOfValues_34 (d + 3) (nI x) (nI p.2.1) (-1) 0 (lJ (jTo (jNd 1 p) (jSk B n (p.1 + 1))) s)) = some r → fTx_listOfValues (d + 3) (nI x) (lJ p s) = some r := by
    intro r hr
    refine eTx_listOfValues (d + 2) _ _ _ ?_
    simp (disch := omega) only [nI_lit 24, nI_ltE]
    rw [if_pos hx, nI_lit 1, Tx_add' _ 1 (by omega) (by omega), cG_I, wI_eq, lJ_at, ← nI_lit 1, nI_add1, lJ_to, Tx_bl (d + 1) hB (by exact hlt), cG_V, Tx_peek _ hB (by exact hs.2), cG_I]
    show (if ¬ uI (jBt B n (jSk B n (p.1 + 1))) = 93 then _ else _) = _
    simp (disch := omega) only [nI_lit 93, uI_eqE]
    by_cases h : jBt B n (jSk B n (p.1 + 1)) = 93
    · rw [if_pos h] at hr
      rw [if_neg (by omega), wI_eq, lJ_at, nI_add1, lJ_to]
      exact hr
    · rw [if_neg h] at hr
      rw [if_pos h]
      exact hr
  unfold jCo
  rw [if_neg (by omega)]
  simp only
  by_cases h93 : jBt B n (jSk B n (p.1 + 1)) = 93
  · rw [if_pos (by exact h93)]
    rw [if_pos h93] at go
    show fTx_listOfValues (d + 3) (nI x) (lJ p s) = rI (nI p.2.1) _
    rw [lJ_set7]
    exact go _ rfl
  · rw [if_neg (by exact h93)]
    rw [if_neg h93] at go
    have hL := Tx_list34 hB d hval hle hv (v := p.2.1) (n + 1) (jTo (jNd 1 p) (jSk B n (p.1 + 1))) 0 0 (jSk B n (p.1 + 1)) 0 (by show n < jSk B n (p.1 + 1) + (n + 1); omega) hs.2 (jSk_sk (by omega)) (by show 0 < jSk B n (p.1 + 1); omega) (jGd_nd hg (by omega) (by omega) hs.2) jLi_nd (by show (jNd 1 p).2.2.2.1 0 p.2.1 = 1; rw [jNd_row]; simp)
    have hL := lRl_go hL go
    cases hx : jLs B n val p.2.1 (n + 1) (jTo (jNd 1 p) (jSk B n (p.1 + 1))) 0 with
    | error e => rw [hx] at hL; exact hL
    | ok p2 =>
      rw [hx] at hL
      show fTx_listOfValues (d + 3) (nI x) (lJ p s) = rI (nI p.2.1) _
      rw [lJ_set7]
      exact hL
theorem Tx_object {s : aT} (hB : lB0 s B n fr) (d : Nat) {x : Nat} (hx : x < 24) {val : jP → Except Nat (jP × Nat)} (hval : ∀ p r, jOk n p → val p = .ok r → jVo n p r.1 r.2) (hle : ∀ p r, val p = .ok r → jLe p → jLe r.1) (hv : lVal s B n (d + 4) (nI x + 1) val) {p : jP} (hg : jGd n p) (hb : jBt B n p.1 = 123) : lRv s (fTx_object (d + 6) (nI x) (lJ p s)) (jCo B n val p) := by
  have hn := hB.1
  have hlt := jBt_lt hb (by omega)
  have hs := jSk_le (B := B) (n := n) (a := p.1 + 1) (by omega)
  obtain ⟨o1, o2, o3⟩ := hg.1
  have hb2 := jBt_le (n := n) (a := jSk B n (p.1 + 1)) hB.2.2.2.2.2.2
  have go : ∀ r, (if jBt B n (jSk B n (p.1 + 1)) = 125 then rI (nI p.2.1) (lJ (jTo (jNd 0 p) (jSk B n (p.1 + 1) + 1)) s) else fTx_object_34 (d + 6) (nI x) (nI p.2.1) (-1) 0 (lJ (jTo (jNd 0 p) (jSk B n (p.1 + 1))) s)) = some r → fTx_object (d + 6) (nI x) (lJ p s) = some r := by
    intro r hr
    refine eTx_object (d + 5) _ _ _ ?_
    simp (disch := omega) only [nI_lit 24, nI_ltE]
    rw [if_pos hx]
    have e0 : fTx_add (d + 5) 0 (lJ p s) = rI (nI p.2.1) (lJ (jNd 0 p) s) := Tx_add' _ 0 (by omega) (by omega)
    rw [e0, cG_I, wI_eq, lJ_at, nI_add1, lJ_to, Tx_bl (d + 4) hB (by exact hlt), cG_V, Tx_peek _ hB (by exact hs.2), cG_I]
    show (if ¬ uI (jBt B n (jSk B n (p.1 + 1))) = 125 then _ else _) = _
    simp (disch := omega) only [nI_lit 125, uI_eqE]
    by_cases h : jBt B n (jSk B n (p.1 + 1)) = 125
    · rw [if_pos h] at hr
      rw [if_neg (by omega), wI_eq, lJ_at, nI_add1, lJ_to]
      exact hr
    · rw [if_neg h] at hr
      rw [if_pos h]
      exact hr
  unfold jCo
  rw [if_pos hb]
  simp only
  by_cases h93 : jBt B n (jSk B n (p.1 + 1)) = 125
  · rw [if_pos (by exact h93)]
    rw [if_pos h93] at go
    show fTx_object (d + 6) (nI x) (lJ p s) = rI (nI p.2.1) _
    rw [lJ_set7]
    exact go _ rfl
  · rw [if_neg (by exact h93)]
    rw [if_neg h93] at go
    have hL := Tx_obj34 hB d hval hle hv (v := p.2.1) (n + 1) (jTo (jNd 0 p) (jSk B n (p.1 + 1))) 0 0 (jSk B n (p.1 + 1)) 0 (by show n < jSk B n (p.1 + 1) + (n + 1); omega) hs.2 (jSk_sk (by omega)) (by show 0 < jSk B n (p.1 + 1); omega) (jGd_nd hg (by omega) (by omega) hs.2) jLi_nd trivial (by show (jNd 0 p).2.2.2.1 0 p.2.1 = 0; rw [jNd_row]; simp)
    have hL := lRl_go hL go
    cases hx : jOs B n val p.2.1 (n + 1) (jTo (jNd 0 p) (jSk B n (p.1 + 1))) 0 with
    | error e => rw [hx] at hL; exact hL
    | ok p2 =>
      rw [hx] at hL
      show fTx_object (d + 6) (nI x) (lJ p s) = rI (nI p.2.1) _
      rw [lJ_set7]
      exact hL
/-- a value behind its blanks -/
theorem Tx_val0 {s : aT} (hB : lB0 s B n fr) (d : Nat) (x : Int32) {p : jP} {a0 : Nat} (ha0 : a0 ≤ n) (hsk : jSk B n a0 = p.1) (hp : p.1 ≤ n) {r : aOut × aT} (hr : (if jBt B n p.1 = 34 then cG (fTx_string (d + 1) (lJ p s)) (kI fun v6 s5 => rI v6 s5) else if jBt B n p.1 = 91 then cG (fTx_listOfValues (d + 1) x (lJ p s)) (kI fun v9 s8 => rI v9 s8) else if jBt B n p.1 = 102 then cG (fTx_word (d + 1) 1001 5 (lJ p s)) (kI fun v12 s11 => rI v12 s11) else if jBt B n p.1 = 110 then cG (fTx_word (d + 1) 1002 6 (lJ p s)) (kI fun v15 s14 => rI v15 s14) else if jBt B n p.1 = 116 then cG (fTx_word (d + 1) 1000 4 (lJ p s)) (kI fun v18 s17 => rI v18 s17) else if jBt B n p.1 = 123 then cG (fTx_object (d + 1) x (lJ p s)) (kI fun v21 s20 => rI v21 s20) else if jBt B n p.1 = 45 ∨ jDi (jBt B n p.1) then cG (fTx_numberOfDigits (d + 1) (lJ p s)) (kI fun v2 s1 => rI v2 s1) else rI (-1) (lJ p (pI s 13 10 (nI p.1)))) = some r) : fTx_value (d + 2) x (lJ (jTo p a0) s) = some r := by
  have hb := jBt_le (n := n) (a := p.1) hB.2.2.2.2.2.2
  have hbl : fTx_skipBlanks (d + 1) (lJ (jTo p a0) s) = rV (lJ p s) := by
    have := Tx_bl (p := jTo p a0) d hB ha0
    have e : jTo (jTo p a0) (jSk B n (jTo p a0).1) = p := by
      show (jSk B n a0, p.2) = p
      rw [hsk]
    rw [e] at this
    exact this
  have hpk : ∀ d, fTx_peek d (lJ p s) = rI (uI (jBt B n p.1)) (lJ p s) := fun d => Tx_peek (p := p) d hB hp
  refine eTx_value (d + 1) _ _ _ ?_
  rw [hbl, cG_V, hpk, cG_I, Tx_isDigit (d + 1) hb, cG_I]
  simp (disch := omega) only [nI_lit 34, nI_lit 91, nI_lit 102, nI_lit 110, nI_lit 116, nI_lit 123, nI_lit 45, uI_eqE]
  by_cases h1 : jBt B n p.1 = 34
  · rw [if_pos h1] at hr ⊢; exact hr
  · rw [if_neg h1] at hr ⊢
    by_cases h2 : jBt B n p.1 = 91
    · rw [if_pos h2] at hr ⊢; exact hr
    · rw [if_neg h2] at hr ⊢
      by_cases h3 : jBt B n p.1 = 102
      · rw [if_pos h3] at hr ⊢; exact hr
      · rw [if_neg h3] at hr ⊢
        by_cases h4 : jBt B n p.1 = 110
        · rw [if_pos h4] at hr ⊢; exact hr
        · rw [if_neg h4] at hr ⊢
          by_cases h5 : jBt B n p.1 = 116
          · rw [if_pos h5] at hr ⊢; exact hr
          · rw [if_neg h5] at hr ⊢
            by_cases h6 : jBt B n p.1 = 123
            · rw [if_pos h6] at hr ⊢; exact hr
            · rw [if_neg h6] at hr ⊢
              by_cases h7 : jBt B n p.1 = 45
              · rw [if_pos (.inl h7)] at hr
                rw [if_pos h7]
                refine eTx_value_39 (d + 1) _ _ ?_
                exact hr
              · rw [if_neg h7]
                by_cases h8 : jDi (jBt B n p.1)
                · rw [if_pos (.inr h8)] at hr
                  rw [if_pos h8, if_neg (by decide)]
                  refine eTx_value_39 (d + 1) _ _ ?_
                  exact hr
                · rw [if_neg (fun h => h.elim h7 h8)] at hr
                  rw [if_neg h8, if_pos rfl, Tx_failHere, cG_I]
                  exact hr
theorem Tx_val {s : aT} (hB : lB0 s B n fr) : ∀ D e, D ≤ 24 → lVal s B n (3 * D + 7 + e) (nI (24 - D)) (jV B n D) := by
  have hn := hB.1
  have leaf : ∀ d (x : Int32) p a0, a0 ≤ n → jSk B n a0 = p.1 → jGd n p → ¬ (jBt B n p.1 = 123 ∨ jBt B n p.1 = 91) → lRv s (fTx_value (d + 7) x (lJ (jTo p a0) s)) (jLf B n p) := by
    intro d x p a0 ha0 hsk hg hno
    have v0 := fun {r} => Tx_val0 (s := s) hB (d + 5) x ha0 hsk hg.1.1 (r := r)
    rw [if_neg (fun h : jBt B n p.1 = 91 => hno (.inr h)), if_neg (fun h : jBt B n p.1 = 123 => hno (.inl h))] at v0
    unfold jLf
    by_cases h34 : jBt B n p.1 = 34
    · rw [if_pos h34] at v0 ⊢
      exact lRv_go (lRv_eta (Tx_str hB (d + 3) hg.1 (jBt_lt h34 (by omega)))) (fun v t h => v0 h)
    · rw [if_neg h34] at v0 ⊢
      by_cases hnum : jBt B n p.1 = 45 ∨ jDi (jBt B n p.1)
      · rw [if_pos hnum] at v0 ⊢
        have hnum2 := hnum
        unfold jDi at hnum2
        rw [if_neg (by omega), if_neg (by omega), if_neg (by omega)] at v0
        exact lRv_go (lRv_eta (Tx_num hB (d + 5) hg.1 (jBt_lt (B := B) (n := n) (a := p.1) rfl (by omega)))) (fun v t h => v0 h)
      · rw [if_neg hnum] at v0 ⊢
        by_cases h116 : jBt B n p.1 = 116
        · rw [if_pos h116]
          rw [if_neg (by omega), if_neg (by omega), if_pos h116] at v0
          exact lRv_go (lRv_eta (Tx_word hB d hg.1 (jBt_lt h116 (by omega)) 4 1000 _ (.inl ⟨rfl, rfl, rfl⟩))) (fun v t h => v0 h)
        · rw [if_neg h116]
          by_cases h102 : jBt B n p.1 = 102
          · rw [if_pos h102]
            rw [if_pos h102] at v0
            exact lRv_go (lRv_eta (Tx_word hB d hg.1 (jBt_lt h102 (by omega)) 5 1001 _ (.inr (.inl ⟨rfl, rfl, rfl⟩)))) (fun v t h => v0 h)
          · rw [if_neg h102]
            rw [if_neg h102] at v0
            by_cases h110 : jBt B n p.1 = 110
            · rw [if_pos h110]
              rw [if_pos h110] at v0
              exact lRv_go (lRv_eta (Tx_word hB d hg.1 (jBt_lt h110 (by omega)) 6 1002 _ (.inr (.inr ⟨rfl, rfl, rfl⟩)))) (fun v t h => v0 h)
            · rw [if_neg h110]
              rw [if_neg h110, if_neg h116] at v0
              exact ⟨p, by have := hg.1.1; omega, v0 rfl⟩
  intro D
  induction D with
  | zero =>
    intro e _ p a0 ha0 hsk hg
    unfold jV
    by_cases hb : jBt B n p.1 = 123 ∨ jBt B n p.1 = 91
    · rw [if_pos hb]
      have e0 : 3 * 0 + 7 + e = e + 5 + 2 := by omega
      rw [e0]
      refine ⟨p, by have := hg.1.1; omega, Tx_val0 (s := s) hB (e + 5) _ ha0 hsk hg.1.1 ?_⟩
      have fl : fTx_listOfValues (e + 5 + 1) (nI (24 - 0)) (lJ p s) = rI (-1) (lJ p (pI s 13 10 (nI p.1))) := by
        refine eTx_listOfValues (e + 5) _ _ _ ?_
        rw [if_neg (by decide), Tx_failHere, cG_I]
        rfl
      have fo : fTx_object (e + 5 + 1) (nI (24 - 0)) (lJ p s) = rI (-1) (lJ p (pI s 13 10 (nI p.1))) := by
        refine eTx_object (e + 5) _ _ _ ?_
        rw [if_neg (by decide), Tx_failHere, cG_I]
        rfl
      rw [fl, fo, cG_I]
      rcases hb with h | h
      · rw [if_neg (by omega), if_neg (by omega), if_neg (by omega), if_neg (by omega), if_neg (by omega), if_pos h]
        rfl
      · rw [if_neg (by omega), if_pos h]
        rfl
    · rw [if_neg hb]
      have e0 : 3 * 0 + 7 + e = e + 7 := by omega
      rw [e0]
      exact leaf e _ p a0 ha0 hsk hg hb
  | succ D ih =>
    intro e hD p a0 ha0 hsk hg
    unfold jV
    by_cases hb : jBt B n p.1 = 123 ∨ jBt B n p.1 = 91
    case neg =>
      rw [if_neg hb]
      have e0 : 3 * (D + 1) + 7 + e = 3 * D + 3 + e + 7 := by omega
      rw [e0]
      exact leaf (3 * D + 3 + e) _ p a0 ha0 hsk hg hb
    rw [if_pos hb]
    have e0 : 3 * (D + 1) + 7 + e = 3 * D + 8 + e + 2 := by omega
    rw [e0]
    have ex : nI (24 - (D + 1)) + 1 = nI (24 - D) := by
      rw [nI_add1]
      congr 1
      omega
    have v0 := fun {r} => Tx_val0 (s := s) hB (3 * D + 8 + e) (nI (24 - (D + 1))) ha0 hsk hg.1.1 (r := r)
    rcases hb with h | h
    · rw [if_neg (by omega), if_neg (by omega), if_neg (by omega), if_neg (by omega), if_neg (by omega), if_pos h] at v0
      have hvl : lVal s B n (3 * D + 3 + e + 4) (nI (24 - (D + 1)) + 1) (jV B n D) := by
        rw [ex]
        have e1 : 3 * D + 3 + e + 4 = 3 * D + 7 + e := by omega
        rw [e1]
        exact ih e (by omega)
      have hO := Tx_object hB (3 * D + 3 + e) (x := 24 - (D + 1)) (by omega) (fun p r ho h => jV_ok D p r ho h) (fun p r h hl => jV_le D p r h hl) hvl hg h
      have e2 : 3 * D + 3 + e + 6 = 3 * D + 8 + e + 1 := by omega
      rw [e2] at hO
      exact lRv_go (lRv_eta hO) (fun v t h => v0 h)
    · rw [if_neg (by omega), if_pos h] at v0
      have hvl : lVal s B n (3 * D + 6 + e + 2) (nI (24 - (D + 1)) + 1) (jV B n D) := by
        rw [ex]
        have e1 : 3 * D + 6 + e + 2 = 3 * D + 7 + (e + 1) := by omega
        rw [e1]
        exact ih (e + 1) (by omega)
      have hO := Tx_list hB (3 * D + 6 + e) (x := 24 - (D + 1)) (by omega) (fun p r ho h => jV_ok D p r ho h) (fun p r h hl => jV_le D p r h hl) hvl hg h
      have e2 : 3 * D + 6 + e + 3 = 3 * D + 8 + e + 1 := by omega
      rw [e2] at hO
      exact lRv_go (lRv_eta hO) (fun v t h => v0 h)
end
