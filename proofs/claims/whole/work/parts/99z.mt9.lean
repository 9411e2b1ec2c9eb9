/-! the reference's Text: values -/
section
variable {c : Nat} {B : Nat → Nat} {n : Nat}
theorem eX_in {s : aT} {e : Nat} {F : aRs} {x : Int32} (h : eX c (pI s c 3 x) e F) : eX c s e F := by
  obtain ⟨p1, y, h⟩ := h
  rw [pI_pI] at h
  exact ⟨p1, y, h⟩
theorem eX_go {s : aT} {e : Nat} {F G : aRs} (h : eX c s e F) (go : ∀ r, F = some r → G = some r) : eX c s e G := by
  obtain ⟨p1, y, h⟩ := h
  exact ⟨p1, y, go _ h⟩
/-- a list -/
theorem Mt_list (hc : isT c) {s : aT} (hB : mB0 c s B n) (d : Nat) {val : jP → Except Nat (jP × Nat)} (hval : ∀ p r, jOk n p → val p = .ok r → jVo n p r.1 r.2) (hle : ∀ p r, val p = .ok r → jLe p → jLe r.1) (hv : ∀ p, jGd n p → jRv c s (fMt_value (d + 2) c (mJ c p s)) (val p)) {p : jP} (hg : jGd n p) (hb : jBt B n p.1 = 91) : jRv c s (fMt_list (d + 3) c (mJ c p s)) (jCo B n val p) := by
  have hn := hB.1
  have hlt := jBt_lt hb (by omega)
  have hs := jSk_le (B := B) (n := n) (a := p.1 + 1) (by omega)
  obtain ⟨o1, o2, o3⟩ := hg.1
  have hb2 := jBt_le (n := n) (a := jSk B n (p.1 + 1)) hB.2.2.2
  have go : ∀ r, fMt_list_22 (d + 3) c (nI p.2.1) (zI 0) (if jBt B n (jSk B n (p.1 + 1)) = 93 then 0 else 1) (mJ c (jTo (jNd 1 p) (jSk B n (p.1 + 1))) s) = some r → fMt_list (d + 3) c (mJ c p s) = some r := by
    intro r hr
    refine eMt_list (d + 2) c _ hc _ ?_
    rw [nI_lit 1, Mt_node _ hc 1 (by omega), cG_I, wI_eq, mJ_at, ← nI_lit 1, nI_add1, mJ_to, Mt_bl (d + 1) hc hB (by exact hlt), cG_V, Mt_look _ hc hB (by exact hs.2), cG_I]
    show (if mI (jBt B n (jSk B n (p.1 + 1))) = 93 then _ else _) = _
    simp (disch := omega) only [nI_lit 93, mI_eqE]
    by_cases h : jBt B n (jSk B n (p.1 + 1)) = 93
    · rw [if_pos h] at hr ⊢
      refine eMt_list_21 (d + 2) c _ _ _ _ hc _ ?_
      exact hr
    · rw [if_neg h] at hr ⊢
      refine eMt_list_21 (d + 2) c _ _ _ _ hc _ ?_
      exact hr
  unfold jCo
  rw [if_neg (by omega)]
  simp only
  by_cases h93 : jBt B n (jSk B n (p.1 + 1)) = 93
  · rw [if_pos (by exact h93)]
    rw [if_pos h93] at go
    show fMt_list (d + 3) c (mJ c p s) = rI (nI p.2.1) _
    rw [mJ_set7]
    refine go _ ?_
    refine eMt_list_22 (d + 2) c _ _ _ _ hc _ ?_
    rw [if_pos rfl, nI_lit 93, Mt_take1 (p := jTo (jNd 1 p) (jSk B n (p.1 + 1))) d hc hB hs.2 (by omega) h93, cG_V]
    rfl
  · rw [if_neg (by exact h93)]
    rw [if_neg h93] at go
    have hL := Mt_list22 hc hB d hval hle hv (v := p.2.1) (n + 1) (jTo (jNd 1 p) (jSk B n (p.1 + 1))) 0 0 (by show n < jSk B n (p.1 + 1) + (n + 1); omega) (jGd_nd hg (by omega) (by omega) hs.2) jLi_nd (by show (jNd 1 p).2.2.2.1 0 p.2.1 = 1; rw [jNd_row]; simp)
    have hL := jRl_go hL go
    cases hx : jLs B n val p.2.1 (n + 1) (jTo (jNd 1 p) (jSk B n (p.1 + 1))) 0 with
    | error e => rw [hx] at hL; exact hL
    | ok p2 =>
      rw [hx] at hL
      show fMt_list (d + 3) c (mJ c p s) = rI (nI p.2.1) _
      rw [mJ_set7]
      exact hL
theorem Mt_object (hc : isT c) {s : aT} (hB : mB0 c s B n) (d : Nat) {val : jP → Except Nat (jP × Nat)} (hval : ∀ p r, jOk n p → val p = .ok r → jVo n p r.1 r.2) (hle : ∀ p r, val p = .ok r → jLe p → jLe r.1) (hv : ∀ p, jGd n p → jRv c s (fMt_value (d + 7) c (mJ c p s)) (val p)) {p : jP} (hg : jGd n p) (hb : jBt B n p.1 = 123) : jRv c s (fMt_object (d + 8) c (mJ c p s)) (jCo B n val p) := by
  have hn := hB.1
  have hlt := jBt_lt hb (by omega)
  have hs := jSk_le (B := B) (n := n) (a := p.1 + 1) (by omega)
  obtain ⟨o1, o2, o3⟩ := hg.1
  have hb2 := jBt_le (n := n) (a := jSk B n (p.1 + 1)) hB.2.2.2
  have go : ∀ r, fMt_object_22 (d + 8) c (nI p.2.1) (zI 0) (if jBt B n (jSk B n (p.1 + 1)) = 125 then 0 else 1) (mJ c (jTo (jNd 0 p) (jSk B n (p.1 + 1))) s) = some r → fMt_object (d + 8) c (mJ c p s) = some r := by
    intro r hr
    refine eMt_object (d + 7) c _ hc _ ?_
    rw [nI_lit 0, Mt_node _ hc 0 (by omega), cG_I, wI_eq, mJ_at, nI_add1, mJ_to, Mt_bl (d + 6) hc hB (by exact hlt), cG_V, Mt_look _ hc hB (by exact hs.2), cG_I]
    show (if mI (jBt B n (jSk B n (p.1 + 1))) = 125 then _ else _) = _
    simp (disch := omega) only [nI_lit 125, mI_eqE]
    by_cases h : jBt B n (jSk B n (p.1 + 1)) = 125
    · rw [if_pos h] at hr ⊢
      refine eMt_object_21 (d + 7) c _ _ _ _ hc _ ?_
      exact hr
    · rw [if_neg h] at hr ⊢
      refine eMt_object_21 (d + 7) c _ _ _ _ hc _ ?_
      exact hr
  unfold jCo
  rw [if_pos hb]
  simp only
  by_cases h93 : jBt B n (jSk B n (p.1 + 1)) = 125
  · rw [if_pos (by exact h93)]
    rw [if_pos h93] at go
    show fMt_object (d + 8) c (mJ c p s) = rI (nI p.2.1) _
    rw [mJ_set7]
    refine go _ ?_
    refine eMt_object_22 (d + 7) c _ _ _ _ hc _ ?_
    rw [if_pos rfl, nI_lit 125, Mt_take1 (p := jTo (jNd 0 p) (jSk B n (p.1 + 1))) (d + 5) hc hB hs.2 (by omega) h93, cG_V]
    rfl
  · rw [if_neg (by exact h93)]
    rw [if_neg h93] at go
    have hL := Mt_obj22 hc hB d hval hle hv (v := p.2.1) (n + 1) (jTo (jNd 0 p) (jSk B n (p.1 + 1))) 0 0 (by show n < jSk B n (p.1 + 1) + (n + 1); omega) (jGd_nd hg (by omega) (by omega) hs.2) jLi_nd trivial (by show (jNd 0 p).2.2.2.1 0 p.2.1 = 0; rw [jNd_row]; simp)
    have hL := jRl_go hL go
    cases hx : jOs B n val p.2.1 (n + 1) (jTo (jNd 0 p) (jSk B n (p.1 + 1))) 0 with
    | error e => rw [hx] at hL; exact hL
    | ok p2 =>
      rw [hx] at hL
      show fMt_object (d + 8) c (mJ c p s) = rI (nI p.2.1) _
      rw [mJ_set7]
      exact hL
/-- strings, numbers, words -/
theorem Mt_leaf (hc : isT c) {s : aT} (hB : mB0 c s B n) (d : Nat) {p : jP} (hg : jGd n p) (hb : ¬ (jBt B n p.1 = 123 ∨ jBt B n p.1 = 91)) : jRv c s (fMt_value (d + 8) c (mJ c p s)) (jLf B n p) := by
  have hn := hB.1
  obtain ⟨o1, o2, o3⟩ := hg.1
  have hbb := jBt_le (n := n) (a := p.1) hB.2.2.2
  have hlk : ∀ d, fMt_look d c (mJ c p s) = rI (mI (jBt B n p.1)) (mJ c p s) := fun d => Mt_look d hc hB o1
  have to : ∀ (x : Except Nat (jP × Nat)) (F : aRs), (match x with | .ok (p1, v) => F = rI (nI v) (mJ c p1 s) | .error e => ∃ p1, F = rT 0 (mX c p1 s e)) → jRv c s F x := by
    intro x F h
    cases x with
    | error e => obtain ⟨p1, h⟩ := h; exact eX_of h
    | ok q => exact h
  have g62 : ∀ x, ¬ jBt B n p.1 = 34 → ¬ (jBt B n p.1 = 45 ∨ jDi (jBt B n p.1)) → jRv c s (fMt_value_62 (d + 8) c (mI (jBt B n p.1)) (mJ c p s)) x → jRv c s (fMt_value (d + 8) c (mJ c p s)) x := by
    intro x h34 hnum h
    refine jRv_go h ?_
    intro r hr
    refine eMt_value (d + 2) c _ hc _ ?_
    rw [hlk, cG_I]
    unfold jDi at hnum
    simp (disch := omega) only [nI_lit 123, nI_lit 91, nI_lit 34, nI_lit 45, nI_lit 48, nI_lit 57, mI_eqE, mI_ltE, mI_gtE]
    rw [if_neg (by omega), if_pos (by omega), if_pos h34, if_neg (by omega), hr]
    by_cases h1 : jBt B n p.1 < 48 ∨ 128 ≤ jBt B n p.1
    · rw [if_pos h1]
    · rw [if_neg h1, if_pos (by omega)]
  have wd : ∀ k w W, (k = 4 ∧ w = 1044 ∧ W = [116, 114, 117, 101] ∨ k = 5 ∧ w = 1045 ∧ W = [102, 97, 108, 115, 101] ∨ k = 6 ∧ w = 1046 ∧ W = [110, 117, 108, 108]) → (jBt B n p.1 = 116 ↔ k = 4) → (jBt B n p.1 = 102 ↔ k = 5) → jRv c s (fMt_value_62 (d + 8) c (mI (jBt B n p.1)) (mJ c p s)) (jWd B n k W p) := by
    intro k w W hw h4 h5
    refine jRv_go (to _ _ (Mt_wd hc hB (d + 1) hg.1 k w W hw)) ?_
    intro r hr
    refine eMt_value_62 (d + 2) c _ _ hc _ ?_
    simp (disch := omega) only [nI_lit 116, nI_lit 102, mI_eqE]
    have f74 : fMt_value_74 (d + 8) c (mI (jBt B n p.1)) (nI k) (mJ c p s) = some r := by
      refine eMt_value_74 (d + 2) c _ _ _ hc _ ?_
      simp (disch := omega) only [nI_lit 116, nI_lit 102, mI_eqE]
      have ek : (fun v2 s1 => if ¬ jBt B n p.1 = 116 then if ¬ jBt B n p.1 = 102 then fMt_value_87 (d + 2 + 6) c v2 1046 s1 else fMt_value_87 (d + 2 + 6) c v2 1045 s1 else fMt_value_87 (d + 2 + 6) c v2 1044 s1) = (fun v2 s1 => fMt_value_87 (d + 1 + 7) c v2 w s1) := by
        funext v2 s1
        rcases hw with ⟨rfl, rfl, _⟩ | ⟨rfl, rfl, _⟩ | ⟨rfl, rfl, _⟩
        · rw [if_neg (by have := h4.mpr rfl; omega)]
        · rw [if_pos (by have := h5.mpr rfl; omega), if_neg (by have := h5.mpr rfl; omega)]
        · rw [if_pos (fun h => by have := h4.mp h; omega), if_pos (fun h => by have := h5.mp h; omega)]
      rw [ek]
      exact hr
    rcases hw with ⟨rfl, rfl, _⟩ | ⟨rfl, rfl, _⟩ | ⟨rfl, rfl, _⟩
    · rw [if_neg (by have := h4.mpr rfl; omega)]; exact f74
    · rw [if_pos (by have := h5.mpr rfl; omega), if_neg (by have := h5.mpr rfl; omega)]; exact f74
    · rw [if_pos (fun h => by have := h4.mp h; omega), if_pos (fun h => by have := h5.mp h; omega)]; exact f74
  have eta : ∀ x F, jRv c s F x → jRv c s (cG F (kI fun v s1 => rI v s1)) x := by
    intro x F h
    cases x with
    | error e => obtain ⟨p1, y, h⟩ := h; exact ⟨p1, y, by rw [h]; rfl⟩
    | ok q =>
      have h : F = rI (nI q.2) (mJ c q.1 s) := h
      show cG F _ = rI (nI q.2) (mJ c q.1 s)
      rw [h]
      rfl
  unfold jLf
  by_cases h34 : jBt B n p.1 = 34
  · rw [if_pos h34]
    refine jRv_go (eta _ _ (to _ _ (Mt_str hc hB d hg.1 (jBt_lt h34 (by omega))))) ?_
    intro r hr
    refine eMt_value (d + 2) c _ hc _ ?_
    rw [hlk, cG_I]
    simp (disch := omega) only [nI_lit 123, nI_lit 91, nI_lit 34, mI_eqE]
    rw [if_neg (by omega), if_pos (by omega), if_neg (by omega)]
    exact hr
  · rw [if_neg h34]
    by_cases hnum : jBt B n p.1 = 45 ∨ jDi (jBt B n p.1)
    · rw [if_pos hnum]
      have hlt := jBt_lt (B := B) (n := n) (a := p.1) rfl (by unfold jDi at hnum; omega)
      refine jRv_go (eta _ _ (to _ _ (Mt_num hc hB (d + 5) hg.1 hlt))) ?_
      intro r hr
      have f59 : fMt_value_59 (d + 8) c (mJ c p s) = some r := by
        refine eMt_value_59 (d + 2) c _ hc _ ?_
        exact hr
      refine eMt_value (d + 2) c _ hc _ ?_
      rw [hlk, cG_I]
      unfold jDi at hnum
      simp (disch := omega) only [nI_lit 123, nI_lit 91, nI_lit 34, nI_lit 45, nI_lit 48, nI_lit 57, mI_eqE, mI_ltE, mI_gtE]
      rw [if_neg (by omega), if_pos (by omega), if_pos h34, f59]
      by_cases h45 : jBt B n p.1 = 45
      · rw [if_pos h45]
      · rw [if_neg h45, if_neg (by omega), if_neg (by omega)]
    · rw [if_neg hnum]
      by_cases h116 : jBt B n p.1 = 116
      · rw [if_pos h116]
        exact g62 _ h34 hnum (wd 4 1044 _ (.inl ⟨rfl, rfl, rfl⟩) (by simp [h116]) (by simp [h116]))
      · rw [if_neg h116]
        by_cases h102 : jBt B n p.1 = 102
        · rw [if_pos h102]
          exact g62 _ h34 hnum (wd 5 1045 _ (.inr (.inl ⟨rfl, rfl, rfl⟩)) (by simp [h102]) (by simp [h102]))
        · rw [if_neg h102]
          have h6 := g62 _ h34 hnum (wd 6 1046 _ (.inr (.inr ⟨rfl, rfl, rfl⟩)) (by simp [h116]) (by simp [h102]))
          by_cases h110 : jBt B n p.1 = 110
          · rw [if_pos h110]
            exact h6
          · rw [if_neg h110]
            have e : jWd B n 6 [110, 117, 108, 108] p = .error p.1 := by
              unfold jWd jWl
              rw [if_neg h110]
            rw [e] at h6
            exact h6
theorem Mt_val (hc : isT c) : ∀ D d (s : aT) p, D ≤ 24 → mB0 c s B n → gI s c 3 = nI (24 - D) → jGd n p → jRv c s (fMt_value (2 * D + 8 + d) c (mJ c p s)) (jV B n D p) := by
  intro D
  induction D with
  | zero =>
    intro d s p _ hB hd hg
    have hbb := jBt_le (n := n) (a := p.1) hB.2.2.2
    unfold jV
    by_cases hb : jBt B n p.1 = 123 ∨ jBt B n p.1 = 91
    · rw [if_pos hb]
      refine eX_of (p1 := p) ?_
      have e0 : 2 * 0 + 8 + d = d + 2 + 6 := by omega
      rw [e0]
      have f9 : fMt_value_9 (d + 2 + 6) c (mI (jBt B n p.1)) (mJ c p s) = rT 0 (mX c p s p.1) := by
        refine eMt_value_9 (d + 2) c _ _ hc _ ?_
        rw [mJ_f (by omega), hd, if_pos (by decide)]
        refine eMt_value_17 (d + 2) c _ _ _ hc _ ?_
        rw [mJ_at, Mt_need0 _ hc, cG_T]
        rfl
      refine eMt_value (d + 2) c _ hc _ ?_
      rw [Mt_look _ hc hB hg.1.1, cG_I, f9]
      simp (disch := omega) only [nI_lit 123, nI_lit 91, mI_eqE]
      by_cases h : jBt B n p.1 = 123
      · rw [if_pos h]; rfl
      · rw [if_neg h, if_neg (by omega)]; rfl
    · rw [if_neg hb]
      have := Mt_leaf hc hB d hg hb
      have e0 : 2 * 0 + 8 + d = d + 8 := by omega
      rw [e0]
      exact this
  | succ D ih =>
    intro d s p hD hB hd hg
    have hbb := jBt_le (n := n) (a := p.1) hB.2.2.2
    unfold jV
    by_cases hb : jBt B n p.1 = 123 ∨ jBt B n p.1 = 91
    case neg =>
      rw [if_neg hb]
      have := Mt_leaf hc hB (2 * D + 2 + d) hg hb
      have e0 : 2 * (D + 1) + 8 + d = 2 * D + 2 + d + 8 := by omega
      rw [e0]
      exact this
    rw [if_pos hb]
    have e0 : 2 * (D + 1) + 8 + d = 2 * D + 4 + d + 6 := by omega
    rw [e0]
    have hB1 : mB0 c (pI s c 3 (nI (24 - D))) B n := mB0_pI hB (by omega)
    have hd1 : gI (pI s c 3 (nI (24 - D))) c 3 = nI (24 - D) := by rw [gI_pI, if_pos ⟨rfl, rfl⟩]
    have hvl : ∀ q, jGd n q → jRv c (pI s c 3 (nI (24 - D))) (fMt_value (2 * D + 8 + d) c (mJ c q (pI s c 3 (nI (24 - D))))) (jV B n D q) := fun q hq => ih d _ q (by omega) hB1 hd1 hq
    have hvl1 : ∀ q, jGd n q → jRv c (pI s c 3 (nI (24 - D))) (fMt_value (2 * D + 1 + d + 7) c (mJ c q (pI s c 3 (nI (24 - D))))) (jV B n D q) := by
      have e2 : 2 * D + 1 + d + 7 = 2 * D + 8 + d := by omega
      rw [e2]
      exact hvl
    have hvl2 : ∀ q, jGd n q → jRv c (pI s c 3 (nI (24 - D))) (fMt_value (2 * D + 6 + d + 2) c (mJ c q (pI s c 3 (nI (24 - D))))) (jV B n D q) := by
      have e2 : 2 * D + 6 + d + 2 = 2 * D + 8 + d := by omega
      rw [e2]
      exact hvl
    have g17 : ∀ r, (if jBt B n p.1 = 123 then cG (fMt_object (2 * D + 4 + d + 5) c (mJ c p (pI s c 3 (nI (24 - D))))) (kI fun v6 s5 => fMt_value_35 (2 * D + 4 + d + 6) c v6 s5) else cG (fMt_list (2 * D + 4 + d + 5) c (mJ c p (pI s c 3 (nI (24 - D))))) (kI fun v6 s5 => fMt_value_35 (2 * D + 4 + d + 6) c v6 s5)) = some r → fMt_value (2 * D + 4 + d + 6) c (mJ c p s) = some r := by
      intro r hr
      have f9 : fMt_value_9 (2 * D + 4 + d + 6) c (mI (jBt B n p.1)) (mJ c p s) = some r := by
        refine eMt_value_9 (2 * D + 4 + d) c _ _ hc _ ?_
        rw [mJ_f (by omega), hd]
        simp (disch := omega) only [nI_lit 24, nI_leE]
        rw [if_neg (by omega)]
        refine eMt_value_17 (2 * D + 4 + d) c _ _ _ hc _ ?_
        rw [Mt_need1 _ hc, cG_V, wI_eq, mJ_f (by omega), hd, nI_add1, mJ_pI (by omega)]
        have e1 : 24 - (D + 1) + 1 = 24 - D := by omega
        rw [e1]
        simp (disch := omega) only [nI_lit 123, mI_eqE]
        by_cases h : jBt B n p.1 = 123
        · rw [if_pos h] at hr
          rw [if_neg (by omega)]
          exact hr
        · rw [if_neg h] at hr
          rw [if_pos h]
          exact hr
      refine eMt_value (2 * D + 4 + d) c _ hc _ ?_
      rw [Mt_look _ hc hB hg.1.1, cG_I, f9]
      simp (disch := omega) only [nI_lit 123, nI_lit 91, mI_eqE]
      by_cases h : jBt B n p.1 = 123
      · rw [if_pos h]
      · rw [if_neg h, if_neg (by omega)]
    have fin : ∀ F x, jRv c (pI s c 3 (nI (24 - D))) F x → jRv c s (cG F (kI fun v6 s5 => fMt_value_35 (2 * D + 4 + d + 6) c v6 s5)) x := by
      intro F x h
      cases x with
      | error e =>
        obtain ⟨p1, y, h⟩ := h
        rw [pI_pI] at h
        exact ⟨p1, y, by rw [h]; rfl⟩
      | ok q =>
        have h : F = rI (nI q.2) (mJ c q.1 (pI s c 3 (nI (24 - D)))) := h
        show cG F _ = rI (nI q.2) (mJ c q.1 s)
        rw [h, cG_I]
        refine eMt_value_35 (2 * D + 4 + d) c _ _ hc _ ?_
        rw [wI_eq, mJ_f (by omega), hd1, mJ_pI (by omega), pI_pI]
        have e1 : nI (24 - D) - 1 = nI (24 - (D + 1)) := by
          rw [nI_lit 1, nI_sub (by omega)]
          congr 1
        rw [e1, pI_self hd]
        rfl
    by_cases h : jBt B n p.1 = 123
    · rw [if_pos h] at g17
      have e1 : 2 * D + 4 + d + 5 = 2 * D + 1 + d + 8 := by omega
      have hO := Mt_object hc hB1 (2 * D + 1 + d) (fun p r ho h => jV_ok D p r ho h) (fun p r h hl => jV_le D p r h hl) hvl1 hg h
      rw [e1] at g17
      exact jRv_go (fin _ _ hO) g17
    · rw [if_neg h] at g17
      have e1 : 2 * D + 4 + d + 5 = 2 * D + 6 + d + 3 := by omega
      have hO := Mt_list hc hB1 (2 * D + 6 + d) (fun p r ho h => jV_ok D p r ho h) (fun p r h hl => jV_le D p r h hl) hvl2 hg (by omega)
      rw [e1] at g17
      exact jRv_go (fin _ _ hO) g17
end
