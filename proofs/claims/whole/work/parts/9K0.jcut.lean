/-! PURE: a text that is cut behind its value tells the same -/
section
variable {B : Nat → Nat} {n : Nat}
/- every reading goes on -/
theorem jSkF_ge : ∀ f a, a ≤ jSkF B n f a
  | 0, a => Nat.le_refl a
  | f + 1, a => by
    show a ≤ if jBl (jBt B n a) then jSkF B n f (a + 1) else a
    split
    · have := jSkF_ge f (a + 1); omega
    · exact Nat.le_refl _
theorem jSk_ge {a : Nat} : a ≤ jSk B n a := jSkF_ge n a
theorem jSl_lt : ∀ f a l T r, jSl B n f a l T = .ok r → a < r.1
  | 0, _, _, _, _, h => by cases h
  | f + 1, a, l, T, r, h => by
    unfold jSl at h
    split at h
    · cases h; show a < a + 1; omega
    · split at h
      · cases h
      · split at h
        · split at h
          · cases h
          · rename_i v a1 he
            have h1 := (jEs_ok he).2.1
            have h1 : a + 1 < a1 := h1
            have := jSl_lt f _ _ _ _ h
            omega
        · have := jSl_lt f _ _ _ _ h
          omega
theorem jStr_lt {p : jP} {r : jP × Nat} (h : jStr B n p = .ok r) : p.1 < r.1.1 := by
  unfold jStr at h
  split at h
  · cases h
  · rename_i a l T hs
    cases h
    have := jSl_lt _ _ _ _ _ hs
    show p.1 < a
    have : p.1 + 1 < a := this
    omega
theorem jWl_lt : ∀ w a a', w ≠ [] → jWl B n w a = .ok a' → a < a'
  | [], _, _, h, _ => absurd rfl h
  | x :: w, a, a', _, h => by
    unfold jWl at h
    split at h
    · cases w with
      | nil => cases h; omega
      | cons y w => have := jWl_lt (y :: w) _ _ (by simp) h; omega
    · cases h
theorem jWd_lt {k : Nat} {w : List Nat} {p : jP} {r : jP × Nat} (hw : w ≠ []) (h : jWd B n k w p = .ok r) : p.1 < r.1.1 := by
  unfold jWd at h
  split at h
  · cases h
  · rename_i a hs
    cases h
    exact jWl_lt _ _ _ hw hs
theorem jNu_lt {p : jP} {r : jP × Nat} (h : jNu B n p = .ok r) : p.1 < r.1.1 := by
  unfold jNu at h
  split at h
  · rename_i hd
    split at h
    · cases h
      have h1 := (jNr_ok hd).1
      have h2 := (jNa_le (B := B) (n := n) (a := p.1)).1
      show p.1 < (jNr B n (jNa B n p.1)).2
      omega
    · cases h
  · cases h
theorem jLf_lt {p : jP} {r : jP × Nat} (h : jLf B n p = .ok r) : p.1 < r.1.1 := by
  unfold jLf at h
  split at h
  · exact jStr_lt h
  · split at h
    · exact jNu_lt h
    · split at h
      · exact jWd_lt (by simp) h
      · split at h
        · exact jWd_lt (by simp) h
        · split at h
          · exact jWd_lt (by simp) h
          · cases h
theorem jSp_lt {cl a : Nat} {r : Bool × Nat} (h : jSp B n cl a = .ok r) : a < r.2 := by
  unfold jSp at h
  have h1 := jSk_ge (B := B) (n := n) (a := a)
  split at h
  · cases h
    have := jSk_ge (B := B) (n := n) (a := jSk B n a + 1)
    show a < jSk B n (jSk B n a + 1)
    omega
  · split at h
    · cases h
      show a < jSk B n a + 1
      omega
    · cases h
theorem jLs_lt {val : jP → Except Nat (jP × Nat)} (hval : ∀ p r, val p = .ok r → p.1 < r.1.1) {v : Nat} : ∀ f p last p', jLs B n val v f p last = .ok p' → p.1 < p'.1
  | 0, _, _, _, h => by cases h
  | f + 1, p, last, p', h => by
    unfold jLs at h
    split at h
    · cases h
    · rename_i p1 w hv
      have h1 := hval _ _ hv
      have h1 : p.1 < p1.1 := h1
      split at h
      · cases h
      · rename_i a hs
        have h2 := jSp_lt hs
        have h3 := jLs_lt hval f _ _ _ h
        have h3 : a < p'.1 := h3
        have h2 : p1.1 < a := h2
        omega
      · rename_i a hs
        cases h
        have h2 := jSp_lt hs
        show p.1 < a
        have h2 : p1.1 < a := h2
        omega
theorem jOs_lt {val : jP → Except Nat (jP × Nat)} (hval : ∀ p r, val p = .ok r → p.1 < r.1.1) {v : Nat} : ∀ f p last p', jOs B n val v f p last = .ok p' → p.1 < p'.1
  | 0, _, _, _, h => by cases h
  | f + 1, p, last, p', h => by
    unfold jOs at h
    split at h
    · split at h
      · cases h
      · rename_i p1 key hk
        have h0 : p.1 < p1.1 := jStr_lt hk
        split at h
        · split at h
          · split at h
            · cases h
            · rename_i p2 w hv
              have h1 := hval _ _ hv
              have h1 : jSk B n (jSk B n p1.1 + 1) < p2.1 := h1
              have g1 := jSk_ge (B := B) (n := n) (a := p1.1)
              have g2 := jSk_ge (B := B) (n := n) (a := jSk B n p1.1 + 1)
              split at h
              · cases h
              · rename_i a hs
                have h2 : p2.1 < a := jSp_lt hs
                have h3 := jOs_lt hval f _ _ _ h
                have h3 : a < p'.1 := h3
                omega
              · rename_i a hs
                cases h
                have h2 : p2.1 < a := jSp_lt hs
                show p.1 < a
                omega
          · cases h
        · cases h
    · cases h
theorem jCo_lt {val : jP → Except Nat (jP × Nat)} (hval : ∀ p r, val p = .ok r → p.1 < r.1.1) {p : jP} {r : jP × Nat} (h : jCo B n val p = .ok r) : p.1 < r.1.1 := by
  have g := jSk_ge (B := B) (n := n) (a := p.1 + 1)
  unfold jCo at h
  split at h
  · simp only at h
    split at h
    · cases h
      show p.1 < jSk B n (p.1 + 1) + 1
      omega
    · split at h
      · cases h
      · rename_i p2 hs
        cases h
        have := jOs_lt hval _ _ _ _ hs
        have : jSk B n (p.1 + 1) < p2.1 := this
        show p.1 < p2.1
        omega
  · simp only at h
    split at h
    · cases h
      show p.1 < jSk B n (p.1 + 1) + 1
      omega
    · split at h
      · cases h
      · rename_i p2 hs
        cases h
        have := jLs_lt hval _ _ _ _ hs
        have : jSk B n (p.1 + 1) < p2.1 := this
        show p.1 < p2.1
        omega
theorem jV_lt : ∀ D p r, jV B n D p = .ok r → p.1 < r.1.1
  | 0, p, r, h => by
    unfold jV at h
    split at h
    · cases h
    · exact jLf_lt h
  | D + 1, p, r, h => by
    unfold jV at h
    split at h
    · exact jCo_lt (jV_lt D) h
    · exact jLf_lt h
end
section
variable {B B' : Nat → Nat} {n e : Nat}
/- the same, of what is cut -/
theorem jBt_c (hB : ∀ a, a < e → B' a = B a) (hen : e ≤ n) {a : Nat} (ha : a < e) : jBt B' e a = jBt B n a := by
  unfold jBt
  rw [if_pos ha, if_pos (by omega), hB a ha]
theorem jBt_e {a : Nat} (ha : e ≤ a) : jBt B' e a = 256 := by
  unfold jBt
  rw [if_neg (by omega)]
theorem jSkF_c (hB : ∀ a, a < e → B' a = B a) (hen : e ≤ n) : ∀ f a f', jSkF B n f a < e → n ≤ a + f → e ≤ a + f' → jSkF B' e f' a = jSkF B n f a
  | 0, a, f', h, h1, h2 => by
    have h : a < e := h
    omega
  | f + 1, a, f', h, h1, h2 => by
    have hg := jSkF_ge (B := B) (n := n) (f + 1) a
    obtain ⟨g, rfl⟩ : ∃ g, f' = g + 1 := ⟨f' - 1, by omega⟩
    have e1 : jSkF B n (f + 1) a = if jBl (jBt B n a) then jSkF B n f (a + 1) else a := rfl
    have e2 : jSkF B' e (g + 1) a = if jBl (jBt B' e a) then jSkF B' e g (a + 1) else a := rfl
    rw [e1] at h ⊢
    rw [e2, jBt_c hB hen (show a < e by omega)]
    by_cases hb : jBl (jBt B n a)
    · rw [if_pos hb] at h ⊢
      rw [if_pos hb]
      exact jSkF_c hB hen f (a + 1) g h (by omega) (by omega)
    · rw [if_neg hb, if_neg hb]
theorem jSk_c (hB : ∀ a, a < e → B' a = B a) (hen : e ≤ n) {a : Nat} (h : jSk B n a < e) : jSk B' e a = jSk B n a := jSkF_c hB hen n a e h (by omega) (by omega)
theorem jH4_c (hB : ∀ a, a < e → B' a = B a) (hen : e ≤ n) : ∀ k v a r, jH4 B n k v a = .ok r → a + k ≤ e → jH4 B' e k v a = .ok r
  | 0, _, _, _, h, _ => h
  | k + 1, v, a, r, h, he => by
    unfold jH4 at h ⊢
    rw [jBt_c hB hen (show a < e by omega)]
    split at h
    · rename_i hx
      rw [if_pos hx]
      exact jH4_c hB hen k _ _ _ h (by omega)
    · cases h
theorem jEs_c (hB : ∀ a, a < e → B' a = B a) (hen : e ≤ n) {a : Nat} {r : Nat × Nat} (h : jEs B n a = .ok r) (he : r.2 ≤ e) : jEs B' e a = .ok r := by
  have h1 := (jEs_ok h).2.1
  unfold jEs at h ⊢
  rw [jBt_c hB hen (show a + 1 < e by omega)]
  split at h
  · rename_i hx
    rw [if_pos hx]
    exact h
  · rename_i hx
    rw [if_neg hx]
    split at h
    · rename_i hu
      rw [if_pos hu]
      split at h
      · cases h
      · rename_i v a1 h4
        have ha := (jH4_ok _ _ _ _ h4).1
        have ha : a1 = a + 2 + 4 := ha
        split at h
        · rename_i hv
          cases h
          have he : a1 ≤ e := he
          rw [jH4_c hB hen _ _ _ _ h4 (by omega)]
          show (if v < 256 then _ else _) = _
          rw [if_pos hv]
        · cases h
    · cases h
theorem jSl_c (hB : ∀ a, a < e → B' a = B a) (hen : e ≤ n) : ∀ f a l T r f', jSl B n f a l T = .ok r → r.1 ≤ e → e < a + f' → jSl B' e f' a l T = .ok r
  | 0, _, _, _, _, _, h, _, _ => by cases h
  | f + 1, a, l, T, r, f', h, he, hf => by
    have hlt := jSl_lt _ _ _ _ _ h
    obtain ⟨g, rfl⟩ : ∃ g, f' = g + 1 := ⟨f' - 1, by omega⟩
    unfold jSl at h ⊢
    rw [jBt_c hB hen (show a < e by omega)]
    split at h
    · rename_i hx
      rw [if_pos hx]
      exact h
    · rename_i hx
      rw [if_neg hx]
      split at h
      · cases h
      · rename_i hy
        rw [if_neg hy]
        split at h
        · rename_i hz
          rw [if_pos hz]
          split at h
          · cases h
          · rename_i v a1 hes
            have h2 := jSl_lt _ _ _ _ _ h
            have h1 : a + 1 < a1 := (jEs_ok hes).2.1
            rw [jEs_c hB hen hes (by show a1 ≤ e; omega)]
            exact jSl_c hB hen f _ _ _ _ g h he (by omega)
        · rename_i hz
          rw [if_neg hz]
          exact jSl_c hB hen f _ _ _ _ g h he (by omega)
theorem jStr_c (hB : ∀ a, a < e → B' a = B a) (hen : e ≤ n) {p : jP} {r : jP × Nat} (h : jStr B n p = .ok r) (he : r.1.1 ≤ e) : jStr B' e p = .ok r := by
  unfold jStr at h ⊢
  split at h
  · cases h
  · rename_i a l T hs
    cases h
    have he : a ≤ e := he
    rw [jSl_c hB hen _ _ _ _ _ (e + 1) hs he (by omega)]
theorem jDg_ge : ∀ f m a, a ≤ (jDg B n f m a).2
  | 0, _, a => Nat.le_refl a
  | f + 1, m, a => by
    show a ≤ (if jDi (jBt B n a) then jDg B n f (10 * m + (jBt B n a - 48)) (a + 1) else (m, a)).2
    split
    · have := jDg_ge f (10 * m + (jBt B n a - 48)) (a + 1); omega
    · exact Nat.le_refl _
theorem jDg_c (hB : ∀ a, a < e → B' a = B a) (hen : e ≤ n) : ∀ f m a f', (jDg B n f m a).2 ≤ e → n ≤ a + f → e ≤ a + f' → jDg B' e f' m a = jDg B n f m a
  | 0, m, a, f', h, h1, h2 => by
    have h : a ≤ e := h
    cases f' with
    | zero => rfl
    | succ g =>
      show (if jDi (jBt B' e a) then _ else (m, a)) = (m, a)
      rw [if_neg (by rw [jBt_e (by omega)]; omega)]
  | f + 1, m, a, f', h, h1, h2 => by
    have hg := jDg_ge (B := B) (n := n) (f + 1) m a
    have e1 : jDg B n (f + 1) m a = if jDi (jBt B n a) then jDg B n f (10 * m + (jBt B n a - 48)) (a + 1) else (m, a) := rfl
    rw [e1] at h hg ⊢
    by_cases hd : jDi (jBt B n a)
    · rw [if_pos hd] at h hg ⊢
      have hg2 := jDg_ge (B := B) (n := n) f (10 * m + (jBt B n a - 48)) (a + 1)
      obtain ⟨g, rfl⟩ : ∃ g, f' = g + 1 := ⟨f' - 1, by omega⟩
      have e2 : jDg B' e (g + 1) m a = if jDi (jBt B' e a) then jDg B' e g (10 * m + (jBt B' e a - 48)) (a + 1) else (m, a) := rfl
      rw [e2, jBt_c hB hen (show a < e by omega), if_pos hd]
      exact jDg_c hB hen f _ (a + 1) g h (by omega) (by omega)
    · rw [if_neg hd] at h ⊢
      have h : a ≤ e := h
      cases f' with
      | zero => rfl
      | succ g =>
        show (if jDi (jBt B' e a) then _ else (m, a)) = (m, a)
        by_cases ha : a < e
        · rw [jBt_c hB hen ha, if_neg hd]
        · rw [if_neg (by rw [jBt_e (by omega)]; omega)]
theorem jNu_c (hB : ∀ a, a < e → B' a = B a) (hen : e ≤ n) {p : jP} {r : jP × Nat} (h : jNu B n p = .ok r) (he : r.1.1 ≤ e) : jNu B' e p = .ok r := by
  have hlt := jNu_lt h
  have eNa : jNa B' e p.1 = jNa B n p.1 := by
    unfold jNa
    rw [jBt_c hB hen (show p.1 < e by omega)]
  have eNm : jNm B' e p.1 = jNm B n p.1 := by
    unfold jNm
    rw [jBt_c hB hen (show p.1 < e by omega)]
  have eNv : ∀ m, jNv B' e p.1 m = jNv B n p.1 m := fun m => by
    unfold jNv
    rw [jBt_c hB hen (show p.1 < e by omega)]
  unfold jNu at h ⊢
  split at h
  · rename_i hd
    split at h
    · rename_i hm
      cases h
      have he : (jNr B n (jNa B n p.1)).2 ≤ e := he
      have h1 := (jNr_ok hd).1
      have eNr : jNr B' e (jNa B n p.1) = jNr B n (jNa B n p.1) := by
        unfold jNr at he h1 ⊢
        rw [jBt_c hB hen (show jNa B n p.1 < e by omega)]
        split at he
        · rename_i hz
          rw [if_pos hz, if_pos hz]
        · rename_i hz
          rw [if_neg hz, if_neg hz]
          exact jDg_c hB hen n 0 _ e he (by omega) (by omega)
      rw [eNa, eNm, eNr, eNv, jBt_c hB hen (show jNa B n p.1 < e by omega), if_pos hd, if_pos hm]
    · cases h
  · cases h
theorem jWl_c (hB : ∀ a, a < e → B' a = B a) (hen : e ≤ n) : ∀ w a a', jWl B n w a = .ok a' → a' ≤ e → jWl B' e w a = .ok a'
  | [], _, _, h, _ => h
  | x :: w, a, a', h, he => by
    have hlt := jWl_lt _ _ _ (by simp) h
    unfold jWl at h ⊢
    rw [jBt_c hB hen (show a < e by omega)]
    split at h
    · rename_i hx
      rw [if_pos hx]
      exact jWl_c hB hen w _ _ h he
    · cases h
theorem jWd_c (hB : ∀ a, a < e → B' a = B a) (hen : e ≤ n) {k : Nat} {w : List Nat} {p : jP} {r : jP × Nat} (h : jWd B n k w p = .ok r) (he : r.1.1 ≤ e) : jWd B' e k w p = .ok r := by
  unfold jWd at h ⊢
  split at h
  · cases h
  · rename_i a hs
    cases h
    have he : a ≤ e := he
    rw [jWl_c hB hen _ _ _ hs he]
theorem jLf_c (hB : ∀ a, a < e → B' a = B a) (hen : e ≤ n) {p : jP} {r : jP × Nat} (h : jLf B n p = .ok r) (he : r.1.1 ≤ e) : jLf B' e p = .ok r := by
  have hlt := jLf_lt h
  unfold jLf at h ⊢
  rw [jBt_c hB hen (show p.1 < e by omega)]
  split at h
  · rename_i hx
    rw [if_pos hx]
    exact jStr_c hB hen h he
  · rename_i hx
    rw [if_neg hx]
    split at h
    · rename_i hx
      rw [if_pos hx]
      exact jNu_c hB hen h he
    · rename_i hx
      rw [if_neg hx]
      split at h
      · rename_i hx
        rw [if_pos hx]
        exact jWd_c hB hen h he
      · rename_i hx
        rw [if_neg hx]
        split at h
        · rename_i hx
          rw [if_pos hx]
          exact jWd_c hB hen h he
        · rename_i hx
          rw [if_neg hx]
          split at h
          · rename_i hx
            rw [if_pos hx]
            exact jWd_c hB hen h he
          · cases h
theorem jSp_c (hB : ∀ a, a < e → B' a = B a) (hen : e ≤ n) {cl a : Nat} {r : Bool × Nat} (h : jSp B n cl a = .ok r) (he : r.2 ≤ e) (hb : r.1 = true → r.2 < e) : jSp B' e cl a = .ok r := by
  unfold jSp at h ⊢
  split at h
  · rename_i hx
    cases h
    have hb : jSk B n (jSk B n a + 1) < e := hb rfl
    have g := jSk_ge (B := B) (n := n) (a := jSk B n a + 1)
    rw [jSk_c hB hen (show jSk B n a < e by omega), jBt_c hB hen (show jSk B n a < e by omega), if_pos hx, jSk_c hB hen hb]
  · rename_i hx
    split at h
    · rename_i hy
      cases h
      have he : jSk B n a + 1 ≤ e := he
      rw [jSk_c hB hen (show jSk B n a < e by omega), jBt_c hB hen (show jSk B n a < e by omega), if_neg hx, if_pos hy]
    · cases h
theorem jLs_c (hB : ∀ a, a < e → B' a = B a) (hen : e ≤ n) {val val' : jP → Except Nat (jP × Nat)} (hlt : ∀ p r, val p = .ok r → p.1 < r.1.1) (hval : ∀ p r, val p = .ok r → r.1.1 ≤ e → val' p = .ok r) {v : Nat} : ∀ f p last p' f', jLs B n val v f p last = .ok p' → p'.1 ≤ e → e < p.1 + f' → jLs B' e val' v f' p last = .ok p'
  | 0, _, _, _, _, h, _, _ => by cases h
  | f + 1, p, last, p', f', h, he, hf => by
    have hl := jLs_lt hlt _ _ _ _ h
    obtain ⟨g, rfl⟩ : ∃ g, f' = g + 1 := ⟨f' - 1, by omega⟩
    unfold jLs at h ⊢
    split at h
    · cases h
    · rename_i p1 w hv
      have h1 : p.1 < p1.1 := hlt _ _ hv
      split at h
      · cases h
      · rename_i a hs
        have h2 : p1.1 < a := jSp_lt hs
        have h3 := jLs_lt hlt _ _ _ _ h
        have h3 : a < p'.1 := h3
        rw [hval _ _ hv (by show p1.1 ≤ e; omega)]
        show (match jSp B' e 93 p1.1 with | .error e => _ | .ok (true, a) => _ | .ok (false, a) => _) = _
        rw [jSp_c hB hen hs (by show a ≤ e; omega) (fun _ => by show a < e; omega)]
        exact jLs_c hB hen hlt hval f _ _ _ g h he (by show e < a + g; omega)
      · rename_i a hs
        cases h
        have he : a ≤ e := he
        have h2 : p1.1 < a := jSp_lt hs
        rw [hval _ _ hv (by show p1.1 ≤ e; omega)]
        show (match jSp B' e 93 p1.1 with | .error e => _ | .ok (true, a) => _ | .ok (false, a) => _) = _
        rw [jSp_c hB hen hs he (fun e => by cases e)]
theorem jOs_c (hB : ∀ a, a < e → B' a = B a) (hen : e ≤ n) {val val' : jP → Except Nat (jP × Nat)} (hlt : ∀ p r, val p = .ok r → p.1 < r.1.1) (hval : ∀ p r, val p = .ok r → r.1.1 ≤ e → val' p = .ok r) {v : Nat} : ∀ f p last p' f', jOs B n val v f p last = .ok p' → p'.1 ≤ e → e < p.1 + f' → jOs B' e val' v f' p last = .ok p'
  | 0, _, _, _, _, h, _, _ => by cases h
  | f + 1, p, last, p', f', h, he, hf => by
    have hl := jOs_lt hlt _ _ _ _ h
    obtain ⟨g, rfl⟩ : ∃ g, f' = g + 1 := ⟨f' - 1, by omega⟩
    unfold jOs at h ⊢
    rw [jBt_c hB hen (show p.1 < e by omega)]
    split at h
    · rename_i hx
      rw [if_pos hx]
      split at h
      · cases h
      · rename_i p1 key hk
        have h0 : p.1 < p1.1 := jStr_lt hk
        split at h
        · rename_i hfd
          split at h
          · rename_i h58
            split at h
            · cases h
            · rename_i p2 w hv
              have h1 : jSk B n (jSk B n p1.1 + 1) < p2.1 := hlt _ _ hv
              have g1 := jSk_ge (B := B) (n := n) (a := p1.1)
              have g2 := jSk_ge (B := B) (n := n) (a := jSk B n p1.1 + 1)
              split at h
              · cases h
              · rename_i a hs
                have h2 : p2.1 < a := jSp_lt hs
                have h3 := jOs_lt hlt _ _ _ _ h
                have h3 : a < p'.1 := h3
                rw [jStr_c hB hen hk (by show p1.1 ≤ e; omega)]
                show (if jFd p1.2.2.2.1 (fun k => jSm p1.2.2.2.1 k key) (p1.2.2.2.1 2 v / 2) (p1.2.2.2.1 3 v) = 0 then _ else _) = _
                rw [if_pos hfd, jSk_c hB hen (show jSk B n p1.1 < e by omega), jBt_c hB hen (show jSk B n p1.1 < e by omega), if_pos h58, jSk_c hB hen (show jSk B n (jSk B n p1.1 + 1) < e by omega)]
                rw [hval _ _ hv (by show p2.1 ≤ e; omega)]
                show (match jSp B' e 125 p2.1 with | .error e => _ | .ok (true, a) => _ | .ok (false, a) => _) = _
                rw [jSp_c hB hen hs (by show a ≤ e; omega) (fun _ => by show a < e; omega)]
                exact jOs_c hB hen hlt hval f _ _ _ g h he (by show e < a + g; omega)
              · rename_i a hs
                cases h
                have he : a ≤ e := he
                have h2 : p2.1 < a := jSp_lt hs
                rw [jStr_c hB hen hk (by show p1.1 ≤ e; omega)]
                show (if jFd p1.2.2.2.1 (fun k => jSm p1.2.2.2.1 k key) (p1.2.2.2.1 2 v / 2) (p1.2.2.2.1 3 v) = 0 then _ else _) = _
                rw [if_pos hfd, jSk_c hB hen (show jSk B n p1.1 < e by omega), jBt_c hB hen (show jSk B n p1.1 < e by omega), if_pos h58, jSk_c hB hen (show jSk B n (jSk B n p1.1 + 1) < e by omega)]
                rw [hval _ _ hv (by show p2.1 ≤ e; omega)]
                show (match jSp B' e 125 p2.1 with | .error e => _ | .ok (true, a) => _ | .ok (false, a) => _) = _
                rw [jSp_c hB hen hs he (fun e => by cases e)]
          · cases h
        · cases h
    · cases h
theorem jCo_c (hB : ∀ a, a < e → B' a = B a) (hen : e ≤ n) {val val' : jP → Except Nat (jP × Nat)} (hlt : ∀ p r, val p = .ok r → p.1 < r.1.1) (hval : ∀ p r, val p = .ok r → r.1.1 ≤ e → val' p = .ok r) {p : jP} {r : jP × Nat} (h : jCo B n val p = .ok r) (he : r.1.1 ≤ e) : jCo B' e val' p = .ok r := by
  have hl := jCo_lt hlt h
  have g := jSk_ge (B := B) (n := n) (a := p.1 + 1)
  unfold jCo at h ⊢
  rw [jBt_c hB hen (show p.1 < e by omega)]
  split at h
  · rename_i hx
    rw [if_pos hx]
    simp only at h ⊢
    split at h
    · rename_i h1
      cases h
      have he : jSk B n (p.1 + 1) + 1 ≤ e := he
      have h1 : jBt B n (jSk B n (p.1 + 1)) = 125 := h1
      rw [jSk_c hB hen (show jSk B n (p.1 + 1) < e by omega)]
      show (if jBt B' e (jSk B n (p.1 + 1)) = 125 then _ else _) = _
      rw [jBt_c hB hen (show jSk B n (p.1 + 1) < e by omega), if_pos h1]
    · rename_i h1
      have h1 : ¬ jBt B n (jSk B n (p.1 + 1)) = 125 := h1
      split at h
      · cases h
      · rename_i p2 hs
        cases h
        have he : p2.1 ≤ e := he
        have h2 := jOs_lt hlt _ _ _ _ hs
        have h2 : jSk B n (p.1 + 1) < p2.1 := h2
        rw [jSk_c hB hen (show jSk B n (p.1 + 1) < e by omega)]
        show (if jBt B' e (jSk B n (p.1 + 1)) = 125 then _ else _) = _
        rw [jBt_c hB hen (show jSk B n (p.1 + 1) < e by omega), if_neg h1, jOs_c hB hen hlt hval _ _ _ _ (e + 1) hs he (by show e < jSk B n (p.1 + 1) + (e + 1); omega)]
  · rename_i hx
    rw [if_neg hx]
    simp only at h ⊢
    split at h
    · rename_i h1
      cases h
      have he : jSk B n (p.1 + 1) + 1 ≤ e := he
      have h1 : jBt B n (jSk B n (p.1 + 1)) = 93 := h1
      rw [jSk_c hB hen (show jSk B n (p.1 + 1) < e by omega)]
      show (if jBt B' e (jSk B n (p.1 + 1)) = 93 then _ else _) = _
      rw [jBt_c hB hen (show jSk B n (p.1 + 1) < e by omega), if_pos h1]
    · rename_i h1
      have h1 : ¬ jBt B n (jSk B n (p.1 + 1)) = 93 := h1
      split at h
      · cases h
      · rename_i p2 hs
        cases h
        have he : p2.1 ≤ e := he
        have h2 := jLs_lt hlt _ _ _ _ hs
        have h2 : jSk B n (p.1 + 1) < p2.1 := h2
        rw [jSk_c hB hen (show jSk B n (p.1 + 1) < e by omega)]
        show (if jBt B' e (jSk B n (p.1 + 1)) = 93 then _ else _) = _
        rw [jBt_c hB hen (show jSk B n (p.1 + 1) < e by omega), if_neg h1, jLs_c hB hen hlt hval _ _ _ _ (e + 1) hs he (by show e < jSk B n (p.1 + 1) + (e + 1); omega)]
theorem jV_c (hB : ∀ a, a < e → B' a = B a) (hen : e ≤ n) : ∀ D p r, jV B n D p = .ok r → r.1.1 ≤ e → jV B' e D p = .ok r
  | 0, p, r, h, he => by
    have hl := jV_lt 0 p r h
    unfold jV at h ⊢
    rw [jBt_c hB hen (show p.1 < e by omega)]
    split at h
    · cases h
    · rename_i hx
      rw [if_neg hx]
      exact jLf_c hB hen h he
  | D + 1, p, r, h, he => by
    have hl := jV_lt (D + 1) p r h
    unfold jV at h ⊢
    rw [jBt_c hB hen (show p.1 < e by omega)]
    split at h
    · rename_i hx
      rw [if_pos hx]
      exact jCo_c hB hen (jV_lt D) (jV_c hB hen D) h he
    · rename_i hx
      rw [if_neg hx]
      exact jLf_c hB hen h he
/-- a text that is cut behind its value -/
theorem jRd_c {p : jP} {v : Nat} (h : jRd B n = .ok (p, v, e)) (hen : e ≤ n) (hB : ∀ a, a < e → B' a = B a) : jRd B' e = .ok (p, v, e) := by
  unfold jRd at h ⊢
  split at h
  · cases h
  · rename_i p1 v1 hv
    split at h
    · rename_i hs
      cases h
      have hl := jV_lt _ _ _ hv
      have hl : jSk B n 0 < p.1 := hl
      rw [jSk_c hB hen hl, jV_c hB hen _ _ _ hv (Nat.le_refl _)]
      have he : jSk B' p.1 p.1 = p.1 := by
        have : ∀ f, jSkF B' p.1 f p.1 = p.1 := fun f => by
          cases f with
          | zero => rfl
          | succ f =>
            show (if jBl (jBt B' p.1 p.1) then _ else p.1) = p.1
            rw [if_neg (by rw [jBt_e (Nat.le_refl _)]; omega)]
        exact this _
      show (if jSk B' p.1 p.1 = p.1 then _ else _) = _
      rw [if_pos he]
    · cases h
/-- a schema's text that is cut behind its value -/
theorem kTx_c {p : jP} {q : kP} {x : Nat} (h : kTx B n = .ok (p, q, x)) (hen : p.1 ≤ n) (hB : ∀ a, a < p.1 → B' a = B a) : kTx B' p.1 = .ok (p, q, x) := by
  unfold kTx at h ⊢
  split at h
  · cases h
  · rename_i p1 v1 e1 hr
    split at h
    · cases h
    · rename_i q1 x1 hs
      cases h
      have he : e1 = p.1 := by
        unfold jRd at hr
        split at hr
        · cases hr
        · split at hr
          · cases hr; rfl
          · cases hr
      subst he
      rw [jRd_c hr hen hB]
      show (match kSr p.2.2.2.1 p.2.2.2.2 with | .error x => _ | .ok (q, x) => _) = _
      rw [hs]
end
