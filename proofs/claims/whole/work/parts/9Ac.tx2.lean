/-! the lake's Text: strings, words -/
theorem nI_ne {x : Nat} (h : x < 2147483648) : ¬ nI x = -1 := by
  intro e
  have := nI_pos (n := x) h
  rw [e] at this
  exact this (by decide)
section
variable {p : jP} {s : aT} {B : Nat → Nat} {n fr : Nat}
/-- a reading that failed -/
def lX (s : aT) (e : Nat) (F : aRs) : Prop := ∃ p1 : jP, p1.1 ≤ 4096 ∧ F = rI (-1) (lJ p1 (pI s 13 10 (nI e)))
theorem lJ_push {l v : Nat} {a m : Nat} {T : Nat → Nat → Nat} {N : Nat → Int} : pI (pI (lJ (a, m, l, T, N) s) 21 l (mI v)) 20 1 (nI (l + 1)) = lJ (a, m, l + 1, a2 T 6 l v, N) s := by
  refine aT_ext (fun k i => ?_) (fun k i => ?_) rfl
  · simp only [gI_pI]
    simp only [gI, lJ, a2_ite]
    by_cases h0 : k = 20
    · subst h0
      by_cases h15 : i = 1 <;> simp [h15]
    · by_cases h8 : k = 21
      · subst h8
        by_cases hi : i = l
        · subst hi; simp
        · have e : (i < l + 1) = (i < l) := by apply propext; omega
          simp [hi, e]
      · simp [h0, h8]
  · simp [gL, lJ, pI, a2_ite]
theorem Tx_put (d : Nat) {a m l b : Nat} {T : Nat → Nat → Nat} {N : Nat → Int} (hl : l < 4096) (hb : b < 256) : fBy_put d 20 (nI b) (lJ (a, m, l, T, N) s) = rI 1 (lJ (a, m, l + 1, a2 T 6 l b, N) s) := by
  refine eBy_put d 20 _ _ isB_20 _ ?_
  have e : alen (20 + 1) = 4096 := alen_21
  rw [e, lJ_l]
  show (if nI l < nI 4096 then _ else _) = _
  simp (disch := omega) only [nI_ltE]
  rw [if_pos hl, stI_n hl (by omega), nI_byte hb, wI_eq, gI_pI, if_neg (by omega), lJ_l]
  show rI 1 (pI (pI (lJ (a, m, l, T, N) s) 21 l (mI b)) 20 1 (nI l + 1)) = _
  rw [nI_add1, lJ_push]
  rfl
theorem Tx_str17 (hB : lB0 s B n fr) (d : Nat) {m v l0 : Nat} {N : Nat → Int} (hv : v < m) (hm : m ≤ 4096) : ∀ f a l T, n < a + f → a ≤ n → l0 ≤ l → l ≤ a → T 0 v = 2 → T 5 v = l0 → match jSl B n f a l T with
    | .ok (a1, l1, T1) => fTx_string_17 (d + 3) (nI v) (lJ (a, m, l, T, N) s) = rI (nI v) (lJ (a1, m, l1, a2 T1 2 v (l1 - l0), N) s)
    | .error e => lX s e (fTx_string_17 (d + 3) (nI v) (lJ (a, m, l, T, N) s)) := by
  intro f
  induction f with
  | zero => intro a l T h1 h2; omega
  | succ f ih =>
    intro a l T h1 h2 h3 h4 hT hT5
    have hn := hB.1
    have hb := jBt_le (n := n) (a := a) hB.2.2.2.2.2.2
    have hpk : ∀ d, fTx_peek d (lJ (a, m, l, T, N) s) = rI (uI (jBt B n a)) (lJ (a, m, l, T, N) s) := fun d => Tx_peek (p := (a, m, l, T, N)) d hB h2
    have hlen : gI (lJ (a, m, l, T, N) s) 13 13 = nI n := by rw [lJ_f (by omega)]; exact hB.2.1
    have hat : gI (lJ (a, m, l, T, N) s) 13 14 = nI a := lJ_at
    have e64 : ∀ b a1 r, b < 256 → a ≤ a1 → a1 < n → fTx_string_17 (d + 3) (nI v) (lJ (a1 + 1, m, l + 1, a2 T 6 l b, N) s) = some r → fTx_string_64 (d + 3) (nI v) (nI b) (lJ (a1, m, l, T, N) s) = some r := by
      intro b a1 r hb ha ha1 hr
      refine eTx_string_64 (d + 2) _ _ _ _ ?_
      rw [if_pos (nI_ne (by omega)), Tx_put _ (by omega) hb, cG_I, wI_eq, lJ_at, nI_add1, lJ_to]
      exact hr
    unfold jSl
    by_cases h34 : jBt B n a = 34
    · rw [if_pos h34]
      have hlt := jBt_lt h34 (by omega)
      simp only
      refine eTx_string_17 (d + 2) _ _ _ ?_
      rw [hlen, hat]
      simp (disch := omega) only [nI_leE]
      rw [if_neg (by omega), hpk, cG_I]
      simp (disch := omega) only [nI_lit 34, uI_eqE]
      rw [if_neg (by omega), wI_eq, hat, nI_add1, lJ_to, ldI_n (by omega) (by omega), lJ_S (by exact hv) (by exact hT), stI_n (by omega) (by omega), lJ_l]
      show rI (nI v) (pI (lJ (a + 1, m, l, T, N) s) 17 v (nI l - nI (T 5 v))) = _
      rw [hT5, nI_sub h3, lJ_setZ (by exact hv) (by show T 0 v ≠ 3; omega)]
      rfl
    · rw [if_neg h34]
      by_cases hr : jBt B n a < 32 ∨ 126 < jBt B n a
      · rw [if_pos hr]
        refine ⟨(a, m, l, T, N), by show a ≤ 4096; omega, ?_⟩
        refine eTx_string_17 (d + 2) _ _ _ ?_
        rw [hlen, hat]
        simp (disch := omega) only [nI_leE]
        by_cases hna : n ≤ a
        · rw [if_pos hna, Tx_failHere, cG_I]
          rfl
        · have hbt : jBt B n a ≠ 256 := by
            unfold jBt
            rw [if_pos (by omega)]
            have := hB.2.2.2.2.2.2 a
            omega
          have e54 : fTx_string_54 (d + 3) (lJ (a, m, l, T, N) s) = rI (-1) (lJ (a, m, l, T, N) (pI s 13 10 (nI a))) := by
            refine eTx_string_54 (d + 2) _ _ ?_
            rw [Tx_failHere, cG_I]
            rfl
          have eu : uI (jBt B n a) = nI (jBt B n a) := by unfold uI; rw [if_pos (by omega)]
          rw [if_neg hna, hpk, cG_I, eu, e54]
          simp (disch := omega) only [nI_lit 34, nI_lit 32, nI_lit 126, nI_eqE, nI_ltE, nI_leE]
          rw [if_pos h34]
          by_cases hx : jBt B n a < 32
          · rw [if_pos hx]; rfl
          · rw [if_neg hx, if_neg (by omega)]; rfl
      · rw [if_neg hr]
        have hlt := jBt_lt (B := B) (n := n) (a := a) rfl (by omega)
        have eu : uI (jBt B n a) = nI (jBt B n a) := by unfold uI; rw [if_pos (by omega)]
        have go : ∀ r, (if jBt B n a = 92 then cG (fTx_escape (d + 2) (lJ (a, m, l, T, N) s)) (kI fun v6 s5 => fTx_string_64 (d + 3) (nI v) v6 s5) else fTx_string_64 (d + 3) (nI v) (nI (jBt B n a)) (lJ (a, m, l, T, N) s)) = some r → fTx_string_17 (d + 3) (nI v) (lJ (a, m, l, T, N) s) = some r := by
          intro r hr2
          refine eTx_string_17 (d + 2) _ _ _ ?_
          rw [hlen, hat]
          simp (disch := omega) only [nI_leE]
          rw [if_neg (by omega), hpk, cG_I, eu]
          simp (disch := omega) only [nI_lit 34, nI_lit 32, nI_lit 126, nI_lit 92, nI_eqE, nI_ltE, nI_leE]
          rw [if_pos h34, if_neg (by omega), if_pos (by omega)]
          by_cases h92 : jBt B n a = 92
          · rw [if_pos h92] at hr2
            rw [if_neg (by omega)]
            exact hr2
          · rw [if_neg h92] at hr2
            rw [if_pos h92]
            exact hr2
        by_cases h92 : jBt B n a = 92
        · rw [if_pos h92] at go ⊢
          have hesc := Tx_esc (p := (a, m, l, T, N)) hB d hlt
          simp only at hesc
          revert hesc
          cases he : jEs B n a with
          | error e =>
            rintro ⟨a1, hq, h⟩
            refine ⟨jTo (a, m, l, T, N) a1, by show a1 ≤ 4096; omega, go _ ?_⟩
            rw [h, cG_I]
            refine eTx_string_64 (d + 2) _ _ _ _ ?_
            rw [if_neg (by decide)]
            rfl
          | ok q =>
            obtain ⟨b, a1⟩ := q
            simp only
            intro h
            have hj := jEs_ok he
            simp only at hj
            have ih := ih a1 (l + 1) (a2 T 6 l b) (by omega) (by omega) (by omega) (by omega) (by simp [a2_ite, hT]) (by simp [a2_ite, hT5])
            have go2 : ∀ r, fTx_string_17 (d + 3) (nI v) (lJ (a1, m, l + 1, a2 T 6 l b, N) s) = some r → fTx_string_17 (d + 3) (nI v) (lJ (a, m, l, T, N) s) = some r := by
              intro r hr2
              refine go _ ?_
              rw [h, cG_I]
              have e1 : a1 - 1 + 1 = a1 := by omega
              refine e64 b (a1 - 1) r hj.1 (by omega) (by omega) ?_
              rw [e1]
              exact hr2
            revert ih
            cases jSl B n f a1 (l + 1) (a2 T 6 l b) with
            | error e => rintro ⟨p1, hq, h⟩; exact ⟨p1, hq, go2 _ h⟩
            | ok q =>
              obtain ⟨a2', l2, T2⟩ := q
              simp only
              intro h
              exact go2 _ h
        · rw [if_neg h92] at go ⊢
          have ih := ih (a + 1) (l + 1) (a2 T 6 l (jBt B n a)) (by omega) (by omega) (by omega) (by omega) (by simp [a2_ite, hT]) (by simp [a2_ite, hT5])
          have go2 : ∀ r, fTx_string_17 (d + 3) (nI v) (lJ (a + 1, m, l + 1, a2 T 6 l (jBt B n a), N) s) = some r → fTx_string_17 (d + 3) (nI v) (lJ (a, m, l, T, N) s) = some r := by
            intro r hr2
            refine go _ ?_
            exact e64 _ a r (by omega) (Nat.le_refl _) hlt hr2
          revert ih
          cases jSl B n f (a + 1) (l + 1) (a2 T 6 l (jBt B n a)) with
          | error e => rintro ⟨p1, hq, h⟩; exact ⟨p1, hq, go2 _ h⟩
          | ok q =>
            obtain ⟨a2', l2, T2⟩ := q
            simp only
            intro h
            exact go2 _ h
/-- what a value's reading answers, in the lake -/
def lRv (s : aT) (F : aRs) (x : Except Nat (jP × Nat)) : Prop := match x with
  | .ok (p1, v) => F = rI (nI v) (lJ p1 s)
  | .error e => lX s e F
theorem lRv_go {F G : aRs} {x : Except Nat (jP × Nat)} (h : lRv s F x) (go : ∀ v t, F = rI v t → G = rI v t) : lRv s G x := by
  unfold lRv at h ⊢
  split at h
  · exact go _ _ h
  · obtain ⟨p1, hq, h⟩ := h
    exact ⟨p1, hq, go _ _ h⟩
theorem Tx_str (hB : lB0 s B n fr) (d : Nat) (ho : jOk n p) (hp : p.1 < n) : lRv s (fTx_string (d + 3) (lJ p s)) (jStr B n p) := by
  have hn := hB.1
  obtain ⟨o1, o2, o3⟩ := ho
  have h17 := Tx_str17 hB d (m := p.2.1 + 1) (v := p.2.1) (l0 := p.2.2.1) (N := (jNd 2 p).2.2.2.2) (by omega) (by omega) (n + 1) (p.1 + 1) p.2.2.1 (a2 (jNd 2 p).2.2.2.1 5 p.2.1 p.2.2.1) (by omega) (by omega) (by omega) (by omega) (by rw [a2_ite, if_neg (by omega), jNd_row]; simp) (by rw [a2_ite, if_pos ⟨rfl, rfl⟩])
  have go : ∀ r, fTx_string_17 (d + 3) (nI p.2.1) (lJ (p.1 + 1, p.2.1 + 1, p.2.2.1, a2 (jNd 2 p).2.2.2.1 5 p.2.1 p.2.2.1, (jNd 2 p).2.2.2.2) s) = some r → fTx_string (d + 3) (lJ p s) = some r := by
    intro r hr
    refine eTx_string (d + 2) _ _ ?_
    have hadd : fTx_add (d + 2) 2 (lJ p s) = rI (nI p.2.1) (pI (pI (pI (pI (pI (pI (lJ p s) 13 7 (nI p.2.1 + 1)) 14 p.2.1 (nI 2)) 15 p.2.1 (nI p.1)) 16 p.2.1 (-1)) 17 p.2.1 0) 18 p.2.1 (-1)) := by
      refine eTx_add (d + 2) _ _ _ ?_
      simp (disch := omega) [lJ_n, stI_n, gI_pI, wI_eq, lJ_at]
      rfl
    rw [hadd, cG_I, stI_n (by omega) (by omega)]
    have e20 : gI (pI (pI (pI (pI (pI (pI (lJ p s) 13 7 (nI p.2.1 + 1)) 14 p.2.1 (nI 2)) 15 p.2.1 (nI p.1)) 16 p.2.1 (-1)) 17 p.2.1 0) 18 p.2.1 (-1)) 20 1 = nI p.2.2.1 := by
      simp [gI_pI, lJ_l]
    rw [e20, lJ_nd2, wI_eq, lJ_at, nI_add1, lJ_to]
    exact hr
  unfold jStr
  revert h17
  cases jSl B n (n + 1) (p.1 + 1) p.2.2.1 (a2 (jNd 2 p).2.2.2.1 5 p.2.1 p.2.2.1) with
  | error e => rintro ⟨p1, hq, h⟩; exact ⟨p1, hq, go _ h⟩
  | ok q =>
    obtain ⟨a1, l1, T1⟩ := q
    simp only
    intro h
    exact go _ h
theorem Tx_word6 (hB : lB0 s B n fr) (d : Nat) {w : Nat} (hw : 1000 ≤ w ∧ w < 1080) {W : List Nat} (hlen : sL (w - 1000) = W.length) (hsB : ∀ j, j < W.length → sB (w - 1000) j = nI (W.getD j 0)) (hW : ∀ j, j < W.length → W.getD j 0 < 128) (hl : W.length < 100) {v : Nat} : ∀ k j a, j + k = W.length → a ≤ n → match jWl B n (W.drop j) a with
    | .ok a1 => fTx_word_6 (d + 6) w (nI v) (nI j) (lJ (jTo p a) s) = rI (nI v) (lJ (jTo p a1) s)
    | .error e => ∃ a1, a1 ≤ n ∧ fTx_word_6 (d + 6) w (nI v) (nI j) (lJ (jTo p a) s) = rI (-1) (lJ (jTo p a1) (pI s 13 10 (nI e))) := by
  have h900 : aPrim 900 [.ref w] = some (.int (nI W.length)) := by
    unfold aPrim
    rw [if_pos rfl]
    simp only
    rw [if_pos hw, hlen]
  intro k
  induction k with
  | zero =>
    intro j a hj ha
    rw [List.drop_eq_nil_of_le (by omega)]
    simp only [jWl]
    refine eTx_word_6 d _ _ _ _ _ ?_
    rw [cP_of h900]
    simp (disch := omega) only [nI_leE]
    rw [if_pos (by omega)]
    rfl
  | succ k ih =>
    intro j a hj ha
    have hjl : j < W.length := by omega
    have hb := jBt_le (n := n) (a := a) hB.2.2.2.2.2.2
    have h901 : aPrim 901 [.ref w, .int (nI j)] = some (.int (nI (W.getD j 0))) := by
      unfold aPrim
      rw [if_neg (by decide), if_pos rfl]
      simp only
      rw [if_pos ⟨hw, nI_pos (by omega), by rw [nI_clamp (by omega), hlen]; exact hjl⟩, nI_clamp (by omega), hsB j hjl]
    have hWj := hW j hjl
    have hpk : fTx_peek (d + 5) (lJ (jTo p a) s) = rI (uI (jBt B n a)) (lJ (jTo p a) s) := Tx_peek (p := jTo p a) (d + 5) hB ha
    rw [List.drop_eq_getElem_cons hjl]
    have eg : W[j] = W.getD j 0 := by simp [hjl]
    rw [eg]
    unfold jWl
    by_cases hx : jBt B n a = W.getD j 0
    · rw [if_pos hx]
      have hlt := jBt_lt hx (by omega)
      have ih := ih (j + 1) (a + 1) (by omega) hlt
      have go : ∀ r, fTx_word_6 (d + 6) w (nI v) (nI (j + 1)) (lJ (jTo p (a + 1)) s) = some r → fTx_word_6 (d + 6) w (nI v) (nI j) (lJ (jTo p a) s) = some r := by
        intro r hr
        refine eTx_word_6 d _ _ _ _ _ ?_
        rw [cP_of h900]
        simp (disch := omega) only [nI_leE]
        rw [if_neg (by omega), hpk, cG_I, cP_of h901]
        simp (disch := omega) only [uI_eqE]
        rw [if_pos hx, wI_eq, lJ_at]; simp only [nI_add1, lJ_to]
        exact hr
      revert ih
      cases jWl B n (List.drop (j + 1) W) (a + 1) with
      | error e => rintro ⟨a1, hq, h⟩; exact ⟨a1, hq, go _ h⟩
      | ok a1 => intro h; exact go _ h
    · rw [if_neg hx]
      refine ⟨a, ha, ?_⟩
      refine eTx_word_6 d _ _ _ _ _ ?_
      rw [cP_of h900]
      simp (disch := omega) only [nI_leE]
      rw [if_neg (by omega), hpk, cG_I, cP_of h901]
      simp (disch := omega) only [uI_eqE]
      rw [if_neg hx, Tx_failHere, cG_I]
      rfl
theorem Tx_word (hB : lB0 s B n fr) (d : Nat) (ho : jOk n p) (hp : p.1 < n) (k w : Nat) (W : List Nat) (hw : k = 4 ∧ w = 1000 ∧ W = [116, 114, 117, 101] ∨ k = 5 ∧ w = 1001 ∧ W = [102, 97, 108, 115, 101] ∨ k = 6 ∧ w = 1002 ∧ W = [110, 117, 108, 108]) : lRv s (fTx_word (d + 6) w (nI k) (lJ p s)) (jWd B n k W p) := by
  have hn := hB.1
  obtain ⟨o1, o2, o3⟩ := ho
  have hk : 1000 ≤ w ∧ w < 1080 ∧ sL (w - 1000) = W.length ∧ (∀ j, j < W.length → sB (w - 1000) j = nI (W.getD j 0)) ∧ (∀ j, j < W.length → W.getD j 0 < 128) ∧ W.length < 100 := by
    rcases hw with ⟨_, rfl, rfl⟩ | ⟨_, rfl, rfl⟩ | ⟨_, rfl, rfl⟩ <;> decide
  obtain ⟨k1, k2, k3, k4, k5, k6⟩ := hk
  have h := Tx_word6 (p := jNd k p) hB d ⟨k1, k2⟩ k3 k4 k5 k6 (v := p.2.1) W.length 0 p.1 (by omega) o1
  have go : ∀ r, fTx_word_6 (d + 6) w (nI p.2.1) (nI 0) (lJ (jTo (jNd k p) p.1) s) = some r → fTx_word (d + 6) w (nI k) (lJ p s) = some r := by
    intro r hr
    refine eTx_word d _ _ _ _ ?_
    rw [Tx_add' _ k (by omega) (by omega), cG_I]
    exact hr
  unfold jWd
  rw [List.drop_zero] at h
  revert h
  cases jWl B n W p.1 with
  | error e => rintro ⟨a1, hq, h⟩; exact ⟨jTo (jNd k p) a1, by show a1 ≤ 4096; omega, go _ h⟩
  | ok a1 => intro h; exact go _ h
end
