/-! the reference's Text: same, words -/
theorem mI_inj {x y : Nat} (hx : x < 256) (hy : y < 256) : (mI x = mI y) = (x = y) := by
  apply propext
  rw [← Int32.toInt_inj, mI_toInt (by omega), mI_toInt (by omega)]
  repeat' split
  all_goals omega
theorem long_nI {x : Nat} : (Int64.ofNat x).toInt32 = nI x := by
  exact Int64.toInt32_ofNat'
theorem Mt_same13 {c t : Nat} (hc : isT c) (ht : isT t) (d : Nat) {s : aT} {x y la lb sa sb : Nat} {LA LB : Nat → Nat} (hx : x < 4200) (hy : y < 4200) (h1 : gI s (c + 5) x = nI la) (h3 : gL s (c + 4) x = Int64.ofNat sa) (h4 : gL s (t + 4) y = Int64.ofNat sb) (h5 : ∀ i, i < la → gI s (c + 8) (sa + i) = mI (LA i)) (h6 : ∀ i, i < lb → gI s (t + 8) (sb + i) = mI (LB i)) (ba : sa + la ≤ 4200) (bb : sb + lb ≤ 4200) (hA : ∀ i, i < la → LA i < 256) (hB : ∀ i, i < lb → LB i < 256) (hl : la = lb) : ∀ k j, j + k = la → fMt_same_13 d c (nI x) t (nI y) (nI j) s = rI (if ∀ i, i < la → j ≤ i → LA i = LB i then 1 else 0) s := by
  intro k
  induction k with
  | zero =>
    intro j hj
    refine eMt_same_13 d c _ t _ _ _ hc ht _ ?_
    rw [ldI_n (by omega) (by omega), h1]
    simp (disch := omega) only [nI_leE]
    rw [if_pos (by omega), if_pos (fun i a b => by omega)]
    rfl
  | succ k ih =>
    intro j hj
    have hjl : j < la := by omega
    refine eMt_same_13 d c _ t _ _ _ hc ht _ ?_
    rw [ldI_n (by omega) (by omega), h1]
    simp (disch := omega) only [nI_leE]
    rw [if_neg (by omega), ldL_n (by omega) (by omega), h3, long_nI, nI_addE, ldI_n (by omega) (by omega), ldL_n (by omega) (by omega), h4, long_nI, nI_addE, ldI_n (by omega) (by omega), h5 j hjl, h6 j (by omega)]
    simp only [mI_inj (hA j hjl) (hB j (by omega))]
    by_cases he : LA j = LB j
    · rw [if_pos he, nI_add1, ih (j + 1) (by omega)]
      have : (∀ i, i < la → j ≤ i → LA i = LB i) ↔ (∀ i, i < la → j + 1 ≤ i → LA i = LB i) := by
        constructor
        · intro h i a b; exact h i a (by omega)
        · intro h i a b
          rcases Nat.lt_or_ge j i with g | g
          · exact h i a g
          · have : i = j := by omega
            rw [this]; exact he
      simp only [this]
      rfl
    · rw [if_neg he, if_neg (fun h => he (h j hjl (Nat.le_refl _)))]
      rfl
theorem Mt_same {c t : Nat} (hc : isT c) (ht : isT t) (d : Nat) {s : aT} {x y la lb sa sb : Nat} {LA LB : Nat → Nat} (hx : x < 4200) (hy : y < 4200) (h1 : gI s (c + 5) x = nI la) (h2 : gI s (t + 5) y = nI lb) (h3 : gL s (c + 4) x = Int64.ofNat sa) (h4 : gL s (t + 4) y = Int64.ofNat sb) (h5 : ∀ i, i < la → gI s (c + 8) (sa + i) = mI (LA i)) (h6 : ∀ i, i < lb → gI s (t + 8) (sb + i) = mI (LB i)) (ba : sa + la ≤ 4200) (bb : sb + lb ≤ 4200) (hA : ∀ i, i < la → LA i < 256) (hB : ∀ i, i < lb → LB i < 256) : fMt_same d c (nI x) t (nI y) s = rI (if la = lb ∧ ∀ i, i < la → LA i = LB i then 1 else 0) s := by
  refine eMt_same d c _ t _ _ hc ht _ ?_
  rw [ldI_n (by omega) (by omega), ldI_n (by omega) (by omega), h1, h2]
  simp (disch := omega) only [nI_eqE]
  by_cases h : la = lb
  · rw [if_pos h]
    have := Mt_same13 hc ht d hx hy h1 h3 h4 h5 h6 ba bb hA hB h la 0 (by omega)
    rw [show (0 : Int32) = nI 0 from rfl, this]
    have e : (la = lb ∧ ∀ i, i < la → LA i = LB i) ↔ (∀ i, i < la → 0 ≤ i → LA i = LB i) := ⟨fun g i a _ => g.2 i a, fun g => ⟨h, fun i a => g i a (Nat.zero_le _)⟩⟩
    simp only [e]
    rfl
  · rw [if_neg h, if_neg (fun g => h g.1)]
    rfl
section
variable {c : Nat} {p : jP} {s : aT} {B : Nat → Nat} {n : Nat}
/-- two strings of one text -/
theorem Mt_sameS (hc : isT c) (d : Nat) {x y : Nat} (hm : p.2.1 ≤ 4200) (hl : p.2.2.1 ≤ 4200) (hL : jLe p) (hx : x < p.2.1) (hy : y < p.2.1) (kx : p.2.2.2.1 0 x = 2) (ky : p.2.2.2.1 0 y = 2) (bx : p.2.2.2.1 5 x + p.2.2.2.1 2 x ≤ p.2.2.1) (by' : p.2.2.2.1 5 y + p.2.2.2.1 2 y ≤ p.2.2.1) : fMt_same d c (nI x) c (nI y) (mJ c p s) = rI (if jSm p.2.2.2.1 x y then 1 else 0) (mJ c p s) := by
  have h := Mt_same hc hc d (s := mJ c p s) (x := x) (y := y) (la := p.2.2.2.1 2 x) (lb := p.2.2.2.1 2 y) (sa := p.2.2.2.1 5 x) (sb := p.2.2.2.1 5 y) (LA := fun i => p.2.2.2.1 6 (p.2.2.2.1 5 x + i)) (LB := fun i => p.2.2.2.1 6 (p.2.2.2.1 5 y + i)) (by omega) (by omega) (mJ_Z' hx (by omega)) (mJ_Z' hy (by omega)) (mJ_S hx kx) (mJ_S hy ky) (fun i hi => mJ_L (by omega)) (fun i hi => mJ_L (by omega)) (by omega) (by omega) (fun i hi => hL _ (by omega)) (fun i hi => hL _ (by omega))
  rw [h]
  unfold jSm
  simp only [decide_eq_true_eq]
/-- the words true, false, null -/
theorem Mt_word (hc : isT c) (hB : mB0 c s B n) (d : Nat) {w : Nat} (hw : 1000 ≤ w ∧ w < 1080) {W : List Nat} (hlen : sL (w - 1000) = W.length) (hsB : ∀ j, j < W.length → sB (w - 1000) j = nI (W.getD j 0)) (hW : ∀ j, j < W.length → W.getD j 0 < 128) (hl : W.length < 100) {v : Nat} : ∀ k j a, j + k = W.length → a ≤ n → match jWl B n (W.drop j) a with
    | .ok a1 => fMt_value_90 (d + 7) c (nI v) w (nI j) (mJ c (jTo p a) s) = rI (nI v) (mJ c (jTo p a1) s)
    | .error e => ∃ a1, fMt_value_90 (d + 7) c (nI v) w (nI j) (mJ c (jTo p a) s) = rT 0 (mX c (jTo p a1) s e) := by
  have h900 : aPrim 900 [.ref w] = some (.int (nI W.length)) := by
    unfold aPrim
    rw [if_pos rfl]
    simp only
    rw [if_pos hw, hlen]
  intro k
  induction k with
  | zero =>
    intro j a hj ha
    rw [List.drop_eq_nil_of_le (by omega)]
    simp only [jWl]
    refine eMt_value_90 (d + 1) c _ _ _ _ hc _ ?_
    rw [cP_of h900]
    simp (disch := omega) only [nI_leE]
    rw [if_pos (by omega)]
    rfl
  | succ k ih =>
    intro j a hj ha
    have hjl : j < W.length := by omega
    have hb := jBt_le (n := n) (a := a) hB.2.2.2
    have h901 : aPrim 901 [.ref w, .int (nI j)] = some (.int (nI (W.getD j 0))) := by
      unfold aPrim
      rw [if_neg (by decide), if_pos rfl]
      simp only
      rw [if_pos ⟨hw, nI_pos (by omega), by rw [nI_clamp (by omega), hlen]; exact hjl⟩, nI_clamp (by omega), hsB j hjl]
    have hWj := hW j hjl
    rw [List.drop_eq_getElem_cons hjl]
    have eg : W[j] = W.getD j 0 := by simp [hjl]
    rw [eg]
    unfold jWl
    by_cases hx : jBt B n a = W.getD j 0
    · rw [if_pos hx]
      have hlt := jBt_lt hx (by omega)
      have ih := ih (j + 1) (a + 1) (by omega) hlt
      have go : ∀ r, fMt_value_90 (d + 7) c (nI v) w (nI (j + 1)) (mJ c (jTo p (a + 1)) s) = some r → fMt_value_90 (d + 7) c (nI v) w (nI j) (mJ c (jTo p a) s) = some r := by
        intro r hr
        refine eMt_value_90 (d + 1) c _ _ _ _ hc _ ?_
        rw [cP_of h900]
        simp (disch := omega) only [nI_leE]
        rw [if_neg (by omega), cP_of h901, Mt_take1 (p := jTo p a) (d + 4) hc hB ha hWj hx, cG_V, nI_add1]
        exact hr
      revert ih
      cases jWl B n (List.drop (j + 1) W) (a + 1) with
      | error e => rintro ⟨a1, h⟩; exact ⟨a1, go _ h⟩
      | ok a1 => intro h; exact go _ h
    · rw [if_neg hx]
      refine ⟨a, ?_⟩
      refine eMt_value_90 (d + 1) c _ _ _ _ hc _ ?_
      rw [cP_of h900]
      simp (disch := omega) only [nI_leE]
      rw [if_neg (by omega), cP_of h901, Mt_take0 (p := jTo p a) (d + 4) hc hB ha hWj hx, cG_T]
      rfl
theorem Mt_wd (hc : isT c) (hB : mB0 c s B n) (d : Nat) (ho : jOk n p) (k w : Nat) (W : List Nat) (hw : k = 4 ∧ w = 1044 ∧ W = [116, 114, 117, 101] ∨ k = 5 ∧ w = 1045 ∧ W = [102, 97, 108, 115, 101] ∨ k = 6 ∧ w = 1046 ∧ W = [110, 117, 108, 108]) : match jWd B n k W p with
    | .ok (p1, v) => cG (fMt_node (d + 6) c (nI k) (mJ c p s)) (kI fun v2 s1 => fMt_value_87 (d + 7) c v2 w s1) = rI (nI v) (mJ c p1 s)
    | .error e => ∃ p1, cG (fMt_node (d + 6) c (nI k) (mJ c p s)) (kI fun v2 s1 => fMt_value_87 (d + 7) c v2 w s1) = rT 0 (mX c p1 s e) := by
  have hn := hB.1
  obtain ⟨o1, o2, o3⟩ := ho
  have hk : 1000 ≤ w ∧ w < 1080 ∧ sL (w - 1000) = W.length ∧ (∀ j, j < W.length → sB (w - 1000) j = nI (W.getD j 0)) ∧ (∀ j, j < W.length → W.getD j 0 < 128) ∧ W.length < 100 := by
    rcases hw with ⟨_, rfl, rfl⟩ | ⟨_, rfl, rfl⟩ | ⟨_, rfl, rfl⟩ <;> decide
  obtain ⟨k1, k2, k3, k4, k5, k6⟩ := hk
  have h := Mt_word (p := jNd k p) hc hB d ⟨k1, k2⟩ k3 k4 k5 k6 (v := p.2.1) W.length 0 p.1 (by omega) o1
  rw [Mt_node _ hc k (by omega), cG_I]
  unfold jWd
  have go : ∀ r, fMt_value_90 (d + 7) c (nI p.2.1) w (nI 0) (mJ c (jTo (jNd k p) p.1) s) = some r → fMt_value_87 (d + 7) c (nI p.2.1) w (mJ c (jNd k p) s) = some r := by
    intro r hr
    refine eMt_value_87 (d + 1) c _ _ _ hc _ ?_
    exact hr
  rw [List.drop_zero] at h
  revert h
  cases jWl B n W p.1 with
  | error e => rintro ⟨a1, h⟩; exact ⟨_, go _ h⟩
  | ok a1 => intro h; exact go _ h
end
