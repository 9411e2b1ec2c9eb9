/-! the lake's Text, read alone -/
def lT (s : aT) (T : Nat → Nat → Nat) (N : Nat → Int) (m l : Nat) : Prop := (∀ i, i < m → gI s 14 i = nI (T 0 i) ∧ gI s 15 i = nI (T 1 i) ∧ (gI s 16 i = if T 0 i = 2 then nI (T 5 i) else zI (T 3 i)) ∧ gI s 17 i = nI (if T 0 i = 3 then 0 else T 2 i) ∧ gI s 18 i = zI (T 4 i) ∧ (T 0 i = 3 → gL s 19 i = Int64.ofInt (N i))) ∧ (∀ i, i < l → gI s 21 i = mI (T 6 i)) ∧ gI s 20 1 = nI l
section
variable {s : aT} {T : Nat → Nat → Nat} {N : Nat → Int} {m l n : Nat}
theorem lT_Z (h : lT s T N m l) {i : Nat} (hi : i < m) (h0 : T 0 i ≠ 3) : gI s 17 i = nI (T 2 i) := by
  rw [(h.1 i hi).2.2.2.1, if_neg h0]
theorem lT_S (h : lT s T N m l) {i : Nat} (hi : i < m) (h0 : T 0 i = 2) : gI s 16 i = nI (T 5 i) := by
  rw [(h.1 i hi).2.2.1, if_pos h0]
theorem lT_I (h : lT s T N m l) {i : Nat} (hi : i < m) (h0 : T 0 i ≠ 2) : gI s 16 i = zI (T 3 i) := by
  rw [(h.1 i hi).2.2.1, if_neg h0]
theorem jTm_len {k lo e cur : Nat} (h : jTm T (jVe T N m) k lo e cur) : 2 * k + lo ≤ e := by
  induction k generalizing lo cur with
  | zero => have := h.2; omega
  | succ k ih =>
    obtain ⟨_, _, _, e1, hP, h⟩ := h
    have a := jVe_lt _ _ hP
    have b := ih h
    omega
theorem Lt_tells17 (d : Nat) (hT : lT s T N m l) (hG : jGt T N m l n) {w : Nat} {W : List Nat} (hw : sWd w W) {v : Nat} (hv : v < m) (h2 : T 0 v = 2) (hz : T 2 v = W.length) : ∀ k j, j + k = W.length → fTx_tells_17 (d + 6) (nI v) w (nI j) s = rI (if ∀ i, i < W.length → j ≤ i → T 6 (T 5 v + i) = W.getD i 0 then 1 else 0) s := by
  have h5 := hw.2.2.2.2
  have hs := jGt_s hG hv h2
  intro k
  induction k with
  | zero =>
    intro j hj
    refine eTx_tells_17 d _ _ _ _ _ ?_
    rw [ldI_n (by omega) (by omega), lT_Z hT hv (by omega)]
    simp (disch := omega) only [nI_leE]
    rw [if_pos (by omega), if_pos (fun i a b => by omega)]
    rfl
  | succ k ih =>
    intro j hj
    have hjl : j < W.length := by omega
    have hl := hG.2.2.1 (T 5 v + j) (by omega)
    have hw8 := hw.2.2.2.1 j hjl
    refine eTx_tells_17 d _ _ _ _ _ ?_
    rw [ldI_n (by omega) (by omega), lT_Z hT hv (by omega)]
    simp (disch := omega) only [nI_leE]
    rw [if_neg (by omega), ldI_n (by omega) (by omega), lT_S hT hv h2, nI_addE, ldI_n (by omega) (by omega), hT.2.1 _ (by omega), cP_chr hw hjl, mI_and hl]
    simp (disch := omega) only [nI_eqE]
    by_cases he : T 6 (T 5 v + j) = W.getD j 0
    · rw [if_pos he, nI_add1, ih (j + 1) (by omega)]
      have : (∀ i, i < W.length → j ≤ i → T 6 (T 5 v + i) = W.getD i 0) ↔ (∀ i, i < W.length → j + 1 ≤ i → T 6 (T 5 v + i) = W.getD i 0) := by
        constructor
        · intro h i a b; exact h i a (by omega)
        · intro h i a b
          rcases Nat.lt_or_ge j i with g | g
          · exact h i a g
          · have : i = j := by omega
            rw [this]; exact he
      simp only [this]
      rfl
    · rw [if_neg he, if_neg (fun h => he (h j hjl (Nat.le_refl _)))]
      rfl
theorem Lt_tells (d : Nat) (hT : lT s T N m l) (hG : jGt T N m l n) {w : Nat} {W : List Nat} (hw : sWd w W) {v : Nat} (hv : v < m) (hk : T 0 v ≤ 6) : fTx_tells (d + 6) (nI v) w s = rI (if jTw T v W then 1 else 0) s := by
  have h5 := hw.2.2.2.2
  have hm := hG.1
  refine eTx_tells d _ _ _ _ ?_
  rw [ldI_n (by omega) (by omega), (hT.1 v hv).1]
  simp (disch := omega) only [nI_lit 2, nI_eqE]
  unfold jTw jTb
  by_cases h2 : T 0 v = 2
  · have hs := jGt_s hG hv h2
    rw [if_neg (fun h => h h2), ldI_n (by omega) (by omega), lT_Z hT hv (by omega), cP_len hw]
    simp (disch := omega) only [nI_eqE]
    by_cases hz : T 2 v = W.length
    · rw [if_pos hz]
      have := Lt_tells17 d hT hG hw hv h2 hz W.length 0 (by omega)
      rw [show (0 : Int32) = nI 0 from rfl, this]
      have e : (∀ i, i < W.length → 0 ≤ i → T 6 (T 5 v + i) = W.getD i 0) ↔ (T 0 v = 2 ∧ T 2 v = W.length ∧ ∀ i, i < W.length → T 6 (T 5 v + i) = W.getD i 0) := ⟨fun h => ⟨h2, hz, fun i a => h i a (Nat.zero_le _)⟩, fun h i a _ => h.2.2 i a⟩
      simp only [e, decide_eq_true_eq]
      rfl
    · rw [if_neg hz, if_neg (by simp; intro _ h; exact absurd h hz)]
      rfl
  · rw [if_pos h2, if_neg (by simp; intro h; exact absurd h h2)]
    rfl
theorem Lt_mem7 (d : Nat) (hT : lT s T N m l) (hG : jGt T N m l n) {w : Nat} {W : List Nat} (hw : sWd w W) {v e M : Nat} (hv : v < m) (h0 : T 0 v = 0) (he : e ≤ m) (hM : T 2 v = 2 * M) (hMs : M ≤ 4096) : ∀ k lo cur, jTm T (jVe T N m) k lo e cur → k ≤ M → fTx_member_7 (d + 7) (nI v) w (zI cur) (nI (2 * (M - k))) s = rI (zI (if jFd T (fun k => jTw T k W) k cur = 0 then 0 else T 4 (jFd T (fun k => jTw T k W) k cur - 1))) s := by
  have hm := hG.1
  intro k
  induction k with
  | zero =>
    intro lo cur h _
    have h : cur = 0 := h.1
    subst h
    refine eTx_member_7 (d + 6) _ _ _ _ _ _ ?_
    rw [ldI_n (by omega) (by omega), lT_Z hT hv (by omega), hM]
    simp (disch := omega) only [nI_leE]
    rw [if_pos (by omega)]
    rfl
  | succ k ih =>
    intro lo cur h hkM
    obtain ⟨h1, h2, h3, e1, h4, h5⟩ := h
    have a1 := jVe_lt _ _ h4
    have a2 := jTm_lt jVe_lt _ _ _ _ h5
    subst h1
    have his := Lt_tells d hT hG hw (v := lo) (by omega) (by omega)
    refine eTx_member_7 (d + 6) _ _ _ _ _ _ ?_
    rw [ldI_n (by omega) (by omega), lT_Z hT hv (by omega), hM]
    simp (disch := omega) only [nI_leE]
    rw [if_neg (by omega), zI_S, if_neg (nI_ne (by omega)), his, cG_I, jFd_s h3]
    by_cases hb : jTw T lo W = true
    · rw [if_neg (by rw [hb]; decide), if_pos hb, ldI_n (by omega) (by omega), (hT.1 lo (by omega)).2.2.2.2.1, if_neg (by omega)]
      rfl
    · rw [if_pos (by rw [if_neg hb]), if_neg hb, ldI_n (by omega) (by omega), (hT.1 lo (by omega)).2.2.2.2.1, h3, zI_S, ldI_n (by omega) (by omega), (hT.1 (lo + 1) (by omega)).2.2.2.2.1, nI_lit 2, nI_addE]
      have e2 : 2 * (M - (k + 1)) + 2 = 2 * (M - k) := by omega
      rw [e2]
      exact ih _ _ h5 (by omega)
theorem Lt_mb (d : Nat) (hT : lT s T N m l) (hG : jGt T N m l n) {w : Nat} {W : List Nat} (hw : sWd w W) {v : Nat} (hv : jVb T N m v) (h0 : T 0 v = 0) : fTx_member (d + 7) (nI v) w s = rI (zI (kMb T v W)) s := by
  have hm := hG.1
  have hlt := jVb_lt hv
  obtain ⟨k, hk, h⟩ := jVb_o hv h0
  have hl := jTm_len h
  refine eTx_member (d + 6) _ _ _ _ ?_
  rw [ldI_n (by omega) (by omega), lT_I hT (by omega) (by omega)]
  have := Lt_mem7 d hT hG hw (v := v) (by omega) h0 hlt.2 hk (by omega) k _ _ h (Nat.le_refl _)
  rw [Nat.sub_self] at this
  unfold kMb kMv
  rw [hk, Nat.mul_div_cancel_left k (by omega)]
  exact this
/-- letters that stand elsewhere -/
theorem Lt_tb16 (d : Nat) (hT : lT s T N m l) (hG : jGt T N m l n) {x a st len : Nat} {L : Nat → Nat} (hx : x < m) (hK : T 0 x = 2) (hb : T 5 x + len ≤ l) (ha : st + len ≤ alen a) (hal : alen a ≤ 2147483648) (hst : st + len < 2147483648) (hA : ∀ i, i < len → gI s a (st + i) = mI (L i)) (hLb : ∀ i, i < len → L i < 256) : ∀ k j, j + k = len → fTx_tellsBytes_16 d (nI x) a (nI st) (nI len) (nI j) s = rI (if ∀ i, i < len → j ≤ i → T 6 (T 5 x + i) = L i then 1 else 0) s := by
  have hm := hG.1
  have hl := hG.2.1
  intro k
  induction k with
  | zero =>
    intro j hj
    refine eTx_tellsBytes_16 d _ _ _ _ _ _ _ ?_
    simp (disch := omega) only [nI_leE]
    rw [if_pos (by omega), if_pos (fun i a b => by omega)]
    rfl
  | succ k ih =>
    intro j hj
    have hjl : j < len := by omega
    have h1 := hG.2.2.1 (T 5 x + j) (by omega)
    refine eTx_tellsBytes_16 d _ _ _ _ _ _ _ ?_
    simp (disch := omega) only [nI_leE]
    rw [if_neg (by omega), ldI_n (by omega) (by omega), lT_S hT hx hK, nI_addE, ldI_n (by omega) (by omega), hT.2.1 _ (by omega), nI_addE, ldI_n (by omega) (by omega), hA j hjl]
    simp only [mI_inj h1 (hLb j hjl)]
    by_cases he : T 6 (T 5 x + j) = L j
    · rw [if_pos he, nI_add1, ih (j + 1) (by omega)]
      have : (∀ i, i < len → j ≤ i → T 6 (T 5 x + i) = L i) ↔ (∀ i, i < len → j + 1 ≤ i → T 6 (T 5 x + i) = L i) := by
        constructor
        · intro h i a b; exact h i a (by omega)
        · intro h i a b
          rcases Nat.lt_or_ge j i with g | g
          · exact h i a g
          · have : i = j := by omega
            rw [this]; exact he
      simp only [this]
      rfl
    · rw [if_neg he, if_neg (fun h => he (h j hjl (Nat.le_refl _)))]
      rfl
theorem Lt_tb (d : Nat) (hT : lT s T N m l) (hG : jGt T N m l n) {x a st len : Nat} {L : Nat → Nat} (hx : x < m) (hk : T 0 x ≤ 6) (ha : st + len ≤ alen a) (hal : alen a ≤ 2147483648) (hst : st + len < 2147483648) (hA : ∀ i, i < len → gI s a (st + i) = mI (L i)) (hLb : ∀ i, i < len → L i < 256) : fTx_tellsBytes d (nI x) a (nI st) (nI len) s = rI (if jTb T x len L then 1 else 0) s := by
  have hm := hG.1
  refine eTx_tellsBytes d _ _ _ _ _ _ ?_
  rw [ldI_n (by omega) (by omega), (hT.1 x hx).1]
  simp (disch := omega) only [nI_lit 2, nI_eqE]
  unfold jTb
  by_cases hK : T 0 x = 2
  · have h5 := jGt_s hG hx hK
    rw [if_neg (by omega), ldI_n (by omega) (by omega), lT_Z hT hx (by omega)]
    simp (disch := omega) only [nI_eqE]
    by_cases hz : T 2 x = len
    · rw [if_pos hz]
      have h16 := Lt_tb16 d hT hG (x := x) (a := a) (st := st) (len := len) (L := L) hx hK (by omega) ha hal hst hA hLb len 0 (by omega)
      rw [show (0 : Int32) = nI 0 from rfl, h16]
      have e : (∀ i, i < len → 0 ≤ i → T 6 (T 5 x + i) = L i) ↔ (T 0 x = 2 ∧ T 2 x = len ∧ ∀ i, i < len → T 6 (T 5 x + i) = L i) := ⟨fun h => ⟨hK, hz, fun i a => h i a (Nat.zero_le _)⟩, fun h i a _ => h.2.2 i a⟩
      simp only [e, decide_eq_true_eq]
      rfl
    · rw [if_neg hz, if_neg (by simp; intro _ h; exact absurd h hz)]
      rfl
  · rw [if_pos hK, if_neg (by simp; intro h; exact absurd h hK)]
    rfl
theorem isB_32 : isB 32 := by unfold isB; decide
theorem alen_33 : alen 33 = 72704 := by decide
/-- a byte of the letters -/
theorem Lt_at (d : Nat) (hT : lT s T N m l) (hG : jGt T N m l n) {i : Nat} (hi : i < l) : fBy_at d 20 (nI i) s = rI (nI (T 6 i)) s := by
  have hl := hG.2.1
  have h6 := hG.2.2.1 i hi
  refine eBy_at d 20 _ _ isB_20 _ ?_
  rw [if_neg (nI_pos (by omega)), hT.2.2]
  simp (disch := omega) only [nI_ltE]
  rw [if_pos hi, alen_21, ldI_n (by omega) (by omega), hT.2.1 i hi, mI_and h6]
  rfl
theorem Sr_namS (d : Nat) (hT : lT s T N m l) (hG : jGt T N m l n) {v : Nat} (hv : v < m) (h2 : T 0 v = 2) {j : Nat} (hj : j < T 2 v) (hle : T 2 v ≤ 32) {r : aOut × aT} (hr : (if kLt (T 6 (T 5 v + j)) j then fSr_isName_23 (d + 1) (nI v) (nI (T 2 v)) (nI (j + 1)) s else rI 0 s) = some r) : fSr_isName_23 (d + 1) (nI v) (nI (T 2 v)) (nI j) s = some r := by
  have hs := jGt_s hG hv h2
  have hb := hG.2.2.1 (T 5 v + j) (by omega)
  have hat := Lt_at d hT hG (i := T 5 v + j) (by omega)
  refine eSr_isName_23 d _ _ _ _ _ ?_
  simp (disch := omega) only [nI_leE]
  rw [if_neg (by omega), ldI_n (by omega) (by omega), lT_S hT hv h2, nI_addE, hat, cG_I]
  generalize T 6 (T 5 v + j) = b at *
  have h75 : kLt b j → fSr_isName_75 (d + 1) (nI v) (nI (T 2 v)) (nI j) s = some r := fun h => eSr_isName_75 d _ _ _ _ _ (by rw [nI_add1]; rw [if_pos h] at hr; exact hr)
  have h0 : ¬ kLt b j → rI 0 s = some r := fun h => by rw [if_neg h] at hr; exact hr
  have h66 : ∀ z5 u0 : Int32, (z5 = 1 ∧ (97 ≤ b ∧ b ≤ 122 ∨ 65 ≤ b ∧ b ≤ 90 ∨ b = 95) ∨ z5 = 0 ∧ ¬ (97 ≤ b ∧ b ≤ 122 ∨ 65 ≤ b ∧ b ≤ 90 ∨ b = 95)) → (u0 = 1 ∧ 48 ≤ b ∧ b ≤ 57 ∨ u0 = 0 ∧ ¬ (48 ≤ b ∧ b ≤ 57)) → fSr_isName_66 (d + 1) (nI v) (nI (T 2 v)) (nI j) z5 u0 s = some r := by
    intro z5 u0 h5 hu
    refine eSr_isName_66 d _ _ _ _ _ _ _ ?_
    rcases h5 with ⟨rfl, h5⟩ | ⟨rfl, h5⟩
    · rw [if_pos (by decide)]
      exact h75 (by unfold kLt; omega)
    · rw [if_neg (by decide)]
      rcases hu with ⟨rfl, hu⟩ | ⟨rfl, hu⟩
      · rw [if_neg (by decide), show (0 : Int32) = nI 0 from rfl]
        simp (disch := omega) only [nI_eqE]
        by_cases hj0 : j = 0
        · rw [if_neg (fun e => e hj0)]
          exact h0 (by unfold kLt; omega)
        · rw [if_pos hj0]
          exact h75 (by unfold kLt; omega)
      · rw [if_pos rfl]
        exact h0 (by unfold kLt; omega)
  have h56 : ∀ z5 : Int32, (z5 = 1 ∧ (97 ≤ b ∧ b ≤ 122 ∨ 65 ≤ b ∧ b ≤ 90 ∨ b = 95) ∨ z5 = 0 ∧ ¬ (97 ≤ b ∧ b ≤ 122 ∨ 65 ≤ b ∧ b ≤ 90 ∨ b = 95)) → fSr_isName_56 (d + 1) (nI v) (nI (T 2 v)) (nI j) (nI b) z5 s = some r := by
    intro z5 h5
    have h65 : ¬ (48 ≤ b ∧ b ≤ 57) → fSr_isName_65 (d + 1) (nI v) (nI (T 2 v)) (nI j) z5 s = some r := fun h => eSr_isName_65 d _ _ _ _ _ _ (h66 z5 0 h5 (.inr ⟨rfl, h⟩))
    refine eSr_isName_56 d _ _ _ _ _ _ _ ?_
    simp (disch := omega) only [nI_lit 48, nI_lit 57, nI_ltE]
    by_cases a1 : b < 48
    · rw [if_pos a1]; exact h65 (by omega)
    · rw [if_neg a1]
      by_cases a2 : 57 < b
      · rw [if_pos a2]; exact h65 (by omega)
      · rw [if_neg a2]; exact h66 z5 1 h5 (.inl ⟨rfl, by omega⟩)
  have h53 : (97 ≤ b ∧ b ≤ 122 ∨ 65 ≤ b ∧ b ≤ 90 ∨ b = 95) → fSr_isName_53 (d + 1) (nI v) (nI (T 2 v)) (nI j) (nI b) s = some r := fun h => eSr_isName_53 d _ _ _ _ _ _ (h56 1 (.inl ⟨rfl, h⟩))
  have h50 : ¬ (97 ≤ b ∧ b ≤ 122) → ¬ (65 ≤ b ∧ b ≤ 90) → fSr_isName_50 (d + 1) (nI v) (nI (T 2 v)) (nI j) (nI b) s = some r := by
    intro g1 g2
    refine eSr_isName_50 d _ _ _ _ _ _ ?_
    simp (disch := omega) only [nI_lit 95, nI_eqE]
    by_cases h95 : b = 95
    · rw [if_neg (fun e => e h95)]; exact h53 (by omega)
    · rw [if_pos h95]; exact h56 0 (.inr ⟨rfl, by omega⟩)
  have h44 : ¬ (97 ≤ b ∧ b ≤ 122) → fSr_isName_44 (d + 1) (nI v) (nI (T 2 v)) (nI j) (nI b) s = some r := by
    intro g1
    refine eSr_isName_44 d _ _ _ _ _ _ ?_
    simp (disch := omega) only [nI_lit 65, nI_lit 90, nI_ltE, nI_leE]
    by_cases a1 : b < 65
    · rw [if_pos a1]; exact h50 g1 (by omega)
    · rw [if_neg a1]
      by_cases a2 : b ≤ 90
      · rw [if_pos a2]; exact h53 (by omega)
      · rw [if_neg a2]; exact h50 g1 (by omega)
  simp (disch := omega) only [nI_lit 97, nI_lit 122, nI_ltE, nI_leE]
  by_cases a1 : b < 97
  · rw [if_pos a1]; exact h44 (by omega)
  · rw [if_neg a1]
    by_cases a2 : b ≤ 122
    · rw [if_pos a2]; exact h53 (by omega)
    · rw [if_neg a2]; exact h44 (by omega)
theorem Sr_nam23 (d : Nat) (hT : lT s T N m l) (hG : jGt T N m l n) {v : Nat} (hv : v < m) (h2 : T 0 v = 2) (hle : T 2 v ≤ 32) : ∀ k j, j + k = T 2 v → fSr_isName_23 (d + 1) (nI v) (nI (T 2 v)) (nI j) s = rI (if ∀ i, i < T 2 v → j ≤ i → kLt (T 6 (T 5 v + i)) i then 1 else 0) s := by
  have hs := jGt_s hG hv h2
  intro k
  induction k with
  | zero =>
    intro j hj
    refine eSr_isName_23 d _ _ _ _ _ ?_
    simp (disch := omega) only [nI_leE]
    rw [if_pos (by omega), if_pos (fun i a b => by omega)]
    rfl
  | succ k ih =>
    intro j hj
    refine Sr_namS d hT hG hv h2 (j := j) (by omega) hle ?_
    by_cases he : kLt (T 6 (T 5 v + j)) j
    · rw [if_pos he, ih (j + 1) (by omega)]
      have : (∀ i, i < T 2 v → j ≤ i → kLt (T 6 (T 5 v + i)) i) ↔ (∀ i, i < T 2 v → j + 1 ≤ i → kLt (T 6 (T 5 v + i)) i) := by
        constructor
        · intro h i a b; exact h i a (by omega)
        · intro h i a b
          rcases Nat.lt_or_ge j i with g | g
          · exact h i a g
          · have : i = j := by omega
            rw [this]; exact he
      simp only [this]
      rfl
    · rw [if_neg he, if_neg (fun h => he (h j (by omega) (Nat.le_refl _)))]
      rfl
theorem Sr_isName (d : Nat) (hT : lT s T N m l) (hG : jGt T N m l n) {v : Nat} (hv : v < m) (hk : T 0 v ≤ 6) : fSr_isName (d + 1) (nI v) s = rI (if kNam T v then 1 else 0) s := by
  have hm := hG.1
  refine eSr_isName d _ _ _ ?_
  rw [ldI_n (by omega) (by omega), ldI_n (by omega) (by omega), (hT.1 v hv).1]
  simp (disch := omega) only [nI_lit 2, nI_eqE]
  unfold kNam
  by_cases h2 : T 0 v = 2
  · have hs := jGt_s hG hv h2
    rw [if_neg (fun h => h h2), lT_Z hT hv (by omega)]
    simp (disch := omega) only [nI_lit 1, nI_lit 32, nI_ltE, nI_leE]
    by_cases h0 : T 2 v < 1
    · rw [if_pos h0, if_neg (by simp; omega)]
      rfl
    · rw [if_neg h0]
      by_cases h3 : T 2 v ≤ 32
      · rw [if_pos h3]
        have := Sr_nam23 d hT hG hv h2 h3 (T 2 v) 0 (by omega)
        rw [show (0 : Int32) = nI 0 from rfl, this]
        have e : (∀ i, i < T 2 v → 0 ≤ i → kLt (T 6 (T 5 v + i)) i) ↔ (T 0 v = 2 ∧ 0 < T 2 v ∧ T 2 v < 33 ∧ ∀ i, i < T 2 v → kLt (T 6 (T 5 v + i)) i) := ⟨fun h => ⟨h2, by omega, by omega, fun i a => h i a (Nat.zero_le _)⟩, fun h i a _ => h.2.2.2 i a⟩
        simp only [e, decide_eq_true_eq]
        rfl
      · rw [if_neg h3, if_neg (by simp; omega)]
        rfl
  · rw [if_pos h2, if_neg (by simp; intro h; exact absurd h h2)]
    rfl
end
