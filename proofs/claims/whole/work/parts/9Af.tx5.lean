/-! the lake's Text: names, objects -/
/-- a string of the reading is these letters -/
def jTb (T : Nat → Nat → Nat) (x len : Nat) (L : Nat → Nat) : Bool := decide (T 0 x = 2 ∧ T 2 x = len ∧ ∀ i, i < len → T 6 (T 5 x + i) = L i)
section
variable {p : jP} {s : aT} {B : Nat → Nat} {n fr : Nat}
theorem Tx_tb16 (d : Nat) {x a st len : Nat} {L : Nat → Nat} (hx : x < p.2.1) (hp : p.2.1 ≤ 4096) (hl : p.2.2.1 ≤ 4096) (hL : jLe p) (hK : p.2.2.2.1 0 x = 2) (hb : p.2.2.2.1 5 x + len ≤ p.2.2.1) (ha : st + len ≤ alen a) (hal : alen a ≤ 2147483648) (hst : st + len < 2147483648) (hA : ∀ i, i < len → gI (lJ p s) a (st + i) = mI (L i)) (hLb : ∀ i, i < len → L i < 256) : ∀ k j, j + k = len → fTx_tellsBytes_16 d (nI x) a (nI st) (nI len) (nI j) (lJ p s) = rI (if ∀ i, i < len → j ≤ i → p.2.2.2.1 6 (p.2.2.2.1 5 x + i) = L i then 1 else 0) (lJ p s) := by
  intro k
  induction k with
  | zero =>
    intro j hj
    refine eTx_tellsBytes_16 d _ _ _ _ _ _ _ ?_
    simp (disch := omega) only [nI_leE]
    rw [if_pos (by omega), if_pos (fun i a b => by omega)]
    rfl
  | succ k ih =>
    intro j hj
    have hjl : j < len := by omega
    have h1 := hL (p.2.2.2.1 5 x + j) (by omega)
    refine eTx_tellsBytes_16 d _ _ _ _ _ _ _ ?_
    simp (disch := omega) only [nI_leE]
    rw [if_neg (by omega), ldI_n (by omega) (by omega), lJ_S hx hK, nI_addE, ldI_n (by omega) (by omega), lJ_L (by omega), nI_addE, ldI_n (by omega) (by omega), hA j hjl]
    simp only [mI_inj h1 (hLb j hjl)]
    by_cases he : p.2.2.2.1 6 (p.2.2.2.1 5 x + j) = L j
    · rw [if_pos he, nI_add1, ih (j + 1) (by omega)]
      have : (∀ i, i < len → j ≤ i → p.2.2.2.1 6 (p.2.2.2.1 5 x + i) = L i) ↔ (∀ i, i < len → j + 1 ≤ i → p.2.2.2.1 6 (p.2.2.2.1 5 x + i) = L i) := by
        constructor
        · intro h i a b; exact h i a (by omega)
        · intro h i a b
          rcases Nat.lt_or_ge j i with g | g
          · exact h i a g
          · have : i = j := by omega
            rw [this]; exact he
      simp only [this]
      rfl
    · rw [if_neg he, if_neg (fun h => he (h j hjl (Nat.le_refl _)))]
      rfl
theorem Tx_tb (d : Nat) {x a st len : Nat} {L : Nat → Nat} (hx : x < p.2.1) (hp : p.2.1 ≤ 4096) (hl : p.2.2.1 ≤ 4096) (hL : jLe p) (hS : jSt p 0) (hKs : p.2.2.2.1 0 x < 100) (ha : st + len ≤ alen a) (hal : alen a ≤ 2147483648) (hst : st + len < 2147483648) (hA : ∀ i, i < len → gI (lJ p s) a (st + i) = mI (L i)) (hLb : ∀ i, i < len → L i < 256) : fTx_tellsBytes d (nI x) a (nI st) (nI len) (lJ p s) = rI (if jTb p.2.2.2.1 x len L then 1 else 0) (lJ p s) := by
  refine eTx_tellsBytes d _ _ _ _ _ _ ?_
  rw [ldI_n (by omega) (by omega), lJ_K hx]
  simp (disch := omega) only [nI_lit 2, nI_eqE]
  unfold jTb
  by_cases hK : p.2.2.2.1 0 x = 2
  · have h5 := hS x (by omega) hx hK
    rw [if_neg (by omega), ldI_n (by omega) (by omega), lJ_Z hx (by omega)]
    simp (disch := omega) only [nI_eqE]
    by_cases hz : p.2.2.2.1 2 x = len
    · rw [if_pos hz]
      have h16 := Tx_tb16 d (x := x) (a := a) (st := st) (len := len) (L := L) hx hp hl hL hK (by omega) ha hal hst hA hLb len 0 (by omega)
      rw [show (0 : Int32) = nI 0 from rfl, h16]
      have e : (∀ i, i < len → 0 ≤ i → p.2.2.2.1 6 (p.2.2.2.1 5 x + i) = L i) ↔ (p.2.2.2.1 0 x = 2 ∧ p.2.2.2.1 2 x = len ∧ ∀ i, i < len → p.2.2.2.1 6 (p.2.2.2.1 5 x + i) = L i) := ⟨fun h => ⟨hK, hz, fun i a => h i a (Nat.zero_le _)⟩, fun h i a _ => h.2.2 i a⟩
      simp only [e, decide_eq_true_eq]
      rfl
    · rw [if_neg hz, if_neg (by simp; intro _ h; exact absurd h hz)]
      rfl
  · rw [if_pos hK, if_neg (by simp; intro h; exact absurd h hK)]
    rfl
/-- the first of an object's strings that is these letters -/
theorem Tx_mem7 (d : Nat) {v a st len : Nat} {L : Nat → Nat} (hv : v < p.2.1) (hp : p.2.1 ≤ 4096) (hl : p.2.2.1 ≤ 4096) (hL : jLe p) (hS : jSt p 0) (hK : p.2.2.2.1 0 v = 0) (ha : st + len ≤ alen a) (hal : alen a ≤ 2147483648) (hst : st + len < 2147483648) (hA : ∀ i, i < len → gI (lJ p s) a (st + i) = mI (L i)) (hLb : ∀ i, i < len → L i < 256) {hi M : Nat} (hhi : hi ≤ p.2.1) (hM : p.2.2.2.1 2 v = 2 * M) (hMs : M ≤ 4096) : ∀ m lo cur, jCh p.2.2.2.1 (2 * m) lo hi cur → jKy p.2.2.2.1 m cur → m ≤ M → fTx_memberNamed_7 (d + 1) (nI v) a (nI st) (nI len) (zI cur) (nI (2 * (M - m))) (lJ p s) = rI (zI (if jFd p.2.2.2.1 (fun k => jTb p.2.2.2.1 k len L) m cur = 0 then 0 else p.2.2.2.1 4 (jFd p.2.2.2.1 (fun k => jTb p.2.2.2.1 k len L) m cur - 1))) (lJ p s) := by
  intro m
  induction m with
  | zero =>
    intro lo cur h _ _
    refine eTx_memberNamed_7 d _ _ _ _ _ _ _ _ ?_
    rw [ldI_n (by omega) (by omega), lJ_Z hv (by omega), hM]
    simp (disch := omega) only [nI_leE]
    rw [if_pos (by omega)]
    rfl
  | succ m ih =>
    intro lo cur hc2 hy hm
    obtain ⟨y1, y2⟩ := hy
    have e : 2 * (m + 1) = 2 * m + 1 + 1 := by omega
    rw [e] at hc2
    obtain ⟨c1, c2, c3, c4, c5⟩ := hc2
    have htb := Tx_tb (s := s) d (x := cur - 1) (a := a) (st := st) (len := len) (L := L) (by omega) hp hl hL hS (by omega) ha hal hst hA hLb
    refine eTx_memberNamed_7 d _ _ _ _ _ _ _ _ ?_
    rw [ldI_n (by omega) (by omega), lJ_Z hv (by omega), hM]
    simp (disch := omega) only [nI_leE]
    rw [if_neg (by omega), zI_pos (by omega), if_neg (nI_ne (by omega)), htb, cG_I]
    have hF : jFd p.2.2.2.1 (fun k => jTb p.2.2.2.1 k len L) (m + 1) cur = if jTb p.2.2.2.1 (cur - 1) len L then cur else jFd p.2.2.2.1 (fun k => jTb p.2.2.2.1 k len L) m (p.2.2.2.1 4 (p.2.2.2.1 4 (cur - 1) - 1)) := by
      show (if cur = 0 then 0 else _) = _
      rw [if_neg (by omega)]
    rw [hF]
    by_cases ht : jTb p.2.2.2.1 (cur - 1) len L = true
    · simp only [ht, if_true]
      rw [if_neg (by decide), ldI_n (by omega) (by omega), lJ_X (by omega), if_neg (by omega)]
      rfl
    · simp only [ht, Bool.false_eq_true, if_false]
      rw [if_pos trivial, ldI_n (by omega) (by omega), lJ_X (by omega), zI_pos (by omega), ldI_n (by omega) (by omega), lJ_X (by omega), nI_lit 2, nI_addE]
      have e2 : 2 * (M - (m + 1)) + 2 = 2 * (M - m) := by omega
      rw [e2]
      exact ih _ _ c5 y2 (by omega)
theorem Tx_mem (d : Nat) {v a st len : Nat} {L : Nat → Nat} (hv : v < p.2.1) (hp : p.2.1 ≤ 4096) (hl : p.2.2.1 ≤ 4096) (hL : jLe p) (hS : jSt p 0) (hK : p.2.2.2.1 0 v = 0) (ha : st + len ≤ alen a) (hal : alen a ≤ 2147483648) (hst : st + len < 2147483648) (hA : ∀ i, i < len → gI (lJ p s) a (st + i) = mI (L i)) (hLb : ∀ i, i < len → L i < 256) {hi M : Nat} (hhi : hi ≤ p.2.1) (hM : p.2.2.2.1 2 v = 2 * M) (hMs : M ≤ 4096) (hc : jCh p.2.2.2.1 (2 * M) (v + 1) hi (p.2.2.2.1 3 v)) (hy : jKy p.2.2.2.1 M (p.2.2.2.1 3 v)) : fTx_memberNamed (d + 1) (nI v) a (nI st) (nI len) (lJ p s) = rI (zI (if jFd p.2.2.2.1 (fun k => jTb p.2.2.2.1 k len L) M (p.2.2.2.1 3 v) = 0 then 0 else p.2.2.2.1 4 (jFd p.2.2.2.1 (fun k => jTb p.2.2.2.1 k len L) M (p.2.2.2.1 3 v) - 1))) (lJ p s) := by
  refine eTx_memberNamed d _ _ _ _ _ _ ?_
  rw [ldI_n (by omega) (by omega), lJ_I hv (by omega)]
  have h := Tx_mem7 (s := s) d (a := a) (st := st) (len := len) (L := L) hv hp hl hL hS hK ha hal hst hA hLb hhi hM hMs M (v + 1) _ hc hy (Nat.le_refl _)
  rw [Nat.sub_self] at h
  exact h
end
/-- a string's own letters -/
theorem jTb_sm {T : Nat → Nat → Nat} {k key : Nat} (hk : T 0 k = 2) : jTb T k (T 2 key) (fun i => T 6 (T 5 key + i)) = jSm T k key := by
  unfold jTb jSm
  rw [decide_eq_decide]
  constructor
  · rintro ⟨_, h2, h3⟩
    exact ⟨h2, fun i hi => h3 i (by omega)⟩
  · rintro ⟨h2, h3⟩
    exact ⟨hk, h2, fun i hi => h3 i (by omega)⟩
theorem jFd_sm {T : Nat → Nat → Nat} {key : Nat} : ∀ m cur, jKy T m cur → jFd T (fun k => jTb T k (T 2 key) (fun i => T 6 (T 5 key + i))) m cur = jFd T (fun k => jSm T k key) m cur := by
  intro m
  induction m with
  | zero => intro cur _; rfl
  | succ m ih =>
    intro cur hy
    obtain ⟨y1, y2⟩ := hy
    unfold jFd
    rw [ih _ y2, jTb_sm y1]
/-- what is found has a value behind it -/
theorem jFd_pos {T : Nat → Nat → Nat} {t : Nat → Bool} {hi : Nat} : ∀ m lo cur, jCh T (2 * m) lo hi cur → jFd T t m cur ≠ 0 → 0 < T 4 (jFd T t m cur - 1) ∧ T 4 (jFd T t m cur - 1) ≤ hi := by
  intro m
  induction m with
  | zero => intro lo cur _ h; exact absurd rfl h
  | succ m ih =>
    intro lo cur hc h
    have e : 2 * (m + 1) = 2 * m + 1 + 1 := by omega
    rw [e] at hc
    obtain ⟨c1, c2, c3, c4, c5⟩ := hc
    unfold jFd at h ⊢
    rw [if_neg (by omega)] at h ⊢
    by_cases ht : t (cur - 1) = true
    · rw [if_pos ht] at h ⊢
      omega
    · rw [if_neg ht] at h ⊢
      exact ih _ _ c5 h
theorem jCh_len {T : Nat → Nat → Nat} {hi : Nat} : ∀ m lo cur, jCh T m lo hi cur → m = 0 ∨ m + lo ≤ hi := by
  intro m
  induction m with
  | zero => intro lo cur _; exact .inl rfl
  | succ m ih =>
    intro lo cur h
    obtain ⟨h1, h2, h3⟩ := h
    rcases ih _ _ h3 with h4 | h4 <;> omega
