/-! PURE: what a value's reading keeps -/
/-- a place where a reading stands -/
def jOk (n : Nat) (p : jP) : Prop := p.1 ≤ n ∧ p.2.1 ≤ p.1 ∧ p.2.2.1 ≤ p.1
/-- nothing before lo has changed, and no letter that was there -/
def jFr (lo : Nat) (p p' : jP) : Prop := (∀ k i, k ≠ 6 → i < lo → p'.2.2.2.1 k i = p.2.2.2.1 k i) ∧ (∀ i, i < p.2.2.1 → p'.2.2.2.1 6 i = p.2.2.2.1 6 i) ∧ (∀ i, i < lo → p'.2.2.2.2 i = p.2.2.2.2 i)
abbrev jIs (p : jP) (u : Nat) : Prop := p.2.2.2.1 0 u = 0 ∨ p.2.2.2.1 0 u = 1
/-- the strings' letters are there -/
def jSt (p : jP) (lo : Nat) : Prop := ∀ u, lo ≤ u → u < p.2.1 → p.2.2.2.1 0 u = 2 → p.2.2.2.1 5 u + p.2.2.2.1 2 u ≤ p.2.2.1
/-- children stand in a row behind -/
def jCs (p : jP) (lo hi : Nat) : Prop := ∀ u, lo ≤ u → u < hi → jIs p u → p.2.2.2.1 7 u ≤ hi ∧ jCh p.2.2.2.1 (p.2.2.2.1 2 u) (u + 1) (p.2.2.2.1 7 u) (p.2.2.2.1 3 u)
/-- what a value's reading does -/
def jVo (n : Nat) (p p' : jP) (v : Nat) : Prop := v = p.2.1 ∧ p.2.1 < p'.2.1 ∧ p.1 < p'.1 ∧ p'.1 ≤ n ∧ p'.2.1 + p.1 ≤ p.2.1 + p'.1 ∧ p.2.2.1 ≤ p'.2.2.1 ∧ p'.2.2.1 + p.1 ≤ p.2.2.1 + p'.1 ∧ jFr p.2.1 p p' ∧ p'.2.2.2.1 4 v = 0 ∧ p'.2.2.2.1 1 v = p.1 ∧ jSt p' p.2.1 ∧ jCs p' p.2.1 p'.2.1
theorem jVo_ok {n : Nat} {p p' : jP} {v : Nat} (h : jVo n p p' v) (ho : jOk n p) : jOk n p' := by
  obtain ⟨h1, h2, h3, h4, h5, h6, h7, _⟩ := h
  obtain ⟨g1, g2, g3⟩ := ho
  exact ⟨h4, by omega, by omega⟩
theorem jStr_ok {B : Nat → Nat} {n : Nat} {p : jP} {r : jP × Nat} (ho : jOk n p) (hp : p.1 < n) (h : jStr B n p = .ok r) : jVo n p r.1 r.2 ∧ r.1.2.1 = p.2.1 + 1 ∧ r.1.2.2.2.1 0 p.2.1 = 2 := by
  unfold jStr at h
  split at h
  · cases h
  · rename_i a l T hr
    cases h
    have h1 := jSl_ok _ _ _ _ _ _ _ (by omega) hr
    obtain ⟨h1, h2, h3, h4, h5⟩ := h1
    have hT : ∀ k i, (k ≠ 6 ∨ i < p.2.2.1) → a2 T 2 p.2.1 (l - p.2.2.1) k i = if k = 2 ∧ i = p.2.1 then l - p.2.2.1 else a2 (jNd 2 p).2.2.2.1 5 p.2.1 p.2.2.1 k i := by
      intro k i hk
      rw [a2_ite, h5 k i hk]
    refine ⟨⟨rfl, by simp, by simp only; omega, h2, by simp only; omega, h3, by simp only; omega, ⟨?_, ?_, ?_⟩, ?_, ?_, ?_, ?_⟩, rfl, ?_⟩
    · intro k i hk hi
      simp only
      rw [hT k i (.inl hk)]
      simp only [jNd, a2_ite]
      repeat' rw [if_neg (by omega)]
    · intro i hi
      simp only
      rw [hT 6 i (.inr hi)]
      simp [jNd, a2_ite]
    · intro i hi
      simp only [jNd]
      rw [if_neg (by omega)]
    · simp only
      rw [hT _ _ (by omega)]
      simp [jNd, a2_ite]
    · simp only
      rw [hT _ _ (by omega)]
      simp [jNd, a2_ite]
    · intro u hu1 hu2 hu3
      simp only at hu2 ⊢
      have : u = p.2.1 := by omega
      subst this
      rw [hT _ _ (by omega), hT _ _ (by omega)]
      simp [jNd, a2_ite]
      omega
    · intro u hu1 hu2 hu3
      simp only at hu2 hu3
      have : u = p.2.1 := by omega
      subst this
      exfalso
      unfold jIs at hu3
      simp only at hu3
      rw [hT _ _ (by omega)] at hu3
      simp [jNd, a2_ite] at hu3
    · simp only
      rw [hT _ _ (by omega)]
      simp [jNd, a2_ite]
theorem jNd_vo {n : Nat} {p : jP} {k a : Nat} {T : Nat → Nat → Nat} {N : Nat → Int} (ho : jOk n p) (hk : k ≠ 0 ∧ k ≠ 1 ∧ k ≠ 2) (ha : p.1 < a) (han : a ≤ n) (hT : ∀ r i, r ≠ 2 ∨ i ≠ p.2.1 → T r i = (jNd k p).2.2.2.1 r i) (hN : ∀ i, i < p.2.1 → N i = p.2.2.2.2 i) : jVo n p (a, p.2.1 + 1, p.2.2.1, T, N) p.2.1 := by
  refine ⟨rfl, by simp, ha, han, by simp only; omega, Nat.le_refl _, by simp only; omega, ⟨?_, ?_, hN⟩, ?_, ?_, ?_, ?_⟩
  · intro k i hk hi
    simp only
    rw [hT k i (by omega)]
    simp only [jNd, a2_ite]
    repeat' rw [if_neg (by omega)]
  · intro i hi
    simp only
    rw [hT 6 i (by omega)]
    simp [jNd, a2_ite]
  · simp only
    rw [hT _ _ (by omega)]
    simp [jNd, a2_ite]
  · simp only
    rw [hT _ _ (by omega)]
    simp [jNd, a2_ite]
  · intro u hu1 hu2 hu3
    simp only at hu2 hu3
    have : u = p.2.1 := by omega
    subst this
    rw [hT _ _ (by omega)] at hu3
    simp [jNd, a2_ite] at hu3
    omega
  · intro u hu1 hu2 hu3
    simp only at hu2
    have : u = p.2.1 := by omega
    subst this
    unfold jIs at hu3
    simp only at hu3
    rw [hT _ _ (by omega)] at hu3
    simp [jNd, a2_ite] at hu3
    omega
theorem jNr_ok {B : Nat → Nat} {n a : Nat} (hd : jDi (jBt B n a)) : a < (jNr B n a).2 ∧ (jNr B n a).2 ≤ n := by
  have hlt := jBt_lt (B := B) (n := n) rfl (show jBt B n a ≠ 256 by unfold jDi at hd; omega)
  unfold jNr
  split
  · exact ⟨Nat.lt_succ_self a, hlt⟩
  · have hn : ∃ m, n = m + 1 := ⟨n - 1, by omega⟩
    obtain ⟨m, hm⟩ := hn
    have e : jDg B n n 0 a = jDg B n m (10 * 0 + (jBt B n a - 48)) (a + 1) := by
      rw [show jDg B n n 0 a = jDg B n (m + 1) 0 a by rw [hm]]
      show (if jDi (jBt B n a) then _ else _) = _
      rw [if_pos hd]
    rw [e]
    have := jDg_ok (B := B) (n := n) m (10 * 0 + (jBt B n a - 48)) (a + 1) hlt
    omega
theorem jNa_le {B : Nat → Nat} {n a : Nat} : a ≤ jNa B n a ∧ jNa B n a ≤ a + 1 := by
  unfold jNa
  split <;> omega
theorem jNu_ok {B : Nat → Nat} {n : Nat} {p : jP} {r : jP × Nat} (ho : jOk n p) (h : jNu B n p = .ok r) : jVo n p r.1 r.2 := by
  unfold jNu at h
  split at h
  · rename_i hd
    split at h
    · cases h
      have h1 := jNr_ok hd
      have h2 := jNa_le (B := B) (n := n) (a := p.1)
      refine jNd_vo (k := 3) ho (by omega) (by omega) (by omega) (fun r i hr => by rw [a2_ite, if_neg (by omega)]) ?_
      intro i hi
      rw [if_neg (by omega)]
    · cases h
  · cases h
theorem jWd_ok {B : Nat → Nat} {n : Nat} {p : jP} {k : Nat} {w : List Nat} {r : jP × Nat} (ho : jOk n p) (hk : k ≠ 0 ∧ k ≠ 1 ∧ k ≠ 2) (hw : ∀ x, x ∈ w → x ≠ 256) (hl : w ≠ []) (h : jWd B n k w p = .ok r) : jVo n p r.1 r.2 := by
  unfold jWd at h
  split at h
  · cases h
  · rename_i a hr
    cases h
    have h1 := jWl_ok _ _ _ ho.1 hw hr
    have h2 := List.length_pos_iff.mpr hl
    refine jNd_vo ho hk (by omega) h1.2 (fun _ _ _ => rfl) ?_
    intro i hi
    show (if i = p.2.1 then 0 else p.2.2.2.2 i) = _
    rw [if_neg (by omega)]
theorem jLf_ok {B : Nat → Nat} {n : Nat} {p : jP} {r : jP × Nat} (ho : jOk n p) (h : jLf B n p = .ok r) : jVo n p r.1 r.2 := by
  unfold jLf at h
  split at h
  · rename_i hb
    exact (jStr_ok ho (jBt_lt hb (by omega)) h).1
  · split at h
    · exact jNu_ok ho h
    · split at h
      · exact jWd_ok ho (by omega) (by simp) (by simp) h
      · split at h
        · exact jWd_ok ho (by omega) (by simp) (by simp) h
        · split at h
          · exact jWd_ok ho (by omega) (by simp) (by simp) h
          · cases h
