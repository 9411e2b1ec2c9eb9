/-! PURE: lists, objects, values -/
def jLi (v last m : Nat) (p : jP) : Prop := v < p.2.1 ∧ p.2.2.2.1 2 v = m ∧ (last = 0 ∧ m = 0 ∧ p.2.2.2.1 3 v = 0 ∨ last ≠ 0 ∧ v + 1 < last ∧ last ≤ p.2.1 ∧ p.2.2.2.1 4 (last - 1) = 0 ∧ jCl p.2.2.2.1 m (v + 1) last (p.2.2.2.1 3 v)) ∧ jCs p (v + 1) p.2.1 ∧ (∀ u, v < u → u + 1 < last → jIs p u → p.2.2.2.1 7 u + 1 ≤ last) ∧ jSt p (v + 1)
theorem jLi_last {v last m : Nat} {p : jP} (h : jLi v last m p) : last ≤ p.2.1 := by
  rcases h.2.2.1 with h | h
  · omega
  · exact h.2.2.1
theorem jCs_fr {lo hi k : Nat} {p p' : jP} (hfr : jFr k p p') (hk : hi ≤ k) (h : jCs p lo hi) : jCs p' lo hi := by
  intro u h1 h2 h3
  have e : ∀ r, r ≠ 6 → p'.2.2.2.1 r u = p.2.2.2.1 r u := fun r hr => hfr.1 r u hr (by omega)
  unfold jIs at h3
  rw [e 0 (by omega)] at h3
  have h4 := h u h1 h2 h3
  rw [e 7 (by omega), e 2 (by omega), e 3 (by omega)]
  refine ⟨h4.1, jCh_upd _ _ _ (fun i _ hi => hfr.1 4 i (by omega) (by omega)) h4.2⟩
theorem jLi_vo {n v last m w : Nat} {p p1 : jP} (h : jLi v last m p) (hv : jVo n p p1 w) : jLi v last m p1 := by
  obtain ⟨h1, h2, h3, h4, h5, h6⟩ := h
  obtain ⟨g1, g2, g3, g4, g5, g6, g7, g8, g9, g10, g11, g12⟩ := hv
  have e : ∀ r u, r ≠ 6 → u < p.2.1 → p1.2.2.2.1 r u = p.2.2.2.1 r u := fun r u hr hu => g8.1 r u hr hu
  refine ⟨by omega, by rw [e 2 v (by omega) h1]; exact h2, ?_, ?_, ?_, ?_⟩
  · rw [e 3 v (by omega) h1]
    rcases h3 with h3 | ⟨a, b, c, d, f⟩
    · exact .inl h3
    · refine .inr ⟨a, b, by omega, by rw [e 4 _ (by omega) (by omega)]; exact d, jCl_upd _ _ _ (fun i _ hi => e 4 i (by omega) (by omega)) f⟩
  · intro u a b c
    rcases Nat.lt_or_ge u p.2.1 with hu | hu
    · have := jCs_fr g8 (Nat.le_refl _) h4 u a hu c
      exact ⟨by omega, this.2⟩
    · exact g12 u hu b c
  · intro u a b c
    have hu : u < p.2.1 := by
      rcases h3 with h3 | h3 <;> omega
    unfold jIs at c
    rw [e 0 u (by omega) hu] at c
    rw [e 7 u (by omega) hu]
    exact h5 u a b c
  · intro u a b c
    rcases Nat.lt_or_ge u p.2.1 with hu | hu
    · rw [e 0 u (by omega) hu] at c
      rw [e 5 u (by omega) hu, e 2 u (by omega) hu]
      have := h6 u a hu c
      omega
    · exact g11 u hu b c
theorem jLk_row {v last w : Nat} {p : jP} (k i : Nat) : (jLk v last w p).2.2.2.1 k i = if k = 2 ∧ i = v then p.2.2.2.1 2 v + 1 else if last = 0 then (if k = 3 ∧ i = v then w + 1 else p.2.2.2.1 k i) else (if k = 4 ∧ i = last - 1 then w + 1 else p.2.2.2.1 k i) := by
  unfold jLk jSe
  by_cases hl : last = 0 <;> simp [hl, a2_ite]
theorem jLk_1 {v last w : Nat} {p : jP} : (jLk v last w p).1 = p.1 := by
  unfold jLk jSe
  by_cases hl : last = 0 <;> simp [hl]
theorem jLk_2 {v last w : Nat} {p : jP} : (jLk v last w p).2.1 = p.2.1 := by
  unfold jLk jSe
  by_cases hl : last = 0 <;> simp [hl]
theorem jLk_3 {v last w : Nat} {p : jP} : (jLk v last w p).2.2.1 = p.2.2.1 := by
  unfold jLk jSe
  by_cases hl : last = 0 <;> simp [hl]
theorem jLk_5 {v last w : Nat} {p : jP} : (jLk v last w p).2.2.2.2 = p.2.2.2.2 := by
  unfold jLk jSe
  by_cases hl : last = 0 <;> simp [hl]
theorem jLi_lk {v last m w : Nat} {p : jP} (h : jLi v last m p) (hw : w < p.2.1) (hvw : v < w) (hlw : last ≤ w) (hX : p.2.2.2.1 4 w = 0) (hE : ∀ u, v < u → u < w → jIs p u → p.2.2.2.1 7 u ≤ w) : jLi v (w + 1) (m + 1) (jLk v last w p) := by
  obtain ⟨h1, h2, h3, h4, h5, h6⟩ := h
  have e : ∀ r u, r ≠ 4 → u ≠ v → (jLk v last w p).2.2.2.1 r u = p.2.2.2.1 r u := by
    intro r u hr hu
    rw [jLk_row, if_neg (by omega)]
    split
    · rw [if_neg (by omega)]
    · rw [if_neg (by omega)]
  have e4 : ∀ u, u + 1 ≠ last → (jLk v last w p).2.2.2.1 4 u = p.2.2.2.1 4 u := by
    intro u hu
    rw [jLk_row, if_neg (by omega)]
    split
    · rw [if_neg (by omega)]
    · rw [if_neg (by omega)]
  refine ⟨by rw [jLk_2]; exact h1, ?_, .inr ⟨by omega, by omega, by rw [jLk_2]; omega, ?_, ?_⟩, ?_, ?_, ?_⟩
  · rw [jLk_row, if_pos ⟨rfl, rfl⟩, h2]
  · rw [show w + 1 - 1 = w from rfl, e4 w (by omega)]
    exact hX
  · rcases h3 with ⟨a, b, c⟩ | ⟨a, b, c, d, f⟩
    · subst a
      subst b
      rw [jLk_row, if_neg (by omega), if_pos rfl, if_pos ⟨rfl, rfl⟩]
      exact ⟨by omega, .inl ⟨rfl, rfl⟩⟩
    · rw [jLk_row 3 v, if_neg (by omega), if_neg a, if_neg (by omega)]
      refine jCl_app (by omega) ?_ _ _ _ (fun i _ hi => e4 i (by omega)) f
      rw [jLk_row, if_neg (by omega), if_neg a, if_pos ⟨rfl, rfl⟩]
  · rw [jLk_2]
    intro u a b c
    unfold jIs at c
    rw [e 0 u (by omega) (by omega)] at c
    have h7 := h4 u a b c
    rw [e 7 u (by omega) (by omega), e 2 u (by omega) (by omega), e 3 u (by omega) (by omega)]
    refine ⟨h7.1, jCh_upd _ _ _ (fun i hi1 hi2 => e4 i ?_) h7.2⟩
    intro hlast
    have := h5 u (by omega) (by omega) c
    omega
  · intro u a b c
    unfold jIs at c
    rw [e 0 u (by omega) (by omega)] at c
    rw [e 7 u (by omega) (by omega)]
    have := hE u a (by omega) c
    omega
  · intro u a b c
    rw [jLk_2] at b
    rw [e 0 u (by omega) (by omega)] at c
    rw [e 5 u (by omega) (by omega), e 2 u (by omega) (by omega), jLk_3]
    exact h6 u a b c
theorem jLi_to {v last m a : Nat} {p : jP} (h : jLi v last m p) : jLi v last m (jTo p a) := h
/-- what a loop over children does -/
def jLo (n v : Nat) (p p' : jP) : Prop := p.1 < p'.1 ∧ p'.1 ≤ n ∧ p.2.1 ≤ p'.2.1 ∧ p'.2.1 + p.1 ≤ p.2.1 + p'.1 ∧ p.2.2.1 ≤ p'.2.2.1 ∧ p'.2.2.1 + p.1 ≤ p.2.2.1 + p'.1 ∧ jFr v p p' ∧ (∀ k, k = 0 ∨ k = 1 ∨ k = 4 ∨ k = 5 → p'.2.2.2.1 k v = p.2.2.2.1 k v) ∧ ∃ last m, jLi v last m p'
theorem jSp_ok {B : Nat → Nat} {n cl a : Nat} {r : Bool × Nat} (ha : a ≤ n) (hc : cl ≠ 256) (h : jSp B n cl a = .ok r) : a < r.2 ∧ r.2 ≤ n := by
  unfold jSp at h
  have h1 := jSk_le (B := B) ha
  split at h
  · rename_i hb
    cases h
    have h2 := jBt_lt hb (by omega)
    have h3 := jSk_le (B := B) (n := n) (a := jSk B n a + 1) (by omega)
    simp only
    omega
  · split at h
    · rename_i hb
      cases h
      have h2 := jBt_lt hb (by omega)
      simp only
      omega
    · cases h
theorem jFr_tr {lo lo2 : Nat} {p q r : jP} (h : jFr lo p q) (hl : lo ≤ lo2) (hq : p.2.2.1 ≤ q.2.2.1) (h2 : jFr lo2 q r) : jFr lo p r :=
  ⟨fun k i hk hi => by rw [h2.1 k i hk (by omega), h.1 k i hk hi], fun i hi => by rw [h2.2.1 i (by omega), h.2.1 i hi], fun i hi => by rw [h2.2.2 i (by omega), h.2.2 i hi]⟩
theorem jFr_lk {v last w a : Nat} {p : jP} (hl : last = 0 ∨ v < last) : jFr v p (jTo (jLk v last w p) a) := by
  refine ⟨fun k i hk hi => ?_, fun i hi => ?_, fun i hi => ?_⟩
  · show (jLk v last w p).2.2.2.1 k i = _
    rw [jLk_row, if_neg (by omega)]
    split
    · rw [if_neg (by omega)]
    · rw [if_neg (by omega)]
  · show (jLk v last w p).2.2.2.1 6 i = _
    rw [jLk_row, if_neg (by omega)]
    split
    · rw [if_neg (by omega)]
    · rw [if_neg (by omega)]
  · show (jLk v last w p).2.2.2.2 i = _
    rw [jLk_5]
theorem jLi_l {v last m : Nat} {p : jP} (h : jLi v last m p) : last = 0 ∨ v + 1 < last := by
  rcases h.2.2.1 with h | h
  · exact .inl h.1
  · exact .inr h.2.1
theorem jLs_ok {B : Nat → Nat} {n : Nat} {val : jP → Except Nat (jP × Nat)} (hval : ∀ p r, jOk n p → val p = .ok r → jVo n p r.1 r.2) {v : Nat} : ∀ f p last m p', jOk n p → jLi v last m p → jLs B n val v f p last = .ok p' → jLo n v p p' := by
  intro f
  induction f with
  | zero => intro p last m p' _ _ h; cases h
  | succ f ih =>
    intro p last m p' ho hi h
    unfold jLs at h
    split at h
    · cases h
    · rename_i p1 w hv
      have hvo := hval _ _ ho hv
      simp only at hvo
      have ho1 := jVo_ok hvo ho
      have hvn : v < p.2.1 := hi.1
      have hll := jLi_last hi
      have hl0 := jLi_l hi
      have hI1 := jLi_vo hi hvo
      obtain ⟨g1, g2, g3, g4, g5, g6, g7, g8, g9, g10, g11, g12⟩ := hvo
      have hLk : jLi v (w + 1) (m + 1) (jLk v last w p1) := by
        refine jLi_lk hI1 (by omega) (by omega) (by omega) g9 ?_
        intro u a b c
        have hu : u < p.2.1 := by omega
        unfold jIs at c
        rw [g8.1 0 u (by omega) hu] at c
        rw [g8.1 7 u (by omega) hu]
        have := (hi.2.2.2.1 u a hu c).1
        omega
      have hfr : ∀ a, jFr v p (jTo (jLk v last w p1) a) := fun a => jFr_tr ⟨fun k i hk hi => g8.1 k i hk (by omega), g8.2.1, fun i hi => g8.2.2 i (by omega)⟩ (Nat.le_refl _) g6 (jFr_lk (by omega))
      have hrow : ∀ k a, k = 0 ∨ k = 1 ∨ k = 4 ∨ k = 5 → (jTo (jLk v last w p1) a).2.2.2.1 k v = p.2.2.2.1 k v := by
        intro k a hk
        show (jLk v last w p1).2.2.2.1 k v = _
        rw [jLk_row, if_neg (by omega), ← g8.1 k v (by omega) hvn]
        split
        · rw [if_neg (by omega)]
        · rw [if_neg (by omega)]
      have e2 : ∀ a, (jTo (jLk v last w p1) a).2.1 = p1.2.1 := fun a => jLk_2
      have e3 : ∀ a, (jTo (jLk v last w p1) a).2.2.1 = p1.2.2.1 := fun a => jLk_3
      split at h
      · cases h
      · rename_i a hs
        have hsp := jSp_ok ho1.1 (by omega) hs
        simp only at hsp
        have hok : jOk n (jTo (jLk v last w p1) a) := ⟨hsp.2, by rw [e2]; have := ho1.2.1; show p1.2.1 ≤ a; omega, by rw [e3]; have := ho1.2.2; show p1.2.2.1 ≤ a; omega⟩
        have hL := ih _ _ _ _ hok (jLi_to hLk) h
        obtain ⟨a1, a2, a3, a4, a5, a6, a7, a8, a9⟩ := hL
        rw [e2] at a3 a4
        rw [e3] at a5 a6
        have e1 : (jTo (jLk v last w p1) a).1 = a := rfl
        rw [e1] at a1 a4 a6
        refine ⟨by omega, a2, by omega, by omega, by omega, by omega, jFr_tr (hfr a) (Nat.le_refl _) (by rw [e3]; exact g6) a7, fun k hk => by rw [a8 k hk, hrow k a hk], a9⟩
      · rename_i a hs
        have hsp := jSp_ok ho1.1 (by omega) hs
        simp only at hsp
        cases h
        refine ⟨?_, hsp.2, ?_, ?_, ?_, ?_, hfr a, fun k hk => hrow k a hk, w + 1, m + 1, jLi_to hLk⟩
        · show p.1 < a; omega
        · rw [e2]; omega
        · rw [e2]; show p1.2.1 + p.1 ≤ p.2.1 + a; omega
        · rw [e3]; omega
        · rw [e3]; show p1.2.2.1 + p.1 ≤ p.2.2.1 + a; omega
