/-! PURE: all that is known where a reading goes on -/
def jGd (n : Nat) (p : jP) : Prop := jOk n p ∧ jLe p ∧ jSt p 0
theorem jSt_vo {n lo w : Nat} {p p1 : jP} (hv : jVo n p p1 w) (h : jSt p lo) : jSt p1 lo := by
  obtain ⟨g1, g2, g3, g4, g5, g6, g7, g8, g9, g10, g11, g12⟩ := hv
  intro u a b k
  rcases Nat.lt_or_ge u p.2.1 with hu | hu
  · rw [g8.1 0 u (by omega) hu] at k
    rw [g8.1 5 u (by omega) hu, g8.1 2 u (by omega) hu]
    have := h u a hu k
    omega
  · exact g11 u hu b k
theorem jGd_to {n a : Nat} {p : jP} (h : jGd n p) (h1 : p.1 ≤ a) (h2 : a ≤ n) : jGd n (jTo p a) :=
  ⟨⟨h2, Nat.le_trans h.1.2.1 h1, Nat.le_trans h.1.2.2 h1⟩, h.2.1, h.2.2⟩
theorem jGd_nd {n k a : Nat} {p : jP} (h : jGd n p) (hk : k ≠ 2) (h1 : p.1 < a) (h2 : a ≤ n) : jGd n (jTo (jNd k p) a) := by
  obtain ⟨⟨o1, o2, o3⟩, hl, hs⟩ := h
  refine ⟨⟨h2, ?_, ?_⟩, jNd_le hl, ?_⟩
  · show p.2.1 + 1 ≤ a; omega
  · show p.2.2.1 ≤ a; omega
  · intro u a b kk
    have b : u < p.2.1 + 1 := b
    have kk : (jNd k p).2.2.2.1 0 u = 2 := kk
    show (jNd k p).2.2.2.1 5 u + (jNd k p).2.2.2.1 2 u ≤ p.2.2.1
    rw [jNd_row] at kk ⊢
    rw [jNd_row]
    by_cases e : u = p.2.1
    · rw [if_pos e] at kk
      simp at kk
      exact absurd kk hk
    · rw [if_neg e] at kk ⊢
      rw [if_neg e]
      exact hs u (by omega) (by omega) kk
theorem jGd_vo {n w : Nat} {p p1 : jP} (h : jGd n p) (hv : jVo n p p1 w) (hl : jLe p1) : jGd n p1 := ⟨jVo_ok hv h.1, hl, jSt_vo hv h.2.2⟩
theorem jGd_lk {n v last w a : Nat} {p : jP} (h : jGd n p) (hv : p.2.2.2.1 0 v ≠ 2) (h1 : p.1 ≤ a) (h2 : a ≤ n) : jGd n (jTo (jLk v last w p) a) := by
  obtain ⟨⟨o1, o2, o3⟩, hl, hs⟩ := h
  refine ⟨⟨h2, ?_, ?_⟩, jLk_le hl, ?_⟩
  · show (jLk v last w p).2.1 ≤ a
    rw [jLk_2]; omega
  · show (jLk v last w p).2.2.1 ≤ a
    rw [jLk_3]; omega
  · have e : ∀ r u, r = 0 ∨ r = 5 ∨ (r = 2 ∧ u ≠ v) → (jLk v last w p).2.2.2.1 r u = p.2.2.2.1 r u := by
      intro r u hr
      rw [jLk_row, if_neg (by omega)]
      split
      · rw [if_neg (by omega)]
      · rw [if_neg (by omega)]
    intro u a b kk
    have b : u < (jLk v last w p).2.1 := b
    rw [jLk_2] at b
    have kk : (jLk v last w p).2.2.2.1 0 u = 2 := kk
    show (jLk v last w p).2.2.2.1 5 u + (jLk v last w p).2.2.2.1 2 u ≤ (jLk v last w p).2.2.1
    rw [e 0 u (.inl rfl)] at kk
    have hu : u ≠ v := by
      intro g
      rw [g] at kk
      exact hv kk
    rw [jLk_3, e 5 u (.inr (.inl rfl)), e 2 u (.inr (.inr ⟨rfl, hu⟩))]
    exact hs u (by omega) b kk
theorem jGd_str {B : Nat → Nat} {n : Nat} {p : jP} {r : jP × Nat} (h : jGd n p) (hp : p.1 < n) (hr : jStr B n p = .ok r) : jGd n r.1 := jGd_vo h (jStr_ok h.1 hp hr).1 (jStr_le hr h.2.1)
theorem jGd_v {B : Nat → Nat} {n D : Nat} {p : jP} {r : jP × Nat} (h : jGd n p) (hr : jV B n D p = .ok r) : jGd n r.1 := jGd_vo h (jV_ok D p r h.1 hr) (jV_le D p r hr h.2.1)
