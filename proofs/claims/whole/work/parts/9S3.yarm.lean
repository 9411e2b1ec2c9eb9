/-! a call on both sides: what the law's arms need -/
def yO1 (S : yS) (r : Nat × Int32 × yS) : Prop := r.1 = 0 ∨ r.1 = 1 ∧ r.2.2 = S
def yO2 (S : yS) (r : Nat × Int32 × yS) : Prop := r.1 = 0 ∨ r.1 = 1 ∧ r.2.2 = S ∨ r.1 = 2 ∧ r.2.2 = S
section YArm
variable {S : yS}
theorem yO1_0 {v : Int32} {S' : yS} : yO1 S (0, v, S') := .inl rfl
theorem yO1_1 {v : Int32} : yO1 S (1, v, S) := .inr ⟨rfl, rfl⟩
theorem Y_feed (a b c d e : Int32) : yO1 S (y_feed a b c d e S) := by
  unfold y_feed
  split
  · exact yO1_1
  · exact yO1_0
theorem Y_end (x : Int32) : (y_end x S).1 = 0 ∨ (y_end x S).1 = 1 ∧ (y_end x S).2 = S := by
  unfold y_end
  split
  · exact .inr ⟨rfl, rfl⟩
  · exact .inl rfl
theorem Y_power (x : Int32) : (y_power x S).1 = 0 ∨ (y_power x S).1 = 1 ∧ (y_power x S).2 = S := by
  unfold y_power
  split
  · exact .inr ⟨rfl, rfl⟩
  · exact .inl rfl
theorem yRr_o {r : Nat × yS} {v : Nat} : yO1 S (yRr r v) := by
  unfold yRr
  split <;> exact yO1_0
theorem Y_register (x : Int32) : yO1 S (y_register x S) := by
  unfold y_register
  split
  · exact yO1_1
  · split
    · exact yO1_0
    · split
      · exact yO1_0
      · split
        · split
          · exact yO1_0
          · exact yRr_o
        · exact yO1_0
theorem yGt_o {x w : Int32} {k : Nat → Nat → Nat × Int32 × yS} (hk : ∀ n v, yO1 S (k n v)) : yO1 S (yGt x w S (1, 0, S) (0, -33, S) k) := by
  unfold yGt
  split
  · exact yO1_1
  · split
    · exact yO1_0
    · split
      · exact hk _ _
      · exact yO1_1
theorem Y_look (x w : Int32) : yO1 S (y_look x w S) := yGt_o (fun n v => by
  unfold yLo
  split <;> exact yO1_0)
theorem Y_load (x w : Int32) : yO1 S (y_load x w S) := yGt_o (fun n v => by
  unfold yLd
  split
  · exact yRr_o
  · exact yO1_0
  · exact yO1_0)
theorem yRo_o {M : List Nat} {b : Bool} : yO1 S (yRo S M b) := by
  unfold yRo
  split
  · split <;> exact yO1_0
  · exact yO1_0
theorem Y_read {x w i : Int32} {r : Nat × Int32 × yS} (h : y_read x w i S r) : yO1 S r := by
  unfold y_read at h
  split at h
  · rw [h]; exact yO1_1
  · split at h
    · rw [h]; exact yO1_0
    · split at h
      · obtain ⟨g, M, b, -, -, h3⟩ := h
        rw [h3]; exact yRo_o
      · rw [h]; exact yO1_1
theorem yCs_o {r : Nat × yS} {v : Nat} : yO1 S (yCs r v) := by
  unfold yCs
  first
    | exact yO1_0
    | (split <;> first | exact yO1_0 | (split <;> exact yO1_0))
theorem yCo_o {m v : Nat} {R : List Nat} {Ms : Nat → List Nat} {bs : Nat → Bool} {N : Nat} : yO1 S (yCo S m v R Ms bs N) := by
  unfold yCo
  split
  · split
    · exact yO1_0
    · split
      · exact yCs_o
      · exact yO1_0
  · exact yO1_0
theorem Y_copy {x1 x2 w : Int32} {r : Nat × Int32 × yS} (h : y_copy x1 x2 w S r) : yO1 S r := by
  unfold y_copy at h
  split at h
  · rw [h]; exact yO1_1
  · split at h
    · rw [h]; exact yO1_1
    · split at h
      · rw [h]; exact yO1_0
      · split at h
        · obtain ⟨gs, Ms, bs, -, h3⟩ := h
          rw [h3]; exact yCo_o
        · rw [h]; exact yO1_1
theorem Y_compact (x : Int32) : yO1 S (y_compact x S) := by
  unfold y_compact
  split
  · exact yO1_1
  · split
    · exact yO1_0
    · unfold yJr
      split <;> exact yO1_0
theorem Y_clear (x : Int32) : yO1 S (y_clear x S) := by
  unfold y_clear
  split
  · exact yO1_1
  · split
    · exact yO1_0
    · split
      · exact yO1_0
      · split <;> exact yO1_0
theorem Y_fits (x1 w1 x2 w2 : Int32) : yO1 S (y_fits x1 w1 x2 w2 S) ∧ ((y_fits x1 w1 x2 w2 S).2.1 = 1 ∨ (y_fits x1 w1 x2 w2 S).2.1 = 0) := by
  unfold y_fits
  split
  · exact ⟨yO1_1, .inr rfl⟩
  · split
    · exact ⟨yO1_0, .inr rfl⟩
    · split
      · refine ⟨yO1_0, ?_⟩
        show (if _ then (1 : Int32) else 0) = 1 ∨ (if _ then (1 : Int32) else 0) = 0
        split
        · exact .inl rfl
        · exact .inr rfl
      · exact ⟨yO1_1, .inr rfl⟩
theorem Y_count (x w : Int32) : yO2 S (y_count x w S) := by
  unfold y_count
  split
  · exact .inr (.inl ⟨rfl, rfl⟩)
  · split
    · exact .inr (.inr ⟨rfl, rfl⟩)
    · split <;> exact .inl rfl
theorem Y_letter (i x : Int32) : yO2 S (y_letter i x S) := by
  unfold y_letter
  generalize (if x = 0 then S.pl else S.ou) = Z
  split
  · exact .inr (.inr ⟨rfl, rfl⟩)
  · split
    · exact .inr (.inl ⟨rfl, rfl⟩)
    · exact .inl rfl
theorem Y_file (k x : Int32) : yO2 S (y_file k x S) := by
  unfold y_file
  split
  · exact .inr (.inl ⟨rfl, rfl⟩)
  · split
    · exact .inr (.inr ⟨rfl, rfl⟩)
    · split <;> exact .inl rfl
theorem Y_print (x w : Int32) : (y_print x w S).1 = 0 ∨ (y_print x w S).1 = 1 ∧ (y_print x w S).2.2 = S := by
  unfold y_print yGt
  split
  · exact .inr ⟨rfl, rfl⟩
  · split
    · exact .inl rfl
    · split
      · exact .inl rfl
      · exact .inr ⟨rfl, rfl⟩
theorem Y_size (x : Int32) : yO1 S (y_size x S) := by
  unfold y_size
  split
  · exact yO1_1
  · exact yO1_0
theorem Y_start : yO1 S (y_start S) := by
  unfold y_start
  split
  · exact yO1_0
  · exact yO1_1
/-- a state of both sides -/
def yB2 (n : Nat) (S : yS) (t : aT) : Prop := yLI n S t ∧ yMI S t
/-- the law's view of a call: the step's answer k and state ta, the reference's answer w and state t2 -/
def yRf (n : Nat) (S' : yS) (k : Int32) (ta t2 : aT) : Prop := t2.2.2.2 ≤ ta.2.2.2 + 1 ∧ gI t2 67 0 = k ∧ yB2 n S' t2
theorem yRf_of {n : Nat} {S' : yS} {k : Nat} {ta t2 : aT} (h1 : gI t2 67 0 = nI k) (h2 : yMI S' t2) (h3 : xMo ta t2) (h4 : yLI n S' ta) : yRf n S' (nI k) ta t2 := ⟨h3.2.1, h1, yLI_mo h3 h4, h2⟩
theorem yMI_pL {t : aT} {v : Int64} (h : yMI S t) : yMI S (pL t 149 0 v) := yMI_fr (fun _ _ _ _ => rfl) h
theorem yLI_pL {n : Nat} {t : aT} {v : Int64} (h : yLI n S t) : yLI n S (pL t 149 0 v) := yLI_fr (fun _ _ _ _ => rfl) (Nat.le_refl _) h
theorem gL_149 {t : aT} {v : Int64} : gL (pL t 149 0 v) 149 0 = v := by
  rw [gL_pL, if_pos ⟨rfl, rfl⟩]
theorem yA_r {n : Nat} {t : aT} {E : Nat → Nat} {F : aRs} {G : aT → aRs} {r : Nat × Int32 × yS} (hL : yLr n t E F r) (hy : yO2 S r) (hb : yB2 n S t) (hM : ∀ ta, yMI S ta → yMr ta (G ta) r) :
    ∃ (k : Int32) (ta : aT) (w : Int32) (t2 : aT), ((k = 0 ∧ ∃ t1, F = rI w t1 ∧ ta = pL t1 149 0 w.toInt64) ∨ (k = 1 ∧ r.1 = 1 ∧ F = rX (E 1) t ∧ ta = t) ∨ (k = 2 ∧ r.1 = 2 ∧ F = rX (E 2) t ∧ ta = t)) ∧ G ta = rI w t2 ∧ yRf (n + 1) r.2.2 k ta t2 ∧ (k = 0 → gL t2 149 0 = w.toInt64) ∧ (k = 0 → w = r.2.1) := by
  unfold yLr at hL
  have no : ∀ (k : Int32), r.2.2 = S → r.1 ≠ 0 → nI r.1 = k → ¬ k = 0 → ∃ (w : Int32) (t2 : aT), G t = rI w t2 ∧ yRf (n + 1) r.2.2 k t t2 ∧ (k = 0 → gL t2 149 0 = w.toInt64) ∧ (k = 0 → w = r.2.1) := by
    intro k e1 e2 e3 e4
    obtain ⟨t2, g1, g2, g3, g4⟩ := hM t hb.2
    refine ⟨r.2.1, t2, g1, ?_, fun e => absurd e e4, fun _ => rfl⟩
    rw [← e3]
    exact yRf_of g2 g3 g4 (by rw [e1]; exact yLI_c (Nat.le_succ _) hb.1)
  rcases hy with h0 | ⟨h1, e1⟩ | ⟨h2, e2⟩
  · rw [if_pos h0] at hL
    obtain ⟨t1, f1, f2, f3⟩ := hL
    obtain ⟨t2, g1, g2, g3, g4⟩ := hM (pL t1 149 0 r.2.1.toInt64) (yMI_pL (yMI_lk f3 hb.2))
    refine ⟨0, pL t1 149 0 r.2.1.toInt64, r.2.1, t2, .inl ⟨rfl, t1, f1, rfl⟩, g1, ?_, fun _ => ?_, fun _ => rfl⟩
    · have := yRf_of g2 g3 g4 (yLI_pL f2)
      rw [h0] at this
      exact this
    · rw [g4.2.2, gL_149]
  · rw [if_neg (by omega)] at hL
    obtain ⟨w, t2, h⟩ := no 1 e1 (by omega) (by rw [h1]; rfl) (by decide)
    refine ⟨1, t, w, t2, .inr (.inl ⟨rfl, h1, ?_, rfl⟩), h⟩
    rw [h1] at hL
    exact hL
  · rw [if_neg (by omega)] at hL
    obtain ⟨w, t2, h⟩ := no 2 e2 (by omega) (by rw [h2]; rfl) (by decide)
    refine ⟨2, t, w, t2, .inr (.inr ⟨rfl, h2, ?_, rfl⟩), h⟩
    rw [h2] at hL
    exact hL
theorem yA_1 {n : Nat} {t : aT} {E : Nat → Nat} {F : aRs} {G : aT → aRs} {r : Nat × Int32 × yS} (hL : yLr n t E F r) (hy : yO1 S r) (hb : yB2 n S t) (hM : ∀ ta, yMI S ta → yMr ta (G ta) r) :
    ∃ (k : Int32) (ta : aT) (w : Int32) (t2 : aT), ((k = 0 ∧ ∃ t1, F = rI w t1 ∧ ta = pL t1 149 0 w.toInt64) ∨ (k = 1 ∧ F = rX (E 1) t ∧ ta = t)) ∧ G ta = rI w t2 ∧ yRf (n + 1) r.2.2 k ta t2 ∧ (k = 0 → gL t2 149 0 = w.toInt64) ∧ (k = 0 → w = r.2.1) := by
  obtain ⟨k, ta, w, t2, h, h2⟩ := yA_r hL (hy.imp id .inl) hb hM
  refine ⟨k, ta, w, t2, ?_, h2⟩
  rcases h with h | ⟨a, b, c⟩ | ⟨a, b, c⟩
  · exact .inl h
  · exact .inr ⟨a, c⟩
  · rcases hy with h | h
    · omega
    · have := h.1; omega
theorem yA_2 {n : Nat} {t : aT} {E : Nat → Nat} {F : aRs} {G : aT → aRs} {r : Nat × Int32 × yS} (hL : yLr n t E F r) (hy : yO2 S r) (hb : yB2 n S t) (hM : ∀ ta, yMI S ta → yMr ta (G ta) r) :
    ∃ (k : Int32) (ta : aT) (w : Int32) (t2 : aT), ((k = 0 ∧ ∃ t1, F = rI w t1 ∧ ta = pL t1 149 0 w.toInt64) ∨ (k = 1 ∧ F = rX (E 1) t ∧ ta = t) ∨ (k = 2 ∧ F = rX (E 2) t ∧ ta = t)) ∧ G ta = rI w t2 ∧ yRf (n + 1) r.2.2 k ta t2 ∧ (k = 0 → gL t2 149 0 = w.toInt64) ∧ (k = 0 → w = r.2.1) := by
  obtain ⟨k, ta, w, t2, h, h2⟩ := yA_r hL hy hb hM
  refine ⟨k, ta, w, t2, ?_, h2⟩
  rcases h with h | ⟨a, -, c⟩ | ⟨a, -, c⟩
  · exact .inl h
  · exact .inr (.inl ⟨a, c⟩)
  · exact .inr (.inr ⟨a, c⟩)
theorem yA_v {n : Nat} {t : aT} {E : Nat → Nat} {F : aRs} {G : aT → aRs} {r : Nat × yS} (hL : yLv n t E F r) (hy : r.1 = 0 ∨ r.1 = 1 ∧ r.2 = S) (hb : yB2 n S t) (hM : ∀ ta, yMI S ta → yMv ta (G ta) r) :
    ∃ (k : Int32) (ta : aT) (t2 : aT), ((k = 0 ∧ F = rV ta) ∨ (k = 1 ∧ F = rX (E 1) t ∧ ta = t)) ∧ G ta = rV t2 ∧ yRf (n + 1) r.2 k ta t2 := by
  unfold yLv at hL
  rcases hy with h0 | ⟨h1, e1⟩
  · rw [if_pos h0] at hL
    obtain ⟨t1, f1, f2, f3⟩ := hL
    obtain ⟨t2, g1, g2, g3, g4⟩ := hM t1 (yMI_lk f3 hb.2)
    refine ⟨0, t1, t2, .inl ⟨rfl, f1⟩, g1, ?_⟩
    have := yRf_of g2 g3 g4 f2
    rw [h0] at this
    exact this
  · rw [if_neg (by omega), h1] at hL
    obtain ⟨t2, g1, g2, g3, g4⟩ := hM t hb.2
    refine ⟨1, t, t2, .inr ⟨rfl, hL, rfl⟩, g1, ?_⟩
    have := yRf_of g2 g3 g4 (n := n + 1) (by rw [e1]; exact yLI_c (Nat.le_succ _) hb.1)
    rw [h1] at this
    exact this
theorem yA_p {n : Nat} {t : aT} {E : Nat → Nat} {F : aRs} {G : aT → aRs} {r : Nat × Int64 × yS} (hL : yLp n t E F r) (hy : r.1 = 0 ∨ r.1 = 1 ∧ r.2.2 = S) (hb : yB2 n S t) (hM : ∀ ta, yMI S ta → yMp ta (G ta) r) :
    ∃ (k : Int32) (ta : aT) (w : Int64) (t2 : aT), ((k = 0 ∧ ∃ t1, F = rL w t1 ∧ ta = pL t1 149 0 w) ∨ (k = 1 ∧ F = rX (E 1) t ∧ ta = t)) ∧ G ta = rL w t2 ∧ yRf (n + 1) r.2.2 k ta t2 ∧ (k = 0 → gL t2 149 0 = w) := by
  unfold yLp at hL
  rcases hy with h0 | ⟨h1, e1⟩
  · rw [if_pos h0] at hL
    obtain ⟨t1, f1, f2, f3⟩ := hL
    obtain ⟨t2, g1, g2, g3, g4⟩ := hM (pL t1 149 0 r.2.1) (yMI_pL (yMI_lk f3 hb.2))
    refine ⟨0, pL t1 149 0 r.2.1, r.2.1, t2, .inl ⟨rfl, t1, f1, rfl⟩, g1, ?_, fun _ => ?_⟩
    · have := yRf_of g2 g3 g4 (yLI_pL f2)
      rw [h0] at this
      exact this
    · rw [g4.2.2, gL_149]
  · rw [if_neg (by omega), h1] at hL
    obtain ⟨t2, g1, g2, g3, g4⟩ := hM t hb.2
    refine ⟨1, t, r.2.1, t2, .inr ⟨rfl, hL, rfl⟩, g1, ?_, fun e => absurd e (by decide)⟩
    have := yRf_of g2 g3 g4 (n := n + 1) (by rw [e1]; exact yLI_c (Nat.le_succ _) hb.1)
    rw [h1] at this
    exact this
theorem yA_0 {n : Nat} {t : aT} {E : Nat → Nat} {F : aRs} {G : aT → aRs} {r : Nat × Int32 × yS} (hL : yLr n t E F r) (h0 : r.1 = 0) (hb : yB2 n S t) (hM : ∀ ta, yMI S ta → yMr ta (G ta) r) :
    ∃ (w : Int32) (t1 t2 : aT), F = rI w t1 ∧ G t1 = rI w t2 ∧ t2.2.2.2 ≤ t1.2.2.2 + 1 ∧ yB2 (n + 1) r.2.2 t2 := by
  unfold yLr at hL
  rw [if_pos h0] at hL
  obtain ⟨t1, f1, f2, f3⟩ := hL
  obtain ⟨t2, g1, g2, g3, g4⟩ := hM t1 (yMI_lk f3 hb.2)
  exact ⟨r.2.1, t1, t2, f1, g1, g4.2.1, yLI_mo g4 f2, g3⟩
end YArm
