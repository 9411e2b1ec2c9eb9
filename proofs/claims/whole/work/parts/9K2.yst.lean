/-! PURE: what is kept -/
def yB (C : List Nat) : Nat → Nat := fun i => C.getD i 0
theorem yB_bt {C : List Nat} (h : kBt C) (i : Nat) : yB C i < 256 := kBt_gd h i
/-- a text, read -/
def yRd (C : List Nat) : jP × kP × Nat := match kTx (yB C) C.length with
  | .ok r => r
  | .error _ => (jP0, kP0, 0)
abbrev yT (C : List Nat) : Nat → Nat → Nat := (yRd C).1.2.2.2.1
abbrev yN (C : List Nat) : Nat → Int := (yRd C).1.2.2.2.2
abbrev yM (C : List Nat) : Nat := (yRd C).1.2.1
abbrev yL (C : List Nat) : Nat := (yRd C).1.2.2.1
/-- its schemas, with defaults -/
def yQ (C : List Nat) : kP := kVe (yT C) (yN C) (yRd C).2.1
/-- its schema -/
abbrev yX (C : List Nat) : Nat := (yRd C).2.2
/-- the letters of its fields' defaults -/
def yW (C : List Nat) : Nat → Nat → List Nat := kDw (yT C) (yN C) (yRd C).2.1
/-- a version's text -/
def yVk (C : List Nat) : Prop := (kBt C ∧ C.length ≤ 4096) ∧ kTx (yB C) C.length = .ok (yRd C) ∧ (yRd C).1.1 = C.length
section
variable {C : List Nat}
theorem yRd_ok {r : jP × kP × Nat} (h : kTx (yB C) C.length = .ok r) : yRd C = r := by
  unfold yRd
  rw [h]
/-- all that is known of it -/
theorem yVk_g (h : yVk C) : jGt (yT C) (yN C) (yM C) (yL C) C.length ∧ kGd (yT C) (yN C) (yM C) C.length (yRd C).2.1 (yX C) ∧ kDk (yT C) (yN C) (yRd C).2.1 ((yRd C).2.1.1 4) 0 = 0 ∧ kSo (yT C) (yN C) 16 0 false kP0 = .ok ((yRd C).2.1, yX C) ∧ (kPl (yT C) (yRd C).2.1 16 (yX C) 6).1.length ≤ C.length := by
  obtain ⟨⟨hb, hl⟩, h1, h2⟩ := h
  have hk := kTx_ok (B := yB C) (n := C.length) (p := (yRd C).1) (q := (yRd C).2.1) (x := (yRd C).2.2) hl h1
  rw [h2] at hk
  refine ⟨hk.1, hk.2.2.1, ?_, hk.2.2.2.1, hk.2.2.2.2⟩
  unfold kTx at h1
  split at h1
  · cases h1
  · rename_i p v e hr
    split at h1
    · cases h1
    · rename_i q x hs
      have e1 : yRd C = (p, q, x) := (Except.ok.inj h1).symm
      unfold kSr at hs
      split at hs
      · cases hs
      · rename_i q2 x2 hso
        split at hs
        · rename_i hd
          have e2 : q2 = q := (Prod.mk.inj (Except.ok.inj hs)).1
          subst e2
          unfold yT yN
          rw [e1]
          exact hd
        · cases hs
/-- how much room it takes -/
theorem yVk_r (h : yVk C) : 6 ≤ (yQ C).1 1 ∧ (yQ C).1 1 ≤ 134 ∧ 4 * (yQ C).1 3 + 1 ≤ C.length ∧ (yQ C).1 6 + 2 ≤ 2 * C.length ∧ yX C < (yQ C).1 1 := by
  obtain ⟨g1, g2, g3, g4, g5⟩ := yVk_g h
  have hs := kVe_sq (T := yT C) (N := yN C) (q0 := (yRd C).2.1)
  have h6 := kVe_6 g1 g2 g3
  obtain ⟨hv, hw⟩ := jGt_0 g1
  have hp := kSo_p4 kIv_0 hv g4
  have c6 : kP0.1 6 = 0 := rfl
  have c7 : kP0.1 7 = 0 := rfl
  have hI := g2.1.1
  unfold yQ
  rw [hs.2.2.1 1 (by omega), hs.2.2.1 3 (by omega)]
  have g3' := g2.2.2.2.2.2.2.2.1
  have gx := g2.2.2.2.2.1
  exact ⟨by omega, by omega, by omega, by omega, gx⟩
end
/-! blocks are counted -/
def yCn (p : Nat → Bool) : Nat → Nat
  | 0 => 0
  | n + 1 => yCn p n + (if p n = true then 1 else 0)
theorem yCn_le {p q : Nat → Bool} : ∀ n, (∀ b, b < n → p b = true → q b = true) → yCn p n ≤ yCn q n
  | 0, _ => Nat.le_refl _
  | n + 1, h => by
    have ih := yCn_le n (fun b hb => h b (by omega))
    have hn := h n (by omega)
    unfold yCn
    by_cases hp : p n = true
    · rw [if_pos hp, if_pos (hn hp)]; omega
    · rw [if_neg hp]; omega
theorem yCn_or {p q : Nat → Bool} : ∀ n, (∀ b, b < n → ¬ (p b = true ∧ q b = true)) → yCn (fun b => p b || q b) n = yCn p n + yCn q n
  | 0, _ => rfl
  | n + 1, h => by
    have ih := yCn_or n (fun b hb => h b (by omega))
    have hn := h n (by omega)
    unfold yCn
    rw [ih]
    cases hp : p n <;> cases hq : q n <;> simp_all <;> omega
theorem yCn_iv {a k : Nat} : ∀ n, yCn (fun b => decide (a ≤ b ∧ b < a + k)) n = min (n - a) k
  | 0 => by show 0 = _; omega
  | n + 1 => by
    unfold yCn
    rw [yCn_iv n]
    by_cases h : a ≤ n ∧ n < a + k
    · rw [if_pos (decide_eq_true h)]; omega
    · rw [if_neg (fun e => h (of_decide_eq_true e))]; omega
theorem yCn_0 : ∀ n, yCn (fun _ => false) n = 0
  | 0 => rfl
  | n + 1 => by
    unfold yCn
    rw [yCn_0 n]
    rfl
/-- blocks of the first n files -/
def yBs (L : List yFi) : Nat → Nat
  | 0 => 0
  | n + 1 => yBs L n + yBk (L.getD n yF0).2.2.2.1
def yDj (L : List yFi) : Prop := ∀ i j, i < L.length → j < L.length → i ≠ j → yAw (L.getD i yF0) (L.getD j yF0).2.2.1 (yBk (L.getD j yF0).2.2.2.1)
theorem yBs_cn {L : List yFi} (hs : yLs L) (hd : yDj L) : ∀ n, n ≤ L.length → ∃ p : Nat → Bool, yCn p 128 = yBs L n ∧ ∀ b, b < 128 → p b = true → 2 ≤ b ∧ ∃ i, i < n ∧ (L.getD i yF0).2.2.1 ≤ b ∧ b < (L.getD i yF0).2.2.1 + yBk (L.getD i yF0).2.2.2.1
  | 0, _ => ⟨fun _ => false, yCn_0 128, fun b _ h => by cases h⟩
  | n + 1, hn => by
    obtain ⟨p, h1, h2⟩ := yBs_cn hs hd n (by omega)
    obtain ⟨b1, b2, b3, b4, b5⟩ := hs.2 n (by omega)
    refine ⟨fun b => p b || decide ((L.getD n yF0).2.2.1 ≤ b ∧ b < (L.getD n yF0).2.2.1 + yBk (L.getD n yF0).2.2.2.1), ?_, ?_⟩
    · rw [yCn_or (q := fun b => decide ((L.getD n yF0).2.2.1 ≤ b ∧ b < (L.getD n yF0).2.2.1 + yBk (L.getD n yF0).2.2.2.1)) 128 (fun b hb e => ?_), yCn_iv, h1]
      · show yBs L n + min (128 - (L.getD n yF0).2.2.1) (yBk (L.getD n yF0).2.2.2.1) = yBs L n + yBk (L.getD n yF0).2.2.2.1
        omega
      · obtain ⟨_, i, i1, i2, i3⟩ := h2 b hb e.1
        have e2 := of_decide_eq_true e.2
        have := hd i n (by omega) (by omega) (by omega)
        unfold yAw at this
        omega
    · intro b hb h
      rw [Bool.or_eq_true] at h
      rcases h with h | h
      · obtain ⟨a, i, i1, i2⟩ := h2 b hb h
        exact ⟨a, i, by omega, i2⟩
      · have e := of_decide_eq_true h
        exact ⟨by omega, n, by omega, e⟩
theorem yBs_le {L : List yFi} (hs : yLs L) (hd : yDj L) {n : Nat} (hn : n ≤ L.length) : yBs L n ≤ 126 := by
  obtain ⟨p, h1, h2⟩ := yBs_cn hs hd n hn
  have h3 := yCn_le (p := p) (q := fun b => decide (2 ≤ b ∧ b < 2 + 126)) 128 (fun b hb h => decide_eq_true ⟨(h2 b hb h).1, by omega⟩)
  rw [yCn_iv] at h3
  omega
/-! where versions lie in the lake's tables -/
def yB0 (L : List yFi) : Nat → Nat
  | 0 => 6
  | n + 1 => yB0 L n + (if (L.getD n yF0).2.2.2.2.1 = 0 then (yQ (L.getD n yF0).2.2.2.2.2).1 1 - 6 else 0)
def yP0 (L : List yFi) : Nat → Nat
  | 0 => 0
  | n + 1 => yP0 L n + (if (L.getD n yF0).2.2.2.2.1 = 0 then (yQ (L.getD n yF0).2.2.2.2.2).1 3 else 0)
def yQ0 (L : List yFi) : Nat → Nat
  | 0 => 0
  | n + 1 => yQ0 L n + (if (L.getD n yF0).2.2.2.2.1 = 0 then (yQ (L.getD n yF0).2.2.2.2.2).1 6 else 0)
/-- a file of rows: how many bytes -/
def yWa (k n : Nat) : Nat := 19 + (kVb (Int64.ofNat k)).length + (kVb (Int64.ofNat n)).length + n
/-- rows, one behind the other -/
def yRw (C : List Nat) (q : kP) (x k : Nat) : Prop := k ≤ C.length ∧ ∃ g : Nat → Nat, g 0 = 0 ∧ g k = C.length ∧ ∀ i, i < k → ∀ B n off, (∀ j, j < C.length → B (off + j) = C.getD j 0) → off + C.length ≤ n → kWq q B n 32 x (off + g i) (off + g (i + 1))
/-- what a list of files keeps to -/
def yLw (L : List yFi) : Prop := yLs L ∧ yDj L ∧ (∀ i, i < L.length → (L.getD i yF0).2.2.2.2.1 = 0 → yVk (L.getD i yF0).2.2.2.2.2 ∧ (L.getD i yF0).2.2.2.1 = (L.getD i yF0).2.2.2.2.2.length ∧ (L.getD i yF0).2.1 = yVc L (L.getD i yF0).1 i) ∧ (∀ i, i < L.length → (L.getD i yF0).2.2.2.2.1 ≠ 0 → kBt (L.getD i yF0).2.2.2.2.2 ∧ (L.getD i yF0).2.2.2.1 = yWa ((L.getD i yF0).2.2.2.2.1 - 1) (L.getD i yF0).2.2.2.2.2.length ∧ ∃ j, j < i ∧ yIv (L.getD j yF0) (L.getD i yF0).1 ∧ (L.getD j yF0).2.1 = (L.getD i yF0).2.1 ∧ yRw (L.getD i yF0).2.2.2.2.2 (yQ (L.getD j yF0).2.2.2.2.2) (yX (L.getD j yF0).2.2.2.2.2) ((L.getD i yF0).2.2.2.2.1 - 1))
section
variable {L : List yFi}
/-- there is room in the tables for all, and for one more -/
theorem yB0_le (h : yLw L) : ∀ n, n ≤ L.length → 6 ≤ yB0 L n ∧ yB0 L n ≤ 6 + 128 * n ∧ 4 * yP0 L n ≤ 256 * yBs L n ∧ yQ0 L n ≤ 512 * yBs L n ∧ (yQ0 L n = 0 ∨ yQ0 L n + 2 ≤ 512 * yBs L n)
  | 0, _ => ⟨Nat.le_refl _, Nat.le_refl _, Nat.le_refl _, Nat.le_refl _, .inl rfl⟩
  | n + 1, hn => by
    have ih := yB0_le h n (by omega)
    have hk := yBk_n (L.getD n yF0).2.2.2.1
    unfold yB0 yP0 yQ0 yBs
    by_cases h0 : (L.getD n yF0).2.2.2.2.1 = 0
    · rw [if_pos h0, if_pos h0, if_pos h0]
      obtain ⟨v1, v2, v3⟩ := h.2.2.1 n (by omega) h0
      have hr := yVk_r v1
      omega
    · rw [if_neg h0, if_neg h0, if_neg h0]
      omega
theorem yB0_mo (h : yLw L) : ∀ k n, n + k ≤ L.length → yB0 L n ≤ yB0 L (n + k) ∧ yP0 L n ≤ yP0 L (n + k) ∧ yQ0 L n ≤ yQ0 L (n + k)
  | 0, n, _ => ⟨Nat.le_refl _, Nat.le_refl _, Nat.le_refl _⟩
  | k + 1, n, hn => by
    have ih := yB0_mo h k n (by omega)
    have e1 : yB0 L (n + (k + 1)) = yB0 L (n + k) + (if (L.getD (n + k) yF0).2.2.2.2.1 = 0 then (yQ (L.getD (n + k) yF0).2.2.2.2.2).1 1 - 6 else 0) := rfl
    have e2 : yP0 L (n + (k + 1)) = yP0 L (n + k) + (if (L.getD (n + k) yF0).2.2.2.2.1 = 0 then (yQ (L.getD (n + k) yF0).2.2.2.2.2).1 3 else 0) := rfl
    have e3 : yQ0 L (n + (k + 1)) = yQ0 L (n + k) + (if (L.getD (n + k) yF0).2.2.2.2.1 = 0 then (yQ (L.getD (n + k) yF0).2.2.2.2.2).1 6 else 0) := rfl
    rw [e1, e2, e3]
    omega
/-- for a text that is read: room -/
theorem yB0_room (h : yLw L) {n : Nat} (hn : n ≤ L.length) : 6 ≤ yB0 L n ∧ yB0 L n + 128 ≤ 5254 ∧ 2 * yP0 L n + 4097 ≤ 20226 ∧ yQ0 L n + 2 * 4097 ≤ 72704 := by
  have h1 := yB0_le h n hn
  have h2 := yBs_le h.1 h.2.1 hn
  have h3 := h.1.1
  omega
end
