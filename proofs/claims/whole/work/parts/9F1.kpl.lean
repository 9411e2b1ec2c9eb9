/-! PURE: the plain form of a schema -/
def kPw (k : Nat) : List Nat :=
  if k = 23 then [34, 105, 116, 101, 109, 115, 34, 58] else if k = 24 then [123, 34, 116, 121, 112, 101, 34, 58] else if k = 25 then [34, 118, 97, 108, 117, 101, 115, 34, 58] else if k = 26 then [123, 34, 110, 97, 109, 101, 34, 58] else if k = 27 then [44, 34, 116, 121, 112, 101, 34, 58] else if k = 28 then [44, 34, 115, 105, 122, 101, 34, 58] else if k = 29 then [44, 34, 115, 121, 109, 98, 111, 108, 115, 34, 58, 91] else if k = 30 then [44, 34, 102, 105, 101, 108, 100, 115, 34, 58, 91] else if k = 31 then [44, 123, 34, 110, 97, 109, 101, 34, 58] else []
def kQt (W : List Nat) : List Nat := 34 :: (W ++ [34])
theorem kQt_len {W : List Nat} : (kQt W).length = W.length + 2 := by simp [kQt]
/-- a size's figures -/
def kDg (n : Nat) : List Nat := if 10 ≤ n then [48 + n / 10, 48 + n % 10] else [48 + n % 10]
def kPlU (q : kP) (rec : Nat → Nat → List Nat × Nat) (x : Nat) : Nat → Nat → Nat → List Nat × Nat
  | 0, _, c => ([], c)
  | k + 1, i, c => ((rec (q.2.2 1 x i - 1) c).1 ++ ((if k = 0 then [] else [44]) ++ (kPlU q rec x k (i + 1) (rec (q.2.2 1 x i - 1) c).2).1), (kPlU q rec x k (i + 1) (rec (q.2.2 1 x i - 1) c).2).2)
def kPlY (T : Nat → Nat → Nat) (q : kP) (x : Nat) : Nat → Nat → List Nat
  | 0, _ => []
  | k + 1, i => kQt (kLe T (q.2.2 2 x i - 1)) ++ ((if k = 0 then [] else [44]) ++ kPlY T q x k (i + 1))
/-- one field -/
def kPli (T : Nat → Nat → Nat) (q : kP) (x i : Nat) (W : List Nat) : List Nat := kPw 26 ++ (kQt (kLe T (q.2.2 2 x i - 1)) ++ (kPw 27 ++ (W ++ [125])))
def kPlF (T : Nat → Nat → Nat) (q : kP) (rec : Nat → Nat → List Nat × Nat) (x : Nat) : Nat → Nat → Nat → List Nat × Nat
  | 0, _, c => ([], c)
  | k + 1, i, c => (kPli T q x i (rec (q.2.2 1 x i - 1) c).1 ++ ((if k = 0 then [] else [44]) ++ (kPlF T q rec x k (i + 1) (rec (q.2.2 1 x i - 1) c).2).1), (kPlF T q rec x k (i + 1) (rec (q.2.2 1 x i - 1) c).2).2)
/-- a named schema: name and kind, then its own -/
def kPln (T : Nat → Nat → Nat) (q : kP) (x : Nat) (W : List Nat) : List Nat := kPw 26 ++ (kQt (kLe T (q.2.1 1 x - 1)) ++ (kPw 27 ++ (kQt (kWs (q.2.1 0 x)) ++ (W ++ [125]))))
/-- a schema that stands here first -/
def kPlB (T : Nat → Nat → Nat) (q : kP) (rec : Nat → Nat → List Nat × Nat) (x : Nat) : List Nat × Nat :=
  if q.2.1 0 x = 6 ∨ q.2.1 0 x = 7 then (kPw 24 ++ (kQt (kWs (q.2.1 0 x)) ++ ([44] ++ (kPw (if q.2.1 0 x = 6 then 23 else 25) ++ ((rec (q.2.2 1 x 0 - 1) (x + 1)).1 ++ [125])))), (rec (q.2.2 1 x 0 - 1) (x + 1)).2)
  else if q.2.1 0 x = 8 then ([91] ++ ((kPlU q rec x (q.2.1 4 x) 0 (x + 1)).1 ++ [93]), (kPlU q rec x (q.2.1 4 x) 0 (x + 1)).2)
  else if q.2.1 0 x = 9 then (kPln T q x (kPw 28 ++ kDg (q.2.1 8 x - 1)), x + 1)
  else if q.2.1 0 x = 10 then (kPln T q x (kPw 29 ++ (kPlY T q x (q.2.1 4 x) 0 ++ [93])), x + 1)
  else (kPln T q x (kPw 30 ++ ((kPlF T q rec x (q.2.1 4 x) 0 (x + 1)).1 ++ [93])), (kPlF T q rec x (q.2.1 4 x) 0 (x + 1)).2)
/-- a schema, where those before c have been met -/
def kPlH (T : Nat → Nat → Nat) (q : kP) (b : List Nat × Nat) (x c : Nat) : List Nat × Nat := if x < 6 then (kQt (kWs x), c) else if x < c then (kQt (kLe T (q.2.1 1 x - 1)), c) else b
def kPl (T : Nat → Nat → Nat) (q : kP) : Nat → Nat → Nat → List Nat × Nat
  | 0, x, c => kPlH T q ([], c) x c
  | D + 1, x, c => kPlH T q (kPlB T q (kPl T q D) x) x c
section
variable {T : Nat → Nat → Nat} {q q' : kP}
theorem kPlU_lat {rec : Nat → Nat → List Nat × Nat} {x : Nat} {f : Nat → Nat} : ∀ k i, (∀ j, i ≤ j → j < i + k → (rec (q.2.2 1 x j - 1) (f j)).2 = f (j + 1)) → (kPlU q rec x k i (f i)).2 = f (i + k) ∧ (kPlU q rec x k i (f i)).1.length + (if k = 0 then 0 else 1) = kSg (fun j => (rec (q.2.2 1 x j - 1) (f j)).1.length + 1) k i
  | 0, i, _ => ⟨rfl, rfl⟩
  | k + 1, i, h => by
    have h1 := h i (Nat.le_refl _) (by omega)
    have ih := kPlU_lat (rec := rec) (f := f) k (i + 1) (fun j a b => h j (by omega) (by omega))
    unfold kPlU
    simp only
    rw [h1, ih.1, if_neg (show ¬ k + 1 = 0 by omega)]
    refine ⟨by rw [show i + 1 + k = i + (k + 1) by omega], ?_⟩
    show _ = ((rec (q.2.2 1 x i - 1) (f i)).1.length + 1) + kSg (fun j => (rec (q.2.2 1 x j - 1) (f j)).1.length + 1) k (i + 1)
    rw [← ih.2, List.length_append, List.length_append]
    by_cases hk : k = 0
    · rw [if_pos hk, if_pos hk]
      show _ + (0 + _) + 1 = _
      omega
    · rw [if_neg hk, if_neg hk]
      show _ + (1 + _) + 1 = _
      omega
theorem kPli_len {x i : Nat} {W : List Nat} : (kPli T q x i W).length = T 2 (q.2.2 2 x i - 1) + 19 + W.length := by
  unfold kPli
  rw [List.length_append, List.length_append, List.length_append, List.length_append, kQt_len, kLe_len]
  have a : (kPw 26).length = 8 := rfl
  have b : (kPw 27).length = 8 := rfl
  rw [a, b]
  show 8 + (_ + (8 + (_ + 1))) = _
  omega
theorem kPlF_lat {rec : Nat → Nat → List Nat × Nat} {x : Nat} {f : Nat → Nat} : ∀ k i, (∀ j, i ≤ j → j < i + k → (rec (q.2.2 1 x j - 1) (f j)).2 = f (j + 1)) → (kPlF T q rec x k i (f i)).2 = f (i + k) ∧ (kPlF T q rec x k i (f i)).1.length + (if k = 0 then 0 else 1) = kSg (fun j => T 2 (q.2.2 2 x j - 1) + 19 + (rec (q.2.2 1 x j - 1) (f j)).1.length + 1) k i
  | 0, i, _ => ⟨rfl, rfl⟩
  | k + 1, i, h => by
    have h1 := h i (Nat.le_refl _) (by omega)
    have ih := kPlF_lat (rec := rec) (f := f) k (i + 1) (fun j a b => h j (by omega) (by omega))
    unfold kPlF
    simp only
    rw [h1, ih.1, if_neg (show ¬ k + 1 = 0 by omega)]
    refine ⟨by rw [show i + 1 + k = i + (k + 1) by omega], ?_⟩
    show _ = (T 2 (q.2.2 2 x i - 1) + 19 + (rec (q.2.2 1 x i - 1) (f i)).1.length + 1) + kSg (fun j => T 2 (q.2.2 2 x j - 1) + 19 + (rec (q.2.2 1 x j - 1) (f j)).1.length + 1) k (i + 1)
    rw [← ih.2, List.length_append, List.length_append, kPli_len]
    by_cases hk : k = 0
    · rw [if_pos hk, if_pos hk]
      show _ + (0 + _) + 1 = _
      omega
    · rw [if_neg hk, if_neg hk]
      show _ + (1 + _) + 1 = _
      omega
theorem kTt_b {D x c' : Nat} (h : kTt q (D + 1) x c') : (q.2.1 0 x = 9 ∨ q.2.1 0 x = 10) ∧ c' = x + 1 ∨ (q.2.1 0 x ≠ 9 ∧ q.2.1 0 x ≠ 10) ∧ ∃ f : Nat → Nat, f 0 = x + 1 ∧ f (q.2.1 4 x) = c' ∧ (∀ i, i < q.2.1 4 x → q.2.2 1 x i ≠ 0 ∧ kOc q (kTt q D) (q.2.2 1 x i - 1) (f i) (f (i + 1))) ∧ (∀ i, i < q.2.1 4 x → x + 1 ≤ f i ∧ f (i + 1) ≤ c') := by
  rcases h.2 with h | ⟨hk, f, f0, f1, f2⟩
  · exact .inl h
  · have hm := kOc_mono (fun a b => kTt_lt D a b) (fun i hi => (f2 i hi).2)
    refine .inr ⟨by omega, f, f0, f1, f2, fun i hi => ?_⟩
    have a := hm i 0 (by omega) (by omega)
    have b := hm (q.2.1 4 x) (i + 1) (by omega) (Nat.le_refl _)
    omega
theorem kPl_new {D x c : Nat} (h6 : 6 ≤ x) (e : ¬ x < c) : kPl T q (D + 1) x c = kPlB T q (kPl T q D) x := by
  show kPlH T q (kPlB T q (kPl T q D) x) x c = _
  unfold kPlH
  rw [if_neg (by omega), if_neg e]
theorem kPl_old {D x c : Nat} (e : x < c) : kPl T q D x c = if x < 6 then (kQt (kWs x), c) else (kQt (kLe T (q.2.1 1 x - 1)), c) := by
  cases D with
  | zero =>
    show kPlH T q ([], c) x c = _
    unfold kPlH
    rw [if_pos e]
  | succ D =>
    show kPlH T q (kPlB T q (kPl T q D) x) x c = _
    unfold kPlH
    rw [if_pos e]
/-- which schemas have been met behind one -/
theorem kPl_lat : ∀ D x c c', 6 ≤ c → kOc q (kTt q D) x c c' → (kPl T q D x c).2 = c' := by
  intro D
  induction D with
  | zero =>
    intro x c c' h6 h
    rcases h with ⟨h1, h2, _⟩ | ⟨h1, h2⟩
    · rw [kPl_old h1]
      split <;> exact h2.symm
    · exact h2.elim
  | succ D ih =>
    intro x c c' h6 h
    rcases h with ⟨h1, h2, _⟩ | ⟨h1, h2⟩
    · rw [kPl_old h1]
      split <;> exact h2.symm
    · subst h1
      rw [kPl_new h6 (by omega)]
      have hnd := h2.1
      unfold kPlB
      rcases kTt_b h2 with ⟨hk, he⟩ | ⟨hk, f, f0, f1, f2, f3⟩
      · rw [if_neg (by omega), if_neg (by omega)]
        rcases hk with hk | hk
        · rw [if_pos hk]; exact he.symm
        · rw [if_neg (by omega), if_pos hk]; exact he.symm
      · by_cases h67 : q.2.1 0 x = 6 ∨ q.2.1 0 x = 7
        · rw [if_pos h67]
          have h41 := hnd.2.2.1 h67
          rw [h41] at f1 f2 f3
          have := ih _ _ _ (by have := f3 0 (by omega); omega) (f2 0 (by omega)).2
          rw [f0] at this
          exact this.trans f1
        · rw [if_neg h67]
          have hr : ∀ j, 0 ≤ j → j < 0 + q.2.1 4 x → (kPl T q D (q.2.2 1 x j - 1) (f j)).2 = f (j + 1) := fun j _ hj => ih _ _ _ (by have := f3 j (by omega); omega) (f2 j (by omega)).2
          by_cases h8 : q.2.1 0 x = 8
          · rw [if_pos h8]
            have := (kPlU_lat (f := f) (q.2.1 4 x) 0 hr).1
            rw [f0, Nat.zero_add, f1] at this
            exact this
          · rw [if_neg h8, if_neg hk.1, if_neg hk.2]
            have := (kPlF_lat (T := T) (f := f) (q.2.1 4 x) 0 hr).1
            rw [f0, Nat.zero_add, f1] at this
            exact this
theorem kPlU_cg {rec rec' : Nat → Nat → List Nat × Nat} {x : Nat} {f : Nat → Nat} : ∀ k i, (∀ j, i ≤ j → j < i + k → q'.2.2 1 x j = q.2.2 1 x j ∧ rec' (q.2.2 1 x j - 1) (f j) = rec (q.2.2 1 x j - 1) (f j) ∧ (rec (q.2.2 1 x j - 1) (f j)).2 = f (j + 1)) → kPlU q' rec' x k i (f i) = kPlU q rec x k i (f i)
  | 0, _, _ => rfl
  | k + 1, i, h => by
    obtain ⟨h1, h2, h3⟩ := h i (Nat.le_refl _) (by omega)
    have ih := kPlU_cg (rec := rec) (rec' := rec') (f := f) k (i + 1) (fun j a b => h j (by omega) (by omega))
    unfold kPlU
    rw [h1, h2, h3, ih]
theorem kPlF_cg {rec rec' : Nat → Nat → List Nat × Nat} {x : Nat} {f : Nat → Nat} : ∀ k i, (∀ j, i ≤ j → j < i + k → (q'.2.2 1 x j = q.2.2 1 x j ∧ q'.2.2 2 x j = q.2.2 2 x j) ∧ rec' (q.2.2 1 x j - 1) (f j) = rec (q.2.2 1 x j - 1) (f j) ∧ (rec (q.2.2 1 x j - 1) (f j)).2 = f (j + 1)) → kPlF T q' rec' x k i (f i) = kPlF T q rec x k i (f i)
  | 0, _, _ => rfl
  | k + 1, i, h => by
    obtain ⟨⟨h1, h0⟩, h2, h3⟩ := h i (Nat.le_refl _) (by omega)
    have ih := kPlF_cg (rec := rec) (rec' := rec') (f := f) k (i + 1) (fun j a b => h j (by omega) (by omega))
    unfold kPlF kPli
    rw [h1, h0, h2, h3, ih]
theorem kPlY_cg {x : Nat} : ∀ k i, (∀ j, i ≤ j → j < i + k → q'.2.2 2 x j = q.2.2 2 x j) → kPlY T q' x k i = kPlY T q x k i
  | 0, _, _ => rfl
  | k + 1, i, h => by
    unfold kPlY
    rw [h i (Nat.le_refl _) (by omega), kPlY_cg k (i + 1) (fun j a b => h j (by omega) (by omega))]
/-- what a plain form looks at -/
theorem kPl_fr : ∀ D x c c', 6 ≤ c → kOc q (kTt q D) x c c' → (∀ r s', r = 0 ∨ r = 1 ∨ r = 4 ∨ r = 8 → c ≤ s' → s' < c' → q'.2.1 r s' = q.2.1 r s') → (∀ y, y < c' → q'.2.1 1 y = q.2.1 1 y) → (∀ r s' i, r = 1 ∨ r = 2 → c ≤ s' → s' < c' → q'.2.2 r s' i = q.2.2 r s' i) → kPl T q' D x c = kPl T q D x c := by
  intro D
  induction D with
  | zero =>
    intro x c c' h6 h hr h1 hX
    rcases h with ⟨g1, g2, _⟩ | ⟨g1, g2⟩
    · rw [kPl_old g1, kPl_old g1, h1 x (by omega)]
    · exact g2.elim
  | succ D ih =>
    intro x c c' h6 h hr h1 hX
    rcases h with ⟨g1, g2, _⟩ | ⟨g1, g2⟩
    · rw [kPl_old g1, kPl_old g1, h1 x (by omega)]
    · subst g1
      have hlt := kTt_lt _ _ _ g2
      rw [kPl_new h6 (by omega), kPl_new h6 (by omega)]
      have hnd := g2.1
      unfold kPlB kPln
      rw [hr 0 x (by omega) (Nat.le_refl _) hlt, hr 1 x (by omega) (Nat.le_refl _) hlt, hr 4 x (by omega) (Nat.le_refl _) hlt, hr 8 x (by omega) (Nat.le_refl _) hlt, hX 1 x 0 (by omega) (Nat.le_refl _) hlt]
      rcases kTt_b g2 with ⟨hk, he⟩ | ⟨hk, f, f0, f1, f2, f3⟩
      · have n67 : ¬ (q.2.1 0 x = 6 ∨ q.2.1 0 x = 7) := by omega
        have n8 : ¬ q.2.1 0 x = 8 := by omega
        rw [if_neg n67, if_neg n67, if_neg n8, if_neg n8]
        rcases hk with hk | hk
        · rw [if_pos hk, if_pos hk]
        · have n9 : ¬ q.2.1 0 x = 9 := by omega
          rw [if_neg n9, if_neg n9, if_pos hk, if_pos hk, kPlY_cg _ _ (fun j _ _ => hX 2 x j (by omega) (Nat.le_refl _) hlt)]
      · have hr' : ∀ j, j < q.2.1 4 x → kPl T q' D (q.2.2 1 x j - 1) (f j) = kPl T q D (q.2.2 1 x j - 1) (f j) := fun j hj => by
          have f3j := f3 j hj
          exact ih _ _ _ (by omega) (f2 j hj).2 (fun r s' a b c => hr r s' a (by omega) (by omega)) (fun y hy => h1 y (by omega)) (fun r s' i a b c => hX r s' i a (by omega) (by omega))
        have hl : ∀ j, j < q.2.1 4 x → (kPl T q D (q.2.2 1 x j - 1) (f j)).2 = f (j + 1) := fun j hj => kPl_lat D _ _ _ (by have := f3 j hj; omega) (f2 j hj).2
        by_cases h67 : q.2.1 0 x = 6 ∨ q.2.1 0 x = 7
        · have h41 := hnd.2.2.1 h67
          have h0 := hr' 0 (by omega)
          rw [f0] at h0
          rw [if_pos h67, if_pos h67, h0]
        · rw [if_neg h67, if_neg h67]
          by_cases h8 : q.2.1 0 x = 8
          · have := kPlU_cg (q := q) (q' := q') (rec := kPl T q D) (rec' := kPl T q' D) (x := x) (f := f) (q.2.1 4 x) 0 (fun j _ hj => ⟨hX 1 x j (by omega) (Nat.le_refl _) hlt, hr' j (by omega), hl j (by omega)⟩)
            rw [f0] at this
            rw [if_pos h8, if_pos h8, this]
          · have := kPlF_cg (T := T) (q := q) (q' := q') (rec := kPl T q D) (rec' := kPl T q' D) (x := x) (f := f) (q.2.1 4 x) 0 (fun j _ hj => ⟨⟨hX 1 x j (by omega) (Nat.le_refl _) hlt, hX 2 x j (by omega) (Nat.le_refl _) hlt⟩, hr' j (by omega), hl j (by omega)⟩)
            rw [f0] at this
            rw [if_neg h8, if_neg h8, if_neg hk.1, if_neg hk.1, if_neg hk.2, if_neg hk.2, this]
end
