/-! PURE: telling: letters told up to the end, or to what is unresolved -/
abbrev kTq : Type := Nat → Nat → Nat → Nat → List Nat → Bool → Prop
/-- the reader's fields -/
def kTf (q1 q2 : kP) (dW : Nat → Nat → List Nat) (rec : kTq) (x y : Nat) (f : Nat → Nat) : Nat → Nat → List Nat → Bool → Prop
  | 0, _, L, b => L = [] ∧ b = true
  | k + 1, j, L, b => if kPk q1 q2 x y j = 0 then (if q2.2.2 3 y j = 0 then L = [] ∧ b = false else ∃ L', L = dW y j ++ L' ∧ kTf q1 q2 dW rec x y f k (j + 1) L' b)
    else ∃ L1 b1, rec (kPx q1 x (kPk q1 q2 x y j - 1)) (kPx q2 y j) (f (kPk q1 q2 x y j - 1)) (f (kPk q1 q2 x y j - 1 + 1)) L1 b1 ∧ (if b1 = true then ∃ L2, L = L1 ++ L2 ∧ kTf q1 q2 dW rec x y f k (j + 1) L2 b else L = L1 ∧ b = false)
/-- items, and the end's 0 -/
def kTi (q1 q2 : kP) (B : Nat → Nat) (rec : kTq) (x y : Nat) (f g : Nat → Nat) : Nat → Nat → List Nat → Bool → Prop
  | 0, _, L, b => L = [0] ∧ b = true
  | k + 1, i, L, b => ∃ L1 b1, rec (kPx q1 x 0) (kPx q2 y 0) (g i) (f (i + 1)) L1 b1 ∧ (if b1 = true then ∃ L2, L = kTp B (f i) (g i - f i) ++ (L1 ++ L2) ∧ kTi q1 q2 B rec x y f g k (i + 1) L2 b else L = kTp B (f i) (g i - f i) ++ L1 ∧ b = false)
/-- neither is a union -/
def kTn (q1 q2 : kP) (dW : Nat → Nat → List Nat) (B : Nat → Nat) (n D : Nat) (rec : kTq) (x y a e : Nat) (L : List Nat) (b : Bool) : Prop :=
  if kAi q1 q2 x y = true then
    (if q1.2.1 0 x = 6 ∨ q1.2.1 0 x = 7 then ∃ k a1, k ≤ 2000 ∧ kNu B n a (Int64.ofNat k) a1 ∧ (k = 0 → e = a1 ∧ L = [0] ∧ b = true) ∧ (k ≠ 0 → ∃ f g : Nat → Nat, f 0 = a1 ∧ kNu B n (f k) 0 e ∧ (∀ i, i < k → (if q1.2.1 0 x = 7 then kSs2 B n (f i) (g i) else g i = f i) ∧ kWq q1 B n D (kPx q1 x 0) (g i) (f (i + 1))) ∧ ∃ L', L = kVb (Int64.ofNat k) ++ L' ∧ kTi q1 q2 B rec x y f g k 0 L' b)
    else if q1.2.1 0 x = 10 then ∃ i, i < q1.2.1 4 x ∧ kNu B n a (Int64.ofNat i) e ∧ (if kPk q2 q1 y x i ≠ 0 then L = kVb (Int64.ofNat (kPk q2 q1 y x i - 1)) ∧ b = true else if q2.2.1 8 y ≠ 0 then L = kVb (Int64.ofNat (q2.2.1 8 y - 1)) ∧ b = true else L = [] ∧ b = false)
    else if q1.2.1 0 x = 11 then ∃ f : Nat → Nat, f 0 = a ∧ f (q1.2.1 4 x) = e ∧ (∀ i, i < q1.2.1 4 x → kWq q1 B n D (kPx q1 x i) (f i) (f (i + 1))) ∧ kTf q1 q2 dW rec x y f (q2.2.1 4 y) 0 L b
    else L = kTp B a (e - a) ∧ b = true)
  else L = [] ∧ b = false
/-- a datum of the writer's schema x, from a to e, told as the reader's schema y -/
def kTr (q1 q2 : kP) (dW : Nat → Nat → List Nat) (B : Nat → Nat) (n : Nat) : Nat → kTq
  | 0, _, _, _, _, _, _ => False
  | D + 1, x, y, a, e, L, b =>
    if q1.2.1 0 x = 8 then ∃ i a1, i < q1.2.1 4 x ∧ kNu B n a (Int64.ofNat i) a1 ∧ kWq q1 B n D (kPx q1 x i) a1 e ∧ kTr q1 q2 dW B n D (kPx q1 x i) y a1 e L b
    else if q2.2.1 0 y = 8 then (if kBf q1 q2 x y = 0 then L = [] ∧ b = false else ∃ L', L = kVb (Int64.ofNat (kBf q1 q2 x y - 1)) ++ L' ∧ kTn q1 q2 dW B n D (kTr q1 q2 dW B n D) x (kPx q2 y (kBf q1 q2 x y - 1)) a e L' b)
    else kTn q1 q2 dW B n D (kTr q1 q2 dW B n D) x y a e L b
section
variable {q1 q2 : kP} {dW : Nat → Nat → List Nat} {B : Nat → Nat} {n : Nat}
theorem kTf_ex {rec : kTq} {D x : Nat} {f : Nat → Nat} (hrec : ∀ x y a e, kWq q1 B n D x a e → ∃ L b, rec x y a e L b) (hf : ∀ i, i < q1.2.1 4 x → kWq q1 B n D (kPx q1 x i) (f i) (f (i + 1))) (y : Nat) : ∀ k j, ∃ L b, kTf q1 q2 dW rec x y f k j L b
  | 0, _ => ⟨[], true, rfl, rfl⟩
  | k + 1, j => by
    unfold kTf
    have hk := kPk_le (q1 := q1) (q2 := q2) (x := x) (y := y) (j := j)
    obtain ⟨L2, b2, h2⟩ := kTf_ex hrec hf y k (j + 1)
    by_cases h0 : kPk q1 q2 x y j = 0
    · simp only [if_pos h0]
      by_cases h3 : q2.2.2 3 y j = 0
      · simp only [if_pos h3]
        exact ⟨[], false, rfl, rfl⟩
      · simp only [if_neg h3]
        exact ⟨_, b2, L2, rfl, h2⟩
    · simp only [if_neg h0]
      obtain ⟨L1, b1, h1⟩ := hrec _ (kPx q2 y j) _ _ (hf (kPk q1 q2 x y j - 1) (by omega))
      cases b1 with
      | true => exact ⟨L1 ++ L2, b2, L1, true, h1, by rw [if_pos rfl]; exact ⟨L2, rfl, h2⟩⟩
      | false => exact ⟨L1, false, L1, false, h1, by rw [if_neg (by decide)]; exact ⟨rfl, rfl⟩⟩
theorem kTi_ex {rec : kTq} {D x c : Nat} {f g : Nat → Nat} (hrec : ∀ x y a e, kWq q1 B n D x a e → ∃ L b, rec x y a e L b) (hf : ∀ i, i < c → kWq q1 B n D (kPx q1 x 0) (g i) (f (i + 1))) (y : Nat) : ∀ k i, i + k = c → ∃ L b, kTi q1 q2 B rec x y f g k i L b
  | 0, _, _ => ⟨[0], true, rfl, rfl⟩
  | k + 1, i, hi => by
    unfold kTi
    obtain ⟨L2, b2, h2⟩ := kTi_ex hrec hf y k (i + 1) (by omega)
    obtain ⟨L1, b1, h1⟩ := hrec _ (kPx q2 y 0) _ _ (hf i (by omega))
    cases b1 with
    | true => exact ⟨_, b2, L1, true, h1, by rw [if_pos rfl]; exact ⟨L2, rfl, h2⟩⟩
    | false => exact ⟨_, false, L1, false, h1, by rw [if_neg (by decide)]; exact ⟨rfl, rfl⟩⟩
theorem kTn_ex {rec : kTq} {D x : Nat} (hrec : ∀ x y a e, kWq q1 B n D x a e → ∃ L b, rec x y a e L b) (y : Nat) {a e : Nat} (h : kWq q1 B n (D + 1) x a e) : ∃ L b, kTn q1 q2 dW B n D rec x y a e L b := by
  obtain ⟨hle, w0, w1, w2, w4, w8, w9, w10, w11, w6⟩ := h
  unfold kTn
  by_cases ha : kAi q1 q2 x y = true
  · simp only [if_pos ha]
    by_cases h67 : q1.2.1 0 x = 6 ∨ q1.2.1 0 x = 7
    · simp only [if_pos h67]
      obtain ⟨k, a1, k1, k2, k3, k4⟩ := w6 h67
      by_cases k0 : k = 0
      · exact ⟨[0], true, k, a1, k1, k2, fun _ => ⟨k3 k0, rfl, rfl⟩, fun e => absurd k0 e⟩
      · obtain ⟨f, g, f0, f1, f2⟩ := k4 k0
        obtain ⟨L', b', h'⟩ := kTi_ex (q2 := q2) hrec (fun i hi => (f2 i hi).2) y k 0 (by omega)
        exact ⟨_, b', k, a1, k1, k2, fun e => absurd e k0, fun _ => ⟨f, g, f0, f1, f2, L', rfl, h'⟩⟩
    · simp only [if_neg h67]
      by_cases h10 : q1.2.1 0 x = 10
      · simp only [if_pos h10]
        obtain ⟨i, i1, i2⟩ := w10 h10
        by_cases hk : kPk q2 q1 y x i ≠ 0
        · exact ⟨_, true, i, i1, i2, by rw [if_pos hk]; exact ⟨rfl, rfl⟩⟩
        · by_cases h8 : q2.2.1 8 y ≠ 0
          · exact ⟨_, true, i, i1, i2, by rw [if_neg hk, if_pos h8]; exact ⟨rfl, rfl⟩⟩
          · exact ⟨[], false, i, i1, i2, by rw [if_neg hk, if_neg h8]; exact ⟨rfl, rfl⟩⟩
      · simp only [if_neg h10]
        by_cases h11 : q1.2.1 0 x = 11
        · simp only [if_pos h11]
          obtain ⟨f, f0, f1, f2⟩ := w11 h11
          obtain ⟨L', b', h'⟩ := kTf_ex (q2 := q2) (dW := dW) hrec f2 y (q2.2.1 4 y) 0
          exact ⟨L', b', f, f0, f1, f2, h'⟩
        · simp only [if_neg h11]
          exact ⟨_, true, rfl, rfl⟩
  · simp only [if_neg ha]
    exact ⟨[], false, rfl, rfl⟩
/-- every stored datum can be told, or is unresolved -/
theorem kTr_ex : ∀ D x y a e, kWq q1 B n D x a e → ∃ L b, kTr q1 q2 dW B n D x y a e L b
  | 0, _, _, _, _, h => h.elim
  | D + 1, x, y, a, e, h => by
    have hrec : ∀ x y a e, kWq q1 B n D x a e → ∃ L b, kTr q1 q2 dW B n D x y a e L b := kTr_ex D
    unfold kTr
    by_cases h8 : q1.2.1 0 x = 8
    · simp only [if_pos h8]
      obtain ⟨hle, w0, w1, w2, w4, w8, _⟩ := h
      obtain ⟨i, a1, i1, i2, i3⟩ := w8 h8
      obtain ⟨L, b, hL⟩ := hrec (kPx q1 x i) y a1 e i3
      exact ⟨L, b, i, a1, i1, i2, i3, hL⟩
    · simp only [if_neg h8]
      by_cases y8 : q2.2.1 0 y = 8
      · simp only [if_pos y8]
        by_cases h0 : kBf q1 q2 x y = 0
        · simp only [if_pos h0]
          exact ⟨[], false, rfl, rfl⟩
        · simp only [if_neg h0]
          obtain ⟨L, b, hL⟩ := kTn_ex (dW := dW) hrec (kPx q2 y (kBf q1 q2 x y - 1)) h
          exact ⟨_, b, L, rfl, hL⟩
      · simp only [if_neg y8]
        exact kTn_ex hrec y h
end
