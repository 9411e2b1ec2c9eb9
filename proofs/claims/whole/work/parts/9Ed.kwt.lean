/-! PURE: a default's letters as the lake writes them -/
def kWtA (T : Nat → Nat → Nat) (rec : Nat → List Nat) : Nat → Nat → List Nat
  | 0, _ => []
  | k + 1, cur => rec (cur - 1) ++ kWtA T rec k (T 4 (cur - 1))
def kWtM (T : Nat → Nat → Nat) (rec : Nat → List Nat) : Nat → Nat → List Nat
  | 0, _ => []
  | k + 1, cur => (kVb (Int64.ofNat (T 2 (cur - 1))) ++ kLe T (cur - 1)) ++ (rec (T 4 (cur - 1) - 1) ++ kWtM T rec k (T 4 (T 4 (cur - 1) - 1)))
def kWtF (T : Nat → Nat → Nat) (q : kP) (rec : Nat → Nat → List Nat) (v y : Nat) : Nat → Nat → List Nat
  | 0, _ => []
  | k + 1, i => (if kMl T v (q.2.2 2 y i - 1) = 0 then [] else rec (kMl T v (q.2.2 2 y i - 1) - 1) (q.2.2 1 y i - 1)) ++ kWtF T q rec v y k (i + 1)
def kWtB (T : Nat → Nat → Nat) (N : Nat → Int) (q : kP) (rec : Nat → Nat → List Nat) (v y : Nat) : List Nat :=
  if q.2.1 0 y = 0 then []
  else if q.2.1 0 y = 1 then [if T 0 v = 4 then 1 else 0]
  else if q.2.1 0 y = 2 ∨ q.2.1 0 y = 3 then kVb (Int64.ofInt (N v))
  else if q.2.1 0 y = 4 ∨ q.2.1 0 y = 5 then kVb (Int64.ofNat (T 2 v)) ++ kLe T v
  else if q.2.1 0 y = 6 then (if T 2 v = 0 then [] else kVb (Int64.ofNat (T 2 v))) ++ (kWtA T (fun w => rec w (q.2.2 1 y 0 - 1)) (T 2 v) (T 3 v) ++ kVb 0)
  else if q.2.1 0 y = 7 then (if T 2 v / 2 = 0 then [] else kVb (Int64.ofNat (T 2 v / 2))) ++ (kWtM T (fun w => rec w (q.2.2 1 y 0 - 1)) (T 2 v / 2) (T 3 v) ++ kVb 0)
  else if q.2.1 0 y = 9 then kLe T v
  else if q.2.1 0 y = 10 then kVb (Int64.ofNat (kPt T q y (q.2.1 4 y) v - 1))
  else kWtF T q rec v y (q.2.1 4 y) 0
def kWt (T : Nat → Nat → Nat) (N : Nat → Int) (q : kP) : Nat → Nat → Nat → List Nat
  | 0, v, x => (if q.2.1 0 x = 8 then kVb 0 else []) ++ kWtB T N q (fun _ _ => []) v (kFb q x)
  | D + 1, v, x => (if q.2.1 0 x = 8 then kVb 0 else []) ++ kWtB T N q (kWt T N q D) v (kFb q x)
/-- a default that does not look at the pool or at defaults' places -/
theorem kWtF_fr {T : Nat → Nat → Nat} {q q' : kP} {rec : Nat → Nat → List Nat} {v y : Nat} (hX : q'.2.2 = q.2.2) : ∀ k i, kWtF T q' rec v y k i = kWtF T q rec v y k i
  | 0, _ => rfl
  | k + 1, i => by
    unfold kWtF
    rw [hX, kWtF_fr hX k (i + 1)]
theorem kWtB_fr {T : Nat → Nat → Nat} {N : Nat → Int} {q q' : kP} (hX : q'.2.2 = q.2.2) (h : ∀ r, r = 0 ∨ r = 4 ∨ r = 8 → q'.2.1 r = q.2.1 r) (rec : Nat → Nat → List Nat) (v y : Nat) : kWtB T N q' rec v y = kWtB T N q rec v y := by
  unfold kWtB kPt
  rw [h 0 (by omega), h 4 (by omega), hX, kWtF_fr hX]
theorem kWt_fr {T : Nat → Nat → Nat} {N : Nat → Int} {q q' : kP} (hX : q'.2.2 = q.2.2) (h : ∀ r, r = 0 ∨ r = 4 ∨ r = 8 → q'.2.1 r = q.2.1 r) : ∀ D v x, kWt T N q' D v x = kWt T N q D v x := by
  have hb : ∀ x, kFb q' x = kFb q x := fun x => by unfold kFb; rw [h 0 (by omega), hX]
  intro D
  induction D with
  | zero =>
    intro v x
    unfold kWt
    rw [hb, kWtB_fr hX h, h 0 (by omega)]
  | succ D ih =>
    intro v x
    unfold kWt
    have e : kWt T N q' D = kWt T N q D := funext fun v => funext fun x => ih v x
    rw [hb, e, kWtB_fr hX h, h 0 (by omega)]
