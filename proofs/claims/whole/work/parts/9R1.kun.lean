/-! PURE: a plain form can be read in one way only -/
def kNq (W : List Nat) : Prop := ∀ y, y ∈ W → y ≠ 34
theorem kQi {Z1 Z2 : List Nat} : ∀ W1 W2, kNq W1 → kNq W2 → W1 ++ 34 :: Z1 = W2 ++ 34 :: Z2 → W1 = W2 ∧ Z1 = Z2
  | [], [], _, _, h => ⟨rfl, (List.cons.inj h).2⟩
  | [], b :: W2, _, h2, h => absurd (List.cons.inj h).1.symm (h2 b List.mem_cons_self)
  | a :: W1, [], h1, _, h => absurd (List.cons.inj h).1 (h1 a List.mem_cons_self)
  | a :: W1, b :: W2, h1, h2, h => by
    obtain ⟨e, h⟩ := List.cons.inj h
    obtain ⟨e1, e2⟩ := kQi W1 W2 (fun y hy => h1 y (List.mem_cons_of_mem _ hy)) (fun y hy => h2 y (List.mem_cons_of_mem _ hy)) h
    exact ⟨by rw [e, e1], e2⟩
theorem kQt_a {W Z : List Nat} : kQt W ++ Z = 34 :: (W ++ 34 :: Z) := by unfold kQt; simp
theorem kQt_inj {W1 W2 Z1 Z2 : List Nat} (h1 : kNq W1) (h2 : kNq W2) (h : kQt W1 ++ Z1 = kQt W2 ++ Z2) : W1 = W2 ∧ Z1 = Z2 := by
  rw [kQt_a, kQt_a] at h
  exact kQi W1 W2 h1 h2 (List.cons.inj h).2
theorem kWs_nq : ∀ k, k < 12 → kNq (kWs k) := by unfold kNq; decide
theorem kWs_ij0 : ∀ k1 k2 : Fin 12, k1.val ≠ 8 → k2.val ≠ 8 → kWs k1.val = kWs k2.val → k1.val = k2.val := by decide
theorem kWs_ij (k1 : Nat) (h1 : k1 < 12) (k2 : Nat) (h2 : k2 < 12) (a : k1 ≠ 8) (b : k2 ≠ 8) (h : kWs k1 = kWs k2) : k1 = k2 := kWs_ij0 ⟨k1, h1⟩ ⟨k2, h2⟩ a b h
section
variable {T : Nat → Nat → Nat}
theorem kLe_at {v i : Nat} (h : i < T 2 v) : (kLe T v).getD i 0 = T 6 (T 5 v + i) := by
  unfold kLe
  rw [List.getD_eq_getElem?_getD, List.getElem?_map, List.getElem?_range h]
  rfl
theorem kLe_nq {v : Nat} (h : kNam T v = true) : kNq (kLe T v) := fun y hy => by
  have h := of_decide_eq_true h
  unfold kLe at hy
  obtain ⟨i, hi, e⟩ := List.mem_map.mp hy
  have hi := List.mem_range.mp hi
  have := h.2.2.2 i hi
  unfold kLt at this
  omega
theorem kLe_sm {a b : Nat} (h : kLe T a = kLe T b) : jSm T a b = true := by
  have hl : T 2 a = T 2 b := by rw [← kLe_len (T := T), ← kLe_len (T := T), h]
  refine decide_eq_true ⟨hl, fun i hi => ?_⟩
  rw [← kLe_at hi, ← kLe_at (show i < T 2 b by omega), h]
theorem kLe_wd {v : Nat} {W : List Nat} (h0 : T 0 v = 2) (h : kLe T v = W) : jTw T v W = true := by
  have hl : T 2 v = W.length := by rw [← kLe_len (T := T), h]
  refine decide_eq_true ⟨h0, hl, fun i hi => ?_⟩
  rw [← kLe_at (show i < T 2 v by omega), h]
theorem kLe_kt {v k : Nat} (hn : kNam T v = true) (hk : kKt T v = 0) (h6 : k < 6) : kLe T v ≠ kWs k := fun e => by
  have h0 := (of_decide_eq_true hn).1
  have := (kFr_0 _ _).mp hk k (Nat.zero_le _) (by omega)
  rw [kLe_wd h0 e, Bool.and_true] at this
  have e8 : (k == 8) = false := by
    rw [beq_eq_false_iff_ne]
    omega
  rw [e8] at this
  cases this
theorem kNm_of {m : Nat} {q : kP} (hI : kIv T m q) (hU : kUq T q) {x : Nat} (h6 : 6 ≤ x) (hx : x < q.1 1) (h9 : 9 ≤ q.2.1 0 x) : q.2.1 1 x ≠ 0 ∧ kNam T (q.2.1 1 x - 1) = true ∧ kKt T (q.2.1 1 x - 1) = 0 := by
  rcases (hI.2.2.1 x h6 hx).2.1 with h | h
  · omega
  · exact ⟨by omega, h.2.2.2.1, hU.2.1 x h6 hx (by omega)⟩
end
theorem kDg_inj {n1 n2 : Nat} {Z1 Z2 : List Nat} (h1 : n1 < 100) (h2 : n2 < 100) (h : kDg n1 ++ 125 :: Z1 = kDg n2 ++ 125 :: Z2) : n1 = n2 ∧ Z1 = Z2 := by
  unfold kDg at h
  by_cases a : 10 ≤ n1
  · rw [if_pos a] at h
    by_cases b : 10 ≤ n2
    · rw [if_pos b] at h
      obtain ⟨e1, h⟩ := List.cons.inj h
      obtain ⟨e2, h⟩ := List.cons.inj h
      exact ⟨by omega, (List.cons.inj h).2⟩
    · rw [if_neg b] at h
      obtain ⟨e1, h⟩ := List.cons.inj h
      obtain ⟨e2, h⟩ := List.cons.inj h
      omega
  · rw [if_neg a] at h
    by_cases b : 10 ≤ n2
    · rw [if_pos b] at h
      obtain ⟨e1, h⟩ := List.cons.inj h
      obtain ⟨e2, h⟩ := List.cons.inj h
      omega
    · rw [if_neg b] at h
      obtain ⟨e1, h⟩ := List.cons.inj h
      exact ⟨by omega, (List.cons.inj h).2⟩
/-- names that were met are the same -/
def kHq (T1 : Nat → Nat → Nat) (q1 : kP) (T2 : Nat → Nat → Nat) (q2 : kP) (c : Nat) : Prop := ∀ x, 6 ≤ x → x < c → (9 ≤ q1.2.1 0 x ↔ 9 ≤ q2.2.1 0 x) ∧ (9 ≤ q1.2.1 0 x → kLe T1 (q1.2.1 1 x - 1) = kLe T2 (q2.2.1 1 x - 1))
/-- a schema is the same -/
def kEx (q1 q2 : kP) (x : Nat) : Prop := q1.2.1 0 x = q2.2.1 0 x ∧ (q1.2.1 0 x ≠ 9 → q1.2.1 4 x = q2.2.1 4 x) ∧ (q1.2.1 0 x = 9 → q1.2.1 8 x = q2.2.1 8 x) ∧ (q1.2.1 0 x ≠ 9 → q1.2.1 0 x ≠ 10 → ∀ i, i < q1.2.1 4 x → q1.2.2 1 x i = q2.2.2 1 x i)
def kRq (T1 : Nat → Nat → Nat) (q1 : kP) (T2 : Nat → Nat → Nat) (q2 : kP) (D : Nat) : Prop := ∀ x1 x2 c c1 c2 Z1 Z2, kOc q1 (kTt q1 D) x1 c c1 → kOc q2 (kTt q2 D) x2 c c2 → 6 ≤ c → c1 ≤ q1.1 1 → c2 ≤ q2.1 1 → kHq T1 q1 T2 q2 c → (kPl T1 q1 D x1 c).1 ++ Z1 = (kPl T2 q2 D x2 c).1 ++ Z2 → x1 = x2 ∧ c1 = c2 ∧ Z1 = Z2 ∧ kHq T1 q1 T2 q2 c1 ∧ ∀ x, c ≤ x → x < c1 → kEx q1 q2 x
def kOld (T : Nat → Nat → Nat) (q : kP) (x : Nat) : List Nat := if x < 6 then kWs x else kLe T (q.2.1 1 x - 1)
section
variable {T1 T2 : Nat → Nat → Nat} {q1 q2 : kP} {m1 m2 : Nat}
theorem kOld_pl {T : Nat → Nat → Nat} {q : kP} {D x c : Nat} (h : x < c) : (kPl T q D x c).1 = kQt (kOld T q x) := by
  rw [kPl_old h]
  unfold kOld
  split <;> rfl
theorem kOld_nq {T : Nat → Nat → Nat} {q : kP} {m x : Nat} (hI : kIv T m q) (hU : kUq T q) (hx : x < q.1 1) (h : x < 6 ∨ 9 ≤ q.2.1 0 x) : kNq (kOld T q x) := by
  unfold kOld
  by_cases h6 : x < 6
  · rw [if_pos h6]; exact kWs_nq x (by omega)
  · rw [if_neg h6]
    exact kLe_nq (kNm_of hI hU (by omega) hx (by omega)).2.1
theorem kOld_inj (hI1 : kIv T1 m1 q1) (hU1 : kUq T1 q1) (hI2 : kIv T2 m2 q2) (hU2 : kUq T2 q2) {c x1 x2 : Nat} (hH : kHq T1 q1 T2 q2 c) (a1 : x1 < c) (a2 : x2 < c) (b1 : x1 < q1.1 1) (b2 : x2 < q2.1 1) (bc : c ≤ q1.1 1) (d1 : x1 < 6 ∨ 9 ≤ q1.2.1 0 x1) (d2 : x2 < 6 ∨ 9 ≤ q2.2.1 0 x2) (h : kOld T1 q1 x1 = kOld T2 q2 x2) : x1 = x2 := by
  unfold kOld at h
  by_cases h1 : x1 < 6
  · rw [if_pos h1] at h
    by_cases h2 : x2 < 6
    · rw [if_pos h2] at h
      exact kWs_ij x1 (by omega) x2 (by omega) (by omega) (by omega) h
    · rw [if_neg h2] at h
      obtain ⟨n1, n2, n3⟩ := kNm_of hI2 hU2 (by omega) b2 (by omega)
      exact absurd h.symm (kLe_kt n2 n3 h1)
  · rw [if_neg h1] at h
    obtain ⟨n1, n2, n3⟩ := kNm_of hI1 hU1 (by omega) b1 (by omega)
    by_cases h2 : x2 < 6
    · rw [if_pos h2] at h
      exact absurd h (kLe_kt n2 n3 h2)
    · rw [if_neg h2] at h
      obtain ⟨e1, e2⟩ := hH x2 (by omega) a2
      have k9 := e1.mpr (by omega)
      obtain ⟨p1, p2, p3⟩ := kNm_of hI1 hU1 (by omega) (show x2 < q1.1 1 by omega) k9
      rw [← e2 k9] at h
      have hs := kLe_sm h
      have hs2 := kLe_sm h.symm
      rcases Nat.lt_trichotomy x1 x2 with g | g | g
      · rw [hU1.2.2 x1 x2 (by omega) g (by omega) n1 p1] at hs; cases hs
      · exact g
      · rw [hU1.2.2 x2 x1 (by omega) g b1 p1 n1] at hs2; cases hs2
/-- parts of a union -/
theorem kU_inj {D x : Nat} (hr : kRq T1 q1 T2 q2 D) : ∀ k1 k2 i (f1 f2 : Nat → Nat) Z1 Z2, (∀ j, i ≤ j → j < i + (k1 + 1) → q1.2.2 1 x j ≠ 0 ∧ kOc q1 (kTt q1 D) (q1.2.2 1 x j - 1) (f1 j) (f1 (j + 1)) ∧ 6 ≤ f1 j ∧ f1 (j + 1) ≤ q1.1 1) → (∀ j, i ≤ j → j < i + (k2 + 1) → q2.2.2 1 x j ≠ 0 ∧ kOc q2 (kTt q2 D) (q2.2.2 1 x j - 1) (f2 j) (f2 (j + 1)) ∧ 6 ≤ f2 j ∧ f2 (j + 1) ≤ q2.1 1) → f1 i = f2 i → kHq T1 q1 T2 q2 (f1 i) → (kPlU q1 (kPl T1 q1 D) x (k1 + 1) i (f1 i)).1 ++ 93 :: Z1 = (kPlU q2 (kPl T2 q2 D) x (k2 + 1) i (f2 i)).1 ++ 93 :: Z2 → k1 = k2 ∧ f1 (i + (k1 + 1)) = f2 (i + (k2 + 1)) ∧ Z1 = Z2 ∧ kHq T1 q1 T2 q2 (f1 (i + (k1 + 1))) ∧ (∀ y, f1 i ≤ y → y < f1 (i + (k1 + 1)) → kEx q1 q2 y) ∧ ∀ j, i ≤ j → j < i + (k1 + 1) → q1.2.2 1 x j = q2.2.2 1 x j := by
  intro k1
  induction k1 with
  | zero =>
    intro k2 i f1 f2 Z1 Z2 h1 h2 hf hH h
    obtain ⟨a1, a2, a3, a4⟩ := h1 i (Nat.le_refl _) (by omega)
    obtain ⟨b1, b2, b3, b4⟩ := h2 i (Nat.le_refl _) (by omega)
    unfold kPlU at h
    simp only [List.append_assoc] at h
    rw [← hf] at b2 h
    obtain ⟨e1, e2, e3, e4, e5⟩ := hr _ _ _ _ _ _ _ a2 b2 a3 a4 b4 hH h
    by_cases hk : k2 = 0
    · subst hk
      rw [if_pos rfl] at e3
      have e3 : 93 :: Z1 = 93 :: Z2 := e3
      refine ⟨rfl, e2, (List.cons.inj e3).2, e4, e5, fun j j1 j2 => ?_⟩
      rw [show j = i by omega]
      omega
    · rw [if_neg hk] at e3
      have e3 : 93 :: Z1 = 44 :: _ := e3
      have := (List.cons.inj e3).1
      omega
  | succ k1 ih =>
    intro k2 i f1 f2 Z1 Z2 h1 h2 hf hH h
    obtain ⟨a1, a2, a3, a4⟩ := h1 i (Nat.le_refl _) (by omega)
    obtain ⟨b1, b2, b3, b4⟩ := h2 i (Nat.le_refl _) (by omega)
    have l1 := kPl_lat (T := T1) D _ _ _ a3 a2
    have l2 := kPl_lat (T := T2) D _ _ _ b3 b2
    have g1 : kPlU q1 (kPl T1 q1 D) x (k1 + 1 + 1) i (f1 i) = ((kPl T1 q1 D (q1.2.2 1 x i - 1) (f1 i)).1 ++ ([44] ++ (kPlU q1 (kPl T1 q1 D) x (k1 + 1) (i + 1) (kPl T1 q1 D (q1.2.2 1 x i - 1) (f1 i)).2).1), (kPlU q1 (kPl T1 q1 D) x (k1 + 1) (i + 1) (kPl T1 q1 D (q1.2.2 1 x i - 1) (f1 i)).2).2) := rfl
    rw [g1, l1] at h
    cases k2 with
    | zero =>
      exfalso
      have g2 : kPlU q2 (kPl T2 q2 D) x (0 + 1) i (f2 i) = ((kPl T2 q2 D (q2.2.2 1 x i - 1) (f2 i)).1 ++ ([] ++ []), (kPl T2 q2 D (q2.2.2 1 x i - 1) (f2 i)).2) := rfl
      rw [g2] at h
      simp only [List.append_assoc] at h
      rw [← hf] at b2 h
      obtain ⟨e1, e2, e3, e4, e5⟩ := hr _ _ _ _ _ _ _ a2 b2 a3 a4 b4 hH h
      have e3 : 44 :: _ = 93 :: Z2 := e3
      have := (List.cons.inj e3).1
      omega
    | succ k2 =>
      have g2 : kPlU q2 (kPl T2 q2 D) x (k2 + 1 + 1) i (f2 i) = ((kPl T2 q2 D (q2.2.2 1 x i - 1) (f2 i)).1 ++ ([44] ++ (kPlU q2 (kPl T2 q2 D) x (k2 + 1) (i + 1) (kPl T2 q2 D (q2.2.2 1 x i - 1) (f2 i)).2).1), (kPlU q2 (kPl T2 q2 D) x (k2 + 1) (i + 1) (kPl T2 q2 D (q2.2.2 1 x i - 1) (f2 i)).2).2) := rfl
      rw [g2, l2] at h
      simp only [List.append_assoc] at h
      rw [← hf] at b2 h
      obtain ⟨e1, e2, e3, e4, e5⟩ := hr _ _ _ _ _ _ _ a2 b2 a3 a4 b4 hH h
      have e3 := List.append_cancel_left e3
      obtain ⟨i1, i2, i3, i4, i5, i6⟩ := ih k2 (i + 1) f1 f2 Z1 Z2 (fun j j1 j2 => h1 j (by omega) (by omega)) (fun j j1 j2 => h2 j (by omega) (by omega)) e2 e4 e3
      rw [show i + 1 + (k1 + 1) = i + (k1 + 1 + 1) by omega] at i2 i4 i5 i6
      rw [show i + 1 + (k2 + 1) = i + (k2 + 1 + 1) by omega] at i2
      refine ⟨by omega, i2, i3, i4, fun y y1 y2 => ?_, fun j j1 j2 => ?_⟩
      · by_cases g : y < f1 (i + 1)
        · exact e5 y y1 g
        · exact i5 y (by omega) y2
      · by_cases g : j = i
        · rw [g]; omega
        · exact i6 j (by omega) (by omega)
/-- symbols -/
theorem kY_inj {x : Nat} : ∀ k1 k2 i Z1 Z2, (∀ j, i ≤ j → j < i + (k1 + 1) → kNam T1 (q1.2.2 2 x j - 1) = true) → (∀ j, i ≤ j → j < i + (k2 + 1) → kNam T2 (q2.2.2 2 x j - 1) = true) → kPlY T1 q1 x (k1 + 1) i ++ 93 :: Z1 = kPlY T2 q2 x (k2 + 1) i ++ 93 :: Z2 → k1 = k2 ∧ Z1 = Z2 := by
  intro k1
  induction k1 with
  | zero =>
    intro k2 i Z1 Z2 h1 h2 h
    unfold kPlY at h
    simp only [List.append_assoc] at h
    obtain ⟨e1, e2⟩ := kQt_inj (kLe_nq (h1 i (by omega) (by omega))) (kLe_nq (h2 i (by omega) (by omega))) h
    by_cases hk : k2 = 0
    · subst hk
      rw [if_pos rfl] at e2
      have e2 : 93 :: Z1 = 93 :: Z2 := e2
      exact ⟨rfl, (List.cons.inj e2).2⟩
    · rw [if_neg hk] at e2
      have e2 : 93 :: Z1 = 44 :: _ := e2
      have := (List.cons.inj e2).1
      omega
  | succ k1 ih =>
    intro k2 i Z1 Z2 h1 h2 h
    have g1 : kPlY T1 q1 x (k1 + 1 + 1) i = kQt (kLe T1 (q1.2.2 2 x i - 1)) ++ ([44] ++ kPlY T1 q1 x (k1 + 1) (i + 1)) := rfl
    rw [g1] at h
    cases k2 with
    | zero =>
      exfalso
      have g2 : kPlY T2 q2 x (0 + 1) i = kQt (kLe T2 (q2.2.2 2 x i - 1)) ++ ([] ++ []) := rfl
      rw [g2] at h
      simp only [List.append_assoc] at h
      obtain ⟨e1, e2⟩ := kQt_inj (kLe_nq (h1 i (by omega) (by omega))) (kLe_nq (h2 i (by omega) (by omega))) h
      have e2 : 44 :: _ = 93 :: Z2 := e2
      have := (List.cons.inj e2).1
      omega
    | succ k2 =>
      have g2 : kPlY T2 q2 x (k2 + 1 + 1) i = kQt (kLe T2 (q2.2.2 2 x i - 1)) ++ ([44] ++ kPlY T2 q2 x (k2 + 1) (i + 1)) := rfl
      rw [g2] at h
      simp only [List.append_assoc] at h
      obtain ⟨e1, e2⟩ := kQt_inj (kLe_nq (h1 i (by omega) (by omega))) (kLe_nq (h2 i (by omega) (by omega))) h
      have e2 := List.append_cancel_left e2
      obtain ⟨i1, i2⟩ := ih k2 (i + 1) Z1 Z2 (fun j j1 j2 => h1 j (by omega) (by omega)) (fun j j1 j2 => h2 j (by omega) (by omega)) e2
      exact ⟨by omega, i2⟩
/-- fields -/
theorem kF_inj {D x : Nat} (hr : kRq T1 q1 T2 q2 D) : ∀ k1 k2 i (f1 f2 : Nat → Nat) Z1 Z2, (∀ j, i ≤ j → j < i + k1 → kNam T1 (q1.2.2 2 x j - 1) = true ∧ q1.2.2 1 x j ≠ 0 ∧ kOc q1 (kTt q1 D) (q1.2.2 1 x j - 1) (f1 j) (f1 (j + 1)) ∧ 6 ≤ f1 j ∧ f1 (j + 1) ≤ q1.1 1) → (∀ j, i ≤ j → j < i + k2 → kNam T2 (q2.2.2 2 x j - 1) = true ∧ q2.2.2 1 x j ≠ 0 ∧ kOc q2 (kTt q2 D) (q2.2.2 1 x j - 1) (f2 j) (f2 (j + 1)) ∧ 6 ≤ f2 j ∧ f2 (j + 1) ≤ q2.1 1) → f1 i = f2 i → kHq T1 q1 T2 q2 (f1 i) → (kPlF T1 q1 (kPl T1 q1 D) x k1 i (f1 i)).1 ++ 93 :: Z1 = (kPlF T2 q2 (kPl T2 q2 D) x k2 i (f2 i)).1 ++ 93 :: Z2 → k1 = k2 ∧ f1 (i + k1) = f2 (i + k2) ∧ Z1 = Z2 ∧ kHq T1 q1 T2 q2 (f1 (i + k1)) ∧ (∀ y, f1 i ≤ y → y < f1 (i + k1) → kEx q1 q2 y) ∧ ∀ j, i ≤ j → j < i + k1 → q1.2.2 1 x j = q2.2.2 1 x j := by
  intro k1
  induction k1 with
  | zero =>
    intro k2 i f1 f2 Z1 Z2 h1 h2 hf hH h
    cases k2 with
    | zero =>
      have h : 93 :: Z1 = 93 :: Z2 := h
      exact ⟨rfl, hf, (List.cons.inj h).2, hH, fun y y1 y2 => by rw [Nat.add_zero] at y2; omega, fun j j1 j2 => by omega⟩
    | succ k2 =>
      exfalso
      have := congrArg (fun l => l.getD 0 0) h
      have : 93 = 123 := this
      omega
  | succ k1 ih =>
    intro k2 i f1 f2 Z1 Z2 h1 h2 hf hH h
    cases k2 with
    | zero =>
      exfalso
      have := congrArg (fun l => l.getD 0 0) h
      have : 123 = 93 := this
      omega
    | succ k2 =>
      obtain ⟨a0, a1, a2, a3, a4⟩ := h1 i (Nat.le_refl _) (by omega)
      obtain ⟨b0, b1, b2, b3, b4⟩ := h2 i (Nat.le_refl _) (by omega)
      have l1 := kPl_lat (T := T1) D _ _ _ a3 a2
      have l2 := kPl_lat (T := T2) D _ _ _ b3 b2
      have g1 : kPlF T1 q1 (kPl T1 q1 D) x (k1 + 1) i (f1 i) = (kPli T1 q1 x i (kPl T1 q1 D (q1.2.2 1 x i - 1) (f1 i)).1 ++ ((if k1 = 0 then [] else [44]) ++ (kPlF T1 q1 (kPl T1 q1 D) x k1 (i + 1) (kPl T1 q1 D (q1.2.2 1 x i - 1) (f1 i)).2).1), (kPlF T1 q1 (kPl T1 q1 D) x k1 (i + 1) (kPl T1 q1 D (q1.2.2 1 x i - 1) (f1 i)).2).2) := rfl
      have g2 : kPlF T2 q2 (kPl T2 q2 D) x (k2 + 1) i (f2 i) = (kPli T2 q2 x i (kPl T2 q2 D (q2.2.2 1 x i - 1) (f2 i)).1 ++ ((if k2 = 0 then [] else [44]) ++ (kPlF T2 q2 (kPl T2 q2 D) x k2 (i + 1) (kPl T2 q2 D (q2.2.2 1 x i - 1) (f2 i)).2).1), (kPlF T2 q2 (kPl T2 q2 D) x k2 (i + 1) (kPl T2 q2 D (q2.2.2 1 x i - 1) (f2 i)).2).2) := rfl
      rw [g1, g2, l1, l2] at h
      unfold kPli at h
      simp only [List.append_assoc] at h
      obtain ⟨_, h⟩ := kQt_inj (kLe_nq a0) (kLe_nq b0) (List.append_cancel_left h)
      have h := List.append_cancel_left h
      rw [← hf] at b2 h
      obtain ⟨e1, e2, e3, e4, e5⟩ := hr _ _ _ _ _ _ _ a2 b2 a3 a4 b4 hH h
      have e3 := List.append_cancel_left e3
      have fin : (kPlF T1 q1 (kPl T1 q1 D) x k1 (i + 1) (f1 (i + 1))).1 ++ 93 :: Z1 = (kPlF T2 q2 (kPl T2 q2 D) x k2 (i + 1) (f2 (i + 1))).1 ++ 93 :: Z2 := by
        by_cases z1 : k1 = 0
        · subst z1
          by_cases z2 : k2 = 0
          · subst z2
            exact e3
          · exfalso
            rw [if_pos rfl, if_neg z2] at e3
            have e3 : 93 :: Z1 = 44 :: _ := e3
            have := (List.cons.inj e3).1
            omega
        · by_cases z2 : k2 = 0
          · exfalso
            subst z2
            rw [if_neg z1, if_pos rfl] at e3
            have e3 : 44 :: _ = 93 :: Z2 := e3
            have := (List.cons.inj e3).1
            omega
          · rw [if_neg z1, if_neg z2] at e3
            exact List.append_cancel_left e3
      obtain ⟨i1, i2, i3, i4, i5, i6⟩ := ih k2 (i + 1) f1 f2 Z1 Z2 (fun j j1 j2 => h1 j (by omega) (by omega)) (fun j j1 j2 => h2 j (by omega) (by omega)) e2 e4 fin
      rw [show i + 1 + k1 = i + (k1 + 1) by omega] at i2 i4 i5 i6
      rw [show i + 1 + k2 = i + (k2 + 1) by omega] at i2
      refine ⟨by omega, i2, i3, i4, fun y y1 y2 => ?_, fun j j1 j2 => ?_⟩
      · by_cases g : y < f1 (i + 1)
        · exact e5 y y1 g
        · exact i5 y (by omega) y2
      · by_cases g : j = i
        · rw [g]; omega
        · exact i6 j (by omega) (by omega)
end
