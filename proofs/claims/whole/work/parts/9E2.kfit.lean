/-! PURE: does a value fit a schema -/
def jVd (T : Nat → Nat → Nat) (N : Nat → Int) (m D v : Nat) : Prop := jTr T N D v (jE T v) ∧ jE T v ≤ m
abbrev jVf (T : Nat → Nat → Nat) (N : Nat → Int) (m D : Nat) (a b : Nat) : Prop := jVd T N m D a ∧ b = jE T a
section
variable {T : Nat → Nat → Nat} {N : Nat → Int} {m : Nat} {q : kP}
theorem jVd_b {D v : Nat} (hD : D ≤ 24) (h : jVd T N m D v) : jVb T N m v := ⟨D, hD, h⟩
theorem jVd_lt {D v : Nat} (h : jVd T N m D v) : v < jE T v ∧ jE T v ≤ m := ⟨jTr_lt D _ _ h.1, h.2⟩
theorem jVf_lt {D : Nat} : ∀ a b, jVf T N m D a b → a < b := fun a b h => by rw [h.2]; exact (jVd_lt h.1).1
theorem jVd_k {D v : Nat} (h : jVd T N m D v) : T 0 v ≤ 6 := jTr_k h.1
theorem jVd_of {D v e : Nat} (h : jTr T N D v e) (he : e ≤ m) : jVd T N m D v ∧ e = jE T v := by
  have := jTr_e h
  subst this
  exact ⟨⟨h, he⟩, rfl⟩
theorem jVd_0 {v : Nat} (h : jVd T N m 0 v) : 2 ≤ T 0 v := h.1.2.1
theorem jVd_l {D v : Nat} (h : jVd T N m (D + 1) v) (h1 : T 0 v = 1) : jTl T (jVf T N m D) (T 2 v) (v + 1) (jE T v) (T 3 v) := by
  obtain ⟨h, he⟩ := h
  rcases h with h | ⟨_, h⟩ | ⟨h, _⟩
  · have := h.2.1; omega
  · exact jTl_fr (fun a b => jTr_lt D a b) _ _ _ (fun _ _ _ => rfl) (fun a b _ hb g => jVd_of g (by omega)) h
  · omega
theorem jVd_o {D v : Nat} (h : jVd T N m (D + 1) v) (h1 : T 0 v = 0) : ∃ k, T 2 v = 2 * k ∧ jTm T (jVf T N m D) k (v + 1) (jE T v) (T 3 v) := by
  obtain ⟨h, he⟩ := h
  rcases h with h | ⟨h, _⟩ | ⟨_, k, hk, h⟩
  · have := h.2.1; omega
  · omega
  · exact ⟨k, hk, jTm_fr (fun a b => jTr_lt D a b) _ _ _ (fun _ _ _ => ⟨rfl, rfl⟩) (fun a b _ hb g => jVd_of g (by omega)) h⟩
theorem jM1d {D : Nat} {t : Nat → Bool} {e : Nat} : ∀ k lo cur, jTm T (jVf T N m D) k lo e cur → jFd T t k cur ≠ 0 → T 4 (jFd T t k cur - 1) = jFd T t k cur + 1 ∧ jVd T N m D (jFd T t k cur)
  | 0, lo, cur, h, hn => absurd rfl hn
  | k + 1, lo, cur, h, hn => by
    obtain ⟨h1, h2, h3, e1, h4, h5⟩ := h
    subst h1
    rw [jFd_s h3] at hn ⊢
    by_cases b : t lo = true
    · rw [if_pos b, Nat.add_sub_cancel]
      exact ⟨h3, h4.1⟩
    · rw [if_neg b] at hn ⊢
      exact jM1d k e1 _ h5 hn
theorem kMv_d {D : Nat} {t : Nat → Bool} {v : Nat} (hv : jVd T N m (D + 1) v) (h0 : T 0 v = 0) (hn : kMv T t v ≠ 0) : jVd T N m D (kMv T t v - 1) := by
  obtain ⟨k, hk, h⟩ := jVd_o hv h0
  unfold kMv at hn ⊢
  rw [hk, Nat.mul_div_cancel_left k (by omega)] at hn ⊢
  by_cases hz : jFd T t k (T 3 v) = 0
  · rw [if_pos hz] at hn; exact absurd rfl hn
  · have := jM1d k _ _ h hz
    rw [if_neg hz, this.1, Nat.add_sub_cancel]
    exact this.2
end
/-- a union's first branch -/
def kFb (q : kP) (x : Nat) : Nat := if q.2.1 0 x = 8 then q.2.2 1 x 0 - 1 else x
def kFiA (T : Nat → Nat → Nat) (rec : Nat → Nat) : Nat → Nat → Nat
  | 0, _ => 0
  | k + 1, cur => if rec (cur - 1) = 0 then kFiA T rec k (T 4 (cur - 1)) else rec (cur - 1)
def kFiM (T : Nat → Nat → Nat) (rec : Nat → Nat) : Nat → Nat → Nat
  | 0, _ => 0
  | k + 1, cur => if rec (T 4 (cur - 1) - 1) = 0 then kFiM T rec k (T 4 (T 4 (cur - 1) - 1)) else rec (T 4 (cur - 1) - 1)
def kFiF (T : Nat → Nat → Nat) (q : kP) (rec : Nat → Nat → Nat) (v y : Nat) : Nat → Nat → Nat
  | 0, _ => 0
  | k + 1, i => if kMl T v (q.2.2 2 y i - 1) = 0 then v + 1 else if rec (kMl T v (q.2.2 2 y i - 1) - 1) (q.2.2 1 y i - 1) = 0 then kFiF T q rec v y k (i + 1) else rec (kMl T v (q.2.2 2 y i - 1) - 1) (q.2.2 1 y i - 1)
def kFtL (T : Nat → Nat → Nat) (N : Nat → Int) (q : kP) (v y : Nat) : Bool := decide (q.2.1 0 y = 0 ∧ T 0 v = 6 ∨ q.2.1 0 y = 1 ∧ (T 0 v = 4 ∨ T 0 v = 5) ∨ q.2.1 0 y = 2 ∧ T 0 v = 3 ∧ -2147483648 ≤ N v ∧ N v ≤ 2147483647 ∨ q.2.1 0 y = 3 ∧ T 0 v = 3 ∨ (q.2.1 0 y = 4 ∨ q.2.1 0 y = 5) ∧ T 0 v = 2 ∨ q.2.1 0 y = 9 ∧ T 0 v = 2 ∧ T 2 v + 1 = q.2.1 8 y ∨ q.2.1 0 y = 10 ∧ T 0 v = 2 ∧ kPt T q y (q.2.1 4 y) v ≠ 0)
def kFtB (T : Nat → Nat → Nat) (N : Nat → Int) (q : kP) (rec : Nat → Nat → Nat) (v y : Nat) : Nat :=
  if q.2.1 0 y = 6 then (if T 0 v = 1 then kFiA T (fun w => rec w (q.2.2 1 y 0 - 1)) (T 2 v) (T 3 v) else v + 1)
  else if q.2.1 0 y = 7 then (if T 0 v = 0 then kFiM T (fun w => rec w (q.2.2 1 y 0 - 1)) (T 2 v / 2) (T 3 v) else v + 1)
  else if q.2.1 0 y = 11 then (if T 0 v = 0 then kFiF T q rec v y (q.2.1 4 y) 0 else v + 1)
  else if kFtL T N q v y = true then 0 else v + 1
/-- 0: it fits; else the value at fault, and one -/
def kFit (T : Nat → Nat → Nat) (N : Nat → Int) (q : kP) : Nat → Nat → Nat → Nat
  | 0, v, x => kFtB T N q (fun _ _ => 0) v (kFb q x)
  | D + 1, v, x => kFtB T N q (kFit T N q D) v (kFb q x)
/-- nothing is open any more -/
def kCd (q : kP) : Prop := ∀ s, 6 ≤ s → s < q.1 1 → kNd q s ∧ (q.2.1 0 s ≠ 9 → q.2.1 0 s ≠ 10 → ∀ i, i < q.2.1 4 s → q.2.2 1 s i ≠ 0)
theorem kTt_cd {q : kP} : ∀ D s e, kTt q D s e → ∀ t, s ≤ t → t < e → kNd q t ∧ (q.2.1 0 t ≠ 9 → q.2.1 0 t ≠ 10 → ∀ i, i < q.2.1 4 t → q.2.2 1 t i ≠ 0)
  | 0, s, e, h => h.elim
  | D + 1, s, e, h => by
    intro t h1 h2
    obtain ⟨hn, h⟩ := h
    rcases h with ⟨hk, he⟩ | ⟨hk, f, f0, f1, f2⟩
    · have : t = s := by omega
      subst this
      exact ⟨hn, by omega⟩
    · by_cases e0 : t = s
      · subst e0
        exact ⟨hn, fun _ _ i hi => (f2 i hi).1⟩
      · have key : ∀ k, k ≤ q.2.1 4 s → t < f k → kNd q t ∧ (q.2.1 0 t ≠ 9 → q.2.1 0 t ≠ 10 → ∀ i, i < q.2.1 4 t → q.2.2 1 t i ≠ 0) := by
          intro k
          induction k with
          | zero => intro _ ht; omega
          | succ k ih =>
            intro hk2 ht
            by_cases hlt : t < f k
            · exact ih (by omega) hlt
            · rcases (f2 k (by omega)).2 with ⟨g1, g2, g3⟩ | ⟨g1, g2⟩
              · omega
              · exact kTt_cd D _ _ g2 t (by omega) ht
        exact key _ (Nat.le_refl _) (by omega)
