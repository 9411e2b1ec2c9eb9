/-! PURE: what a reading keeps -/
theorem a2_ite {α : Type} (f : Nat → Nat → α) (k i : Nat) (v : α) (k' i' : Nat) : a2 f k i v k' i' = if k' = k ∧ i' = i then v else f k' i' := by
  unfold a2
  by_cases h : k' = k
  · by_cases h2 : i' = i <;> simp [h, h2]
  · simp [h]
theorem jSkF_le {B : Nat → Nat} {n : Nat} : ∀ f a, a ≤ n → a ≤ jSkF B n f a ∧ jSkF B n f a ≤ n := by
  intro f
  induction f with
  | zero => intro a h; exact ⟨Nat.le_refl _, h⟩
  | succ f ih =>
    intro a h
    unfold jSkF
    split
    · rename_i hb
      have h1 : a < n := by
        rcases Nat.lt_or_ge a n with h1 | h1
        · exact h1
        · unfold jBt at hb
          rw [if_neg (by omega)] at hb
          unfold jBl at hb
          omega
      have := ih (a + 1) h1
      omega
    · omega
theorem jSkF_f {B : Nat → Nat} {n : Nat} : ∀ f g a, n ≤ a + f → n ≤ a + g → jSkF B n f a = jSkF B n g a := by
  have hz : ∀ g a, n ≤ a → jSkF B n g a = a := by
    intro g a h
    cases g with
    | zero => rfl
    | succ g =>
      unfold jSkF
      rw [if_neg]
      unfold jBt
      rw [if_neg (by omega)]
      unfold jBl
      omega
  intro f
  induction f with
  | zero => intro g a h1 h2; rw [hz g a (by omega), hz 0 a (by omega)]
  | succ f ih =>
    intro g a h1 h2
    cases g with
    | zero => rw [hz 0 a (by omega), hz _ a (by omega)]
    | succ g =>
      unfold jSkF
      rw [ih g (a + 1) (by omega) (by omega)]
theorem jSk_le {B : Nat → Nat} {n a : Nat} (h : a ≤ n) : a ≤ jSk B n a ∧ jSk B n a ≤ n := jSkF_le n a h
theorem jSk_eq {B : Nat → Nat} {n a : Nat} (h : a ≤ n) : jSk B n a = if jBl (jBt B n a) then jSk B n (a + 1) else a := by
  unfold jSk
  rw [jSkF_f n (n + 1) a (by omega) (by omega)]
  show (if jBl (jBt B n a) then jSkF B n n (a + 1) else a) = _
  rfl
theorem jSkF_no {B : Nat → Nat} {n : Nat} : ∀ f a, n ≤ a + f → ¬ jBl (jBt B n (jSkF B n f a)) := by
  intro f
  induction f with
  | zero =>
    intro a h
    show ¬ jBl (jBt B n a)
    unfold jBt
    rw [if_neg (by omega)]
    unfold jBl
    omega
  | succ f ih =>
    intro a h
    unfold jSkF
    split
    · exact ih _ (by omega)
    · assumption
theorem jSk_no {B : Nat → Nat} {n a : Nat} : ¬ jBl (jBt B n (jSk B n a)) := jSkF_no n a (by omega)
theorem jSk_sk {B : Nat → Nat} {n a : Nat} (h : a ≤ n) : jSk B n (jSk B n a) = jSk B n a := by
  rw [jSk_eq (jSk_le h).2, if_neg jSk_no]
theorem jBt_lt {B : Nat → Nat} {n a k : Nat} (h : jBt B n a = k) (hk : k ≠ 256) : a < n := by
  unfold jBt at h
  split at h
  · assumption
  · omega
theorem jHx_lt {b : Nat} (h : jHx b < 16) : b ≠ 256 := by
  intro e
  subst e
  revert h
  decide
theorem jH4_ok {B : Nat → Nat} {n : Nat} : ∀ k v a r, jH4 B n k v a = .ok r → r.2 = a + k ∧ (k = 0 ∨ a + k ≤ n) := by
  intro k
  induction k with
  | zero => intro v a r h; cases h; exact ⟨rfl, .inl rfl⟩
  | succ k ih =>
    intro v a r h
    unfold jH4 at h
    split at h
    · rename_i hx
      have h1 := jBt_lt (B := B) (n := n) (a := a) rfl (jHx_lt hx)
      have h2 := ih _ _ _ h
      omega
    · cases h
theorem jEs_ok {B : Nat → Nat} {n a : Nat} {r : Nat × Nat} (h : jEs B n a = .ok r) : r.1 < 256 ∧ a + 1 < r.2 ∧ r.2 ≤ n := by
  unfold jEs at h
  have hE : jBt B n (a + 1) ≠ 256 → a + 1 < n := fun h => jBt_lt rfl h
  split at h
  · rename_i h1
    cases h
    have h2 : jBt B n (a + 1) ≠ 256 := by
      intro e
      rw [e] at h1
      exact h1 rfl
    have := hE h2
    refine ⟨?_, by simp, by show a + 2 ≤ n; omega⟩
    unfold jE1
    repeat' split
    all_goals simp
  · split at h
    · split at h
      · cases h
      · rename_i h2 v a1 hr
        split at h
        · cases h
          have := jH4_ok _ _ _ _ hr
          simp only at this
          refine ⟨by assumption, ?_, ?_⟩ <;> simp only <;> omega
        · cases h
    · cases h
theorem jSl_ok {B : Nat → Nat} {n : Nat} : ∀ f a l T a' l' T', a ≤ n → jSl B n f a l T = .ok (a', l', T') → a < a' ∧ a' ≤ n ∧ l ≤ l' ∧ l' + a + 1 ≤ l + a' ∧ ∀ k i, (k ≠ 6 ∨ i < l) → T' k i = T k i := by
  intro f
  induction f with
  | zero => intro a l T a' l' T' _ h; cases h
  | succ f ih =>
    intro a l T a' l' T' ha h
    unfold jSl at h
    split at h
    · rename_i h34
      have := jBt_lt h34 (by omega)
      cases h
      refine ⟨by omega, by omega, by omega, by omega, fun _ _ _ => rfl⟩
    · split at h
      · cases h
      · rename_i h1 h2
        have hlt := jBt_lt (B := B) (n := n) (a := a) rfl (by omega)
        split at h
        · split at h
          · cases h
          · rename_i v a1 hr
            have h3 := jEs_ok hr
            simp only at h3
            have h4 := ih _ _ _ _ _ _ (by omega) h
            refine ⟨by omega, by omega, by omega, by omega, fun k i hk => ?_⟩
            rw [h4.2.2.2.2 k i (by omega), a2_ite, if_neg (by omega)]
        · have h4 := ih _ _ _ _ _ _ (by omega) h
          refine ⟨by omega, by omega, by omega, by omega, fun k i hk => ?_⟩
          rw [h4.2.2.2.2 k i (by omega), a2_ite, if_neg (by omega)]
theorem jWl_ok {B : Nat → Nat} {n : Nat} : ∀ w a a', a ≤ n → (∀ x, x ∈ w → x ≠ 256) → jWl B n w a = .ok a' → a' = a + w.length ∧ a' ≤ n := by
  intro w
  induction w with
  | nil => intro a a' ha _ h; cases h; exact ⟨rfl, ha⟩
  | cons x r ih =>
    intro a a' ha hx h
    unfold jWl at h
    split at h
    · rename_i hb
      have h1 := jBt_lt hb (hx x (List.mem_cons_self ..))
      have h2 := ih _ _ (by omega) (fun y hy => hx y (List.mem_cons_of_mem _ hy)) h
      simp only [List.length_cons]
      omega
    · cases h
theorem jDg_ok {B : Nat → Nat} {n : Nat} : ∀ f m a, a ≤ n → a ≤ (jDg B n f m a).2 ∧ (jDg B n f m a).2 ≤ n := by
  intro f
  induction f with
  | zero => intro m a h; exact ⟨Nat.le_refl _, h⟩
  | succ f ih =>
    intro m a h
    unfold jDg
    split
    · rename_i hd
      have := jBt_lt (B := B) (n := n) (a := a) rfl (by unfold jDi at hd; omega)
      have := ih (10 * m + (jBt B n a - 48)) (a + 1) (by omega)
      omega
    · exact ⟨Nat.le_refl _, h⟩
/-- children in a row: m of them, each behind the one before, none behind hi -/
def jCh (T : Nat → Nat → Nat) : Nat → Nat → Nat → Nat → Prop
  | 0, _, _, cur => cur = 0
  | m + 1, lo, hi, cur => lo < cur ∧ cur ≤ hi ∧ jCh T m cur hi (T 4 (cur - 1))
/-- the same up to the last one -/
def jCl (T : Nat → Nat → Nat) : Nat → Nat → Nat → Nat → Prop
  | 0, _, _, _ => False
  | m + 1, lo, last, cur => lo < cur ∧ ((m = 0 ∧ cur = last) ∨ (cur < last ∧ jCl T m cur last (T 4 (cur - 1))))
theorem jCh_upd {T T' : Nat → Nat → Nat} {hi : Nat} : ∀ m lo cur, (∀ i, lo < i + 1 → i + 1 ≤ hi → T' 4 i = T 4 i) → jCh T m lo hi cur → jCh T' m lo hi cur := by
  intro m
  induction m with
  | zero => intro lo cur _ h; exact h
  | succ m ih =>
    intro lo cur hT h
    obtain ⟨h1, h2, h3⟩ := h
    refine ⟨h1, h2, ?_⟩
    rw [hT (cur - 1) (by omega) (by omega)]
    exact ih _ _ (fun i a b => hT i (by omega) b) h3
theorem jCl_upd {T T' : Nat → Nat → Nat} {last : Nat} : ∀ m lo cur, (∀ i, lo < i + 1 → i + 1 < last → T' 4 i = T 4 i) → jCl T m lo last cur → jCl T' m lo last cur := by
  intro m
  induction m with
  | zero => intro lo cur _ h; exact h
  | succ m ih =>
    intro lo cur hT h
    obtain ⟨h1, h2⟩ := h
    refine ⟨h1, ?_⟩
    rcases h2 with h2 | ⟨h2, h3⟩
    · exact .inl h2
    · refine .inr ⟨h2, ?_⟩
      rw [hT (cur - 1) (by omega) (by omega)]
      exact ih _ _ (fun i a b => hT i (by omega) b) h3
theorem jCl_app {T T' : Nat → Nat → Nat} {last w : Nat} (hw : last < w) (hl : T' 4 (last - 1) = w) : ∀ m lo cur, (∀ i, lo < i + 1 → i + 1 < last → T' 4 i = T 4 i) → jCl T m lo last cur → jCl T' (m + 1) lo w cur := by
  intro m
  induction m with
  | zero => intro lo cur _ h; exact h.elim
  | succ m ih =>
    intro lo cur hT h
    obtain ⟨h1, h2⟩ := h
    refine ⟨h1, ?_⟩
    rcases h2 with ⟨h2, h3⟩ | ⟨h2, h3⟩
    · subst h3
      subst h2
      refine .inr ⟨hw, ?_⟩
      rw [hl]
      exact ⟨hw, .inl ⟨rfl, rfl⟩⟩
    · refine .inr ⟨by omega, ?_⟩
      rw [hT (cur - 1) (by omega) (by omega)]
      exact ih _ _ (fun i a b => hT i (by omega) b) h3
theorem jCl_ch {T : Nat → Nat → Nat} {last hi : Nat} (hl : T 4 (last - 1) = 0) (hh : last ≤ hi) : ∀ m lo cur, jCl T m lo last cur → jCh T m lo hi cur := by
  intro m
  induction m with
  | zero => intro lo cur h; exact h.elim
  | succ m ih =>
    intro lo cur h
    obtain ⟨h1, h2⟩ := h
    rcases h2 with ⟨h2, h3⟩ | ⟨h2, h3⟩
    · subst h3
      subst h2
      exact ⟨h1, hh, hl⟩
    · exact ⟨h1, by omega, ih _ _ h3⟩
