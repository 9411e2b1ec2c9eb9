/-! PURE: a value and what lies in it; what it has paid -/
theorem jTr_k {T : Nat → Nat → Nat} {N : Nat → Int} : ∀ {D v e : Nat}, jTr T N D v e → T 0 v ≤ 6
  | 0, _, _, h => h.2.2.1
  | D + 1, _, _, h => by
    rcases h with h | ⟨h, _⟩ | ⟨h, _⟩
    · exact h.2.2.1
    · omega
    · omega
def jVb (T : Nat → Nat → Nat) (N : Nat → Int) (m v : Nat) : Prop := ∃ D, D ≤ 24 ∧ jTr T N D v (jE T v) ∧ jE T v ≤ m
/-- children, each with its end -/
abbrev jVe (T : Nat → Nat → Nat) (N : Nat → Int) (m : Nat) (a b : Nat) : Prop := jVb T N m a ∧ b = jE T a
section
variable {T : Nat → Nat → Nat} {N : Nat → Int} {m : Nat}
theorem jVb_of {D v e : Nat} (hD : D ≤ 24) (h : jTr T N D v e) (he : e ≤ m) : jVb T N m v ∧ e = jE T v := by
  have := jTr_e h
  subst this
  exact ⟨⟨D, hD, h, he⟩, rfl⟩
theorem jVb_lt {v : Nat} (h : jVb T N m v) : v < jE T v ∧ jE T v ≤ m := by
  obtain ⟨D, hD, h1, h2⟩ := h
  exact ⟨jTr_lt D _ _ h1, h2⟩
theorem jVe_lt : ∀ a b, jVe T N m a b → a < b := fun a b h => by rw [h.2]; exact (jVb_lt h.1).1
theorem jVb_k {v : Nat} (h : jVb T N m v) : T 0 v ≤ 6 := by
  obtain ⟨D, hD, h1, h2⟩ := h
  exact jTr_k h1
theorem jVb_l {v : Nat} (h : jVb T N m v) (h1 : T 0 v = 1) : jTl T (jVe T N m) (T 2 v) (v + 1) (jE T v) (T 3 v) := by
  obtain ⟨D, hD, h, he⟩ := h
  cases D with
  | zero => have := h.2.1; omega
  | succ D =>
    rcases h with h | ⟨_, h⟩ | ⟨h, _⟩
    · have := h.2.1; omega
    · exact jTl_fr (fun a b => jTr_lt D a b) _ _ _ (fun _ _ _ => rfl) (fun a b _ hb g => jVb_of (by omega) g (by omega)) h
    · omega
theorem jVb_o {v : Nat} (h : jVb T N m v) (h1 : T 0 v = 0) : ∃ k, T 2 v = 2 * k ∧ jTm T (jVe T N m) k (v + 1) (jE T v) (T 3 v) := by
  obtain ⟨D, hD, h, he⟩ := h
  cases D with
  | zero => have := h.2.1; omega
  | succ D =>
    rcases h with h | ⟨h, _⟩ | ⟨_, k, hk, h⟩
    · have := h.2.1; omega
    · omega
    · exact ⟨k, hk, jTm_fr (fun a b => jTr_lt D a b) _ _ _ (fun _ _ _ => ⟨rfl, rfl⟩) (fun a b _ hb g => jVb_of (by omega) g (by omega)) h⟩
theorem jVb_num {v : Nat} (h : jVb T N m v) (h1 : T 0 v = 3) : -9223372036854775808 ≤ N v ∧ N v ≤ 9223372036854775807 := by
  obtain ⟨D, hD, h, he⟩ := h
  cases D with
  | zero => exact (h.2.2.2 h1).1
  | succ D =>
    rcases h with h | ⟨h, _⟩ | ⟨h, _⟩
    · exact (h.2.2.2 h1).1
    · omega
    · omega
theorem jVb_abs {v : Nat} (h : jVb T N m v) (h1 : T 0 v = 3) : 0 < T 2 v ∧ (N v).natAbs < 10 ^ T 2 v := by
  obtain ⟨D, hD, h, he⟩ := h
  cases D with
  | zero => exact (h.2.2.2 h1).2
  | succ D =>
    rcases h with h | ⟨h, _⟩ | ⟨h, _⟩
    · exact (h.2.2.2 h1).2
    · omega
    · omega
theorem jVb_w2 {v : Nat} (h : jVb T N m v) : 2 ≤ jWt T v := by
  by_cases h3 : T 0 v = 3
  · obtain ⟨D, hD, h, he⟩ := h
    have h2 : 0 < T 2 v := by
      cases D with
      | zero => exact (h.2.2.2 h3).2.1
      | succ D =>
        rcases h with h | ⟨h, _⟩ | ⟨h, _⟩
        · exact (h.2.2.2 h3).2.1
        · omega
        · omega
    unfold jWt
    rw [if_neg (by omega), if_pos h3]
    omega
  · unfold jWt
    repeat' split
    all_goals omega
theorem jVb_leaf {v : Nat} (h : 2 ≤ T 0 v) : jE T v = v + 1 := by
  unfold jE; rw [if_neg (by omega)]
theorem jWt_2 (v : Nat) (h : T 0 v ≠ 3) : 2 ≤ jWt T v := by
  unfold jWt
  repeat' split
  all_goals omega
theorem kWv_eq {v : Nat} (h : v < jE T v) : jSw T v + kWv T v = jSw T (jE T v) ∧ jWt T v ≤ kWv T v ∧ kWv T v = jWt T v + (jSw T (jE T v) - jSw T (v + 1)) ∧ jSw T (v + 1) ≤ jSw T (jE T v) := by
  have h1 := jSw_mono (T := T) (a := v + 1) (jE T v) (by omega)
  have h2 : jSw T (v + 1) = jSw T v + jWt T v := rfl
  unfold kWv
  omega
/-- what the first member that passes has paid -/
def kG (T : Nat → Nat → Nat) (t : Nat → Bool) (k cur : Nat) : Nat := if jFd T t k cur = 0 then 0 else jWt T (jFd T t k cur - 1) + kWv T (T 4 (jFd T t k cur - 1) - 1)
theorem jFd_s {t : Nat → Bool} {k lo : Nat} (h4 : T 4 lo = lo + 2) : jFd T t (k + 1) (lo + 1) = if t lo = true then lo + 1 else jFd T t k (T 4 (lo + 1)) := by
  show (if lo + 1 = 0 then 0 else if t (lo + 1 - 1) = true then lo + 1 else jFd T t k (T 4 (T 4 (lo + 1 - 1) - 1))) = _
  rw [if_neg (by omega), Nat.add_sub_cancel, h4]
  rfl
theorem kG_s {t : Nat → Bool} {k lo : Nat} (h4 : T 4 lo = lo + 2) : kG T t (k + 1) (lo + 1) = if t lo = true then jWt T lo + kWv T (lo + 1) else kG T t k (T 4 (lo + 1)) := by
  unfold kG
  rw [jFd_s h4]
  by_cases h : t lo = true
  · rw [if_pos h, if_pos h, if_neg (by omega), Nat.add_sub_cancel, h4]
    rfl
  · rw [if_neg h, if_neg h]
theorem jM3 {t1 t2 t3 : Nat → Bool} (hd : ∀ i, ¬ (t1 i = true ∧ t2 i = true) ∧ ¬ (t1 i = true ∧ t3 i = true) ∧ ¬ (t2 i = true ∧ t3 i = true)) {e : Nat} : ∀ k lo cur, jTm T (jVe T N m) k lo e cur → jSw T lo + kG T t1 k cur + kG T t2 k cur + kG T t3 k cur ≤ jSw T e
  | 0, lo, cur, h => by
    have h1 : cur = 0 := h.1
    have h2 : lo = e := h.2
    subst h1 h2
    exact Nat.le_refl _
  | k + 1, lo, cur, h => by
    obtain ⟨h1, h2, h3, e1, h4, h5⟩ := h
    subst h1
    have ih := jM3 hd k e1 _ h5
    have a1 := jVe_lt _ _ h4
    have hw := kWv_eq (T := T) (v := lo + 1) (by rw [← h4.2]; exact a1)
    rw [← h4.2] at hw
    have hs : jSw T (lo + 1) = jSw T lo + jWt T lo := rfl
    have hdl := hd lo
    rw [kG_s h3, kG_s h3, kG_s h3]
    by_cases b1 : t1 lo = true
    · rw [if_pos b1, if_neg (fun b2 => hdl.1 ⟨b1, b2⟩), if_neg (fun b3 => hdl.2.1 ⟨b1, b3⟩)]
      omega
    · by_cases b2 : t2 lo = true
      · rw [if_neg b1, if_pos b2, if_neg (fun b3 => hdl.2.2 ⟨b2, b3⟩)]
        omega
      · rw [if_neg b1, if_neg b2]
        split
        · omega
        · omega
theorem jM1 {t : Nat → Bool} {e : Nat} : ∀ k lo cur, jTm T (jVe T N m) k lo e cur → jFd T t k cur ≠ 0 → lo ≤ jFd T t k cur - 1 ∧ t (jFd T t k cur - 1) = true ∧ T 0 (jFd T t k cur - 1) = 2 ∧ T 4 (jFd T t k cur - 1) = jFd T t k cur + 1 ∧ jVb T N m (jFd T t k cur) ∧ jFd T t k cur < e
  | 0, lo, cur, h, hn => absurd rfl hn
  | k + 1, lo, cur, h, hn => by
    obtain ⟨h1, h2, h3, e1, h4, h5⟩ := h
    subst h1
    have a1 := jVe_lt _ _ h4
    have a2 := jTm_lt jVe_lt _ _ _ _ h5
    rw [jFd_s h3] at hn ⊢
    by_cases b : t lo = true
    · rw [if_pos b, Nat.add_sub_cancel]
      exact ⟨Nat.le_refl _, b, h2, h3, h4.1, by omega⟩
    · rw [if_neg b] at hn ⊢
      have := jM1 k e1 _ h5 hn
      exact ⟨by omega, this.2⟩
/-- a member of an object -/
theorem kMv_ok {t : Nat → Bool} {v : Nat} (hv : jVb T N m v) (h0 : T 0 v = 0) (hn : kMv T t v ≠ 0) : jVb T N m (kMv T t v - 1) ∧ v + 1 < kMv T t v ∧ t (kMv T t v - 2) = true ∧ T 0 (kMv T t v - 2) = 2 := by
  obtain ⟨k, hk, h⟩ := jVb_o hv h0
  unfold kMv at hn ⊢
  rw [hk, Nat.mul_div_cancel_left k (by omega)] at hn ⊢
  by_cases hz : jFd T t k (T 3 v) = 0
  · rw [if_pos hz] at hn; exact absurd rfl hn
  · have := jM1 k _ _ h hz
    rw [if_neg hz, this.2.2.2.1]
    exact ⟨this.2.2.2.2.1, by omega, this.2.1, this.2.2.1⟩
/-- what an object's member has paid -/
def kGm (T : Nat → Nat → Nat) (v : Nat) (W : List Nat) : Nat := if kMb T v W = 0 then 0 else W.length + 3 + kWv T (kMb T v W - 1)
theorem jTw_inj {v : Nat} {W W' : List Nat} (h : jTw T v W = true) (h' : jTw T v W' = true) : W = W' := by
  unfold jTw jTb at h h'
  simp only [decide_eq_true_eq] at h h'
  refine List.ext_getElem (by omega) (fun i h1 h2 => ?_)
  have a := h.2.2 i h1
  have b := h'.2.2 i h2
  rw [a] at b
  simpa [List.getD, h1, h2] using b
theorem jTw_w {v : Nat} {W : List Nat} (h : jTw T v W = true) : T 0 v = 2 ∧ T 2 v = W.length ∧ jWt T v = W.length + 3 := by
  unfold jTw jTb at h
  simp only [decide_eq_true_eq] at h
  refine ⟨h.1, h.2.1, ?_⟩
  unfold jWt
  rw [if_pos h.1, h.2.1]
theorem kGm_3 {v : Nat} (hv : jVb T N m v) (h0 : T 0 v = 0) {W1 W2 W3 : List Nat} (h12 : W1 ≠ W2) (h13 : W1 ≠ W3) (h23 : W2 ≠ W3) : 2 + kGm T v W1 + kGm T v W2 + kGm T v W3 ≤ kWv T v := by
  obtain ⟨k, hk, h⟩ := jVb_o hv h0
  have hm := jM3 (t1 := fun i => jTw T i W1) (t2 := fun i => jTw T i W2) (t3 := fun i => jTw T i W3) (fun i => ⟨fun e => h12 (jTw_inj e.1 e.2), fun e => h13 (jTw_inj e.1 e.2), fun e => h23 (jTw_inj e.1 e.2)⟩) k _ _ h
  have hlt := jVb_lt hv
  have hw := kWv_eq (T := T) hlt.1
  have h2 : 2 ≤ jWt T v := jWt_2 v (by omega)
  have e : ∀ W, kGm T v W = kG T (fun i => jTw T i W) k (T 3 v) := by
    intro W
    unfold kGm kG kMb kMv
    rw [hk, Nat.mul_div_cancel_left k (by omega)]
    by_cases hz : jFd T (fun i => jTw T i W) k (T 3 v) = 0
    · rw [if_pos hz, if_pos hz, if_pos rfl]
    · have := jM1 k _ _ h hz
      rw [if_neg hz, if_neg hz, if_neg (by omega), (jTw_w this.2.1).2.2]
  rw [e, e, e]
  omega
theorem kMb_ok {v : Nat} {W : List Nat} (hv : jVb T N m v) (h0 : T 0 v = 0) (hn : kMb T v W ≠ 0) : jVb T N m (kMb T v W - 1) ∧ v + 1 < kMb T v W ∧ kGm T v W = W.length + 3 + kWv T (kMb T v W - 1) := by
  have := kMv_ok hv h0 hn
  refine ⟨this.1, this.2.1, ?_⟩
  unfold kGm
  rw [if_neg hn]
theorem kMb_le {v : Nat} {W : List Nat} (hv : jVb T N m v) (h0 : T 0 v = 0) : kMb T v W ≤ m := by
  by_cases hn : kMb T v W = 0
  · omega
  · have := kMb_ok hv h0 hn
    have := jVb_lt this.1
    omega
/-! loops that look for the first -/
theorem kFr_0 {t : Nat → Bool} : ∀ n lo, kFr t n lo = 0 ↔ ∀ i, lo ≤ i → i < lo + n → t i = false
  | 0, lo => ⟨fun _ i a b => by omega, fun _ => rfl⟩
  | n + 1, lo => by
    show (if t lo = true then lo + 1 else kFr t n (lo + 1)) = 0 ↔ _
    by_cases h : t lo = true
    · rw [if_pos h]
      exact ⟨fun e => by omega, fun e => by have := e lo (Nat.le_refl _) (by omega); rw [h] at this; cases this⟩
    · rw [if_neg h, kFr_0 n (lo + 1)]
      constructor
      · intro e i a b
        by_cases hi : i = lo
        · subst hi; simpa using h
        · exact e i (by omega) (by omega)
      · intro e i a b; exact e i (by omega) (by omega)
theorem kFr_1 {t : Nat → Bool} : ∀ n lo, kFr t n lo ≠ 0 → lo < kFr t n lo ∧ kFr t n lo ≤ lo + n ∧ t (kFr t n lo - 1) = true
  | 0, lo, h => absurd rfl h
  | n + 1, lo, h => by
    have e : kFr t (n + 1) lo = if t lo = true then lo + 1 else kFr t n (lo + 1) := rfl
    rw [e] at h ⊢
    by_cases ht : t lo = true
    · rw [if_pos ht, Nat.add_sub_cancel]
      exact ⟨by omega, by omega, ht⟩
    · rw [if_neg ht] at h ⊢
      have := kFr_1 n (lo + 1) h
      exact ⟨by omega, by omega, this.2.2⟩
end
