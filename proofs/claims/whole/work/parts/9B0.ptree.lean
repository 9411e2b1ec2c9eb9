/-! PURE: the tree that a reading leaves: who lies where, how deep, how many bytes were paid for it -/
def jWt (T : Nat → Nat → Nat) (u : Nat) : Nat := if T 0 u = 2 then T 2 u + 3 else if T 0 u = 3 then T 2 u + 1 else if T 0 u ≤ 1 then (if T 7 u = u + 1 then 3 else 2) else 5
def jSw (T : Nat → Nat → Nat) : Nat → Nat
  | 0 => 0
  | u + 1 => jSw T u + jWt T u
theorem jWt_eq {T T' : Nat → Nat → Nat} {u : Nat} (h0 : T' 0 u = T 0 u) (h2 : 2 ≤ T 0 u → T' 2 u = T 2 u) (h7 : T' 7 u = T 7 u) : jWt T' u = jWt T u := by
  unfold jWt
  rw [h0, h7]
  by_cases a : T 0 u = 2
  · rw [if_pos a, if_pos a, h2 (by omega)]
  · by_cases b : T 0 u = 3
    · rw [if_neg a, if_neg a, if_pos b, if_pos b, h2 (by omega)]
    · rw [if_neg a, if_neg a, if_neg b, if_neg b]
theorem jSw_eq {T T' : Nat → Nat → Nat} : ∀ u, (∀ i, i < u → T' 0 i = T 0 i ∧ (2 ≤ T 0 i → T' 2 i = T 2 i) ∧ T' 7 i = T 7 i) → jSw T' u = jSw T u
  | 0, _ => rfl
  | u + 1, h => by
    show jSw T' u + jWt T' u = jSw T u + jWt T u
    rw [jSw_eq u (fun i hi => h i (by omega)), jWt_eq (h u (by omega)).1 (h u (by omega)).2.1 (h u (by omega)).2.2]
theorem jSw_mono {T : Nat → Nat → Nat} {a : Nat} : ∀ b, a ≤ b → jSw T a ≤ jSw T b
  | 0, h => by rw [Nat.le_zero.mp h]; exact Nat.le_refl _
  | b + 1, h => by
    rcases Nat.lt_or_ge b a with h1 | h1
    · have : a = b + 1 := by omega
      rw [this]; exact Nat.le_refl _
    · have := jSw_mono (T := T) b h1
      show _ ≤ jSw T b + jWt T b
      omega
theorem jSw_diff {T T' : Nat → Nat → Nat} {a : Nat} : ∀ b, a ≤ b → (∀ i, a ≤ i → i < b → jWt T' i = jWt T i) → jSw T' b + jSw T a = jSw T b + jSw T' a
  | 0, h, _ => by rw [Nat.le_zero.mp h]; rfl
  | b + 1, h, hw => by
    rcases Nat.lt_or_ge b a with h1 | h1
    · have : a = b + 1 := by omega
      rw [this, Nat.add_comm]
    · have ih := jSw_diff (T := T) (T' := T') b h1 (fun i h2 h3 => hw i h2 (by omega))
      have e := hw b h1 (by omega)
      show jSw T' b + jWt T' b + jSw T a = jSw T b + jWt T b + jSw T' a
      omega
def jLfO (T : Nat → Nat → Nat) (N : Nat → Int) (v e : Nat) : Prop := e = v + 1 ∧ 2 ≤ T 0 v ∧ T 0 v ≤ 6 ∧ (T 0 v = 3 → (-9223372036854775808 ≤ N v ∧ N v ≤ 9223372036854775807) ∧ 0 < T 2 v ∧ (N v).natAbs < 10 ^ T 2 v)
def jTl (T : Nat → Nat → Nat) (P : Nat → Nat → Prop) : Nat → Nat → Nat → Nat → Prop
  | 0, lo, e, cur => cur = 0 ∧ lo = e
  | m + 1, lo, e, cur => cur = lo + 1 ∧ ∃ e1, P lo e1 ∧ jTl T P m e1 e (T 4 lo)
def jTm (T : Nat → Nat → Nat) (P : Nat → Nat → Prop) : Nat → Nat → Nat → Nat → Prop
  | 0, lo, e, cur => cur = 0 ∧ lo = e
  | m + 1, lo, e, cur => cur = lo + 1 ∧ T 0 lo = 2 ∧ T 4 lo = lo + 2 ∧ ∃ e1, P (lo + 1) e1 ∧ jTm T P m e1 e (T 4 (lo + 1))
/-- a value's tree: it lies in [v, e), at most D lists and objects deep -/
def jTr (T : Nat → Nat → Nat) (N : Nat → Int) : Nat → Nat → Nat → Prop
  | 0, v, e => jLfO T N v e
  | D + 1, v, e => jLfO T N v e ∨ (T 0 v = 1 ∧ T 7 v = e) ∧ jTl T (jTr T N D) (T 2 v) (v + 1) e (T 3 v) ∨ (T 0 v = 0 ∧ T 7 v = e) ∧ ∃ m, T 2 v = 2 * m ∧ jTm T (jTr T N D) m (v + 1) e (T 3 v)
theorem jTl_lt {T : Nat → Nat → Nat} {P : Nat → Nat → Prop} (hP : ∀ a b, P a b → a < b) : ∀ m lo e cur, jTl T P m lo e cur → lo ≤ e
  | 0, lo, e, cur, h => Nat.le_of_eq h.2
  | m + 1, lo, e, cur, h => by
    obtain ⟨_, e1, h1, h2⟩ := h
    have := hP _ _ h1
    have := jTl_lt hP m e1 e _ h2
    omega
theorem jTm_lt {T : Nat → Nat → Nat} {P : Nat → Nat → Prop} (hP : ∀ a b, P a b → a < b) : ∀ m lo e cur, jTm T P m lo e cur → lo ≤ e
  | 0, lo, e, cur, h => Nat.le_of_eq h.2
  | m + 1, lo, e, cur, h => by
    obtain ⟨_, _, _, e1, h1, h2⟩ := h
    have := hP _ _ h1
    have := jTm_lt hP m e1 e _ h2
    omega
theorem jTr_lt {T : Nat → Nat → Nat} {N : Nat → Int} : ∀ D v e, jTr T N D v e → v < e
  | 0, v, e, h => by
    have : e = v + 1 := h.1
    omega
  | D + 1, v, e, h => by
    rcases h with h | ⟨_, h⟩ | ⟨_, m, _, h⟩
    · have : e = v + 1 := h.1
      omega
    · have := jTl_lt (fun a b => jTr_lt D a b) _ _ _ _ h
      omega
    · have := jTm_lt (fun a b => jTr_lt D a b) _ _ _ _ h
      omega
theorem jTl_fr {T T' : Nat → Nat → Nat} {P P' : Nat → Nat → Prop} (hP : ∀ a b, P a b → a < b) {e : Nat} : ∀ m lo cur, (∀ i, lo ≤ i → i < e → T' 4 i = T 4 i) → (∀ a b, lo ≤ a → b ≤ e → P a b → P' a b) → jTl T P m lo e cur → jTl T' P' m lo e cur
  | 0, lo, cur, _, _, h => h
  | m + 1, lo, cur, h4, hPP, h => by
    obtain ⟨hc, e1, h1, h2⟩ := h
    have a1 := hP _ _ h1
    have a2 := jTl_lt hP m e1 e _ h2
    refine ⟨hc, e1, hPP _ _ (Nat.le_refl _) a2 h1, ?_⟩
    rw [h4 lo (Nat.le_refl _) (by omega)]
    exact jTl_fr hP m e1 _ (fun i hi => h4 i (by omega)) (fun a b ha => hPP a b (by omega)) h2
theorem jTm_fr {T T' : Nat → Nat → Nat} {P P' : Nat → Nat → Prop} (hP : ∀ a b, P a b → a < b) {e : Nat} : ∀ m lo cur, (∀ i, lo ≤ i → i < e → T' 4 i = T 4 i ∧ T' 0 i = T 0 i) → (∀ a b, lo ≤ a → b ≤ e → P a b → P' a b) → jTm T P m lo e cur → jTm T' P' m lo e cur
  | 0, lo, cur, _, _, h => h
  | m + 1, lo, cur, h4, hPP, h => by
    obtain ⟨hc, hk, hx, e1, h1, h2⟩ := h
    have a1 := hP _ _ h1
    have a2 := jTm_lt hP m e1 e _ h2
    refine ⟨hc, by rw [(h4 lo (Nat.le_refl _) (by omega)).2]; exact hk, by rw [(h4 lo (Nat.le_refl _) (by omega)).1]; exact hx, e1, hPP _ _ (by omega) a2 h1, ?_⟩
    rw [(h4 (lo + 1) (by omega) (by omega)).1]
    exact jTm_fr hP m e1 _ (fun i hi => h4 i (by omega)) (fun a b ha => hPP a b (by omega)) h2
theorem jLfO_fr {T T' : Nat → Nat → Nat} {N N' : Nat → Int} {v e : Nat} (h0 : T' 0 v = T 0 v) (h2 : T' 2 v = T 2 v) (hN : N' v = N v) (h : jLfO T N v e) : jLfO T' N' v e := by
  unfold jLfO at h ⊢
  rw [h0, hN, h2]
  exact h
theorem jTr_fr {T T' : Nat → Nat → Nat} {N N' : Nat → Int} : ∀ D v e, (∀ k i, k ≤ 4 ∨ k = 7 → v ≤ i → i < e → (k ≠ 4 ∨ i ≠ v) → T' k i = T k i) → (∀ i, v ≤ i → i < e → N' i = N i) → jTr T N D v e → jTr T' N' D v e
  | 0, v, e, hT, hN, h => by
    have := jTr_lt 0 v e h
    exact jLfO_fr (hT 0 v (by omega) (Nat.le_refl _) this (by omega)) (hT 2 v (by omega) (Nat.le_refl _) this (by omega)) (hN v (Nat.le_refl _) this) h
  | D + 1, v, e, hT, hN, h => by
    have hlt := jTr_lt (D + 1) v e h
    have h0 := hT 0 v (by omega) (Nat.le_refl _) hlt (by omega)
    have h2 := hT 2 v (by omega) (Nat.le_refl _) hlt (by omega)
    have h3 := hT 3 v (by omega) (Nat.le_refl _) hlt (by omega)
    have h7 := hT 7 v (by omega) (Nat.le_refl _) hlt (by omega)
    have hPP : ∀ a b, v + 1 ≤ a → b ≤ e → jTr T N D a b → jTr T' N' D a b := fun a b ha hb h => jTr_fr D a b (fun k i hk h1 h2 _ => hT k i hk (by omega) (by omega) (by omega)) (fun i h1 h2 => hN i (by omega) (by omega)) h
    rcases h with h | ⟨hk, h⟩ | ⟨hk, m, hm, h⟩
    · exact .inl (jLfO_fr h0 h2 (hN v (Nat.le_refl _) hlt) h)
    · refine .inr (.inl ⟨by rw [h0, h7]; exact hk, ?_⟩)
      rw [h2, h3]
      exact jTl_fr (fun a b => jTr_lt D a b) _ _ _ (fun i h1 h2 => hT 4 i (by omega) (by omega) h2 (by omega)) hPP h
    · refine .inr (.inr ⟨by rw [h0, h7]; exact hk, m, by rw [h2]; exact hm, ?_⟩)
      rw [h3]
      exact jTm_fr (fun a b => jTr_lt D a b) _ _ _ (fun i h1 h2 => ⟨hT 4 i (by omega) (by omega) h2 (by omega), hT 0 i (by omega) (by omega) h2 (by omega)⟩) hPP h
/-! while a list or an object is being read -/
def jTp (T : Nat → Nat → Nat) (P : Nat → Nat → Prop) : Nat → Nat → Nat → Nat → Nat → Prop
  | 0, lo, e, cur, last => cur = 0 ∧ lo = e ∧ last = 0
  | m + 1, lo, e, cur, last => cur = lo + 1 ∧ ∃ e1, P lo e1 ∧ (m = 0 ∧ last = lo + 1 ∧ e1 = e ∧ T 4 lo = 0 ∨ 0 < m ∧ jTp T P m e1 e (T 4 lo) last)
def jTn (T : Nat → Nat → Nat) (P : Nat → Nat → Prop) : Nat → Nat → Nat → Nat → Nat → Prop
  | 0, lo, e, cur, last => cur = 0 ∧ lo = e ∧ last = 0
  | m + 1, lo, e, cur, last => cur = lo + 1 ∧ T 0 lo = 2 ∧ T 4 lo = lo + 2 ∧ ∃ e1, P (lo + 1) e1 ∧ (m = 0 ∧ last = lo + 2 ∧ e1 = e ∧ T 4 (lo + 1) = 0 ∨ 0 < m ∧ jTn T P m e1 e (T 4 (lo + 1)) last)
theorem jTp_bd {T : Nat → Nat → Nat} {P : Nat → Nat → Prop} (hP : ∀ a b, P a b → a < b) : ∀ m lo e cur last, jTp T P m lo e cur last → lo ≤ e ∧ (m = 0 ∧ last = 0 ∨ 0 < m ∧ lo < last ∧ last ≤ e)
  | 0, lo, e, cur, last, h => ⟨Nat.le_of_eq h.2.1, .inl ⟨rfl, h.2.2⟩⟩
  | m + 1, lo, e, cur, last, h => by
    obtain ⟨_, e1, h1, h2⟩ := h
    have a1 := hP _ _ h1
    rcases h2 with ⟨_, h3, h4, _⟩ | ⟨hm, h3⟩
    · exact ⟨by omega, .inr ⟨by omega, by omega, by omega⟩⟩
    · have := jTp_bd hP m e1 e _ last h3
      exact ⟨by omega, .inr ⟨by omega, by omega, by omega⟩⟩
theorem jTn_bd {T : Nat → Nat → Nat} {P : Nat → Nat → Prop} (hP : ∀ a b, P a b → a < b) : ∀ m lo e cur last, jTn T P m lo e cur last → lo ≤ e ∧ (m = 0 ∧ last = 0 ∨ 0 < m ∧ lo + 1 < last ∧ last ≤ e)
  | 0, lo, e, cur, last, h => ⟨Nat.le_of_eq h.2.1, .inl ⟨rfl, h.2.2⟩⟩
  | m + 1, lo, e, cur, last, h => by
    obtain ⟨_, _, _, e1, h1, h2⟩ := h
    have a1 := hP _ _ h1
    rcases h2 with ⟨_, h3, h4, _⟩ | ⟨hm, h3⟩
    · exact ⟨by omega, .inr ⟨by omega, by omega, by omega⟩⟩
    · have := jTn_bd hP m e1 e _ last h3
      exact ⟨by omega, .inr ⟨by omega, by omega, by omega⟩⟩
theorem jTp_tl {T : Nat → Nat → Nat} {P : Nat → Nat → Prop} : ∀ m lo e cur last, jTp T P m lo e cur last → jTl T P m lo e cur
  | 0, lo, e, cur, last, h => ⟨h.1, h.2.1⟩
  | m + 1, lo, e, cur, last, h => by
    obtain ⟨hc, e1, h1, h2⟩ := h
    refine ⟨hc, e1, h1, ?_⟩
    rcases h2 with ⟨h3, _, h4, h5⟩ | ⟨hm, h3⟩
    · subst h3
      exact ⟨h5, h4⟩
    · exact jTp_tl m e1 e _ last h3
theorem jTn_tm {T : Nat → Nat → Nat} {P : Nat → Nat → Prop} : ∀ m lo e cur last, jTn T P m lo e cur last → jTm T P m lo e cur
  | 0, lo, e, cur, last, h => ⟨h.1, h.2.1⟩
  | m + 1, lo, e, cur, last, h => by
    obtain ⟨hc, hk, hx, e1, h1, h2⟩ := h
    refine ⟨hc, hk, hx, e1, h1, ?_⟩
    rcases h2 with ⟨h3, _, h4, h5⟩ | ⟨hm, h3⟩
    · subst h3
      exact ⟨h5, h4⟩
    · exact jTn_tm m e1 e _ last h3
theorem jTp_app {T T' : Nat → Nat → Nat} {N N' : Nat → Int} {D e e' : Nat} (hn : jTr T' N' D e e') (h4 : T' 4 e = 0) : ∀ m lo cur last, 0 < m → jTp T (jTr T N D) m lo e cur last → (∀ k i, k ≤ 4 ∨ k = 7 → lo ≤ i → i < e → (k ≠ 4 ∨ i + 1 ≠ last) → T' k i = T k i) → (∀ i, lo ≤ i → i < e → N' i = N i) → T' 4 (last - 1) = e + 1 → jTp T' (jTr T' N' D) (m + 1) lo e' cur (e + 1) := by
  have hP : ∀ a b, jTr T N D a b → a < b := fun a b => jTr_lt D a b
  intro m
  induction m with
  | zero => intro lo cur last h; omega
  | succ m ih =>
    intro lo cur last _ h hf hN hl
    have hb := jTp_bd hP _ _ _ _ _ h
    obtain ⟨hc, e1, h1, h2⟩ := h
    have a1 := hP _ _ h1
    have hin : e1 ≤ e ∧ (last = lo + 1 ∨ e1 < last) := by
      rcases h2 with ⟨_, h3, h4, _⟩ | ⟨hm, h3⟩
      · omega
      · have := jTp_bd hP _ _ _ _ _ h3
        omega
    refine ⟨hc, e1, jTr_fr D lo e1 (fun k i hk b1 b2 b3 => hf k i hk b1 (by omega) (by omega)) (fun i b1 b2 => hN i b1 (by omega)) h1, .inr ⟨by omega, ?_⟩⟩
    rcases h2 with ⟨h3, h5, h6, h7⟩ | ⟨hm, h3⟩
    · subst h3
      subst h6
      have e4 : T' 4 lo = e1 + 1 := by rw [h5] at hl; exact hl
      rw [e4]
      exact ⟨rfl, e', hn, .inl ⟨rfl, rfl, rfl, h4⟩⟩
    · have hb2 := jTp_bd hP _ _ _ _ _ h3
      rw [hf 4 lo (by omega) (Nat.le_refl _) (by omega) (by omega)]
      exact ih e1 _ last hm h3 (fun k i hk b1 b2 b3 => hf k i hk (by omega) b2 b3) (fun i b1 b2 => hN i (by omega) b2) hl
theorem jTn_app {T T' : Nat → Nat → Nat} {N N' : Nat → Int} {D e e' : Nat} (hk : T' 0 e = 2) (hk4 : T' 4 e = e + 2) (hn : jTr T' N' D (e + 1) e') (h4 : T' 4 (e + 1) = 0) : ∀ m lo cur last, 0 < m → jTn T (jTr T N D) m lo e cur last → (∀ k i, k ≤ 4 ∨ k = 7 → lo ≤ i → i < e → (k ≠ 4 ∨ i + 1 ≠ last) → T' k i = T k i) → (∀ i, lo ≤ i → i < e → N' i = N i) → T' 4 (last - 1) = e + 1 → jTn T' (jTr T' N' D) (m + 1) lo e' cur (e + 2) := by
  have hP : ∀ a b, jTr T N D a b → a < b := fun a b => jTr_lt D a b
  intro m
  induction m with
  | zero => intro lo cur last h; omega
  | succ m ih =>
    intro lo cur last _ h hf hN hl
    have hb := jTn_bd hP _ _ _ _ _ h
    obtain ⟨hc, hk0, hx0, e1, h1, h2⟩ := h
    have a1 := hP _ _ h1
    have hin : e1 ≤ e ∧ (last = lo + 2 ∨ e1 < last) := by
      rcases h2 with ⟨_, h3, h4, _⟩ | ⟨hm, h3⟩
      · omega
      · have := jTn_bd hP _ _ _ _ _ h3
        omega
    refine ⟨hc, by rw [hf 0 lo (by omega) (Nat.le_refl _) (by omega) (by omega)]; exact hk0, by rw [hf 4 lo (by omega) (Nat.le_refl _) (by omega) (by omega)]; exact hx0, e1, jTr_fr D (lo + 1) e1 (fun k i hk b1 b2 b3 => hf k i hk (by omega) (by omega) (by omega)) (fun i b1 b2 => hN i (by omega) (by omega)) h1, .inr ⟨by omega, ?_⟩⟩
    rcases h2 with ⟨h3, h5, h6, h7⟩ | ⟨hm, h3⟩
    · subst h3
      subst h6
      have e4 : T' 4 (lo + 1) = e1 + 1 := by rw [h5] at hl; exact hl
      rw [e4]
      exact ⟨rfl, hk, hk4, e', hn, .inl ⟨rfl, rfl, rfl, h4⟩⟩
    · have hb2 := jTn_bd hP _ _ _ _ _ h3
      rw [hf 4 (lo + 1) (by omega) (by omega) (by omega) (by omega)]
      exact ih e1 _ last hm h3 (fun k i hk b1 b2 b3 => hf k i hk (by omega) b2 b3) (fun i b1 b2 => hN i (by omega) b2) hl
/-- where a value's tree ends, what it has paid -/
def jE (T : Nat → Nat → Nat) (v : Nat) : Nat := if T 0 v ≤ 1 then T 7 v else v + 1
def kWv (T : Nat → Nat → Nat) (v : Nat) : Nat := jSw T (jE T v) - jSw T v
theorem jTr_e {T : Nat → Nat → Nat} {N : Nat → Int} : ∀ {D v e : Nat}, jTr T N D v e → e = jE T v
  | 0, v, e, h => by
    unfold jE
    rw [if_neg (by have := h.2.1; omega)]
    exact h.1
  | D + 1, v, e, h => by
    unfold jE
    rcases h with h | ⟨⟨h, h7⟩, _⟩ | ⟨⟨h, h7⟩, _⟩
    · rw [if_neg (by have := h.2.1; omega)]
      exact h.1
    · rw [if_pos (by omega), h7]
    · rw [if_pos (by omega), h7]
