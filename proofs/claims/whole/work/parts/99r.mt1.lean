/-! the reference's Text: signs -/
def mB0 (c : Nat) (s : aT) (B : Nat → Nat) (n : Nat) : Prop := n ≤ 4096 ∧ gI s c 1 = nI n ∧ (∀ i, i < n → gI s (c + 1) i = mI (B i)) ∧ ∀ i, B i < 256
theorem mB0_pI {c : Nat} {s : aT} {B : Nat → Nat} {n f : Nat} {v : Int32} (h : mB0 c s B n) (hf : f ≠ 1) : mB0 c (pI s c f v) B n := by
  refine ⟨h.1, ?_, fun i hi => ?_, h.2.2.2⟩
  · rw [gI_pI, if_neg (by omega)]; exact h.2.1
  · rw [gI_pI, if_neg (by omega)]; exact h.2.2.1 i hi
section
variable {c : Nat} {p : jP} {s : aT} {B : Nat → Nat} {n : Nat}
theorem Mt_look (d : Nat) (hc : isT c) (hB : mB0 c s B n) (hp : p.1 ≤ n) : fMt_look d c (mJ c p s) = rI (mI (jBt B n p.1)) (mJ c p s) := by
  have hn := hB.1
  refine eMt_look d c _ hc _ ?_
  rw [mJ_f (by omega), hB.2.1, mJ_at]
  simp (disch := omega) only [nI_leE]
  by_cases h : n ≤ p.1
  · have e : jBt B n p.1 = 256 := by unfold jBt; rw [if_neg (by omega)]
    rw [if_pos h, e]
    rfl
  · rw [if_neg h, ldI_n (by omega) (by omega), mJ_1, hB.2.2.1 _ (by omega)]
    unfold jBt
    rw [if_pos (by omega)]
    rfl
theorem Mt_fail (d : Nat) (hc : isT c) (x y : Int32) : fMt_fail d c x y (mJ c p s) = rT 0 (mJ c p (pU (pI (pI s c 4 x) c 5 y))) := by
  refine eMt_fail d c x y _ hc _ ?_
  simp only [wI_eq]
  rw [mJ_pI (by omega), mJ_pI (by omega)]
  rfl
theorem Mt_need1 (d : Nat) (hc : isT c) (x y : Int32) {t : aT} : fMt_need (d + 1) c 1 x y t = rV t := by
  refine eMt_need d c 1 x y _ hc _ ?_
  rfl
theorem Mt_need0 (d : Nat) (hc : isT c) (x y : Int32) : fMt_need (d + 1) c 0 x y (mJ c p s) = rT 0 (mJ c p (pU (pI (pI s c 4 x) c 5 y))) := by
  refine eMt_need d c 0 x y _ hc _ ?_
  rw [if_neg (by decide), Mt_fail d hc, cG_T]
  rfl
/-- the state when a reading has failed -/
def mX (c : Nat) (p : jP) (s : aT) (e : Nat) : aT := mJ c p (pU (pI (pI s c 4 1) c 5 (nI e)))
theorem Mt_blanks (hc : isT c) (hB : mB0 c s B n) : ∀ f a, n ≤ a + f → a ≤ n → ∀ d, fMt_blanks (d + 1) c (mJ c (jTo p a) s) = rV (mJ c (jTo p (jSk B n a)) s) := by
  intro f
  induction f with
  | zero =>
    intro a h1 h2 d
    have ha : ¬ jBl (jBt B n a) := by
      unfold jBt; rw [if_neg (by omega)]; unfold jBl; omega
    refine eMt_blanks d c _ hc _ ?_
    have hb := jBt_le (n := n) (a := a) hB.2.2.2
    have hl : ∀ d, fMt_look d c (mJ c (jTo p a) s) = rI (mI (jBt B n a)) (mJ c (jTo p a) s) := fun d => Mt_look d hc hB h2
    simp (disch := omega) only [hl, cG_I, nI_lit, mI_eqE]
    unfold jBl at ha
    rw [if_neg (by omega), if_neg (by omega), if_neg (by omega), if_pos (by omega), jSk_eq h2, if_neg ha]
    rfl
  | succ f ih =>
    intro a h1 h2 d
    refine eMt_blanks d c _ hc _ ?_
    have hb := jBt_le (n := n) (a := a) hB.2.2.2
    have hl : ∀ d, fMt_look d c (mJ c (jTo p a) s) = rI (mI (jBt B n a)) (mJ c (jTo p a) s) := fun d => Mt_look d hc hB h2
    simp (disch := omega) only [hl, cG_I, nI_lit, mI_eqE]
    by_cases ha : jBl (jBt B n a)
    · have hlt := jBt_lt (B := B) (n := n) (a := a) rfl (by unfold jBl at ha; omega)
      have h16 : fMt_blanks_16 (d + 1) c (mJ c (jTo p a) s) = rV (mJ c (jTo p (jSk B n a)) s) := by
        refine eMt_blanks_16 d c _ hc _ ?_
        rw [wI_eq, mJ_at, nI_add1, mJ_to]
        rw [jSk_eq h2, if_pos ha]
        exact ih (a + 1) (by omega) hlt d
      rw [h16]
      unfold jBl at ha
      repeat' split
      all_goals first
        | rfl
        | omega
    · unfold jBl at ha
      rw [if_neg (by omega), if_neg (by omega), if_neg (by omega), if_pos (by omega), jSk_eq h2, if_neg ha]
      rfl
theorem Mt_bl (d : Nat) (hc : isT c) (hB : mB0 c s B n) (h : p.1 ≤ n) : fMt_blanks (d + 1) c (mJ c p s) = rV (mJ c (jTo p (jSk B n p.1)) s) := Mt_blanks (p := p) hc hB n p.1 (by omega) h d
theorem Mt_take1 (d : Nat) (hc : isT c) (hB : mB0 c s B n) (hp : p.1 ≤ n) {k : Nat} (hk : k < 128) (h : jBt B n p.1 = k) : fMt_take (d + 2) c (nI k) (mJ c p s) = rV (mJ c (jTo p (p.1 + 1)) s) := by
  have hb := jBt_le (n := n) (a := p.1) hB.2.2.2
  refine eMt_take (d + 1) c _ _ hc _ ?_
  rw [Mt_look (d + 1) hc hB hp, cG_I]
  simp (disch := omega) only [mI_eqE]
  rw [if_neg (by omega)]
  refine eMt_take_8 (d + 1) c _ _ hc _ ?_
  rw [Mt_need1 d hc, cG_V, wI_eq, mJ_at, nI_add1, mJ_to]
  rfl
theorem Mt_take0 (d : Nat) (hc : isT c) (hB : mB0 c s B n) (hp : p.1 ≤ n) {k : Nat} (hk : k < 128) (h : jBt B n p.1 ≠ k) : fMt_take (d + 2) c (nI k) (mJ c p s) = rT 0 (mX c p s p.1) := by
  have hb := jBt_le (n := n) (a := p.1) hB.2.2.2
  refine eMt_take (d + 1) c _ _ hc _ ?_
  rw [Mt_look (d + 1) hc hB hp, cG_I]
  simp (disch := omega) only [mI_eqE]
  rw [if_pos (by omega)]
  refine eMt_take_8 (d + 1) c _ _ hc _ ?_
  rw [mJ_at, Mt_need0 d hc, cG_T]
  rfl
theorem Mt_node (d : Nat) (hc : isT c) (k : Nat) (hp : p.2.1 < 4200) : fMt_node d c (nI k) (mJ c p s) = rI (nI p.2.1) (mJ c (jNd k p) s) := by
  refine eMt_node d c _ _ hc _ ?_
  simp (disch := omega) [mJ_n, stI_n, stL_n, gI_pI, gI_pL, wI_eq, mJ_at]
  rw [mJ_nd]
  rw [pI_pI, pI_self (by rw [mJ_n, nI_add1]; rfl)]
  rfl
end
