/-! the reference's Text, read alone: members, names -/
section
variable {c : Nat} {s : aT} {T : Nat → Nat → Nat} {N : Nat → Int} {m l n : Nat}
theorem Mt_mem5 (d : Nat) (hc : isT c) (hT : mT c s T N m l) (hG : jGt T N m l n) {w : Nat} {W : List Nat} (hw : sWd w W) {D e : Nat} (he : e ≤ m) : ∀ k lo cur, jTm T (jTr T N D) k lo e cur → fMt_member_5 (d + 7) c w (zI cur) s = rI (zI (if jFd T (fun k => jTw T k W) k cur = 0 then 0 else T 4 (jFd T (fun k => jTw T k W) k cur - 1))) s := by
  have hm := hG.1
  intro k
  induction k with
  | zero =>
    intro lo cur h
    have h : cur = 0 := h.1
    subst h
    refine eMt_member_5 (d + 6) c _ _ _ hc _ ?_
    rw [if_pos (by decide)]
    rfl
  | succ k ih =>
    intro lo cur h
    obtain ⟨h1, h2, h3, e1, h4, h5⟩ := h
    have a1 := jTr_lt D _ _ h4
    have a2 := jTm_lt (fun a b => jTr_lt D a b) _ _ _ _ h5
    subst h1
    refine eMt_member_5 (d + 6) c _ _ _ hc _ ?_
    have his := Mt_is d hc hT hG hw (v := lo) (by omega) (by omega)
    rw [zI_S, if_neg (nI_pos (by omega)), his, cG_I]
    have ej : jFd T (fun k => jTw T k W) (k + 1) (lo + 1) = if jTw T lo W = true then lo + 1 else jFd T (fun k => jTw T k W) k (T 4 (T 4 lo - 1)) := by
      show (if lo + 1 = 0 then 0 else if jTw T (lo + 1 - 1) W = true then lo + 1 else jFd T (fun k => jTw T k W) k (T 4 (T 4 (lo + 1 - 1) - 1))) = _
      rw [if_neg (by omega), Nat.add_sub_cancel]
    rw [ej]
    by_cases hw : jTw T lo W = true
    · rw [if_neg (by rw [hw]; decide), if_pos hw, ldI_n (by omega) (by omega), (hT.1 lo (by omega)).2.2.2.2.1, if_neg (by omega)]
      rfl
    · rw [if_pos (by rw [if_neg hw]), if_neg hw, ldI_n (by omega) (by omega), (hT.1 lo (by omega)).2.2.2.2.1, h3, zI_S, ldI_n (by omega) (by omega), (hT.1 (lo + 1) (by omega)).2.2.2.2.1]
      exact ih _ _ h5
theorem Mt_member (d : Nat) (hc : isT c) (hT : mT c s T N m l) (hG : jGt T N m l n) {w : Nat} {W : List Nat} (hw : sWd w W) {D v e : Nat} (hv : jVa T N m D v e) (h0 : T 0 v = 0) : fMt_member (d + 7) c (nI v) w s = rI (zI (kMb T v W)) s := by
  have hm := hG.1
  have hlt := jTr_lt D _ _ hv.1
  obtain ⟨hv, he⟩ := hv
  refine eMt_member (d + 6) c _ _ _ hc _ ?_
  rw [ldI_n (by omega) (by omega), (hT.1 v (by omega)).2.2.2.1]
  cases D with
  | zero =>
    have := hv.2.1
    omega
  | succ D =>
    rcases hv with h | ⟨h, _⟩ | ⟨_, k, hk, h⟩
    · have := h.2.1
      omega
    · omega
    · unfold kMb kMv
      rw [hk, Nat.mul_div_cancel_left k (by omega)]
      exact Mt_mem5 d hc hT hG hw he _ _ _ h
theorem Mt_ml5 (d : Nat) (hc : isT c) (hT : mT c s T N m l) (hG : jGt T N m l n) {x : Nat} (hx : x < m) (kx : T 0 x = 2) {D e : Nat} (he : e ≤ m) : ∀ k lo cur, jTm T (jTr T N D) k lo e cur → fMt_memberLike_5 (d + 1) c (nI x) (zI cur) s = rI (zI (if jFd T (fun k => jSm T k x) k cur = 0 then 0 else T 4 (jFd T (fun k => jSm T k x) k cur - 1))) s := by
  have hm := hG.1
  intro k
  induction k with
  | zero =>
    intro lo cur h
    have h : cur = 0 := h.1
    subst h
    refine eMt_memberLike_5 d c _ _ _ hc _ ?_
    rw [if_pos (by decide)]
    rfl
  | succ k ih =>
    intro lo cur h
    obtain ⟨h1, h2, h3, e1, h4, h5⟩ := h
    have a1 := jTr_lt D _ _ h4
    have a2 := jTm_lt (fun a b => jTr_lt D a b) _ _ _ _ h5
    subst h1
    refine eMt_memberLike_5 d c _ _ _ hc _ ?_
    have his := Mt_sm d hc hT hG (x := lo) (y := x) (by omega) hx h2 kx
    rw [zI_S, if_neg (nI_pos (by omega)), his, cG_I]
    have ej : jFd T (fun k => jSm T k x) (k + 1) (lo + 1) = if jSm T lo x = true then lo + 1 else jFd T (fun k => jSm T k x) k (T 4 (T 4 lo - 1)) := by
      show (if lo + 1 = 0 then 0 else if jSm T (lo + 1 - 1) x = true then lo + 1 else jFd T (fun k => jSm T k x) k (T 4 (T 4 (lo + 1 - 1) - 1))) = _
      rw [if_neg (by omega), Nat.add_sub_cancel]
    rw [ej]
    by_cases hw : jSm T lo x = true
    · rw [if_neg (by rw [hw]; decide), if_pos hw, ldI_n (by omega) (by omega), (hT.1 lo (by omega)).2.2.2.2.1, if_neg (by omega)]
      rfl
    · rw [if_pos (by rw [if_neg hw]), if_neg hw, ldI_n (by omega) (by omega), (hT.1 lo (by omega)).2.2.2.2.1, h3, zI_S, ldI_n (by omega) (by omega), (hT.1 (lo + 1) (by omega)).2.2.2.2.1]
      exact ih _ _ h5
theorem Mt_memberLike (d : Nat) (hc : isT c) (hT : mT c s T N m l) (hG : jGt T N m l n) {x : Nat} (hx : x < m) (kx : T 0 x = 2) {D v e : Nat} (hv : jVa T N m D v e) (h0 : T 0 v = 0) : fMt_memberLike (d + 1) c (nI v) (nI x) s = rI (zI (kMl T v x)) s := by
  have hm := hG.1
  have hlt := jTr_lt D _ _ hv.1
  obtain ⟨hv, he⟩ := hv
  refine eMt_memberLike d c _ _ _ hc _ ?_
  rw [ldI_n (by omega) (by omega), (hT.1 v (by omega)).2.2.2.1]
  cases D with
  | zero =>
    have := hv.2.1
    omega
  | succ D =>
    rcases hv with h | ⟨h, _⟩ | ⟨_, k, hk, h⟩
    · have := h.2.1
      omega
    · omega
    · unfold kMl kMv
      rw [hk, Nat.mul_div_cancel_left k (by omega)]
      exact Mt_ml5 d hc hT hG hx kx he _ _ _ h
theorem Mt_nam0 (d : Nat) (hc : isT c) (hm : m ≤ 4096) {v : Nat} (hv : v < m) (z : Int32) : fMt_isName_23 d c (nI v) 0 z s = rI 0 s := by
  refine eMt_isName_23 d c _ _ _ _ hc _ ?_
  rw [ldI_n (by omega) (by omega), if_pos rfl]
  split
  · exact rZ0 s
  · exact rZ0 s
theorem Mt_namS (d : Nat) (hc : isT c) (hT : mT c s T N m l) (hG : jGt T N m l n) {v : Nat} (hv : v < m) (h2 : T 0 v = 2) {j : Nat} (hj : j < T 2 v) {r : aOut × aT} (hr : fMt_isName_23 d c (nI v) (if kLt (T 6 (T 5 v + j)) j then 1 else 0) (nI (j + 1)) s = some r) : fMt_isName_23 d c (nI v) 1 (nI j) s = some r := by
  have hs := jGt_s hG hv h2
  have hb := hG.2.2.1 (T 5 v + j) (by omega)
  refine eMt_isName_23 d c _ _ _ _ hc _ ?_
  rw [ldI_n (by omega) (by omega), mT_Z hT hv (by omega)]
  simp (disch := omega) only [nI_leE]
  rw [if_neg (by omega), if_neg (by decide), ldL_n (by omega) (by omega), mT_S hT hv h2, long_nI, nI_addE, ldI_n (by omega) (by omega), hT.2 _ (by omega)]
  generalize T 6 (T 5 v + j) = b at *
  have h74 : ∀ u r, fMt_isName_23 d c (nI v) u (nI (j + 1)) s = some r → fMt_isName_74 d c (nI v) (nI j) u s = some r := fun u r hr => eMt_isName_74 d c _ _ _ _ hc _ (by rw [nI_add1]; exact hr)
  have h71 : kLt b j → fMt_isName_71 d c (nI v) (nI j) s = some r := fun h => eMt_isName_71 d c _ _ _ hc _ (h74 1 r (by rw [if_pos h] at hr; exact hr))
  have h73 : ¬ kLt b j → fMt_isName_73 d c (nI v) (nI j) s = some r := fun h => eMt_isName_73 d c _ _ _ hc _ (h74 0 r (by rw [if_neg h] at hr; exact hr))
  have h64 : ∀ u : Int32, (u = 1 ∧ 48 ≤ b ∧ b ≤ 57 ∨ u = 0 ∧ ¬ (48 ≤ b ∧ b ≤ 57)) → ¬ (97 ≤ b ∧ b ≤ 122) → ¬ (65 ≤ b ∧ b ≤ 90) → fMt_isName_64 d c (nI v) (nI j) (mI b) u s = some r := by
    intro u hu h1 h2
    refine eMt_isName_64 d c _ _ _ _ _ hc _ ?_
    simp (disch := omega) only [nI_lit 95, mI_eqE]
    by_cases h95 : b = 95
    · rw [if_pos h95]
      exact h71 (by unfold kLt; omega)
    · rw [if_neg h95]
      rcases hu with ⟨hu, hd⟩ | ⟨hu, hd⟩
      · subst hu
        rw [if_neg (by decide), show (0 : Int32) = nI 0 from rfl]
        simp (disch := omega) only [nI_leE]
        by_cases hj0 : j ≤ 0
        · rw [if_pos hj0]
          exact h73 (by unfold kLt; omega)
        · rw [if_neg hj0]
          exact h71 (by unfold kLt; omega)
      · subst hu
        rw [if_pos rfl]
        exact h73 (by unfold kLt; omega)
  have h58 : ∀ u : Int32, (u = 1 ∧ 48 ≤ b ∧ b ≤ 57 ∨ u = 0 ∧ ¬ (48 ≤ b ∧ b ≤ 57)) → ¬ (97 ≤ b ∧ b ≤ 122) → fMt_isName_58 d c (nI v) (nI j) (mI b) u s = some r := by
    intro u hu h1
    refine eMt_isName_58 d c _ _ _ _ _ hc _ ?_
    simp (disch := omega) only [nI_lit 65, nI_lit 90, mI_ltE, mI_leE]
    by_cases a1 : b < 65 ∨ 128 ≤ b
    · rw [if_pos a1]
      exact h64 u hu h1 (by omega)
    · rw [if_neg a1]
      by_cases a2 : b ≤ 90 ∨ 128 ≤ b
      · rw [if_pos a2]
        exact h71 (by unfold kLt; omega)
      · rw [if_neg a2]
        exact h64 u hu h1 (by omega)
  have h51 : ∀ u : Int32, (u = 1 ∧ 48 ≤ b ∧ b ≤ 57 ∨ u = 0 ∧ ¬ (48 ≤ b ∧ b ≤ 57)) → fMt_isName_51 d c (nI v) (nI j) (mI b) u s = some r := by
    intro u hu
    refine eMt_isName_51 d c _ _ _ _ _ hc _ ?_
    simp (disch := omega) only [nI_lit 97, nI_lit 122, mI_ltE, mI_leE]
    by_cases a1 : b < 97 ∨ 128 ≤ b
    · rw [if_pos a1]
      exact h58 u hu (by omega)
    · rw [if_neg a1]
      by_cases a2 : b ≤ 122 ∨ 128 ≤ b
      · rw [if_pos a2]
        exact h71 (by unfold kLt; omega)
      · rw [if_neg a2]
        exact h58 u hu (by omega)
  have h50 : ¬ (48 ≤ b ∧ b ≤ 57) → fMt_isName_50 d c (nI v) (nI j) (mI b) s = some r := fun h => eMt_isName_50 d c _ _ _ _ hc _ (h51 0 (.inr ⟨rfl, h⟩))
  simp (disch := omega) only [nI_lit 48, nI_lit 57, mI_ltE, mI_gtE]
  by_cases a1 : b < 48 ∨ 128 ≤ b
  · rw [if_pos a1]
    exact h50 (by omega)
  · rw [if_neg a1]
    by_cases a2 : 57 < b ∧ b < 128
    · rw [if_pos a2]
      exact h50 (by omega)
    · rw [if_neg a2]
      exact h51 1 (.inl ⟨rfl, by omega⟩)
theorem Mt_nam23 (d : Nat) (hc : isT c) (hT : mT c s T N m l) (hG : jGt T N m l n) {v : Nat} (hv : v < m) (h2 : T 0 v = 2) : ∀ k j, j + k = T 2 v → fMt_isName_23 d c (nI v) 1 (nI j) s = rI (if ∀ i, i < T 2 v → j ≤ i → kLt (T 6 (T 5 v + i)) i then 1 else 0) s := by
  have hs := jGt_s hG hv h2
  intro k
  induction k with
  | zero =>
    intro j hj
    refine eMt_isName_23 d c _ _ _ _ hc _ ?_
    rw [ldI_n (by omega) (by omega), mT_Z hT hv (by omega)]
    simp (disch := omega) only [nI_leE]
    rw [if_pos (by omega), if_pos (fun i a b => by omega)]
    exact rZ1 s
  | succ k ih =>
    intro j hj
    refine Mt_namS d hc hT hG hv h2 (j := j) (by omega) ?_
    by_cases he : kLt (T 6 (T 5 v + j)) j
    · rw [if_pos he, ih (j + 1) (by omega)]
      have : (∀ i, i < T 2 v → j ≤ i → kLt (T 6 (T 5 v + i)) i) ↔ (∀ i, i < T 2 v → j + 1 ≤ i → kLt (T 6 (T 5 v + i)) i) := by
        constructor
        · intro h i a b; exact h i a (by omega)
        · intro h i a b
          rcases Nat.lt_or_ge j i with g | g
          · exact h i a g
          · have : i = j := by omega
            rw [this]; exact he
      simp only [this]
      rfl
    · rw [if_neg he, if_neg (fun h => he (h j (by omega) (Nat.le_refl _))), Mt_nam0 d hc hG.1 hv]
      rfl
theorem Mt_isName (d : Nat) (hc : isT c) (hT : mT c s T N m l) (hG : jGt T N m l n) {v : Nat} (hv : v < m) (hk : T 0 v ≤ 6) : fMt_isName d c (nI v) s = rI (if kNam T v then 1 else 0) s := by
  have hm := hG.1
  have h19 : fMt_isName_19 d c (nI v) s = rI 0 s := by
    refine eMt_isName_19 d c _ _ hc _ ?_
    refine eMt_isName_20 d c _ _ _ hc _ ?_
    exact Mt_nam0 d hc hm hv _
  refine eMt_isName d c _ _ hc _ ?_
  rw [ldI_n (by omega) (by omega), (hT.1 v hv).1]
  simp (disch := omega) only [nI_lit 2, nI_eqE]
  unfold kNam
  by_cases h2 : T 0 v = 2
  · have hs := jGt_s hG hv h2
    rw [if_neg (fun h => h h2), ldI_n (by omega) (by omega), mT_Z hT hv (by omega), show (0 : Int32) = nI 0 from rfl]
    simp (disch := omega) only [nI_lit 33, nI_leE]
    by_cases h0 : T 2 v ≤ 0
    · rw [if_pos h0, h19, if_neg (by simp; omega)]
      rfl
    · rw [if_neg h0, ldI_n (by omega) (by omega), mT_Z hT hv (by omega)]
      simp (disch := omega) only [nI_leE]
      by_cases h3 : 33 ≤ T 2 v
      · rw [if_pos h3, h19, if_neg (by simp; omega)]
        rfl
      · rw [if_neg h3]
        refine eMt_isName_20 d c _ _ _ hc _ ?_
        have := Mt_nam23 d hc hT hG hv h2 (T 2 v) 0 (by omega)
        rw [show (0 : Int32) = nI 0 from rfl, this]
        have e : (∀ i, i < T 2 v → 0 ≤ i → kLt (T 6 (T 5 v + i)) i) ↔ (T 0 v = 2 ∧ 0 < T 2 v ∧ T 2 v < 33 ∧ ∀ i, i < T 2 v → kLt (T 6 (T 5 v + i)) i) := ⟨fun h => ⟨h2, by omega, by omega, fun i a => h i a (Nat.zero_le _)⟩, fun h i a _ => h.2.2.2 i a⟩
        simp only [e, decide_eq_true_eq]
        rfl
  · rw [if_pos h2, h19, if_neg (by simp; intro h; exact absurd h h2)]
    rfl
end
