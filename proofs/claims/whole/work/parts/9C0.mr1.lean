/-! the reference's Text, read alone: words, names, members -/
def mT (c : Nat) (s : aT) (T : Nat → Nat → Nat) (N : Nat → Int) (m l : Nat) : Prop := (∀ i, i < m → gI s (c + 2) i = nI (T 0 i) ∧ gI s (c + 3) i = nI (T 1 i) ∧ gI s (c + 5) i = nI (if T 0 i = 0 then 0 else T 2 i) ∧ gI s (c + 6) i = zI (T 3 i) ∧ gI s (c + 7) i = zI (T 4 i) ∧ gL s (c + 4) i = if T 0 i = 2 then Int64.ofNat (T 5 i) else Int64.ofInt (N i)) ∧ ∀ i, i < l → gI s (c + 8) i = mI (T 6 i)
/-- a String constant and its letters -/
def sWd (w : Nat) (W : List Nat) : Prop := (1000 ≤ w ∧ w < 1080) ∧ sL (w - 1000) = W.length ∧ (∀ j, j < W.length → sB (w - 1000) j = nI (W.getD j 0)) ∧ (∀ j, j < W.length → W.getD j 0 < 128) ∧ W.length < 100
theorem sWd_ok : ∀ e ∈ [(1046, 0), (1047, 1), (1048, 2), (1049, 3), (1050, 4), (1051, 5), (1052, 12), (1053, 6), (1054, 7), (1055, 13), (1056, 14), (1057, 9), (1058, 10), (1059, 11), (1060, 15), (1061, 16), (1062, 17), (1063, 18), (1064, 19), (1003, 0), (1004, 1), (1005, 2), (1006, 3), (1007, 4), (1008, 5), (1009, 6), (1010, 7), (1011, 9), (1012, 10), (1013, 11), (1014, 8), (1015, 12), (1016, 13), (1017, 14), (1018, 15), (1019, 16), (1020, 17), (1021, 18), (1022, 19)], sWd e.1 (kWs e.2) := by
  unfold sWd
  decide +kernel
theorem cP_len {w : Nat} {W : List Nat} {K : Int32 → aRs} (h : sWd w W) : cP 900 [.ref w] K = K (nI W.length) := by
  refine cP_of ?_
  have e : aPrim 900 [.ref w] = if 1000 ≤ w ∧ w < 1080 then some (.int (nI (sL (w - 1000)))) else none := rfl
  rw [e, if_pos h.1, h.2.1]
theorem cP_chr {w j : Nat} {W : List Nat} {K : Int32 → aRs} (h : sWd w W) (hj : j < W.length) : cP 901 [.ref w, .int (nI j)] K = K (nI (W.getD j 0)) := by
  have h5 := h.2.2.2.2
  refine cP_of ?_
  have e : aPrim 901 [.ref w, .int (nI j)] = if (1000 ≤ w ∧ w < 1080) ∧ ¬ nI j < 0 ∧ (nI j).toNatClampNeg < sL (w - 1000) then some (.int (sB (w - 1000) (nI j).toNatClampNeg)) else none := rfl
  rw [e, nI_clamp (by omega), if_pos ⟨h.1, nI_pos (by omega), by rw [h.2.1]; exact hj⟩, h.2.2.1 j hj]
theorem bI_0 (b : Bool) : ((if b = true then (1 : Int32) else 0) = 0) = (b = false) := by
  cases b <;> simp
theorem bI_1 (b : Bool) : (¬ (if b = true then (1 : Int32) else 0) = 0) = (b = true) := by
  cases b <;> simp
theorem mI_leE {x k : Nat} (hx : x ≤ 256) (hk : k < 128) : (mI x ≤ nI k) = (x ≤ k ∨ 128 ≤ x) := by
  apply propext
  rw [Int32.le_iff_toInt_le, mI_toInt hx, nI_toInt (by omega)]
  repeat' split
  all_goals omega
/-- a value of the text: it lies in [v, e) -/
abbrev jVa (T : Nat → Nat → Nat) (N : Nat → Int) (m D v e : Nat) : Prop := jTr T N D v e ∧ e ≤ m
section
variable {c : Nat} {s : aT} {T : Nat → Nat → Nat} {N : Nat → Int} {m l n : Nat}
theorem jGt_s (h : jGt T N m l n) {u : Nat} (hu : u < m) (h2 : T 0 u = 2) : T 5 u + T 2 u ≤ l ∧ l ≤ 4096 ∧ m ≤ 4096 := ⟨h.2.2.2.1 u hu h2, h.2.1, h.1⟩
theorem mT_Z (h : mT c s T N m l) {i : Nat} (hi : i < m) (h0 : T 0 i ≠ 0) : gI s (c + 5) i = nI (T 2 i) := by
  rw [(h.1 i hi).2.2.1, if_neg h0]
theorem mT_S (h : mT c s T N m l) {i : Nat} (hi : i < m) (h0 : T 0 i = 2) : gL s (c + 4) i = Int64.ofNat (T 5 i) := by
  rw [(h.1 i hi).2.2.2.2.2, if_pos h0]
theorem mT_N (h : mT c s T N m l) {i : Nat} (hi : i < m) (h0 : T 0 i ≠ 2) : gL s (c + 4) i = Int64.ofInt (N i) := by
  rw [(h.1 i hi).2.2.2.2.2, if_neg h0]
theorem Mt_is0 (d : Nat) (hc : isT c) {w : Nat} {W : List Nat} (hw : sWd w W) (x z : Int32) : fMt_is_19 (d + 6) c x w 0 z s = rI 0 s := by
  refine eMt_is_19 d c _ _ _ _ _ hc _ ?_
  rw [cP_len hw, if_pos rfl]
  split
  · exact rZ0 s
  · exact rZ0 s
theorem Mt_is19 (d : Nat) (hc : isT c) (hT : mT c s T N m l) (hG : jGt T N m l n) {w : Nat} {W : List Nat} (hw : sWd w W) {v : Nat} (hv : v < m) (h2 : T 0 v = 2) (hz : T 2 v = W.length) : ∀ k j, j + k = W.length → fMt_is_19 (d + 6) c (nI v) w 1 (nI j) s = rI (if ∀ i, i < W.length → j ≤ i → T 6 (T 5 v + i) = W.getD i 0 then 1 else 0) s := by
  have h5 := hw.2.2.2.2
  have hs := jGt_s hG hv h2
  intro k
  induction k with
  | zero =>
    intro j hj
    refine eMt_is_19 d c _ _ _ _ _ hc _ ?_
    rw [cP_len hw]
    simp (disch := omega) only [nI_leE]
    rw [if_pos (by omega), if_pos (fun i a b => by omega)]
    exact rZ1 s
  | succ k ih =>
    intro j hj
    have hjl : j < W.length := by omega
    have hl := hG.2.2.1 (T 5 v + j) (by omega)
    have hw8 := hw.2.2.2.1 j hjl
    refine eMt_is_19 d c _ _ _ _ _ hc _ ?_
    rw [cP_len hw]
    simp (disch := omega) only [nI_leE]
    rw [if_neg (by omega), if_neg (by decide), ldL_n (by omega) (by omega), mT_S hT hv h2, long_nI, nI_addE, ldI_n (by omega) (by omega), hT.2 _ (by omega), cP_chr hw hjl]
    simp (disch := omega) only [mI_eqE]
    by_cases he : T 6 (T 5 v + j) = W.getD j 0
    · rw [if_neg (fun h => h he)]
      refine eMt_is_42 d c _ _ _ _ _ hc _ ?_
      rw [nI_add1, ih (j + 1) (by omega)]
      have : (∀ i, i < W.length → j ≤ i → T 6 (T 5 v + i) = W.getD i 0) ↔ (∀ i, i < W.length → j + 1 ≤ i → T 6 (T 5 v + i) = W.getD i 0) := by
        constructor
        · intro h i a b; exact h i a (by omega)
        · intro h i a b
          rcases Nat.lt_or_ge j i with g | g
          · exact h i a g
          · have : i = j := by omega
            rw [this]; exact he
      simp only [this]
      rfl
    · rw [if_pos he, if_neg (fun h => he (h j hjl (Nat.le_refl _)))]
      refine eMt_is_42 d c _ _ _ _ _ hc _ ?_
      rw [Mt_is0 d hc hw]
      rfl
theorem Mt_is (d : Nat) (hc : isT c) (hT : mT c s T N m l) (hG : jGt T N m l n) {w : Nat} {W : List Nat} (hw : sWd w W) {v : Nat} (hv : v < m) (hk : T 0 v ≤ 6) : fMt_is (d + 6) c (nI v) w s = rI (if jTw T v W then 1 else 0) s := by
  have h5 := hw.2.2.2.2
  have hm := hG.1
  have h15 : fMt_is_15 (d + 6) c (nI v) w s = rI 0 s := by
    refine eMt_is_15 d c _ _ _ hc _ ?_
    refine eMt_is_16 d c _ _ _ _ hc _ ?_
    exact Mt_is0 d hc hw _ _
  refine eMt_is d c _ _ _ hc _ ?_
  rw [ldI_n (by omega) (by omega), (hT.1 v hv).1]
  simp (disch := omega) only [nI_lit 2, nI_eqE]
  unfold jTw jTb
  by_cases h2 : T 0 v = 2
  · have hs := jGt_s hG hv h2
    rw [if_neg (fun h => h h2), ldI_n (by omega) (by omega), mT_Z hT hv (by omega), cP_len hw]
    simp (disch := omega) only [nI_eqE]
    by_cases hz : T 2 v = W.length
    · rw [if_neg (fun h => h hz)]
      refine eMt_is_16 d c _ _ _ _ hc _ ?_
      have := Mt_is19 d hc hT hG hw hv h2 hz W.length 0 (by omega)
      rw [show (0 : Int32) = nI 0 from rfl, this]
      have e : (∀ i, i < W.length → 0 ≤ i → T 6 (T 5 v + i) = W.getD i 0) ↔ (T 0 v = 2 ∧ T 2 v = W.length ∧ ∀ i, i < W.length → T 6 (T 5 v + i) = W.getD i 0) := ⟨fun h => ⟨h2, hz, fun i a => h i a (Nat.zero_le _)⟩, fun h i a _ => h.2.2 i a⟩
      simp only [e, decide_eq_true_eq]
      rfl
    · rw [if_pos hz, h15, if_neg (by simp; intro _ h; exact absurd h hz)]
      rfl
  · rw [if_pos h2, h15, if_neg (by simp; intro h; exact absurd h h2)]
    rfl
/-- two strings of two texts -/
theorem Mt_sm (d : Nat) (hc : isT c) (hT : mT c s T N m l) (hG : jGt T N m l n) {x y : Nat} (hx : x < m) (hy : y < m) (kx : T 0 x = 2) (ky : T 0 y = 2) : fMt_same d c (nI x) c (nI y) s = rI (if jSm T x y then 1 else 0) s := by
  have hsx := jGt_s hG hx kx
  have hsy := jGt_s hG hy ky
  have h := Mt_same hc hc d (s := s) (x := x) (y := y) (la := T 2 x) (lb := T 2 y) (sa := T 5 x) (sb := T 5 y) (LA := fun i => T 6 (T 5 x + i)) (LB := fun i => T 6 (T 5 y + i)) (by omega) (by omega) (mT_Z hT hx (by omega)) (mT_Z hT hy (by omega)) (mT_S hT hx kx) (mT_S hT hy ky) (fun i hi => hT.2 _ (by omega)) (fun i hi => hT.2 _ (by omega)) (by omega) (by omega) (fun i hi => hG.2.2.1 _ (by omega)) (fun i hi => hG.2.2.1 _ (by omega))
  rw [h]
  unfold jSm
  simp only [decide_eq_true_eq]
/-- the six words -/
theorem Mt_word6 (d : Nat) (hc : isT c) (hT : mT c s T N m l) (hG : jGt T N m l n) {v : Nat} (hv : v < m) (hk : T 0 v ≤ 6) : fMt_word (d + 7) c (nI v) s = rI (zI (kWd T v)) s := by
  have e : ∀ w k, (w, k) ∈ [(1046, 0), (1047, 1), (1048, 2), (1049, 3), (1050, 4), (1051, 5), (1052, 12), (1053, 6), (1054, 7), (1055, 13), (1056, 14), (1057, 9), (1058, 10), (1059, 11), (1060, 15), (1061, 16), (1062, 17), (1063, 18), (1064, 19), (1003, 0), (1004, 1), (1005, 2), (1006, 3), (1007, 4), (1008, 5), (1009, 6), (1010, 7), (1011, 9), (1012, 10), (1013, 11), (1014, 8), (1015, 12), (1016, 13), (1017, 14), (1018, 15), (1019, 16), (1020, 17), (1021, 18), (1022, 19)] → fMt_is (d + 6) c (nI v) w s = rI (if jTw T v (kWs k) then 1 else 0) s := fun w k h => Mt_is d hc hT hG (sWd_ok _ h) hv hk
  refine eMt_word (d + 6) c _ _ hc _ ?_
  have e0 := e 1046 0 (by decide)
  have e1 := e 1047 1 (by decide)
  have e2 := e 1048 2 (by decide)
  have e3 := e 1049 3 (by decide)
  have e4 := e 1050 4 (by decide)
  have e5 := e 1051 5 (by decide)
  unfold kWd
  simp only [e0, e1, e2, e3, e4, e5, cG_I, bI_0, kFr]
  simp only [Nat.zero_add, Nat.reduceAdd]
  by_cases h0 : jTw T v (kWs 0) = true
  · simp only [h0, Bool.true_eq_false, Bool.false_eq_true, if_true, if_false]
    rfl
  rw [Bool.not_eq_true] at h0
  by_cases h1 : jTw T v (kWs 1) = true
  · simp only [h0, h1, Bool.true_eq_false, Bool.false_eq_true, if_true, if_false]
    rfl
  rw [Bool.not_eq_true] at h1
  by_cases h2 : jTw T v (kWs 2) = true
  · simp only [h0, h1, h2, Bool.true_eq_false, Bool.false_eq_true, if_true, if_false]
    rfl
  rw [Bool.not_eq_true] at h2
  by_cases h3 : jTw T v (kWs 3) = true
  · simp only [h0, h1, h2, h3, Bool.true_eq_false, Bool.false_eq_true, if_true, if_false]
    rfl
  rw [Bool.not_eq_true] at h3
  by_cases h4 : jTw T v (kWs 4) = true
  · simp only [h0, h1, h2, h3, h4, Bool.true_eq_false, Bool.false_eq_true, if_true, if_false]
    rfl
  rw [Bool.not_eq_true] at h4
  by_cases h5 : jTw T v (kWs 5) = true
  · simp only [h0, h1, h2, h3, h4, h5, Bool.true_eq_false, Bool.false_eq_true, if_true, if_false]
    rfl
  rw [Bool.not_eq_true] at h5
  simp only [h0, h1, h2, h3, h4, h5, Bool.false_eq_true, if_true, if_false]
  rfl
end
