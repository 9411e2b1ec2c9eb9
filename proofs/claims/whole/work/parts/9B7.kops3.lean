/-! PURE: branches, symbols, fields, items -/
section
variable {T : Nat → Nat → Nat} {m s x dv : Nat} {q0 q : kP}
theorem kAk_r {r s' : Nat} (hr : r ≤ 13 ∨ r = 18) (h : s' ≠ s ∨ r ≠ 4 ∧ r ≠ 13) : (kAk s q).2.1 r s' = q.2.1 r s' := by
  rw [kAk_Q]; repeat' rw [if_neg (by omega)]
theorem kAk_4 : (kAk s q).2.1 4 s = q.2.1 4 s + 1 := by
  rw [kAk_Q, if_neg (by omega), if_neg (by omega), if_neg (by omega), if_pos ⟨rfl, rfl⟩]
theorem kAk_13 : (kAk s q).2.1 13 s = if q.2.1 4 s = 0 then q.1 2 + 1 else q.2.1 13 s := by
  rw [kAk_Q, if_neg (by omega), if_neg (by omega), if_neg (by omega), if_neg (by omega)]
  by_cases hz : q.2.1 4 s = 0
  · rw [if_pos ⟨rfl, rfl, hz⟩, if_pos hz]
  · rw [if_neg (fun e => hz e.2.2), if_neg (by omega), if_neg hz]
theorem kAk_k {r k : Nat} (h1 : 20 ≤ r) (h2 : r ≤ 25) (hk : k < q.1 2) (h : r ≠ 23 ∨ q.2.1 4 s = 0 ∨ k ≠ q.2.2 0 s (q.2.1 4 s - 1)) : (kAk s q).2.1 r k = q.2.1 r k := by
  rw [kAk_Q]; repeat' rw [if_neg (by omega)]
theorem kAk_23 (hk : q.2.2 0 s (q.2.1 4 s - 1) < q.1 2) (h : q.2.1 4 s ≠ 0) : (kAk s q).2.1 23 (q.2.2 0 s (q.2.1 4 s - 1)) = q.1 2 + 1 := by
  rw [kAk_Q, if_neg (by omega), if_neg (by omega), if_neg (by omega), if_neg (by omega), if_neg (by omega), if_pos ⟨rfl, h, rfl⟩]
theorem kAk_n {r : Nat} (h : r = 20 ∨ r = 21 ∨ r = 22 ∨ r = 23) : (kAk s q).2.1 r (q.1 2) = 0 := by
  rw [kAk_Q, if_pos ⟨rfl, h⟩]
theorem kAk_24 : (kAk s q).2.1 24 (q.1 2) = s := by rw [kAk_Q, if_neg (by omega), if_pos ⟨rfl, rfl⟩]
theorem kAk_25 : (kAk s q).2.1 25 (q.1 2) = q.2.1 4 s := by rw [kAk_Q, if_neg (by omega), if_neg (by omega), if_pos ⟨rfl, rfl⟩]
theorem kAk_o {r k : Nat} (h : r = 15 ∨ r = 27 ∨ r = 16 ∨ r = 17 ∨ r = 19 ∨ 30 ≤ r) : (kAk s q).2.1 r k = q.2.1 r k := by
  rw [kAk_Q]; repeat' rw [if_neg (by omega)]
theorem kAk_X0 : (kAk s q).2.2 0 s (q.2.1 4 s) = q.1 2 := by rw [kAk_X, if_pos ⟨rfl, rfl, by omega⟩, if_pos rfl]
theorem kAk_Xz {r : Nat} (h : 0 < r ∧ r ≤ 3) : (kAk s q).2.2 r s (q.2.1 4 s) = 0 := by rw [kAk_X, if_pos ⟨rfl, rfl, h.2⟩, if_neg (by omega)]
theorem kAk_Xo {r s' i : Nat} (h : s' ≠ s ∨ i ≠ q.2.1 4 s) : (kAk s q).2.2 r s' i = q.2.2 r s' i := by rw [kAk_X, if_neg (by omega)]
theorem kSs_Q {i r j : Nat} : (kSs s i x q).2.1 r j = if r = 30 ∧ j = q.2.1 6 s + i then x + 1 else if r = 20 ∧ j = q.2.2 0 s i then x + 1 else q.2.1 r j := by
  unfold kSs; rw [kX_Q, kQ_Q, kQ_Q]
theorem kSs_X {i r s' j : Nat} : (kSs s i x q).2.2 r s' j = if r = 1 ∧ s' = s ∧ j = i then x + 1 else q.2.2 r s' j := by
  unfold kSs; rw [kX_X, kQ_X, kQ_X]
theorem kSs_1 {i : Nat} : (kSs s i x q).1 = q.1 := rfl
theorem kSn_Q {i r j : Nat} : (kSn T s i x q).2.1 r j = if r = 31 ∧ j = q.2.1 6 s + i then q.1 6 + 1 else if r = 21 ∧ j = q.2.2 0 s i then x + 1 else (kPn T x q).2.1 r j := by
  unfold kSn; rw [kX_Q, kX_Q, kQ_Q, kQ_Q]
theorem kSn_X {i r s' j : Nat} : (kSn T s i x q).2.2 r s' j = if r = 4 ∧ s' = s ∧ j = i then q.1 6 else if r = 2 ∧ s' = s ∧ j = i then x + 1 else q.2.2 r s' j := by
  unfold kSn; rw [kX_X, kX_X, kQ_X, kQ_X, kPn_X]
theorem kSn_1 {i : Nat} : (kSn T s i x q).1 = (kPn T x q).1 := rfl
theorem kSd_Q {i r j : Nat} : (kSd s i dv q).2.1 r j = if r = 22 ∧ j = q.2.2 0 s i then dv else q.2.1 r j := by
  unfold kSd; rw [kX_Q, kQ_Q]
theorem kSd_X {i r s' j : Nat} : (kSd s i dv q).2.2 r s' j = if r = 3 ∧ s' = s ∧ j = i then dv else q.2.2 r s' j := by
  unfold kSd; rw [kX_X, kQ_X]
theorem kSd_1 {i : Nat} : (kSd s i dv q).1 = q.1 := rfl
theorem kSi_Q {r j : Nat} : (kSi s x q).2.1 r j = if r = 18 ∧ j = s then x + 1 else if r = 20 ∧ j = q.2.2 0 s 0 then x + 1 else q.2.1 r j := by
  unfold kSi; rw [kX_Q, kQ_Q, kQ_Q]
theorem kSi_X {r s' j : Nat} : (kSi s x q).2.2 r s' j = if r = 1 ∧ s' = s ∧ j = 0 then x + 1 else q.2.2 r s' j := by
  unfold kSi; rw [kX_X, kQ_X, kQ_X]
theorem kSi_1 : (kSi s x q).1 = q.1 := rfl
/-- while a schema's parts are being read -/
def kLo (T : Nat → Nat → Nat) (m : Nat) (q0 : kP) (s : Nat) (q : kP) : Prop := kIv T m q ∧ kFm q0 q ∧ (q0.1 1 ≤ s ∧ 6 ≤ s ∧ s < q.1 1) ∧ (∀ i, i < q.2.1 4 s → q0.1 2 ≤ q.2.2 0 s i) ∧ q0.1 3 ≤ q.2.1 6 s
/-- a reading inside it leaves it as it was -/
theorem kLo_fm {q1 : kP} (h : kLo T m q0 s q) (hI : kIv T m q1) (hF : kFm q q1) : kLo T m q0 s q1 ∧ (∀ r, r ≤ 13 ∨ r = 18 → q1.2.1 r s = q.2.1 r s) ∧ ∀ r i, q1.2.2 r s i = q.2.2 r s i := by
  obtain ⟨h1, h2, ⟨h3, h4, h5⟩, h6, h7⟩ := h
  have hr := fun r (hr : r ≤ 13 ∨ r = 18) => kFm_r hF hr h5
  have hx := fun r i => hF.2.2 r s i h5
  have hn := hF.1 1 (by omega)
  refine ⟨⟨hI, kFm_tr h2 hF, ⟨h3, h4, by omega⟩, fun i hi => ?_, ?_⟩, hr, hx⟩
  · rw [hr 4 (by omega)] at hi
    rw [hx]
    exact h6 i hi
  · rw [hr 6 (by omega)]
    exact h7
/-- a branch -/
theorem kLo_un (h : kLo T m q0 s q) (h8 : q.2.1 0 s = 8) (hlt : q.2.1 4 s < q.2.1 7 s) (hx : x < q.1 1) : kLo T m q0 s (kSs s (q.2.1 4 s) x (kAk s q)) ∧ (kSs s (q.2.1 4 s) x (kAk s q)).2.1 4 s = q.2.1 4 s + 1 ∧ (∀ r, r ≤ 13 ∨ r = 18 → r ≠ 4 ∧ r ≠ 13 → (kSs s (q.2.1 4 s) x (kAk s q)).2.1 r s = q.2.1 r s) := by
  obtain ⟨h1, h2, ⟨h3, h4, h5⟩, h6, h7⟩ := h
  have x0 := kAk_X0 (s := s) (q := q)
  have p6 := kAk_r (s := s) (q := q) (r := 6) (s' := s) (by omega) (by omega)
  have hki := fun i hi => (h1.2.2.2.1 s i h4 h5 hi).1.1
  have hQ : ∀ r j, (kSs s (q.2.1 4 s) x (kAk s q)).2.1 r j = if r = 30 ∧ j = q.2.1 6 s + q.2.1 4 s then x + 1 else if r = 20 ∧ j = q.1 2 then x + 1 else (kAk s q).2.1 r j := fun r j => by rw [kSs_Q, x0, p6]
  have hX : ∀ r s' j, (kSs s (q.2.1 4 s) x (kAk s q)).2.2 r s' j = if r = 1 ∧ s' = s ∧ j = q.2.1 4 s then x + 1 else (kAk s q).2.2 r s' j := fun r s' j => kSs_X
  have f1 : ∀ r s', r ≤ 13 ∨ r = 18 → (s' ≠ s ∨ r ≠ 4 ∧ r ≠ 13) → (kSs s (q.2.1 4 s) x (kAk s q)).2.1 r s' = q.2.1 r s' := fun r s' hr hn => by rw [hQ, if_neg (by omega), if_neg (by omega), kAk_r hr hn]
  have f2 : (kSs s (q.2.1 4 s) x (kAk s q)).2.1 4 s = q.2.1 4 s + 1 := by rw [hQ, if_neg (by omega), if_neg (by omega), kAk_4]
  have hnp := kIv_np (q' := kSs s (q.2.1 4 s) x (kAk s q)) (a := x + 1) (b := 0) (dv := 0) h1 h2 h3 h4 h5 (by omega) hlt h6 h7 rfl rfl rfl rfl (fun k hk => by rcases hk with rfl | rfl | rfl <;> rfl) (Nat.le_refl _) f1 f2
    (by rw [hQ, if_neg (by omega), if_neg (by omega), kAk_13])
    (fun r k a b c d => by rw [hQ, if_neg (by omega), if_neg (by omega), kAk_k a b c d])
    (fun hz => by rw [hQ, if_neg (by omega), if_neg (by omega), kAk_23 (hki _ (by omega)) hz])
    ⟨by rw [hQ, if_neg (by omega), if_pos ⟨rfl, rfl⟩], by rw [hQ, if_neg (by omega), if_neg (by omega), kAk_n (by omega)], by rw [hQ, if_neg (by omega), if_neg (by omega), kAk_n (by omega)], by rw [hQ, if_neg (by omega), if_neg (by omega), kAk_n (by omega)], by rw [hQ, if_neg (by omega), if_neg (by omega), kAk_24], by rw [hQ, if_neg (by omega), if_neg (by omega), kAk_25]⟩
    (fun r j a b c => by rw [hQ, if_neg (by omega), if_neg (by omega), kAk_o (by omega)])
    ⟨by rw [hQ, if_pos ⟨rfl, rfl⟩], by
      rw [hQ, if_neg (by omega), if_neg (by omega), kAk_o (by omega), if_neg (by omega)]
      have := (h1.2.2.2.2 s _ h4 h5 hlt).2.2
      rw [this, if_neg (by omega)]⟩
    (fun i _ => by rw [hQ, if_neg (by omega), if_neg (by omega), kAk_o (by omega)])
    (fun r i hr => by rw [hQ, if_neg (by omega), if_neg (by omega), kAk_o (by omega)])
    (fun r s' i hn => by rw [hX, if_neg (by omega), kAk_Xo hn])
    ⟨by rw [hX, if_neg (by omega), kAk_X0], by rw [hX, if_pos ⟨rfl, rfl, rfl⟩], by rw [hX, if_neg (by omega), kAk_Xz (by omega)], by rw [hX, if_neg (by omega), kAk_Xz (by omega)]⟩
    (by omega) (by omega) (.inl ⟨by omega, rfl⟩)
  exact ⟨⟨hnp.1, hnp.2.1, ⟨h3, h4, h5⟩, hnp.2.2, by rw [f1 6 s (by omega) (by omega)]; exact h7⟩, f2, fun r hr hn => f1 r s hr (.inr hn)⟩
/-- a symbol -/
theorem kLo_sy (h : kLo T m q0 s q) (h8 : 10 ≤ q.2.1 0 s) (hlt : q.2.1 4 s < q.2.1 7 s) (hx : x < m) (hnam : kNam T x = true) (hdv : dv ≤ m) : (kLo T m q0 s (kSn T s (q.2.1 4 s) x (kAk s q)) ∧ (kSn T s (q.2.1 4 s) x (kAk s q)).2.1 4 s = q.2.1 4 s + 1 ∧ (∀ r, r ≤ 13 ∨ r = 18 → r ≠ 4 ∧ r ≠ 13 → (kSn T s (q.2.1 4 s) x (kAk s q)).2.1 r s = q.2.1 r s)) ∧ (kLo T m q0 s (kSd s (q.2.1 4 s) dv (kSn T s (q.2.1 4 s) x (kAk s q))) ∧ (kSd s (q.2.1 4 s) dv (kSn T s (q.2.1 4 s) x (kAk s q))).2.1 4 s = q.2.1 4 s + 1 ∧ (∀ r, r ≤ 13 ∨ r = 18 → r ≠ 4 ∧ r ≠ 13 → (kSd s (q.2.1 4 s) dv (kSn T s (q.2.1 4 s) x (kAk s q))).2.1 r s = q.2.1 r s)) := by
  obtain ⟨h1, h2, ⟨h3, h4, h5⟩, h6, h7⟩ := h
  have x0 := kAk_X0 (s := s) (q := q)
  have p6 := kAk_r (s := s) (q := q) (r := 6) (s' := s) (by omega) (by omega)
  have hki := fun i hi => (h1.2.2.2.1 s i h4 h5 hi).1.1
  have hP : ∀ r j, (kPn T x (kAk s q)).2.1 r j = if r = 40 ∧ j = q.1 6 then T 2 x else if r = 40 ∧ q.1 6 < j ∧ j ≤ q.1 6 + T 2 x then T 6 (T 5 x + (j - q.1 6 - 1)) else (kAk s q).2.1 r j := fun r j => rfl
  have hQ : ∀ r j, (kSn T s (q.2.1 4 s) x (kAk s q)).2.1 r j = if r = 31 ∧ j = q.2.1 6 s + q.2.1 4 s then q.1 6 + 1 else if r = 21 ∧ j = q.1 2 then x + 1 else (kPn T x (kAk s q)).2.1 r j := fun r j => by rw [kSn_Q, x0, p6]; rfl
  have hX : ∀ r s' j, (kSn T s (q.2.1 4 s) x (kAk s q)).2.2 r s' j = if r = 4 ∧ s' = s ∧ j = q.2.1 4 s then q.1 6 else if r = 2 ∧ s' = s ∧ j = q.2.1 4 s then x + 1 else (kAk s q).2.2 r s' j := fun r s' j => kSn_X
  have hQo : ∀ r j, r ≠ 40 → ¬ (r = 31 ∧ j = q.2.1 6 s + q.2.1 4 s) → ¬ (r = 21 ∧ j = q.1 2) → (kSn T s (q.2.1 4 s) x (kAk s q)).2.1 r j = (kAk s q).2.1 r j := fun r j a b c => by rw [hQ, if_neg b, if_neg c, hP, if_neg (by omega), if_neg (by omega)]
  have hp40 : ∀ i, i < q.1 6 → (kSn T s (q.2.1 4 s) x (kAk s q)).2.1 40 i = q.2.1 40 i := fun i hi => by rw [hQ, if_neg (by omega), if_neg (by omega), hP, if_neg (by omega), if_neg (by omega), kAk_o (by omega)]
  have hpo : kPo T (kSn T s (q.2.1 4 s) x (kAk s q)) (q.1 6) x := by
    have h := kPn_po T x (kAk s q)
    refine ⟨h.1, ?_, fun i hi => ?_⟩
    · rw [hQ, if_neg (by omega), if_neg (by omega)]; exact h.2.1
    · rw [hQ, if_neg (by omega), if_neg (by omega)]; exact h.2.2 i hi
  have xn0 : (kSn T s (q.2.1 4 s) x (kAk s q)).2.2 0 s (q.2.1 4 s) = q.1 2 := by rw [hX, if_neg (by omega), if_neg (by omega), kAk_X0]
  have hDQ : ∀ r j, (kSd s (q.2.1 4 s) dv (kSn T s (q.2.1 4 s) x (kAk s q))).2.1 r j = if r = 22 ∧ j = q.1 2 then dv else (kSn T s (q.2.1 4 s) x (kAk s q)).2.1 r j := fun r j => by rw [kSd_Q, xn0]
  have hDX : ∀ r s' j, (kSd s (q.2.1 4 s) dv (kSn T s (q.2.1 4 s) x (kAk s q))).2.2 r s' j = if r = 3 ∧ s' = s ∧ j = q.2.1 4 s then dv else (kSn T s (q.2.1 4 s) x (kAk s q)).2.2 r s' j := fun r s' j => kSd_X
  have c6 : (kSn T s (q.2.1 4 s) x (kAk s q)).1 6 = q.1 6 + 1 + T 2 x := rfl
  have f1 : ∀ r s', r ≤ 13 ∨ r = 18 → (s' ≠ s ∨ r ≠ 4 ∧ r ≠ 13) → (kSn T s (q.2.1 4 s) x (kAk s q)).2.1 r s' = q.2.1 r s' := fun r s' hr hn => by rw [hQo r s' (by omega) (by omega) (by omega), kAk_r hr hn]
  have f2 : (kSn T s (q.2.1 4 s) x (kAk s q)).2.1 4 s = q.2.1 4 s + 1 := by rw [hQo 4 s (by omega) (by omega) (by omega), kAk_4]
  have f13 : (kSn T s (q.2.1 4 s) x (kAk s q)).2.1 13 s = if q.2.1 4 s = 0 then q.1 2 + 1 else q.2.1 13 s := by rw [hQo 13 s (by omega) (by omega) (by omega), kAk_13]
  have f3 : ∀ r k, 20 ≤ r → r ≤ 25 → k < q.1 2 → (r ≠ 23 ∨ q.2.1 4 s = 0 ∨ k ≠ q.2.2 0 s (q.2.1 4 s - 1)) → (kSn T s (q.2.1 4 s) x (kAk s q)).2.1 r k = q.2.1 r k := fun r k a b c d => by rw [hQo r k (by omega) (by omega) (by omega), kAk_k a b c d]
  have f4 : q.2.1 4 s ≠ 0 → (kSn T s (q.2.1 4 s) x (kAk s q)).2.1 23 (q.2.2 0 s (q.2.1 4 s - 1)) = q.1 2 + 1 := fun hz => by rw [hQo 23 _ (by omega) (by omega) (by omega), kAk_23 (hki _ (by omega)) hz]
  have f5 : (kSn T s (q.2.1 4 s) x (kAk s q)).2.1 20 (q.1 2) = 0 ∧ (kSn T s (q.2.1 4 s) x (kAk s q)).2.1 21 (q.1 2) = x + 1 ∧ (kSn T s (q.2.1 4 s) x (kAk s q)).2.1 22 (q.1 2) = 0 ∧ (kSn T s (q.2.1 4 s) x (kAk s q)).2.1 23 (q.1 2) = 0 ∧ (kSn T s (q.2.1 4 s) x (kAk s q)).2.1 24 (q.1 2) = s ∧ (kSn T s (q.2.1 4 s) x (kAk s q)).2.1 25 (q.1 2) = q.2.1 4 s :=
    ⟨by rw [hQo 20 _ (by omega) (by omega) (by omega), kAk_n (by omega)], by rw [hQ, if_neg (by omega), if_pos ⟨rfl, rfl⟩], by rw [hQo 22 _ (by omega) (by omega) (by omega), kAk_n (by omega)], by rw [hQo 23 _ (by omega) (by omega) (by omega), kAk_n (by omega)], by rw [hQo 24 _ (by omega) (by omega) (by omega), kAk_24], by rw [hQo 25 _ (by omega) (by omega) (by omega), kAk_25]⟩
  have f6 : ∀ r j, 30 ≤ r → r ≤ 35 → (j ≠ q.2.1 6 s + q.2.1 4 s ∨ r ≠ 30 ∧ r ≠ 31) → (kSn T s (q.2.1 4 s) x (kAk s q)).2.1 r j = q.2.1 r j := fun r j a b c => by rw [hQo r j (by omega) (by omega) (by omega), kAk_o (by omega)]
  have x4 : (kSn T s (q.2.1 4 s) x (kAk s q)).2.2 4 s (q.2.1 4 s) = q.1 6 := by rw [hX, if_pos ⟨rfl, rfl, rfl⟩]
  have hp30 : q.2.1 30 (q.2.1 6 s + q.2.1 4 s) = 0 := by
    have := (h1.2.2.2.2 s _ h4 h5 hlt).2.1
    rw [this, if_neg (by omega)]
  have f7 : (kSn T s (q.2.1 4 s) x (kAk s q)).2.1 30 (q.2.1 6 s + q.2.1 4 s) = 0 ∧ (kSn T s (q.2.1 4 s) x (kAk s q)).2.1 31 (q.2.1 6 s + q.2.1 4 s) = if x + 1 ≠ 0 then (kSn T s (q.2.1 4 s) x (kAk s q)).2.2 4 s (q.2.1 4 s) + 1 else 0 :=
    ⟨by rw [hQo 30 _ (by omega) (by omega) (by omega), kAk_o (by omega), hp30], by rw [hQ, if_pos ⟨rfl, rfl⟩, if_pos (by omega), x4]⟩
  have f8' : ∀ r i, r = 15 ∨ r = 27 ∨ r = 16 ∨ r = 17 ∨ r = 19 → (kSn T s (q.2.1 4 s) x (kAk s q)).2.1 r i = q.2.1 r i := fun r i hr => by rw [hQo r i (by omega) (by omega) (by omega), kAk_o (by omega)]
  have f9 : ∀ r s' i, (s' ≠ s ∨ i ≠ q.2.1 4 s) → (kSn T s (q.2.1 4 s) x (kAk s q)).2.2 r s' i = q.2.2 r s' i := fun r s' i hn => by rw [hX, if_neg (by omega), if_neg (by omega), kAk_Xo hn]
  have f9' : (kSn T s (q.2.1 4 s) x (kAk s q)).2.2 0 s (q.2.1 4 s) = q.1 2 ∧ (kSn T s (q.2.1 4 s) x (kAk s q)).2.2 1 s (q.2.1 4 s) = 0 ∧ (kSn T s (q.2.1 4 s) x (kAk s q)).2.2 2 s (q.2.1 4 s) = x + 1 ∧ (kSn T s (q.2.1 4 s) x (kAk s q)).2.2 3 s (q.2.1 4 s) = 0 :=
    ⟨xn0, by rw [hX, if_neg (by omega), if_neg (by omega), kAk_Xz (by omega)], by rw [hX, if_neg (by omega), if_pos ⟨rfl, rfl, rfl⟩], by rw [hX, if_neg (by omega), if_neg (by omega), kAk_Xz (by omega)]⟩
  have ck : ∀ k, k = 4 ∨ k = 5 ∨ k = 7 → (kSn T s (q.2.1 4 s) x (kAk s q)).1 k = q.1 k := fun k hk => by rcases hk with rfl | rfl | rfl <;> rfl
  refine ⟨?_, ?_⟩
  · have hnp := kIv_np (q' := kSn T s (q.2.1 4 s) x (kAk s q)) (a := 0) (b := x + 1) (dv := 0) h1 h2 h3 h4 h5 (by omega) hlt h6 h7 rfl rfl rfl rfl ck (by rw [c6]; omega) f1 f2 f13 f3 f4 f5 f6 f7 hp40 f8' f9 f9' (by omega) (by omega) (.inr ⟨h8, by omega, by omega, hnam, by rw [x4]; exact hpo⟩)
    exact ⟨⟨hnp.1, hnp.2.1, ⟨h3, h4, h5⟩, hnp.2.2, by rw [f1 6 s (by omega) (by omega)]; exact h7⟩, f2, fun r hr hn => f1 r s hr (.inr hn)⟩
  · have g1 : ∀ r s', r ≤ 13 ∨ r = 18 → (s' ≠ s ∨ r ≠ 4 ∧ r ≠ 13) → (kSd s (q.2.1 4 s) dv (kSn T s (q.2.1 4 s) x (kAk s q))).2.1 r s' = q.2.1 r s' := fun r s' hr hn => by rw [hDQ, if_neg (by omega), f1 r s' hr hn]
    have g2 : (kSd s (q.2.1 4 s) dv (kSn T s (q.2.1 4 s) x (kAk s q))).2.1 4 s = q.2.1 4 s + 1 := by rw [hDQ, if_neg (by omega), f2]
    have y4 : (kSd s (q.2.1 4 s) dv (kSn T s (q.2.1 4 s) x (kAk s q))).2.2 4 s (q.2.1 4 s) = q.1 6 := by rw [hDX, if_neg (by omega), x4]
    have hpo2 : kPo T (kSd s (q.2.1 4 s) dv (kSn T s (q.2.1 4 s) x (kAk s q))) (q.1 6) x := kPo_sm (Nat.le_refl _) (fun i _ => by rw [hDQ, if_neg (by omega)]) hpo
    have hnp := kIv_np (q' := kSd s (q.2.1 4 s) dv (kSn T s (q.2.1 4 s) x (kAk s q))) (a := 0) (b := x + 1) (dv := dv) h1 h2 h3 h4 h5 (by omega) hlt h6 h7 rfl rfl rfl rfl ck (by show q.1 6 ≤ (kSn T s (q.2.1 4 s) x (kAk s q)).1 6; rw [c6]; omega) g1 g2 (by rw [hDQ, if_neg (by omega), f13]) (fun r k a b c d => by rw [hDQ, if_neg (by omega), f3 r k a b c d]) (fun hz => by rw [hDQ, if_neg (by omega), f4 hz])
      ⟨by rw [hDQ, if_neg (by omega), f5.1], by rw [hDQ, if_neg (by omega), f5.2.1], by rw [hDQ, if_pos ⟨rfl, rfl⟩], by rw [hDQ, if_neg (by omega), f5.2.2.2.1], by rw [hDQ, if_neg (by omega), f5.2.2.2.2.1], by rw [hDQ, if_neg (by omega), f5.2.2.2.2.2]⟩
      (fun r j a b c => by rw [hDQ, if_neg (by omega), f6 r j a b c]) ⟨by rw [hDQ, if_neg (by omega), f7.1], by rw [hDQ, if_neg (by omega), f7.2, x4, y4]⟩ (fun i hi => by rw [hDQ, if_neg (by omega), hp40 i hi]) (fun r i hr => by rw [hDQ, if_neg (by omega), f8' r i hr]) (fun r s' i hn => by rw [hDX, if_neg (by omega), f9 r s' i hn])
      ⟨by rw [hDX, if_neg (by omega), f9'.1], by rw [hDX, if_neg (by omega), f9'.2.1], by rw [hDX, if_neg (by omega), f9'.2.2.1], by rw [hDX, if_pos ⟨rfl, rfl, rfl⟩]⟩ (by omega) hdv (.inr ⟨h8, by omega, by omega, hnam, by rw [y4]; exact hpo2⟩)
    exact ⟨⟨hnp.1, hnp.2.1, ⟨h3, h4, h5⟩, hnp.2.2, by rw [g1 6 s (by omega) (by omega)]; exact h7⟩, g2, fun r hr hn => g1 r s hr (.inr hn)⟩
end
