/-! a version as it is kept: both sides look at the same -/
/-- a text's schemas, with the places of their defaults -/
def kVe (T : Nat → Nat → Nat) (N : Nat → Int) (q0 : kP) : kP := kTd T N q0 (q0.1 4) 0 q0
section
variable {T : Nat → Nat → Nat} {N : Nat → Int} {m l n : Nat} {q0 q : kP}
theorem kSq_td : ∀ k i q, kSq q0 q → kSq q0 (kTd T N q0 k i q)
  | 0, _, _, h => h
  | k + 1, i, q, h => by
    unfold kTd
    by_cases h0 : q0.2.1 22 (q0.2.1 15 i) = 0
    · rw [if_pos h0]; exact kSq_td k (i + 1) q h
    · rw [if_neg h0]; exact kSq_td k (i + 1) _ (kSq_ts h)
theorem kIv_td : ∀ k i q, kIv T m q → kIv T m (kTd T N q0 k i q)
  | 0, _, _, h => h
  | k + 1, i, q, h => by
    unfold kTd
    by_cases h0 : q0.2.1 22 (q0.2.1 15 i) = 0
    · rw [if_pos h0]; exact kIv_td k (i + 1) q h
    · rw [if_neg h0]; exact kIv_td k (i + 1) _ (kIv_ts h)
theorem kVe_sq : kSq q0 (kVe T N q0) := kSq_td _ _ _ (kSq_refl _)
theorem kVe_iv (h : kIv T m q0) : kIv T m (kVe T N q0) := kIv_td _ _ _ h
theorem kSq_cd (h : kSq q0 q) (hc : kCd q0) : kCd q := kCd_fr (h.2.2.1 1 (by omega)) h.1 (fun r hr => h.2.1 r (by omega)) hc
theorem kSq_ro (h : kSq q0 q) : ∀ D x, kRo q0 D x → kRo q D x
  | 0, x, hr => by
    unfold kRo at hr ⊢
    rw [h.2.1 0 (by omega)]
    exact hr
  | D + 1, x, hr => by
    unfold kRo at hr ⊢
    rw [h.2.1 0 (by omega)]
    intro e
    have := kSq_ro h D _ (hr e)
    unfold kPx at this ⊢
    rw [h.1]
    exact this
theorem mV_sq {c : Nat} {t : aT} (h : kSq q0 q) (hv : mV c q0 t) : mV c q t := by
  unfold mV at hv ⊢
  rw [h.2.2.1 1 (by omega), h.2.2.1 2 (by omega), h.2.1 0 (by omega), h.2.1 1 (by omega), h.2.1 13 (by omega), h.2.1 8 (by omega), h.2.1 4 (by omega), h.2.1 20 (by omega), h.2.1 21 (by omega), h.2.1 22 (by omega), h.2.1 23 (by omega)]
  exact hv
theorem mW_sq {c n0 : Nat} {t : aT} (h : kSq q0 q) (hI : kIv T m q) (hw : mW c q0 T N m l n0 t) : mW c q T N m l n0 t := by
  obtain ⟨a1, a2, a3, a4, a5, a6, a7, a8⟩ := hw
  refine ⟨a1, mV_sq h a2, a3, a4, hI, kSq_cd h a6, by rw [h.2.2.1 2 (by omega)]; exact a7, fun x hx => kSq_ro h 16 x (a8 x ?_)⟩
  rw [h.2.2.1 1 (by omega)] at hx
  exact hx
/-- letters are letters -/
theorem kVu_bt : ∀ k w, kBt (kVu k w)
  | 0, _ => fun y hy => by cases hy
  | k + 1, w => by
    show kBt (if w < 128 then [w] else (w % 128 + 128) :: kVu k (w / 128))
    by_cases h : w < 128
    · rw [if_pos h]
      intro y hy
      rw [List.mem_singleton] at hy
      omega
    · rw [if_neg h]
      intro y hy
      rcases List.mem_cons.mp hy with e | e
      · omega
      · exact kVu_bt k _ y e
theorem kVb_bt (v : Int64) : kBt (kVb v) := kVu_bt 10 _
theorem kBt_app {L M : List Nat} (h1 : kBt L) (h2 : kBt M) : kBt (L ++ M) := fun y hy => by
  rcases List.mem_append.mp hy with e | e
  · exact h1 y e
  · exact h2 y e
theorem kBt_nil : kBt [] := fun y hy => by cases hy
theorem kLe_bt (hG : jGt T N m l n) {v : Nat} (hv : v < m) (h2 : T 0 v = 2) : kBt (kLe T v) := by
  intro y hy
  unfold kLe at hy
  obtain ⟨i, hi, rfl⟩ := List.mem_map.mp hy
  rw [List.mem_range] at hi
  have := hG.2.2.2.1 v hv h2
  exact hG.2.2.1 _ (by omega)
/-- what is known of the values inside -/
def kBy (T : Nat → Nat → Nat) (N : Nat → Int) (m D : Nat) (q : kP) (fit : Nat → Nat → Nat) (W : Nat → Nat → List Nat) : Prop := ∀ v x, jVd T N m D v → fit v x = 0 → kBt (W v x)
theorem kWtB_bt {D : Nat} {fit : Nat → Nat → Nat} {W : Nat → Nat → List Nat} (hG : jGt T N m l n) {v y : Nat} (hb : jVb T N m v) (hf : kFtB T N q fit v y = 0) (hz : 2 ≤ T 0 v ∨ jVd T N m (D + 1) v ∧ kBy T N m D q fit W) : kBt (kWtB T N q W v y) := by
  have hm := hG.1
  have hlt := jVb_lt hb
  have hin := kFtB_in hf
  unfold kWtB
  by_cases h0 : q.2.1 0 y = 0
  · rw [if_pos h0]; exact kBt_nil
  rw [if_neg h0]
  by_cases h1 : q.2.1 0 y = 1
  · rw [if_pos h1]
    intro y hy
    rw [List.mem_singleton] at hy
    subst hy
    by_cases h : T 0 v = 4
    · rw [if_pos h]; omega
    · rw [if_neg h]; omega
  rw [if_neg h1]
  by_cases h2 : q.2.1 0 y = 2 ∨ q.2.1 0 y = 3
  · rw [if_pos h2]; exact kVb_bt _
  rw [if_neg h2]
  by_cases h4 : q.2.1 0 y = 4 ∨ q.2.1 0 y = 5
  · rw [if_pos h4]
    exact kBt_app (kVb_bt _) (kLe_bt hG (by omega) ((kFtB_ok hf (by omega) (by omega) (by omega)).2.1 (by omega)))
  rw [if_neg h4]
  by_cases h6 : q.2.1 0 y = 6
  · rw [if_pos h6]
    obtain ⟨h1', hfi⟩ := hin.1 h6
    rcases hz with hz | ⟨hvd, hrec⟩
    · omega
    have hA : ∀ k lo e cur, e ≤ m → jTl T (jVf T N m D) k lo e cur → kFiA T (fun w => fit w (q.2.2 1 y 0 - 1)) k cur = 0 → kBt (kWtA T (fun w => W w (q.2.2 1 y 0 - 1)) k cur) := by
      intro k
      induction k with
      | zero => intro _ _ _ _ _ _; exact kBt_nil
      | succ k ih =>
        intro lo e cur he h hf
        obtain ⟨hcur, e1, hP, hch⟩ := h
        subst hcur
        have hf : (if fit lo (q.2.2 1 y 0 - 1) = 0 then kFiA T (fun w => fit w (q.2.2 1 y 0 - 1)) k (T 4 lo) else fit lo (q.2.2 1 y 0 - 1)) = 0 := hf
        have hf0 : fit lo (q.2.2 1 y 0 - 1) = 0 := by
          by_cases h : fit lo (q.2.2 1 y 0 - 1) = 0
          · exact h
          · rw [if_neg h] at hf; exact hf
        rw [if_pos hf0] at hf
        show kBt (W lo (q.2.2 1 y 0 - 1) ++ kWtA T (fun w => W w (q.2.2 1 y 0 - 1)) k (T 4 lo))
        exact kBt_app (hrec _ _ hP.1 hf0) (ih e1 e _ he hch hf)
    refine kBt_app ?_ (kBt_app (hA _ _ _ _ hlt.2 (jVd_l hvd h1') hfi) (kVb_bt _))
    by_cases h : T 2 v = 0
    · rw [if_pos h]; exact kBt_nil
    · rw [if_neg h]; exact kVb_bt _
  rw [if_neg h6]
  by_cases h7 : q.2.1 0 y = 7
  · rw [if_pos h7]
    obtain ⟨h1', hfi⟩ := hin.2.1 h7
    rcases hz with hz | ⟨hvd, hrec⟩
    · omega
    obtain ⟨k, hk, hch⟩ := jVd_o hvd h1'
    have hA : ∀ k lo e cur, e ≤ m → jTm T (jVf T N m D) k lo e cur → kFiM T (fun w => fit w (q.2.2 1 y 0 - 1)) k cur = 0 → kBt (kWtM T (fun w => W w (q.2.2 1 y 0 - 1)) k cur) := by
      intro k
      induction k with
      | zero => intro _ _ _ _ _ _; exact kBt_nil
      | succ k ih =>
        intro lo e cur he h hf
        obtain ⟨hcur, hk0, hk4, e1, hP, hch⟩ := h
        subst hcur
        have hlt2 := jVd_lt hP.1
        rw [← hP.2] at hlt2
        have hle := jTm_lt jVf_lt _ _ _ _ hch
        have hf : (if fit (T 4 lo - 1) (q.2.2 1 y 0 - 1) = 0 then kFiM T (fun w => fit w (q.2.2 1 y 0 - 1)) k (T 4 (T 4 lo - 1)) else fit (T 4 lo - 1) (q.2.2 1 y 0 - 1)) = 0 := hf
        rw [hk4, show lo + 2 - 1 = lo + 1 from rfl] at hf
        have hf0 : fit (lo + 1) (q.2.2 1 y 0 - 1) = 0 := by
          by_cases h : fit (lo + 1) (q.2.2 1 y 0 - 1) = 0
          · exact h
          · rw [if_neg h] at hf; exact hf
        rw [if_pos hf0] at hf
        show kBt ((kVb (Int64.ofNat (T 2 lo)) ++ kLe T lo) ++ (W (T 4 lo - 1) (q.2.2 1 y 0 - 1) ++ kWtM T (fun w => W w (q.2.2 1 y 0 - 1)) k (T 4 (T 4 lo - 1))))
        rw [hk4, show lo + 2 - 1 = lo + 1 from rfl]
        exact kBt_app (kBt_app (kVb_bt _) (kLe_bt hG (by omega) hk0)) (kBt_app (hrec _ _ hP.1 hf0) (ih e1 e _ he hch hf))
    have hk2 : T 2 v / 2 = k := by omega
    rw [hk2] at hfi ⊢
    refine kBt_app ?_ (kBt_app (hA _ _ _ _ hlt.2 hch hfi) (kVb_bt _))
    by_cases h : k = 0
    · rw [if_pos h]; exact kBt_nil
    · rw [if_neg h]; exact kVb_bt _
  rw [if_neg h7]
  by_cases h9 : q.2.1 0 y = 9
  · rw [if_pos h9]
    exact kLe_bt hG (by omega) ((kFtB_ok hf (by omega) (by omega) (by omega)).2.1 (by omega))
  rw [if_neg h9]
  by_cases h10 : q.2.1 0 y = 10
  · rw [if_pos h10]; exact kVb_bt _
  rw [if_neg h10]
  have h11 : q.2.1 0 y = 11 := by
    by_cases h : q.2.1 0 y = 11
    · exact h
    · exfalso
      unfold kFtB at hf
      rw [if_neg h6, if_neg h7, if_neg h] at hf
      by_cases hL : kFtL T N q v y = true
      · unfold kFtL at hL
        have hL := of_decide_eq_true hL
        omega
      · rw [if_neg hL] at hf
        omega
  obtain ⟨h1', hfi⟩ := hin.2.2 h11
  rcases hz with hz | ⟨hvd, hrec⟩
  · omega
  have hA : ∀ k i, kFiF T q fit v y k i = 0 → kBt (kWtF T q W v y k i) := by
    intro k
    induction k with
    | zero => intro _ _; exact kBt_nil
    | succ k ih =>
      intro i hf
      have hf : (if kMl T v (q.2.2 2 y i - 1) = 0 then v + 1 else if fit (kMl T v (q.2.2 2 y i - 1) - 1) (q.2.2 1 y i - 1) = 0 then kFiF T q fit v y k (i + 1) else fit (kMl T v (q.2.2 2 y i - 1) - 1) (q.2.2 1 y i - 1)) = 0 := hf
      show kBt ((if kMl T v (q.2.2 2 y i - 1) = 0 then [] else W (kMl T v (q.2.2 2 y i - 1) - 1) (q.2.2 1 y i - 1)) ++ kWtF T q W v y k (i + 1))
      have hmd : kMl T v (q.2.2 2 y i - 1) ≠ 0 → jVd T N m D (kMl T v (q.2.2 2 y i - 1) - 1) := fun h => kMv_d hvd h1' h
      generalize kMl T v (q.2.2 2 y i - 1) = w at *
      by_cases w0 : w = 0
      · rw [if_pos w0] at hf; omega
      · rw [if_neg w0] at hf ⊢
        have hf0 : fit (w - 1) (q.2.2 1 y i - 1) = 0 := by
          by_cases h : fit (w - 1) (q.2.2 1 y i - 1) = 0
          · exact h
          · rw [if_neg h] at hf; exact hf
        rw [if_pos hf0] at hf
        exact kBt_app (hrec _ _ (hmd w0) hf0) (ih _ hf)
  exact hA _ _ hfi
theorem kWt_bt (hG : jGt T N m l n) : ∀ D, D ≤ 24 → kBy T N m D q (kFit T N q D) (kWt T N q D) := by
  have h0 : ∀ x, kBt (if q.2.1 0 x = 8 then kVb 0 else []) := fun x => by
    by_cases h : q.2.1 0 x = 8
    · rw [if_pos h]; exact kVb_bt _
    · rw [if_neg h]; exact kBt_nil
  intro D
  induction D with
  | zero =>
    intro _ v x hv hf
    exact kBt_app (h0 x) (kWtB_bt (D := 0) (fit := fun _ _ => 0) hG (jVd_b (by omega) hv) hf (.inl (jVd_0 hv)))
  | succ D ih =>
    intro hD v x hv hf
    exact kBt_app (h0 x) (kWtB_bt (D := D) (fit := kFit T N q D) hG (jVd_b hD hv) hf (.inr ⟨hv, ih (by omega)⟩))
theorem kDk_at : ∀ k i, kDk T N q k i = 0 → ∀ j, i ≤ j → j < i + k → q.2.1 22 (q.2.1 15 j) ≠ 0 → kFit T N q 24 (q.2.1 22 (q.2.1 15 j) - 1) (q.2.1 20 (q.2.1 15 j) - 1) = 0
  | 0, i, _, j, h1, h2, _ => by omega
  | k + 1, i, h, j, h1, h2, h3 => by
    unfold kDk at h
    by_cases e : j = i
    · subst e
      rw [if_neg h3] at h
      by_cases hf : kFit T N q 24 (q.2.1 22 (q.2.1 15 j) - 1) (q.2.1 20 (q.2.1 15 j) - 1) = 0
      · exact hf
      · rw [if_neg hf] at h; exact h
    · refine kDk_at k (i + 1) ?_ j (by omega) (by omega) h3
      by_cases h0 : q.2.1 22 (q.2.1 15 i) = 0
      · rw [if_pos h0] at h; exact h
      · rw [if_neg h0] at h
        by_cases hf : kFit T N q 24 (q.2.1 22 (q.2.1 15 i) - 1) (q.2.1 20 (q.2.1 15 i) - 1) = 0
        · rw [if_pos hf] at h; exact h
        · rw [if_neg hf] at h; omega
/-- a field's default fits -/
theorem kGd_fit {x : Nat} (hg : kGd T N m n q0 x) (hd : kDk T N q0 (q0.1 4) 0 = 0) {y j : Nat} (hf : kFe q0 y j) (h3 : q0.2.2 3 y j ≠ 0) : jVd T N m 24 (q0.2.2 3 y j - 1) ∧ kFit T N q0 24 (q0.2.2 3 y j - 1) (kPx q0 y j) = 0 := by
  have hI := hg.1
  have hx := (hg.2.1 y hf.1 hf.2.1).2 (by have := hf.2.2.1; omega) (by have := hf.2.2.1; omega) j hf.2.2.2
  obtain ⟨k, hk, e⟩ := (hg.2.2.1.2 y hf.1 hf.2.1).2 hf.2.2.1 j hf.2.2.2 hx
  obtain ⟨⟨a1, a2, a3⟩, ⟨a4, a5, a6⟩, a7, _⟩ := hI.2.2.2.1 y j hf.1 hf.2.1 hf.2.2.2
  have hat := kWi_at hI hg.2.2.2.1 hk
  have hk0 := kDk_at (q0.1 4) 0 hd k (by omega) (by omega)
  rw [e, a6] at hat
  rw [e, a6, a4] at hk0
  exact ⟨jVb_24 (hat.2.2.2 h3), hk0 h3⟩
theorem kVe_mdx {x : Nat} (hg : kGd T N m n q0 x) (hd : kDk T N q0 (q0.1 4) 0 = 0) : mDx T N m (kVe T N q0) (kDw T N q0) := by
  have hs := kVe_sq (T := T) (N := N) (q0 := q0)
  intro y j hy h11 hj h3
  rw [hs.2.2.1 1 (by omega)] at hy
  rw [hs.2.1 0 (by omega)] at h11
  rw [hs.2.1 4 (by omega)] at hj
  rw [hs.1] at h3
  have h6 := (kKi hg.1 hy).2.mp (by omega)
  obtain ⟨a1, a2⟩ := kGd_fit hg hd ⟨h6, hy, h11, hj⟩ h3
  have e1 : kPx (kVe T N q0) y j = kPx q0 y j := by unfold kPx; rw [hs.1]
  rw [e1, hs.1, kFit_fr hs.1 (fun r hr => hs.2.1 r (by omega)), kWt_fr hs.1 (fun r hr => hs.2.1 r (by omega))]
  exact ⟨a1, a2, rfl⟩
theorem kVe_kdx {x : Nat} (hG : jGt T N m l n) {n1 : Nat} (hg : kGd T N m n1 q0 x) (hd : kDk T N q0 (q0.1 4) 0 = 0) : kDx (kVe T N q0) (kDw T N q0) := by
  have hs := kVe_sq (T := T) (N := N) (q0 := q0)
  intro y j hy h11 hj h3
  rw [hs.2.2.1 1 (by omega)] at hy
  rw [hs.2.1 0 (by omega)] at h11
  rw [hs.2.1 4 (by omega)] at hj
  rw [hs.1] at h3
  have h6 := (kKi hg.1 hy).2.mp (by omega)
  obtain ⟨a1, a2⟩ := kGd_fit hg hd ⟨h6, hy, h11, hj⟩ h3
  rw [hs.2.1 6 (by omega)]
  exact ⟨kWt_bt hG 24 (Nat.le_refl _) _ _ a1 a2, (kTd_all hg.1 hg.2.2.2.1 hg.2.1 hg.2.2.1 ⟨h6, hy, h11, hj⟩).2 h3⟩
/-- a version in the lake -/
theorem kVe_lw {x b pb qb : Nat} {t : aT} (hg : kGd T N m n q0 x) (hv : lV b pb qb (kVe T N q0) t) : lW b pb qb (kVe T N q0) T m t := by
  have hs := kVe_sq (T := T) (N := N) (q0 := q0)
  refine ⟨hv, kVe_iv hg.1, kSq_cd hs hg.2.1, fun y i h6 hy h11 hi => ?_⟩
  rw [hs.2.2.1 1 (by omega)] at hy
  rw [hs.2.1 0 (by omega)] at h11
  rw [hs.2.1 4 (by omega)] at hi
  rw [hs.2.1 6 (by omega), hs.1]
  obtain ⟨d1, d2⟩ := kTd_all (N := N) hg.1 hg.2.2.2.1 hg.2.1 hg.2.2.1 ⟨h6, hy, h11, hi⟩
  by_cases h3 : q0.2.2 3 y i = 0
  · have := d1 h3
    unfold kVe
    exact ⟨⟨fun _ => h3, fun _ => this⟩, by omega⟩
  · obtain ⟨a, e1, e2, e3, e4⟩ := d2 h3
    unfold kVe
    exact ⟨⟨fun e => by omega, fun e => absurd e h3⟩, by omega⟩
end
