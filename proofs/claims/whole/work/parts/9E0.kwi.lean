/-! PURE: fields that are done, and defaults that wait, in the same order -/
def kWe (T : Nat → Nat → Nat) (N : Nat → Int) (m : Nat) (q : kP) (i w z w' z' : Nat) : Prop := ∃ s p, (6 ≤ s ∧ s < q.1 1 ∧ q.2.1 0 s = 11 ∧ p < q.2.1 4 s ∧ q.2.2 1 s p ≠ 0) ∧ q.2.1 15 i = q.2.2 0 s p ∧ (w' ≤ q.1 5 ∧ z' ≤ q.1 7) ∧ (q.2.2 3 s p = 0 ∧ w' = w ∧ z' = z ∨ q.2.2 3 s p ≠ 0 ∧ w' = w + 1 ∧ z' = z + 2 * kWv T (q.2.2 3 s p - 1) ∧ q.2.1 16 w = q.2.2 3 s p - 1 ∧ q.2.1 17 w = q.2.1 6 s + p ∧ jVb T N m (q.2.2 3 s p - 1))
def kWi (T : Nat → Nat → Nat) (N : Nat → Int) (m : Nat) (q : kP) : Prop := ∃ g z : Nat → Nat, (g 0 = 0 ∧ z 0 = 0) ∧ (g (q.1 4) = q.1 5 ∧ z (q.1 4) = q.1 7) ∧ ∀ i, i < q.1 4 → kWe T N m q i (g i) (z i) (g (i + 1)) (z (i + 1))
/-- nothing that is done has changed -/
def kWf (q q' : kP) : Prop := (q.1 1 ≤ q'.1 1 ∧ q.1 5 ≤ q'.1 5 ∧ q.1 7 ≤ q'.1 7) ∧ (∀ s p, 6 ≤ s → s < q.1 1 → p < q.2.1 4 s → q.2.2 1 s p ≠ 0 → q'.2.1 0 s = q.2.1 0 s ∧ q'.2.1 6 s = q.2.1 6 s ∧ p < q'.2.1 4 s ∧ ∀ r, r = 0 ∨ r = 1 ∨ r = 3 → q'.2.2 r s p = q.2.2 r s p) ∧ (∀ i, i < q.1 4 → q'.2.1 15 i = q.2.1 15 i) ∧ ∀ r i, r = 16 ∨ r = 17 → i < q.1 5 → q'.2.1 r i = q.2.1 r i
section
variable {T : Nat → Nat → Nat} {N : Nat → Int} {m : Nat} {q q' : kP}
theorem kWe_fr {i w z w' z' : Nat} (hf : kWf q q') (hi : i < q.1 4) (h : kWe T N m q i w z w' z') : kWe T N m q' i w z w' z' := by
  obtain ⟨⟨f1, f5, f7⟩, f2, f3, f4⟩ := hf
  obtain ⟨s, p, ⟨h6, h1, h11, h4, hx⟩, h15, ⟨hw, hz⟩, h⟩ := h
  obtain ⟨a0, a6, a4, aX⟩ := f2 s p h6 h1 h4 hx
  refine ⟨s, p, ⟨h6, by omega, by omega, a4, by rw [aX 1 (by omega)]; exact hx⟩, by rw [f3 i hi, aX 0 (by omega)]; exact h15, ⟨by omega, by omega⟩, ?_⟩
  rw [aX 3 (by omega)]
  rcases h with h | ⟨b1, b2, b3, b4, b5, b6⟩
  · exact .inl h
  · exact .inr ⟨b1, b2, b3, by rw [f4 16 w (by omega) (by omega)]; exact b4, by rw [f4 17 w (by omega) (by omega), a6]; exact b5, b6⟩
theorem kWi_fr (hf : kWf q q') (h4 : q'.1 4 = q.1 4) (h5 : q'.1 5 = q.1 5) (h7 : q'.1 7 = q.1 7) (h : kWi T N m q) : kWi T N m q' := by
  obtain ⟨g, z, h0, h1, h2⟩ := h
  refine ⟨g, z, h0, by rw [h4, h5, h7]; exact h1, fun i hi => ?_⟩
  rw [h4] at hi
  exact kWe_fr hf hi (h2 i hi)
theorem kWi_0 : kWi T N m kP0 := ⟨fun _ => 0, fun _ => 0, ⟨rfl, rfl⟩, ⟨rfl, rfl⟩, fun i hi => absurd hi (Nat.not_lt_zero _)⟩
theorem kWi_c0 {v : Nat} (h : kWi T N m q) : kWi T N m (kC q 0 v) :=
  kWi_fr (q := q) ⟨⟨Nat.le_refl _, Nat.le_refl _, Nat.le_refl _⟩, fun s p _ _ h _ => ⟨rfl, rfl, h, fun _ _ => rfl⟩, fun _ _ => rfl, fun _ _ _ _ => rfl⟩ rfl rfl rfl h
theorem kWi_sh {k : Nat} (h : kWi T N m q) : kWi T N m (kSh k q) := by
  have e : ∀ r i, i ≠ q.1 1 → (kSh k q).2.1 r i = q.2.1 r i := fun r i hi => by rw [kSh_Q, if_neg hi]
  have e2 : ∀ r i, 14 ≤ r ∧ r ≤ 17 → (kSh k q).2.1 r i = q.2.1 r i := fun r i hr => by
    rw [kSh_Q]
    split
    · rw [if_neg (by omega), if_neg (by omega), if_neg (by omega)]
    · rfl
  exact kWi_fr (q := q) ⟨⟨Nat.le_succ _, Nat.le_refl _, Nat.le_refl _⟩, fun s p _ hs h _ => ⟨e 0 s (by omega), e 6 s (by omega), by rw [e 4 s (by omega)]; exact h, fun _ _ => rfl⟩, fun i _ => e2 15 i (by omega), fun r i hr _ => e2 r i (by omega)⟩ rfl rfl rfl h
theorem kWi_ap {s n : Nat} (h4 : q.2.1 4 s = 0) (h : kWi T N m q) : kWi T N m (kAp s n q) := by
  have e : ∀ r i, r ≤ 17 → i ≠ s ∨ r ≠ 6 ∧ r ≠ 7 → (kAp s n q).2.1 r i = q.2.1 r i := fun r i h1 h2 => by
    rw [kAp_Q]; repeat' rw [if_neg (by omega)]
  refine kWi_fr (q := q) ⟨⟨Nat.le_refl _, Nat.le_refl _, Nat.le_refl _⟩, fun s' p _ hs h _ => ?_, fun i _ => e 15 i (by omega) (by omega), fun r i hr _ => e r i (by omega) (by omega)⟩ rfl rfl rfl h
  have hne : s' ≠ s := fun e => by rw [e] at h; omega
  exact ⟨e 0 s' (by omega) (by omega), e 6 s' (by omega) (by omega), by rw [e 4 s' (by omega) (by omega)]; exact h, fun _ _ => rfl⟩
theorem kAk_w {s : Nat} : kWf q (kAk s q) := by
  refine ⟨⟨Nat.le_refl _, Nat.le_refl _, Nat.le_refl _⟩, fun s' p _ hs h _ => ⟨kAk_r (by omega) (by omega), kAk_r (by omega) (by omega), ?_, fun r _ => ?_⟩, fun i _ => ?_, fun r i hr _ => ?_⟩
  · by_cases e : s' = s
    · rw [e, kAk_4]; rw [e] at h; omega
    · rw [kAk_r (by omega) (by omega)]; exact h
  · rw [kAk_Xo]
    by_cases e : s' = s
    · rw [e] at h; exact .inr (by omega)
    · exact .inl e
  · rw [kAk_Q]; repeat' rw [if_neg (by omega)]
  · rw [kAk_Q]; repeat' rw [if_neg (by omega)]
theorem kWi_ak {s : Nat} (h : kWi T N m q) : kWi T N m (kAk s q) := kWi_fr kAk_w rfl rfl rfl h
theorem kWi_pn {x : Nat} (h : kWi T N m q) : kWi T N m (kPn T x q) := by
  have e : ∀ r i, r ≠ 40 → (kPn T x q).2.1 r i = q.2.1 r i := fun r i hr => by rw [kPn_Q, if_neg (by omega), if_neg (by omega)]
  exact kWi_fr (q := q) ⟨⟨Nat.le_refl _, Nat.le_refl _, Nat.le_refl _⟩, fun s p _ hs h _ => ⟨e 0 s (by omega), e 6 s (by omega), by rw [e 4 s (by omega)]; exact h, fun _ _ => rfl⟩, fun i _ => e 15 i (by omega), fun r i hr _ => e r i (by omega)⟩ rfl rfl rfl h
theorem kWi_q {r0 i0 v : Nat} (hr : r0 ≠ 0 ∧ r0 ≠ 4 ∧ r0 ≠ 6 ∧ r0 ≠ 15 ∧ r0 ≠ 16 ∧ r0 ≠ 17) (h : kWi T N m q) : kWi T N m (kQ q r0 i0 v) := by
  have e : ∀ r i, r ≠ r0 → (kQ q r0 i0 v).2.1 r i = q.2.1 r i := fun r i hr => by rw [kQ_Q, if_neg (fun e => hr e.1)]
  exact kWi_fr (q := q) ⟨⟨Nat.le_refl _, Nat.le_refl _, Nat.le_refl _⟩, fun s p _ hs h _ => ⟨e 0 s (by omega), e 6 s (by omega), by rw [e 4 s (by omega)]; exact h, fun _ _ => rfl⟩, fun i _ => e 15 i (by omega), fun r i hr _ => e r i (by omega)⟩ rfl rfl rfl h
theorem kWi_x {r0 s0 i0 v : Nat} (hz : q.2.2 1 s0 i0 = 0 ∨ r0 = 2 ∨ r0 = 4) (h : kWi T N m q) : kWi T N m (kX q r0 s0 i0 v) := by
  refine kWi_fr (q := q) ⟨⟨Nat.le_refl _, Nat.le_refl _, Nat.le_refl _⟩, fun s p _ hs h hx => ⟨rfl, rfl, h, fun r hr => ?_⟩, fun i _ => rfl, fun r i hr _ => rfl⟩ rfl rfl rfl h
  rw [kX_X, if_neg]
  rintro ⟨e1, e2, e3⟩
  subst e1 e2 e3
  omega
theorem kWi_nn {s x : Nat} (h : kWi T N m q) : kWi T N m (kNn T s x q) := kWi_q (by omega) (kWi_q (by omega) (kWi_pn h))
theorem kWi_sn {s i x : Nat} (h : kWi T N m q) : kWi T N m (kSn T s i x q) := kWi_x (.inr (.inr rfl)) (kWi_x (.inr (.inl rfl)) (kWi_q (by omega) (kWi_q (by omega) (kWi_pn h))))
theorem kWi_sd {s i dv : Nat} (hz : q.2.2 1 s i = 0) (h : kWi T N m q) : kWi T N m (kSd s i dv q) := kWi_x (.inl hz) (kWi_q (by omega) h)
theorem kWi_ss {s i x : Nat} (hz : q.2.2 1 s i = 0) (h : kWi T N m q) : kWi T N m (kSs s i x q) := kWi_x (.inl hz) (kWi_q (by omega) (kWi_q (by omega) h))
theorem kWi_si {s x : Nat} (hz : q.2.2 1 s 0 = 0) (h : kWi T N m q) : kWi T N m (kSi s x q) := kWi_x (.inl hz) (kWi_q (by omega) (kWi_q (by omega) h))
theorem kWi_fd {s i x dv : Nat} (h6 : 6 ≤ s) (hs : s < q.1 1) (h11 : q.2.1 0 s = 11) (h4 : i < q.2.1 4 s) (hx : q.2.2 1 s i ≠ 0) (h3 : q.2.2 3 s i = dv) (hd : dv ≠ 0 → jVb T N m (dv - 1)) (h : kWi T N m q) : kWi T N m (kFd T s i x dv q) := by
  obtain ⟨g, z, ⟨g0, z0⟩, ⟨g1, z1⟩, h2⟩ := h
  have c : ∀ j, (kFd T s i x dv q).1 j = if j = 4 then q.1 4 + 1 else if j = 5 ∧ dv ≠ 0 then q.1 5 + 1 else if j = 7 ∧ dv ≠ 0 then q.1 7 + 2 * kWv T (dv - 1) else q.1 j := fun j => kFd_1
  have c1 : (kFd T s i x dv q).1 1 = q.1 1 := by rw [c, if_neg (by omega), if_neg (by omega), if_neg (by omega)]
  have c4 : (kFd T s i x dv q).1 4 = q.1 4 + 1 := by rw [c, if_pos rfl]
  have c5 : (kFd T s i x dv q).1 5 = if dv = 0 then q.1 5 else q.1 5 + 1 := by
    rw [c, if_neg (by omega)]
    by_cases e : dv = 0
    · rw [if_neg (fun a => a.2 e), if_neg (fun a => a.2 e), if_pos e]
    · rw [if_pos ⟨rfl, e⟩, if_neg e]
  have c7 : (kFd T s i x dv q).1 7 = if dv = 0 then q.1 7 else q.1 7 + 2 * kWv T (dv - 1) := by
    rw [c, if_neg (by omega), if_neg (by omega)]
    by_cases e : dv = 0
    · rw [if_neg (fun a => a.2 e), if_pos e]
    · rw [if_pos ⟨rfl, e⟩, if_neg e]
  have hf : kWf q (kFd T s i x dv q) := by
    refine ⟨⟨by omega, ?_, ?_⟩, fun s' p _ _ hp _ => ⟨kFd_Q (by omega), kFd_Q (by omega), by rw [kFd_Q (by omega)]; exact hp, fun r _ => by rw [kFd_X]⟩, fun j hj => kFd_o (fun _ => hj) (by omega), fun r j hr hj => kFd_o (by omega) (fun _ => hj)⟩
    · rw [c5]; split <;> omega
    · rw [c7]; split <;> omega
  refine ⟨fun j => if j ≤ q.1 4 then g j else (kFd T s i x dv q).1 5, fun j => if j ≤ q.1 4 then z j else (kFd T s i x dv q).1 7, ⟨by simp [g0], by simp [z0]⟩, ⟨by simp only [c4]; rw [if_neg (by omega)], by simp only [c4]; rw [if_neg (by omega)]⟩, fun j hj => ?_⟩
  rw [c4] at hj
  simp only
  by_cases e : j = q.1 4
  · rw [if_pos (show j ≤ q.1 4 by omega), if_pos (show j ≤ q.1 4 by omega), if_neg (show ¬ j + 1 ≤ q.1 4 by omega), if_neg (show ¬ j + 1 ≤ q.1 4 by omega), e, g1, z1]
    have r15 : (kFd T s i x dv q).2.1 15 (q.1 4) = q.2.2 0 s i := by
      unfold kFd
      simp only
      by_cases ed : dv = 0
      · rw [if_pos ed, kC_Q, kQ_Q, if_neg (by omega), kQ_Q, if_pos ⟨rfl, rfl⟩]
      · rw [if_neg ed]
        simp only [kC_Q, kQ_Q]
        simp
    refine ⟨s, i, ⟨h6, by omega, by rw [kFd_Q (by omega)]; exact h11, by rw [kFd_Q (by omega)]; exact h4, by rw [kFd_X]; exact hx⟩, by rw [r15, kFd_X], ⟨Nat.le_refl _, Nat.le_refl _⟩, ?_⟩
    rw [kFd_X, h3, c5, c7, kFd_Q (r := 6) (by omega)]
    by_cases ed : dv = 0
    · rw [if_pos ed, if_pos ed]
      exact .inl ⟨ed, rfl, rfl⟩
    · rw [if_neg ed, if_neg ed]
      refine .inr ⟨ed, rfl, rfl, ?_, ?_, hd ed⟩
      · unfold kFd
        simp only
        rw [if_neg ed]
        simp only [kC_Q, kQ_Q]
        simp
      · unfold kFd
        simp only
        rw [if_neg ed]
        simp only [kC_Q, kQ_Q]
        simp
  · rw [if_pos (show j ≤ q.1 4 by omega), if_pos (show j ≤ q.1 4 by omega), if_pos (show j + 1 ≤ q.1 4 by omega), if_pos (show j + 1 ≤ q.1 4 by omega)]
    exact kWe_fr hf (by omega) (h2 j (by omega))
end
