/-! PURE: the schemas of a text as a tree: each stands where it is first met -/
def kNd (q : kP) (s : Nat) : Prop := (q.2.1 0 s = 9 → 0 < q.2.1 8 s) ∧ (q.2.1 0 s = 10 → 0 < q.2.1 4 s ∧ q.2.1 8 s ≤ q.2.1 4 s) ∧ (q.2.1 0 s = 6 ∨ q.2.1 0 s = 7 → q.2.1 4 s = 1) ∧ (q.2.1 0 s = 8 → 0 < q.2.1 4 s ∧ ∀ i, i < q.2.1 4 s → q.2.1 0 (q.2.2 1 s i - 1) ≠ 8) ∧ (8 ≤ q.2.1 0 s → q.2.1 0 s ≠ 9 → q.2.1 4 s = q.2.1 7 s)
/-- a schema is met: it was there, or stands here first -/
def kOc (q : kP) (P : Nat → Nat → Prop) (x c c' : Nat) : Prop := x < c ∧ c' = c ∧ (x < 6 ∨ 9 ≤ q.2.1 0 x) ∨ x = c ∧ P c c'
def kTt (q : kP) : Nat → Nat → Nat → Prop
  | 0, _, _ => False
  | D + 1, s, e => kNd q s ∧ ((q.2.1 0 s = 9 ∨ q.2.1 0 s = 10) ∧ e = s + 1 ∨ (q.2.1 0 s ≤ 8 ∨ q.2.1 0 s = 11) ∧ ∃ f : Nat → Nat, f 0 = s + 1 ∧ f (q.2.1 4 s) = e ∧ ∀ i, i < q.2.1 4 s → q.2.2 1 s i ≠ 0 ∧ kOc q (kTt q D) (q.2.2 1 s i - 1) (f i) (f (i + 1)))
theorem kOc_le {q : kP} {P : Nat → Nat → Prop} (hP : ∀ a b, P a b → a < b) {x c c' : Nat} (h : kOc q P x c c') : c ≤ c' ∧ x < c' ∨ c ≤ c' ∧ x < c := by
  rcases h with ⟨h1, h2, _⟩ | ⟨h1, h2⟩
  · exact .inr ⟨by omega, h1⟩
  · have := hP _ _ h2
    exact .inl ⟨by omega, by omega⟩
theorem kOc_mono {q : kP} {P : Nat → Nat → Prop} (hP : ∀ a b, P a b → a < b) {n : Nat} {f : Nat → Nat} {g : Nat → Nat} (h : ∀ i, i < n → kOc q P (g i) (f i) (f (i + 1))) : ∀ j i, i ≤ j → j ≤ n → f i ≤ f j := by
  intro j
  induction j with
  | zero => intro i h1 _; rw [Nat.le_zero.mp h1]; exact Nat.le_refl _
  | succ j ih =>
    intro i h1 h2
    rcases Nat.lt_or_ge j i with h3 | h3
    · have : i = j + 1 := by omega
      rw [this]; exact Nat.le_refl _
    · have a := ih i h3 (by omega)
      have b := kOc_le hP (h j (by omega))
      omega
theorem kTt_lt {q : kP} : ∀ D s e, kTt q D s e → s < e
  | 0, s, e, h => h.elim
  | D + 1, s, e, h => by
    rcases h.2 with h | ⟨_, f, h0, h1, h2⟩
    · omega
    · have := kOc_mono (fun a b => kTt_lt D a b) (fun i hi => (h2 i hi).2) (q.2.1 4 s) 0 (by omega) (Nat.le_refl _)
      omega
theorem kNd_fr {q q' : kP} {s : Nat} (hr : ∀ r, r = 0 ∨ r = 4 ∨ r = 7 ∨ r = 8 → q'.2.1 r s = q.2.1 r s) (hx : ∀ i, i < q.2.1 4 s → q'.2.2 1 s i = q.2.2 1 s i) (hk : q.2.1 0 s = 8 → ∀ i, i < q.2.1 4 s → q'.2.1 0 (q.2.2 1 s i - 1) = q.2.1 0 (q.2.2 1 s i - 1)) (h : kNd q s) : kNd q' s := by
  obtain ⟨h1, h2, h3, h4, h5⟩ := h
  unfold kNd
  rw [hr 0 (by omega), hr 4 (by omega), hr 7 (by omega), hr 8 (by omega)]
  refine ⟨h1, h2, h3, fun h8 => ⟨(h4 h8).1, fun i hi => ?_⟩, h5⟩
  rw [hx i hi, hk h8 i hi]
  exact (h4 h8).2 i hi
theorem kTt_fr {q q' : kP} : ∀ D s e, (∀ r s', r = 0 ∨ r = 4 ∨ r = 7 ∨ r = 8 → s ≤ s' → s' < e → q'.2.1 r s' = q.2.1 r s') → (∀ x, x < e → q'.2.1 0 x = q.2.1 0 x) → (∀ s' i, s ≤ s' → s' < e → q'.2.2 1 s' i = q.2.2 1 s' i) → kTt q D s e → kTt q' D s e
  | 0, s, e, _, _, _, h => h.elim
  | D + 1, s, e, hr, h0, hx, h => by
    have hlt := kTt_lt (D + 1) s e h
    have r0 := hr 0 s (by omega) (Nat.le_refl _) hlt
    have r4 := hr 4 s (by omega) (Nat.le_refl _) hlt
    obtain ⟨hn, h⟩ := h
    rcases h with h | ⟨hk, f, f0, f1, f2⟩
    · refine ⟨kNd_fr (fun r hr2 => hr r s hr2 (Nat.le_refl _) hlt) (fun i _ => hx s i (Nat.le_refl _) hlt) (fun h8 => by omega) hn, .inl ?_⟩
      rw [r0]; exact h
    · have hm := kOc_mono (fun a b => kTt_lt D a b) (fun i hi => (f2 i hi).2)
      have hin : ∀ i, i < q.2.1 4 s → s + 1 ≤ f i ∧ f (i + 1) ≤ e ∧ q.2.2 1 s i - 1 < e := by
        intro i hi
        have a := hm i 0 (by omega) (by omega)
        have b := hm (q.2.1 4 s) (i + 1) (by omega) (Nat.le_refl _)
        have c := kOc_le (fun a b => kTt_lt D a b) (f2 i hi).2
        omega
      refine ⟨kNd_fr (fun r hr2 => hr r s hr2 (Nat.le_refl _) hlt) (fun i _ => hx s i (Nat.le_refl _) hlt) (fun _ i hi => h0 _ (hin i hi).2.2) hn, .inr ⟨by rw [r0]; exact hk, f, f0, by rw [r4]; exact f1, fun i hi => ?_⟩⟩
      rw [r4] at hi
      have hi2 := hin i hi
      rw [hx s i (Nat.le_refl _) hlt]
      refine ⟨(f2 i hi).1, ?_⟩
      rcases (f2 i hi).2 with ⟨g1, g2, g3⟩ | ⟨g1, g2⟩
      · exact .inl ⟨g1, g2, by rw [h0 _ hi2.2.2]; exact g3⟩
      · exact .inr ⟨g1, kTt_fr D _ _ (fun r s' a b c => hr r s' a (by omega) (by omega)) (fun x hx2 => h0 x (by omega)) (fun s' j a b => hx s' j (by omega) (by omega)) g2⟩
/-- the parts that a schema has so far -/
def kPf (q : kP) (D t k : Nat) : Prop := ∃ f : Nat → Nat, f 0 = t + 1 ∧ f k = q.1 1 ∧ ∀ i, i < k → q.2.2 1 t i ≠ 0 ∧ kOc q (kTt q D) (q.2.2 1 t i - 1) (f i) (f (i + 1))
theorem kPf_fr {q q' : kP} {D t k : Nat} (hn : q'.1 1 = q.1 1) (ht : t < q.1 1) (hr : ∀ r s', r = 0 ∨ r = 4 ∨ r = 7 ∨ r = 8 → t < s' → s' < q.1 1 → q'.2.1 r s' = q.2.1 r s') (h0 : ∀ x, x < q.1 1 → q'.2.1 0 x = q.2.1 0 x) (hx : ∀ s' i, t < s' → s' < q.1 1 → q'.2.2 1 s' i = q.2.2 1 s' i) (hxt : ∀ i, i < k → q'.2.2 1 t i = q.2.2 1 t i) (h : kPf q D t k) : kPf q' D t k := by
  obtain ⟨f, f0, f1, f2⟩ := h
  have hm := kOc_mono (fun a b => kTt_lt D a b) (fun i hi => (f2 i hi).2)
  refine ⟨f, f0, by rw [hn]; exact f1, fun i hi => ?_⟩
  have a := hm i 0 (by omega) (by omega)
  have b := hm k (i + 1) (by omega) (Nat.le_refl _)
  have c := kOc_le (fun a b => kTt_lt D a b) (f2 i hi).2
  rw [hxt i hi]
  refine ⟨(f2 i hi).1, ?_⟩
  rcases (f2 i hi).2 with ⟨g1, g2, g3⟩ | ⟨g1, g2⟩
  · exact .inl ⟨g1, g2, by rw [h0 _ (by omega)]; exact g3⟩
  · exact .inr ⟨g1, kTt_fr D _ _ (fun r s' a b c => hr r s' a (by omega) (by omega)) (fun x hx2 => h0 x (by omega)) (fun s' j a b => hx s' j (by omega) (by omega)) g2⟩
/-- a reading inside, then one part more -/
theorem kPf_snoc {q q1 q2 : kP} {D t k x : Nat} (ht : t < q.1 1) (h : kPf q D t k) (hF : kFm q q1) (ho : kOc q1 (kTt q1 D) x (q.1 1) (q1.1 1)) (hn : q2.1 1 = q1.1 1) (hr : ∀ r s', r = 0 ∨ r = 4 ∨ r = 7 ∨ r = 8 → t < s' → s' < q1.1 1 → q2.2.1 r s' = q1.2.1 r s') (h0 : ∀ y, y < q1.1 1 → q2.2.1 0 y = q1.2.1 0 y) (hx : ∀ s' i, t < s' → s' < q1.1 1 → q2.2.2 1 s' i = q1.2.2 1 s' i) (hxt : ∀ i, i < k → q2.2.2 1 t i = q1.2.2 1 t i) (hxk : q2.2.2 1 t k = x + 1) : kPf q2 D t (k + 1) := by
  have hn1 := hF.1 1 (by omega)
  obtain ⟨f, f0, f1, f2⟩ := h
  have hm := kOc_mono (fun a b => kTt_lt D a b) (fun i hi => (f2 i hi).2)
  refine ⟨fun i => if i ≤ k then f i else q1.1 1, by simp [f0], by simp only; rw [if_neg (by omega), hn], fun i hi => ?_⟩
  by_cases e : i = k
  · subst e
    rw [hxk]
    refine ⟨by omega, ?_⟩
    simp only [Nat.le_refl, if_true, Nat.add_sub_cancel]
    rw [if_neg (by omega), f1]
    have c := kOc_le (fun a b => kTt_lt D a b) ho
    have a := hm i 0 (by omega) (Nat.le_refl _)
    rcases ho with ⟨g1, g2, g3⟩ | ⟨g1, g2⟩
    · exact .inl ⟨g1, g2, by rw [h0 x (by omega)]; exact g3⟩
    · exact .inr ⟨g1, kTt_fr D _ _ (fun r s' a b c => hr r s' a (by omega) (by omega)) (fun y hy => h0 y (by omega)) (fun s' j a b => hx s' j (by omega) (by omega)) g2⟩
  · have hik : i < k := by omega
    have a := hm i 0 (by omega) (by omega)
    have b := hm k (i + 1) (by omega) (Nat.le_refl _)
    have c := kOc_le (fun a b => kTt_lt D a b) (f2 i hik).2
    rw [hxt i hik, hF.2.2 1 t i ht]
    refine ⟨(f2 i hik).1, ?_⟩
    simp only
    rw [if_pos (show i ≤ k by omega), if_pos (show i + 1 ≤ k by omega)]
    rcases (f2 i hik).2 with ⟨g1, g2, g3⟩ | ⟨g1, g2⟩
    · exact .inl ⟨g1, g2, by rw [h0 _ (by omega), kFm_r hF (by omega) (by omega)]; exact g3⟩
    · refine .inr ⟨g1, kTt_fr D _ _ (fun r s' a b c => ?_) (fun y hy => ?_) (fun s' j a b => ?_) g2⟩
      · rw [hr r s' a (by omega) (by omega), kFm_r hF (by omega) (by omega)]
      · rw [h0 y (by omega), kFm_r hF (by omega) (by omega)]
      · rw [hx s' j (by omega) (by omega), hF.2.2 1 s' j (by omega)]
section
variable {T : Nat → Nat → Nat} {N : Nat → Int} {m : Nat}
/-- what a reading leaves: where its schema stands -/
def kRt (T : Nat → Nat → Nat) (N : Nat → Int) (m D : Nat) (rec : kR) : Prop := ∀ v br q q' x, kIv T m q → jVb T N m v → rec v br q = .ok (q', x) → kOc q' (kTt q' D) x (q.1 1) (q'.1 1) ∧ (T 0 v ≠ 1 → q'.2.1 0 x ≠ 8)
theorem kUl_tt {rec : kR} {D : Nat} (hrec : kRe T N m rec) (hrt : kRt T N m D rec) {q0 : kP} {s e : Nat} : ∀ k lo cur q q', jTl T (jVe T N m) k lo e cur → kLo T m q0 s q → q.2.1 0 s = 8 → q.2.1 4 s + k = q.2.1 7 s → kPf q D s (q.2.1 4 s) → (∀ i, i < q.2.1 4 s → q.2.1 0 (q.2.2 1 s i - 1) ≠ 8) → kUl T rec s k cur q = .ok q' → kPf q' D s (q'.2.1 4 s) ∧ q'.2.1 4 s = q'.2.1 7 s ∧ q'.2.1 7 s = q.2.1 7 s ∧ q'.2.1 0 s = 8 ∧ ∀ i, i < q'.2.1 4 s → q'.2.1 0 (q'.2.2 1 s i - 1) ≠ 8 := by
  intro k
  induction k with
  | zero =>
    intro lo cur q q' hc hl h8 h7 hp hu h
    cases h
    exact ⟨hp, by omega, rfl, h8, hu⟩
  | succ k ih =>
    intro lo cur q q' hc hl h8 h7 hp hu h
    obtain ⟨hcur, e1, hP, hc⟩ := hc
    subst hcur
    unfold kUl at h
    rw [Nat.add_sub_cancel] at h
    split at h
    · cases h
    · rename_i q1 x hr
      have hok := hrec.1 _ _ _ _ _ hl.1 hP.1 hr
      have hbr := hrec.2 _ _ _ hr
      have hoc := hrt _ _ _ _ _ hl.1 hP.1 hr
      obtain ⟨o1, o2, o3, _⟩ := hok
      obtain ⟨hl1, hr1, hx1⟩ := kLo_fm hl o1 o2
      split at h
      · have e4 := hr1 4 (by omega)
        have hts := hl.2.2.1.2.2
        have hun := kLo_un (x := x) hl1 (by rw [hr1 0 (by omega)]; exact h8) (by rw [e4, hr1 7 (by omega)]; omega) o3
        have hR : ∀ r s', r = 0 ∨ r = 4 ∨ r = 7 ∨ r = 8 → s ≠ s' ∨ r ≠ 4 → (kSs s (q1.2.1 4 s) x (kAk s q1)).2.1 r s' = q1.2.1 r s' := fun r s' a b => by rw [kSs_Q, if_neg (by omega), if_neg (by omega), kAk_r (by omega) (by omega)]
        have hX : ∀ s' i, s' ≠ s ∨ i ≠ q1.2.1 4 s → (kSs s (q1.2.1 4 s) x (kAk s q1)).2.2 1 s' i = q1.2.2 1 s' i := fun s' i a => by rw [kSs_X, if_neg (by omega), kAk_Xo a]
        have hXk : (kSs s (q1.2.1 4 s) x (kAk s q1)).2.2 1 s (q.2.1 4 s) = x + 1 := by rw [kSs_X, if_pos ⟨rfl, rfl, e4.symm⟩]
        have hp2 : kPf (kSs s (q1.2.1 4 s) x (kAk s q1)) D s (q.2.1 4 s + 1) := kPf_snoc hts hp o2 hoc.1 rfl (fun r s' a b c => hR r s' a (by omega)) (fun y _ => hR 0 y (by omega) (by omega)) (fun s' i a _ => hX s' i (by omega)) (fun i hi => hX s i (by omega)) hXk
        have ih := ih e1 _ _ _ hc hun.1 (by rw [hun.2.2 0 (by omega) (by omega), hr1 0 (by omega)]; exact h8) (by rw [hun.2.1, hun.2.2 7 (by omega) (by omega), e4, hr1 7 (by omega)]; omega) (by rw [hun.2.1]; rw [e4] at hp2 ⊢; exact hp2) ?_ h
        · obtain ⟨i1, i2, i3, i4, i5⟩ := ih
          exact ⟨i1, i2, by rw [i3, hun.2.2 7 (by omega) (by omega), hr1 7 (by omega)], i4, i5⟩
        · intro i hi
          rw [hun.2.1, e4] at hi
          by_cases e : i = q.2.1 4 s
          · subst e
            rw [hXk, Nat.add_sub_cancel, hR 0 x (by omega) (by omega)]
            exact hoc.2 hbr
          · rw [hX s i (by omega), hR 0 _ (by omega) (by omega), hx1, kFm_r o2 (by omega)]
            · exact hu i (by omega)
            · have := (hl.1.2.2.2.1 s i hl.2.2.1.2.1 hts (by omega)).2.2.2.1
              have hpos := hl.1.1
              omega
      · cases h
theorem kFl_tt {rec : kR} {D : Nat} (hrec : kRe T N m rec) (hrt : kRt T N m D rec) {q0 : kP} {s e : Nat} : ∀ k lo cur q q', jTl T (jVe T N m) k lo e cur → kLo T m q0 s q → q.2.1 0 s = 11 → q.2.1 4 s + k = q.2.1 7 s → kPf q D s (q.2.1 4 s) → kFl T rec s k cur q = .ok q' → kPf q' D s (q'.2.1 4 s) ∧ q'.2.1 4 s = q'.2.1 7 s ∧ q'.2.1 0 s = 11 := by
  intro k
  induction k with
  | zero =>
    intro lo cur q q' hc hl h8 h7 hp h
    cases h
    exact ⟨hp, by omega, h8⟩
  | succ k ih =>
    intro lo cur q q' hc hl h8 h7 hp h
    obtain ⟨hcur, e1, hP, hc⟩ := hc
    subst hcur
    unfold kFl at h
    rw [Nat.add_sub_cancel] at h
    split at h
    case isFalse => cases h
    rename_i h0
    split at h
    case isFalse => cases h
    rename_i hnm
    split at h
    case isFalse => cases h
    rename_i hn
    split at h
    case isFalse => cases h
    rename_i hty
    split at h
    · cases h
    · rename_i q1 x hr
      have m1 := kMb_ok hP.1 h0 hnm.1
      have m2 := kMb_ok hP.1 h0 hty
      have hlt1 := jVb_lt m1.1
      have hdm := kMb_le (W := kWs 18) hP.1 h0
      generalize kMb T lo (kWs 18) = dv at *
      generalize kMb T lo (kWs 15) = nm at *
      generalize kMb T lo (kWs 12) = ty at *
      have hsy := (kLo_sy (dv := dv) hl (by omega) (by omega) (show nm - 1 < m by omega) hn.1 hdm).2
      have hok := hrec.1 _ _ _ _ _ hsy.1.1 m2.1 hr
      have hoc := hrt _ _ _ _ _ hsy.1.1 m2.1 hr
      obtain ⟨o1, o2, o3, _⟩ := hok
      obtain ⟨hl1, hr1, hx1⟩ := kLo_fm hsy.1 o1 o2
      have e4 := hr1 4 (by omega)
      have hts := hl.2.2.1.2.2
      have hss := kLo_ss (i := q.2.1 4 s) (x := x) hl1 (by rw [hr1 0 (by omega), hsy.2.2 0 (by omega) (by omega)]; omega) (by rw [e4, hsy.2.1]; omega) o3
      have hfd := kLo_fd (x := x) (dv := dv) (i := q.2.1 4 s) hss.1
      have rows : ∀ r, r = 0 ∨ r = 7 → (kFd T s (q.2.1 4 s) x dv (kSs s (q.2.1 4 s) x q1)).2.1 r s = q.2.1 r s := by
        intro r hr
        rw [kFd_Q (by omega), hss.2 r (by omega), hr1 r (by omega), hsy.2.2 r (by omega) (by omega)]
      have row4 : (kFd T s (q.2.1 4 s) x dv (kSs s (q.2.1 4 s) x q1)).2.1 4 s = q.2.1 4 s + 1 := by
        rw [kFd_Q (by omega), hss.2 4 (by omega), e4, hsy.2.1]
      have hd1 : (kSd s (q.2.1 4 s) dv (kSn T s (q.2.1 4 s) (nm - 1) (kAk s q))).1 1 = q.1 1 := rfl
      have hdR : ∀ r s', r = 0 ∨ r = 4 ∨ r = 7 ∨ r = 8 → s' ≠ s ∨ r ≠ 4 → (kSd s (q.2.1 4 s) dv (kSn T s (q.2.1 4 s) (nm - 1) (kAk s q))).2.1 r s' = q.2.1 r s' := fun r s' a b => by
        rw [kSd_Q, if_neg (by omega), kSn_Q, if_neg (by omega), if_neg (by omega), kPn_Q, if_neg (by omega), if_neg (by omega), kAk_r (by omega) (by omega)]
      have hdX : ∀ s' i, s' ≠ s ∨ i ≠ q.2.1 4 s → (kSd s (q.2.1 4 s) dv (kSn T s (q.2.1 4 s) (nm - 1) (kAk s q))).2.2 1 s' i = q.2.2 1 s' i := fun s' i a => by
        rw [kSd_X, if_neg (by omega), kSn_X, if_neg (by omega), if_neg (by omega), kAk_Xo a]
      have hpd : kPf (kSd s (q.2.1 4 s) dv (kSn T s (q.2.1 4 s) (nm - 1) (kAk s q))) D s (q.2.1 4 s) := kPf_fr hd1 hts (fun r s' a b c => hdR r s' a (by omega)) (fun x _ => hdR 0 x (by omega) (by omega)) (fun s' i a b => hdX s' i (by omega)) (fun i hi => hdX s i (by omega)) hp
      have c1 : (kFd T s (q.2.1 4 s) x dv (kSs s (q.2.1 4 s) x q1)).1 1 = q1.1 1 := by rw [kFd_1, if_neg (by omega), if_neg (by omega), if_neg (by omega)]; rfl
      have hp2 : kPf (kFd T s (q.2.1 4 s) x dv (kSs s (q.2.1 4 s) x q1)) D s (q.2.1 4 s + 1) := kPf_snoc (q := kSd s (q.2.1 4 s) dv (kSn T s (q.2.1 4 s) (nm - 1) (kAk s q))) (x := x) hts hpd o2 hoc.1 c1 (fun r s' a b c => by rw [kFd_Q (by omega), kSs_Q, if_neg (by omega), if_neg (by omega)]) (fun y _ => by rw [kFd_Q (by omega), kSs_Q, if_neg (by omega), if_neg (by omega)]) (fun s' i a _ => by rw [kFd_X, kSs_X, if_neg (by omega)]) (fun i hi => by rw [kFd_X, kSs_X, if_neg (by omega)]) (by rw [kFd_X, kSs_X, if_pos ⟨rfl, rfl, rfl⟩])
      exact ih e1 _ _ _ hc hfd (by rw [rows 0 (by omega)]; exact h8) (by rw [row4, rows 7 (by omega)]; omega) (by rw [row4]; exact hp2) h
theorem kYl_r {s : Nat} : ∀ k cur q q', kYl T s k cur q = .ok q' → q'.2.1 7 s = q.2.1 7 s ∧ q'.2.1 8 s = q.2.1 8 s := by
  intro k
  induction k with
  | zero => intro cur q q' h; cases h; exact ⟨rfl, rfl⟩
  | succ k ih =>
    intro cur q q' h
    unfold kYl at h
    split at h
    · have := ih _ _ _ h
      have e : ∀ r, r = 7 ∨ r = 8 → (kSn T s (q.2.1 4 s) (cur - 1) (kAk s q)).2.1 r s = q.2.1 r s := fun r hr => by
        rw [kSn_Q, if_neg (by omega), if_neg (by omega), kPn_Q, if_neg (by omega), if_neg (by omega), kAk_r (by omega) (by omega)]
      rw [e 7 (by omega), e 8 (by omega)] at this
      exact this
    · cases h
theorem kNn_8 {k x : Nat} {q : kP} : (kNn T (q.1 1) x (kSh k q)).2.1 8 (q.1 1) = 0 := by
  unfold kNn
  rw [kQ_Q, kQ_Q, if_neg (by omega), if_neg (by omega), kPn_Q, if_neg (by omega), if_neg (by omega), kSh_Q, if_pos rfl, if_neg (by omega), if_pos (by omega)]
theorem kPf_0 {q : kP} {D : Nat} {t : Nat} (h : q.1 1 = t + 1) : kPf q D t 0 := ⟨fun _ => t + 1, rfl, h.symm, fun i hi => by omega⟩
theorem kBd_tt {rec : kR} {D : Nat} (hrec : kRe T N m rec) (hrt : kRt T N m D rec) {q q' : kP} {v x : Nat} {br : Bool} (h : kIv T m q) (hn : q.1 1 + 1 ≤ 6 + q.1 0) (hv : jVb T N m v) (he : kBd T N rec v br q = .ok (q', x)) : kOc q' (kTt q' (D + 1)) x (q.1 1) (q'.1 1) ∧ (T 0 v ≠ 1 → q'.2.1 0 x ≠ 8) := by
  have ha := h.1
  have known : ∀ w, T 0 w = 2 → kKn T w q = .ok (q', x) → kOc q' (kTt q' (D + 1)) x (q.1 1) (q'.1 1) ∧ q'.2.1 0 x ≠ 8 := by
    intro w h2 hk
    unfold kKn at hk
    split at hk
    · rename_i hw
      cases hk
      have := kFr_1 _ _ hw
      have hw6 : kWd T w - 1 < 6 := by unfold kWd; omega
      exact ⟨.inl ⟨by omega, rfl, .inl hw6⟩, by rw [(h.2.1 _ hw6).1]; omega⟩
    · split at hk
      · rename_i hd
        cases hk
        have := kDf_ok h hd
        exact ⟨.inl ⟨by omega, rfl, .inr this.2.2.1⟩, by omega⟩
      · cases hk
  unfold kBd at he
  split at he
  · rename_i h2
    have := known v h2 he
    exact ⟨this.1, fun _ => this.2⟩
  · split at he
    · rename_i h1
      split at he
      · cases he
      · unfold kUn at he
        split at he
        case isFalse => cases he
        rename_i hL
        split at he
        · cases he
        · rename_i q2 hy
          cases he
          have hu := kLo_u0 (n := T 2 v) h hn (by omega)
          have hch := jVb_l hv h1
          have hok := kUl_ok hrec _ _ _ _ _ hch hu.1 hu.2.1 (by rw [hu.2.2.1, hu.2.2.2]; omega) hy
          have htt := kUl_tt hrec hrt _ _ _ _ _ hch hu.1 hu.2.1 (by rw [hu.2.2.1, hu.2.2.2]; omega) (by rw [hu.2.2.1]; exact kPf_0 rfl) (fun i hi => by rw [hu.2.2.1] at hi; omega) hy
          obtain ⟨i1, i2, i3, i4, i5⟩ := htt
          refine ⟨.inr ⟨rfl, ?_, .inr ⟨.inl (by omega), ?_⟩⟩, fun e => absurd h1 e⟩
          · rw [hu.2.2.2] at i3
            refine ⟨by omega, by omega, by omega, fun _ => ⟨by omega, i5⟩, fun _ _ => i2⟩
          · obtain ⟨f, f0, f1, f2⟩ := i1
            exact ⟨f, f0, f1, f2⟩
    · split at he
      · rename_i h0
        unfold kOb at he
        split at he
        case isFalse => cases he
        rename_i ht
        split at he
        · rename_i h78
          have hk67 : kKt T (kMb T v (kWs 12) - 1) - 1 = 6 ∨ kKt T (kMb T v (kWs 12) - 1) - 1 = 7 := by omega
          generalize kKt T (kMb T v (kWs 12) - 1) - 1 = k at *
          unfold kCl at he
          split at he
          · cases he
          · rename_i hz
            split at he
            · cases he
            · rename_i q1 y hr
              cases he
              have m1 := kMb_ok hv h0 hz
              have har := kLo_ar (k := k) h hn hk67
              have hok := hrec.1 _ _ _ _ _ har.1.1 m1.1 hr
              have hoc := hrt _ _ _ _ _ har.1.1 m1.1 hr
              obtain ⟨o1, o2, o3, _⟩ := hok
              obtain ⟨hl1, hr1, hx1⟩ := kLo_fm har.1 o1 o2
              have hR : ∀ r s', r = 0 ∨ r = 4 ∨ r = 7 ∨ r = 8 → (kSi (q.1 1) y q1).2.1 r s' = q1.2.1 r s' := fun r s' a => by rw [kSi_Q, if_neg (by omega), if_neg (by omega)]
              have hp2 : kPf (kSi (q.1 1) y q1) D (q.1 1) (0 + 1) := kPf_snoc (q := kAk (q.1 1) (kSh k q)) (x := y) (Nat.lt_succ_self _) (kPf_0 rfl) o2 hoc.1 rfl (fun r s' a _ _ => hR r s' a) (fun z _ => hR 0 z (by omega)) (fun s' i a _ => by rw [kSi_X, if_neg (by omega)]) (fun i hi => by omega) (by rw [kSi_X, if_pos ⟨rfl, rfl, rfl⟩])
              have k0 : (kSi (q.1 1) y q1).2.1 0 (q.1 1) = k := by rw [hR 0 _ (by omega), hr1 0 (by omega), har.2.1]
              have k4 : (kSi (q.1 1) y q1).2.1 4 (q.1 1) = 1 := by rw [hR 4 _ (by omega), hr1 4 (by omega), har.2.2.1]
              refine ⟨.inr ⟨rfl, ?_, .inr ⟨.inl (by omega), ?_⟩⟩, fun _ => by omega⟩
              · exact ⟨by omega, by omega, fun _ => k4, by omega, by omega⟩
              · obtain ⟨f, f0, f1, f2⟩ := hp2
                rw [k4]
                exact ⟨f, f0, f1, f2⟩
        · split at he
          · rename_i h9
            have hkt := kKt_1 (T := T) (v := kMb T v (kWs 12) - 1) (by omega)
            have hk9 : 9 ≤ kKt T (kMb T v (kWs 12) - 1) - 1 ∧ kKt T (kMb T v (kWs 12) - 1) - 1 ≤ 11 := by omega
            generalize kKt T (kMb T v (kWs 12) - 1) - 1 = k at *
            unfold kNa at he
            split at he
            case isFalse => cases he
            rename_i hnm
            split at he
            case isFalse => cases he
            rename_i hna
            have m1 := kMb_ok hv h0 hnm.1
            have hlt1 := jVb_lt m1.1
            have hl0 := kLo_nn (k := k) (x := kMb T v (kWs 15) - 1) h hn hk9 (by omega) hna.1
            have r0 := kNn_r (T := T) (k := k) (x := kMb T v (kWs 15) - 1) (q := q) (r := 0) (by omega)
            have r4 := kNn_r (T := T) (k := k) (x := kMb T v (kWs 15) - 1) (q := q) (r := 4) (by omega)
            rw [if_pos rfl] at r0
            rw [if_neg (by omega), if_neg (by omega)] at r4
            have r8 := kNn_8 (T := T) (k := k) (x := kMb T v (kWs 15) - 1) (q := q)
            have c1 : (kNn T (q.1 1) (kMb T v (kWs 15) - 1) (kSh k q)).1 1 = q.1 1 + 1 := rfl
            generalize kNn T (q.1 1) (kMb T v (kWs 15) - 1) (kSh k q) = qn at *
            split at he
            · rename_i hk
              unfold kFx at he
              split at he
              · cases he
              · split at he
                · cases he
                  have k0 : ∀ z, (kQ qn 8 (q.1 1) z).2.1 0 (q.1 1) = 9 := fun z => by rw [kQ_Q, if_neg (by omega), r0, hk]
                  refine ⟨.inr ⟨rfl, ⟨fun _ => ?_, by rw [k0]; omega, by rw [k0]; omega, by rw [k0]; omega, by rw [k0]; omega⟩, .inl ⟨.inl (k0 _), c1⟩⟩, fun _ => by rw [k0]; omega⟩
                  rw [kQ_Q, if_pos ⟨rfl, rfl⟩]
                  omega
                · cases he
            · split at he
              · rename_i hk
                unfold kEn at he
                split at he
                · cases he
                · rename_i hz
                  have m2 := kMb_ok hv h0 hz
                  split at he
                  · rename_i hL
                    split at he
                    · cases he
                    · rename_i q2 hy
                      have hap := kLo_ap (n := T 2 (kMb T v (kWs 17) - 1)) hl0 (by omega) r4 (by omega)
                      have hch := jVb_l m2.1 hL.1
                      have hyl := kYl_ok _ _ _ _ _ hch hap.1 (by rw [hap.2.1 0 (by omega), r0]; omega) (by rw [hap.2.1 4 (by omega), hap.2.2, r4]; omega) hy
                      obtain ⟨i1, i2, i3, i4, i5, i6, i7⟩ := hyl
                      have n2 := i2 1 (by omega)
                      have a1 : (kAp (q.1 1) (T 2 (kMb T v (kWs 17) - 1)) qn).1 1 = qn.1 1 := rfl
                      rw [a1, c1] at n2
                      rw [hap.2.1 4 (by omega), r4] at i6
                      rw [hap.2.1 0 (by omega), r0, hk] at i7
                      have hyr := kYl_r _ _ _ _ hy
                      have a7 : (kAp (q.1 1) (T 2 (kMb T v (kWs 17) - 1)) qn).2.1 7 (q.1 1) = T 2 (kMb T v (kWs 17) - 1) := hap.2.2
                      have a8 : (kAp (q.1 1) (T 2 (kMb T v (kWs 17) - 1)) qn).2.1 8 (q.1 1) = 0 := by
                        rw [kAp_Q]; repeat' rw [if_neg (by omega)]
                        exact r8
                      rw [a7, a8] at hyr
                      split at he
                      · cases he
                        refine ⟨.inr ⟨rfl, ⟨by rw [i7]; omega, fun _ => ⟨by omega, by omega⟩, by rw [i7]; omega, by rw [i7]; omega, fun _ _ => by omega⟩, .inl ⟨.inr i7, n2⟩⟩, fun _ => by rw [i7]; omega⟩
                      · split at he
                        · rename_i hdz hd
                          cases he
                          have hpt := kFr_1 _ _ hd.2
                          have k0 : ∀ z, (kQ q2 8 (q.1 1) z).2.1 0 (q.1 1) = 10 := fun z => by rw [kQ_Q, if_neg (by omega), i7]
                          have k4 : ∀ z, (kQ q2 8 (q.1 1) z).2.1 4 (q.1 1) = q2.2.1 4 (q.1 1) := fun z => by rw [kQ_Q, if_neg (by omega)]
                          have k7 : ∀ z, (kQ q2 8 (q.1 1) z).2.1 7 (q.1 1) = q2.2.1 7 (q.1 1) := fun z => by rw [kQ_Q, if_neg (by omega)]
                          refine ⟨.inr ⟨rfl, ⟨by rw [k0]; omega, fun _ => ⟨by rw [k4]; omega, ?_⟩, by rw [k0]; omega, by rw [k0]; omega, fun _ _ => by rw [k4, k7]; omega⟩, .inl ⟨.inr (k0 _), n2⟩⟩, fun _ => by rw [k0]; omega⟩
                          rw [k4, kQ_Q, if_pos ⟨rfl, rfl⟩]
                          unfold kPt
                          omega
                        · cases he
                  · cases he
              · rename_i hk9' hk10
                unfold kRc at he
                split at he
                · cases he
                · rename_i hz
                  have m2 := kMb_ok hv h0 hz
                  split at he
                  · rename_i hL
                    split at he
                    · cases he
                    · rename_i q2 hy
                      cases he
                      have hap := kLo_ap (n := T 2 (kMb T v (kWs 19) - 1)) hl0 (by omega) r4 (by omega)
                      have hch := jVb_l m2.1 hL.1
                      have htt := kFl_tt hrec hrt _ _ _ _ _ hch hap.1 (by rw [hap.2.1 0 (by omega), r0]; omega) (by rw [hap.2.1 4 (by omega), hap.2.2, r4]; omega) (by rw [hap.2.1 4 (by omega), r4]; exact kPf_0 c1) hy
                      obtain ⟨i1, i2, i3⟩ := htt
                      refine ⟨.inr ⟨rfl, ⟨by rw [i3]; omega, by rw [i3]; omega, by rw [i3]; omega, by rw [i3]; omega, fun _ _ => i2⟩, .inr ⟨.inr i3, ?_⟩⟩, fun _ => by rw [i3]; omega⟩
                      obtain ⟨f, f0, f1, f2⟩ := i1
                      exact ⟨f, f0, f1, f2⟩
                  · cases he
          · have := known _ ht.2 he
            exact ⟨this.1, fun _ => this.2⟩
      · cases he
theorem kSo_tt : ∀ D, kRt T N m D (kSo T N D) := by
  intro D
  induction D with
  | zero =>
    intro v br q q' x _ _ h
    unfold kSo at h
    split at h <;> cases h
  | succ D ih =>
    intro v br q q' x hi hv h
    unfold kSo at h
    split at h
    · rename_i hl
      have hc := kIv_c0 hi hl
      have := kBd_tt (q := kC q 0 (q.1 0 + 1)) (kSo_ok D) ih hc.1 hc.2.1 hv h
      exact this
    · cases h
end
