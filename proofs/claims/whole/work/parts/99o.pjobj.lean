/-! PURE: objects, values -/
theorem jOs_ok {B : Nat → Nat} {n : Nat} {val : jP → Except Nat (jP × Nat)} (hval : ∀ p r, jOk n p → val p = .ok r → jVo n p r.1 r.2) {v : Nat} : ∀ f p last m p', jOk n p → jLi v last m p → jOs B n val v f p last = .ok p' → jLo n v p p' := by
  intro f
  induction f with
  | zero => intro p last m p' _ _ h; cases h
  | succ f ih =>
    intro p last m p' ho hi h
    unfold jOs at h
    split at h
    case isFalse => cases h
    rename_i h34
    split at h
    · cases h
    · rename_i p1 key hk
      obtain ⟨hvo, hks, hkk⟩ := jStr_ok ho (jBt_lt h34 (by omega)) hk
      simp only at hvo hks hkk
      have ho1 := jVo_ok hvo ho
      have hvn : v < p.2.1 := hi.1
      have hll := jLi_last hi
      have hl0 := jLi_l hi
      have hI1 := jLi_vo hi hvo
      obtain ⟨g1, g2, g3, g4, g5, g6, g7, g8, g9, g10, g11, g12⟩ := hvo
      split at h
      case isFalse => cases h
      split at h
      case isFalse => cases h
      rename_i h58
      have hs1 := jSk_le (B := B) ho1.1
      have hlt := jBt_lt h58 (by omega)
      have hs2 := jSk_le (B := B) (n := n) (a := jSk B n p1.1 + 1) (by omega)
      generalize hqa : jSk B n (jSk B n p1.1 + 1) = qa at *
      split at h
      · cases h
      · rename_i p2 w hv
        have hoq : jOk n (jTo p1 qa) := ⟨hs2.2, by have := ho1.2.1; show p1.2.1 ≤ qa; omega, by have := ho1.2.2; show p1.2.2.1 ≤ qa; omega⟩
        have hvo2 := hval _ _ hoq hv
        simp only at hvo2
        have ho2 := jVo_ok hvo2 hoq
        have hI2 := jLi_vo (jLi_to (a := qa) hI1) hvo2
        obtain ⟨k1, k2, k3, k4, k5, k6, k7, k8, k9, k10, k11, k12⟩ := hvo2
        have q1 : (jTo p1 qa).1 = qa := rfl
        have q2 : (jTo p1 qa).2 = p1.2 := rfl
        rw [q2] at k1 k2 k5 k6 k7 k8 k11 k12
        rw [q1] at k3 k5 k7
        have k8' : ∀ k i, k ≠ 6 → i < p1.2.1 → p2.2.2.2.1 k i = p1.2.2.2.1 k i := k8.1
        have hE1 : ∀ u, v < u → u < key → jIs p2 u → p2.2.2.2.1 7 u ≤ key := by
          intro u a b c
          have hu : u < p.2.1 := by omega
          unfold jIs at c
          rw [k8' 0 u (by omega) (by omega), g8.1 0 u (by omega) hu] at c
          rw [k8' 7 u (by omega) (by omega), g8.1 7 u (by omega) hu]
          have := (hi.2.2.2.1 u a hu c).1
          omega
        have hLk1 : jLi v (key + 1) (m + 1) (jLk v last key p2) := jLi_lk hI2 (by omega) (by omega) (by omega) (by rw [k8' 4 key (by omega) (by omega)]; exact g9) hE1
        have hLk : jLi v (w + 1) (m + 1 + 1) (jLk v (key + 1) w (jLk v last key p2)) := by
          refine jLi_lk hLk1 (by rw [jLk_2]; omega) (by omega) (by omega) ?_ ?_
          · rw [jLk_row, if_neg (by omega)]
            split
            · rw [if_neg (by omega)]; exact k9
            · rw [if_neg (by omega)]; exact k9
          · intro u a b c
            have r : ∀ r, r = 0 ∨ r = 7 → (jLk v last key p2).2.2.2.1 r u = p2.2.2.2.1 r u := by
              intro r hr
              rw [jLk_row, if_neg (by omega)]
              split
              · rw [if_neg (by omega)]
              · rw [if_neg (by omega)]
            unfold jIs at c
            rw [r 0 (.inl rfl)] at c
            rw [r 7 (.inr rfl)]
            rcases Nat.lt_or_ge u key with hu | hu
            · have := hE1 u a hu c
              omega
            · have : u = key := by omega
              subst this
              rw [k8' 0 u (by omega) (by omega), g1, hkk] at c
              omega
        have hfr : ∀ a, jFr v p (jTo (jLk v (key + 1) w (jLk v last key p2)) a) := by
          intro a
          have f1 : jFr v p p1 := ⟨fun k i hk hi => g8.1 k i hk (by omega), g8.2.1, fun i hi => g8.2.2 i (by omega)⟩
          have f2 : jFr v p1 p2 := ⟨fun k i hk hi => k8' k i hk (by omega), k8.2.1, fun i hi => k8.2.2 i (by show i < p1.2.1; omega)⟩
          have f3 : jFr v p2 (jLk v last key p2) := jFr_lk (a := (jLk v last key p2).1) (by omega)
          have f4 : jFr v (jLk v last key p2) (jTo (jLk v (key + 1) w (jLk v last key p2)) a) := jFr_lk (by omega)
          exact jFr_tr (jFr_tr (jFr_tr f1 (Nat.le_refl _) g6 f2) (Nat.le_refl _) (by have := k6; omega) f3) (Nat.le_refl _) (by rw [jLk_3]; omega) f4
        have hrow : ∀ k a, k = 0 ∨ k = 1 ∨ k = 4 ∨ k = 5 → (jTo (jLk v (key + 1) w (jLk v last key p2)) a).2.2.2.1 k v = p.2.2.2.1 k v := by
          intro k a hk
          show (jLk v (key + 1) w (jLk v last key p2)).2.2.2.1 k v = _
          rw [jLk_row, if_neg (by omega), if_neg (by omega), if_neg (by omega), jLk_row, if_neg (by omega), ← g8.1 k v (by omega) hvn, ← k8' k v (by omega) (by omega)]
          split
          · rw [if_neg (by omega)]
          · rw [if_neg (by omega)]
        have e2 : ∀ a, (jTo (jLk v (key + 1) w (jLk v last key p2)) a).2.1 = p2.2.1 := fun a => by
          show (jLk v (key + 1) w (jLk v last key p2)).2.1 = _
          rw [jLk_2, jLk_2]
        have e3 : ∀ a, (jTo (jLk v (key + 1) w (jLk v last key p2)) a).2.2.1 = p2.2.2.1 := fun a => by
          show (jLk v (key + 1) w (jLk v last key p2)).2.2.1 = _
          rw [jLk_3, jLk_3]
        split at h
        · cases h
        · rename_i a hs
          have hsp := jSp_ok ho2.1 (by omega) hs
          simp only at hsp
          have hok : jOk n (jTo (jLk v (key + 1) w (jLk v last key p2)) a) := ⟨hsp.2, by rw [e2]; have := ho2.2.1; show p2.2.1 ≤ a; omega, by rw [e3]; have := ho2.2.2; show p2.2.2.1 ≤ a; omega⟩
          have hL := ih _ _ _ _ hok (jLi_to hLk) h
          obtain ⟨a1, a2, a3, a4, a5, a6, a7, a8, a9⟩ := hL
          rw [e2] at a3 a4
          rw [e3] at a5 a6
          have e1 : (jTo (jLk v (key + 1) w (jLk v last key p2)) a).1 = a := rfl
          rw [e1] at a1 a4 a6
          refine ⟨by omega, a2, by omega, by omega, by omega, by omega, jFr_tr (hfr a) (Nat.le_refl _) (by rw [e3]; omega) a7, fun k hk => by rw [a8 k hk, hrow k a hk], a9⟩
        · rename_i a hs
          have hsp := jSp_ok ho2.1 (by omega) hs
          simp only at hsp
          cases h
          refine ⟨?_, hsp.2, ?_, ?_, ?_, ?_, hfr a, fun k hk => hrow k a hk, w + 1, m + 1 + 1, jLi_to hLk⟩
          · show p.1 < a; omega
          · rw [e2]; omega
          · rw [e2]; show p2.2.1 + p.1 ≤ p.2.1 + a; omega
          · rw [e3]; omega
          · rw [e3]; show p2.2.2.1 + p.1 ≤ p.2.2.1 + a; omega
theorem jNd_row {k : Nat} {p : jP} (r i : Nat) : (jNd k p).2.2.2.1 r i = if i = p.2.1 then (if r = 0 then k else if r = 1 then p.1 else if r = 2 ∨ r = 3 ∨ r = 4 ∨ r = 5 then 0 else p.2.2.2.1 r i) else p.2.2.2.1 r i := by
  simp only [jNd, a2_ite]
  by_cases hi : i = p.2.1
  · simp only [hi, and_true, if_true]
    by_cases h0 : r = 0
    · simp [h0]
    · by_cases h1 : r = 1
      · simp [h1]
      · by_cases h2 : r = 2 <;> by_cases h3 : r = 3 <;> by_cases h4 : r = 4 <;> by_cases h5 : r = 5 <;> simp [*]
  · simp [hi]
theorem jLi_nd {k a : Nat} {p : jP} : jLi p.2.1 0 0 (jTo (jNd k p) a) := by
  have e : ∀ r i, (jTo (jNd k p) a).2.2.2.1 r i = _ := fun r i => jNd_row (k := k) (p := p) r i
  refine ⟨Nat.lt_succ_self _, by rw [e]; simp, .inl ⟨rfl, rfl, by rw [e]; simp⟩, ?_, ?_, ?_⟩
  · intro u h1 h2
    have : u < p.2.1 + 1 := h2
    omega
  · intro u h1 h2
    omega
  · intro u h1 h2
    have : u < p.2.1 + 1 := h2
    omega
/-- a container whose children have been read -/
theorem jLo_vo {n k a : Nat} {p p2 : jP} (ho : jOk n p) (hk : k = 0 ∨ k = 1) (ha : p.1 < a) (h : (jTo (jNd k p) a) = p2 ∧ a ≤ n ∨ ∃ a0, p.1 < a0 ∧ a0 ≤ a ∧ p2.1 = a ∧ jLo n p.2.1 (jTo (jNd k p) a0) p2) : jVo n p (jSe p2 7 p.2.1 p2.2.1) p.2.1 := by
  have key : p.2.1 < p2.2.1 ∧ p.1 < p2.1 ∧ p2.1 ≤ n ∧ p2.2.1 + p.1 ≤ p.2.1 + p2.1 ∧ p.2.2.1 ≤ p2.2.2.1 ∧ p2.2.2.1 + p.1 ≤ p.2.2.1 + p2.1 ∧ jFr p.2.1 p p2 ∧ p2.2.2.2.1 0 p.2.1 = k ∧ p2.2.2.2.1 4 p.2.1 = 0 ∧ p2.2.2.2.1 1 p.2.1 = p.1 ∧ ∃ last m, jLi p.2.1 last m p2 := by
    have hfr : ∀ a, jFr p.2.1 p (jTo (jNd k p) a) := by
      intro a
      refine ⟨fun r i hr hi => ?_, fun i hi => ?_, fun i hi => ?_⟩
      · show (jNd k p).2.2.2.1 r i = _
        rw [jNd_row, if_neg (by omega)]
      · show (jNd k p).2.2.2.1 6 i = _
        rw [jNd_row]
        simp
      · show (if i = p.2.1 then 0 else p.2.2.2.2 i) = _
        rw [if_neg (by omega)]
    rcases h with ⟨h, hn⟩ | ⟨a0, h1, h2, h3, h4⟩
    · subst h
      refine ⟨Nat.lt_succ_self _, ha, hn, ?_, Nat.le_refl _, ?_, hfr a, ?_, ?_, ?_, 0, 0, jLi_nd⟩
      · show p.2.1 + 1 + p.1 ≤ p.2.1 + a
        omega
      · show p.2.2.1 + p.1 ≤ p.2.2.1 + a
        omega
      · show (jNd k p).2.2.2.1 0 _ = _
        rw [jNd_row]; simp
      · show (jNd k p).2.2.2.1 4 _ = _
        rw [jNd_row]; simp
      · show (jNd k p).2.2.2.1 1 _ = _
        rw [jNd_row]; simp
    · obtain ⟨a1, a2, a3, a4, a5, a6, a7, a8, a9⟩ := h4
      have q1 : (jTo (jNd k p) a0).1 = a0 := rfl
      have q2 : (jTo (jNd k p) a0).2.1 = p.2.1 + 1 := rfl
      have q3 : (jTo (jNd k p) a0).2.2.1 = p.2.2.1 := rfl
      rw [q1] at a1 a4 a6
      rw [q2] at a3 a4
      rw [q3] at a5 a6
      refine ⟨by omega, by omega, a2, by omega, a5, by omega, jFr_tr (hfr a0) (Nat.le_refl _) (Nat.le_refl _) a7, ?_, ?_, ?_, a9⟩
      · rw [a8 0 (by omega)]
        show (jNd k p).2.2.2.1 0 _ = _
        rw [jNd_row]; simp
      · rw [a8 4 (by omega)]
        show (jNd k p).2.2.2.1 4 _ = _
        rw [jNd_row]; simp
      · rw [a8 1 (by omega)]
        show (jNd k p).2.2.2.1 1 _ = _
        rw [jNd_row]; simp
  obtain ⟨k1, k2, k3, k4, k5, k6, k7, k8, k9, k10, last, m, hL⟩ := key
  have e : ∀ r i, (jSe p2 7 p.2.1 p2.2.1).2.2.2.1 r i = if r = 7 ∧ i = p.2.1 then p2.2.1 else p2.2.2.2.1 r i := fun r i => a2_ite ..
  obtain ⟨l1, l2, l3, l4, l5, l6⟩ := hL
  refine ⟨rfl, k1, k2, k3, k4, k5, k6, ⟨fun r i hr hi => ?_, fun i hi => ?_, k7.2.2⟩, ?_, ?_, ?_, ?_⟩
  · rw [e, if_neg (by omega)]; exact k7.1 r i hr hi
  · rw [e, if_neg (by omega)]; exact k7.2.1 i hi
  · rw [e, if_neg (by omega)]; exact k9
  · rw [e, if_neg (by omega)]; exact k10
  · intro u h1 h2 h3
    rw [e, if_neg (by omega)] at h3
    rw [e, if_neg (by omega), e, if_neg (by omega)]
    rcases Nat.lt_or_ge p.2.1 u with hu | hu
    · exact l6 u hu h2 h3
    · have hup : u = p.2.1 := by omega
      rw [hup, k8] at h3
      rcases hk with hk | hk <;> rw [hk] at h3 <;> cases h3
  · intro u h1 h2 h3
    unfold jIs at h3
    rw [e, if_neg (by omega)] at h3
    rcases Nat.lt_or_ge p.2.1 u with hu | hu
    · have h4 := l4 u hu h2 h3
      rw [e, if_neg (by omega), e, if_neg (by omega), e, if_neg (by omega)]
      exact ⟨h4.1, jCh_upd _ _ _ (fun i _ _ => by rw [e, if_neg (by omega)]) h4.2⟩
    · have : u = p.2.1 := by omega
      subst this
      rw [e, if_pos ⟨rfl, rfl⟩, e, if_neg (by omega), e, if_neg (by omega)]
      refine ⟨Nat.le_refl _, jCh_upd (T := p2.2.2.2.1) _ _ _ (fun i _ _ => by rw [e, if_neg (by omega)]) ?_⟩
      rcases l3 with ⟨b1, b2, b3⟩ | ⟨b1, b2, b3, b4, b5⟩
      · rw [l2, b2]
        exact b3
      · rw [l2]
        exact jCl_ch b4 b3 _ _ _ b5
theorem jCo_ok {B : Nat → Nat} {n : Nat} {val : jP → Except Nat (jP × Nat)} (hval : ∀ p r, jOk n p → val p = .ok r → jVo n p r.1 r.2) {p : jP} {r : jP × Nat} (ho : jOk n p) (hb : jBt B n p.1 = 123 ∨ jBt B n p.1 = 91) (h : jCo B n val p = .ok r) : jVo n p r.1 r.2 := by
  have hlt := jBt_lt (B := B) (n := n) (a := p.1) rfl (by omega)
  have hs := jSk_le (B := B) (n := n) (a := p.1 + 1) (by omega)
  have hok : ∀ k, jOk n (jTo (jNd k p) (jSk B n (p.1 + 1))) := fun k => ⟨hs.2, by have := ho.2.1; show p.2.1 + 1 ≤ jSk B n (p.1 + 1); omega, by have := ho.2.2; show p.2.2.1 ≤ jSk B n (p.1 + 1); omega⟩
  unfold jCo at h
  split at h
  · simp only at h
    split at h
    · rename_i h2
      cases h
      have := jBt_lt h2 (by omega)
      have e : (jTo (jNd 0 p) (jSk B n (p.1 + 1))).1 = jSk B n (p.1 + 1) := rfl
      rw [e] at this
      exact jLo_vo (k := 0) (a := jSk B n (p.1 + 1) + 1) ho (.inl rfl) (by omega) (.inl ⟨rfl, this⟩)
    · split at h
      · cases h
      · rename_i p2 hl
        cases h
        have hL := jOs_ok hval _ _ _ 0 _ (hok 0) jLi_nd hl
        have := hL.1
        have e : (jTo (jNd 0 p) (jSk B n (p.1 + 1))).1 = jSk B n (p.1 + 1) := rfl
        rw [e] at this
        exact jLo_vo (k := 0) (a := p2.1) ho (.inl rfl) (by omega) (.inr ⟨jSk B n (p.1 + 1), by omega, by omega, rfl, hL⟩)
  · simp only at h
    split at h
    · rename_i h2
      cases h
      have := jBt_lt h2 (by omega)
      have e : (jTo (jNd 1 p) (jSk B n (p.1 + 1))).1 = jSk B n (p.1 + 1) := rfl
      rw [e] at this
      exact jLo_vo (k := 1) (a := jSk B n (p.1 + 1) + 1) ho (.inr rfl) (by omega) (.inl ⟨rfl, this⟩)
    · split at h
      · cases h
      · rename_i p2 hl
        cases h
        have hL := jLs_ok hval _ _ _ 0 _ (hok 1) jLi_nd hl
        have := hL.1
        have e : (jTo (jNd 1 p) (jSk B n (p.1 + 1))).1 = jSk B n (p.1 + 1) := rfl
        rw [e] at this
        exact jLo_vo (k := 1) (a := p2.1) ho (.inr rfl) (by omega) (.inr ⟨jSk B n (p.1 + 1), by omega, by omega, rfl, hL⟩)
theorem jV_ok {B : Nat → Nat} {n : Nat} : ∀ D p r, jOk n p → jV B n D p = .ok r → jVo n p r.1 r.2 := by
  intro D
  induction D with
  | zero =>
    intro p r ho h
    unfold jV at h
    split at h
    · cases h
    · exact jLf_ok ho h
  | succ D ih =>
    intro p r ho h
    unfold jV at h
    split at h
    · rename_i hb
      exact jCo_ok ih ho hb h
    · exact jLf_ok ho h
