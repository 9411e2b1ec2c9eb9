/-! PURE: objects, values, the whole text -/
def jNt (D v last m : Nat) (p : jP) : Prop := jTn p.2.2.2.1 (jTr p.2.2.2.1 p.2.2.2.2 D) m (v + 1) p.2.1 (p.2.2.2.1 3 v) last ∧ p.2.2.2.1 0 v = 0 ∧ p.2.2.2.1 2 v = 2 * m ∧ v < p.2.1
theorem jLk2_row {v last key w : Nat} {p : jP} (k i : Nat) : (jLk v (key + 1) w (jLk v last key p)).2.2.2.1 k i = if k = 2 ∧ i = v then p.2.2.2.1 2 v + 2 else if k = 4 ∧ i = key then w + 1 else if last = 0 then (if k = 3 ∧ i = v then key + 1 else p.2.2.2.1 k i) else (if k = 4 ∧ i = last - 1 then key + 1 else p.2.2.2.1 k i) := by
  rw [jLk_row]
  by_cases h : k = 2 ∧ i = v
  · rw [if_pos h, if_pos h, jLk_row, if_pos ⟨rfl, rfl⟩]
  · rw [if_neg h, if_neg h, if_neg (by omega)]
    by_cases h4 : k = 4 ∧ i = key
    · rw [if_pos (by omega), if_pos h4]
    · rw [if_neg (by omega), if_neg h4, jLk_row, if_neg h]
theorem jOs_vt {B : Nat → Nat} {n D : Nat} {val : jP → Except Nat (jP × Nat)} (hval : ∀ p r, jOk n p → val p = .ok r → jVo n p r.1 r.2) (htr : ∀ p r, jOk n p → val p = .ok r → jVt D p r.1) {v : Nat} : ∀ f p last m p', jOk n p → jNt D v last m p → jOs B n val v f p last = .ok p' → (∃ last' m', jNt D v last' m' p') ∧ jSw p'.2.2.2.1 p'.2.1 + p.1 ≤ jSw p'.2.2.2.1 p.2.1 + p'.1 ∧ jWf p p' ∧ p.2.1 < p'.2.1 := by
  intro f
  induction f with
  | zero => intro p last m p' _ _ h; cases h
  | succ f ih =>
    intro p last m p' ho hi h
    unfold jOs at h
    split at h
    case isFalse => cases h
    rename_i h34
    split at h
    · cases h
    · rename_i p1 key hk
      obtain ⟨hvo, hks, hkk⟩ := jStr_ok ho (jBt_lt h34 (by omega)) hk
      have hst := jStr_vt (D := D) (jBt_lt h34 (by omega)) hk
      simp only at hvo hks hkk hst
      have ho1 := jVo_ok hvo ho
      obtain ⟨i1, i2, i3, i4⟩ := hi
      have hP : ∀ a b, jTr p.2.2.2.1 p.2.2.2.2 D a b → a < b := fun a b => jTr_lt D a b
      have hb := jTn_bd hP _ _ _ _ _ i1
      have hwf1 := jWf_vo hvo
      obtain ⟨g1, g2, g3, g4, g5, g6, g7, g8, g9, g10, g11, g12⟩ := hvo
      split at h
      case isFalse => cases h
      split at h
      case isFalse => cases h
      rename_i h58
      have hs1 := jSk_le (B := B) ho1.1
      have hlt := jBt_lt h58 (by omega)
      have hs2 := jSk_le (B := B) (n := n) (a := jSk B n p1.1 + 1) (by omega)
      generalize hqa : jSk B n (jSk B n p1.1 + 1) = qa at *
      split at h
      · cases h
      · rename_i p2 w hv
        have hoq : jOk n (jTo p1 qa) := ⟨hs2.2, by have := ho1.2.1; show p1.2.1 ≤ qa; omega, by have := ho1.2.2; show p1.2.2.1 ≤ qa; omega⟩
        have hvo2 := hval _ _ hoq hv
        have hvt2 := htr _ _ hoq hv
        simp only at hvo2 hvt2
        have ho2 := jVo_ok hvo2 hoq
        have hwf2 : jWf p1 p2 := by
          have := jWf_vo hvo2
          exact this
        obtain ⟨k1, k2, k3, k4, k5, k6, k7, k8, k9, k10, k11, k12⟩ := hvo2
        have q1 : (jTo p1 qa).1 = qa := rfl
        have q2 : (jTo p1 qa).2 = p1.2 := rfl
        rw [q2] at k1 k2 k5 k6 k7 k8 k11 k12
        rw [q1] at k3 k5 k7
        have k8' : ∀ k i, k ≠ 6 → i < p1.2.1 → p2.2.2.2.1 k i = p1.2.2.2.1 k i := k8.1
        have k8n : ∀ i, i < p1.2.1 → p2.2.2.2.2 i = p1.2.2.2.2 i := k8.2.2
        have hvt3 : jTr p2.2.2.2.1 p2.2.2.2.2 D p1.2.1 p2.2.1 := hvt2.1
        have hsw2 : jSw p2.2.2.2.1 p2.2.1 + qa ≤ jSw p2.2.2.2.1 p1.2.1 + p2.1 + 1 := hvt2.2
        have hrow := fun k i => jLk2_row (v := v) (last := last) (key := key) (w := w) (p := p2) k i
        have e5 : (jLk v (key + 1) w (jLk v last key p2)).2.2.2.2 = p2.2.2.2.2 := by rw [jLk_5, jLk_5]
        have e21 : (jLk v (key + 1) w (jLk v last key p2)).2.1 = p2.2.1 := by rw [jLk_2, jLk_2]
        have hold : ∀ k i, k ≠ 6 → i < p.2.1 → p2.2.2.2.1 k i = p.2.2.2.1 k i := fun k i hk hi => by rw [k8' k i hk (by omega), g8.1 k i hk hi]
        have hkey : key = p.2.1 := g1
        have hw : w = p.2.1 + 1 := by omega
        have hnew : jTr (jLk v (key + 1) w (jLk v last key p2)).2.2.2.1 p2.2.2.2.2 D (p.2.1 + 1) p2.2.1 := by
          rw [← hks]
          refine jTr_fr D _ _ (fun k i hk b1 b2 b3 => ?_) (fun _ _ _ => rfl) hvt3
          rw [hrow, if_neg (by omega), if_neg (by omega)]
          split
          · rw [if_neg (by omega)]
          · rw [if_neg (by omega)]
        have h4w : (jLk v (key + 1) w (jLk v last key p2)).2.2.2.1 4 (p.2.1 + 1) = 0 := by
          rw [hrow, if_neg (by omega), if_neg (by omega)]
          have : p2.2.2.2.1 4 (p.2.1 + 1) = 0 := by rw [← hw]; exact k9
          split
          · rw [if_neg (by omega)]; exact this
          · rw [if_neg (by omega)]; exact this
        have h0k : (jLk v (key + 1) w (jLk v last key p2)).2.2.2.1 0 p.2.1 = 2 := by
          rw [hrow, if_neg (by omega), if_neg (by omega)]
          have : p2.2.2.2.1 0 p.2.1 = 2 := by rw [k8' 0 _ (by omega) (by omega)]; exact hkk
          split
          · rw [if_neg (by omega)]; exact this
          · rw [if_neg (by omega)]; exact this
        have h4k : (jLk v (key + 1) w (jLk v last key p2)).2.2.2.1 4 p.2.1 = p.2.1 + 2 := by
          rw [hrow, if_neg (by omega), if_pos (by omega)]
          omega
        have hNt : ∀ a, jNt D v (w + 1) (m + 1) (jTo (jLk v (key + 1) w (jLk v last key p2)) a) := by
          intro a
          refine ⟨?_, ?_, ?_, ?_⟩
          · show jTn (jLk v (key + 1) w (jLk v last key p2)).2.2.2.1 (jTr (jLk v (key + 1) w (jLk v last key p2)).2.2.2.1 (jLk v (key + 1) w (jLk v last key p2)).2.2.2.2 D) (m + 1) (v + 1) (jLk v (key + 1) w (jLk v last key p2)).2.1 ((jLk v (key + 1) w (jLk v last key p2)).2.2.2.1 3 v) (w + 1)
            rw [e21, e5]
            rcases hb.2 with ⟨hm, hl⟩ | ⟨hm, hl1, hl2⟩
            · subst hm
              have hvw : v + 1 = p.2.1 := i1.2.1
              have e3 : (jLk v (key + 1) w (jLk v last key p2)).2.2.2.1 3 v = p.2.1 + 1 := by
                rw [hrow, if_neg (by omega), if_neg (by omega), if_pos hl, if_pos ⟨rfl, rfl⟩, hkey]
              rw [e3, hvw]
              exact ⟨rfl, h0k, h4k, p2.2.1, hnew, .inl ⟨rfl, by omega, rfl, h4w⟩⟩
            · have hl0 : ¬ last = 0 := by omega
              have e3 : (jLk v (key + 1) w (jLk v last key p2)).2.2.2.1 3 v = p.2.2.2.1 3 v := by
                rw [hrow, if_neg (by omega), if_neg (by omega), if_neg hl0, if_neg (by omega), hold 3 v (by omega) i4]
              have ew : w + 1 = p.2.1 + 2 := by omega
              rw [e3, ew]
              refine jTn_app h0k h4k hnew h4w m (v + 1) _ last hm i1 (fun k i hk b1 b2 b3 => ?_) (fun i b1 b2 => ?_) ?_
              · rw [hrow, if_neg (by omega), if_neg (by omega), if_neg hl0, if_neg (by omega), hold k i (by omega) b2]
              · rw [k8n i (by omega), g8.2.2 i b2]
              · rw [hrow, if_neg (by omega), if_neg (by omega), if_neg hl0, if_pos ⟨rfl, rfl⟩, hkey]
          · show (jLk v (key + 1) w (jLk v last key p2)).2.2.2.1 0 v = 0
            rw [hrow, if_neg (by omega), if_neg (by omega)]
            have : p2.2.2.2.1 0 v = 0 := by rw [hold 0 v (by omega) i4]; exact i2
            split
            · rw [if_neg (by omega)]; exact this
            · rw [if_neg (by omega)]; exact this
          · show (jLk v (key + 1) w (jLk v last key p2)).2.2.2.1 2 v = 2 * (m + 1)
            rw [hrow, if_pos ⟨rfl, rfl⟩, hold 2 v (by omega) i4, i3]
            omega
          · show v < (jLk v (key + 1) w (jLk v last key p2)).2.1
            rw [e21]; omega
        have k0v : p2.2.2.2.1 0 v ≤ 1 := by rw [hold 0 v (by omega) i4, i2]; omega
        have hwfl : ∀ a, jWf p2 (jTo (jLk v (key + 1) w (jLk v last key p2)) a) := by
          intro a
          have a1 : jWf p2 (jTo (jLk v last key p2) 0) := jWf_lk k0v
          have a2 : jWf (jTo (jLk v last key p2) 0) (jTo (jLk v (key + 1) w (jTo (jLk v last key p2) 0)) a) := jWf_lk (by
            have := (a1 v (by omega)).1
            rw [this]; exact k0v)
          exact jWf_tr a1 a2 (by show p2.2.1 ≤ (jLk v last key p2).2.1; rw [jLk_2]; exact Nat.le_refl _)
        have hwf : ∀ a, jWf p (jTo (jLk v (key + 1) w (jLk v last key p2)) a) := fun a => jWf_tr (jWf_tr hwf1 hwf2 (by omega)) (hwfl a) (by omega)
        have e2 : ∀ a, (jTo (jLk v (key + 1) w (jLk v last key p2)) a).2.1 = p2.2.1 := fun a => e21
        have e3 : ∀ a, (jTo (jLk v (key + 1) w (jLk v last key p2)) a).2.2.1 = p2.2.2.1 := fun a => by
          show (jLk v (key + 1) w (jLk v last key p2)).2.2.1 = _
          rw [jLk_3, jLk_3]
        have hs12 : jSw p2.2.2.2.1 p2.2.1 + p.1 ≤ jSw p2.2.2.2.1 p.2.1 + p2.1 + 1 := by
          have a := hst.2
          rw [← jSw_eq p1.2.1 (fun i hi => hwf2 i hi), ← jSw_eq p.2.1 (fun i hi => hwf2 i (by omega))] at a
          omega
        have hsw : ∀ a, jSw (jTo (jLk v (key + 1) w (jLk v last key p2)) a).2.2.2.1 p2.2.1 + p.1 ≤ jSw (jTo (jLk v (key + 1) w (jLk v last key p2)) a).2.2.2.1 p.2.1 + p2.1 + 1 := by
          intro a
          rw [jSw_eq p2.2.1 (fun i hi => hwfl a i hi), jSw_eq p.2.1 (fun i hi => hwfl a i (by omega))]
          exact hs12
        split at h
        · cases h
        · rename_i a hs
          have hsp := jSp_ok ho2.1 (by omega) hs
          simp only at hsp
          have hok : jOk n (jTo (jLk v (key + 1) w (jLk v last key p2)) a) := ⟨hsp.2, by rw [e2]; have := ho2.2.1; show p2.2.1 ≤ a; omega, by rw [e3]; have := ho2.2.2; show p2.2.2.1 ≤ a; omega⟩
          obtain ⟨r1, r2, r3, r4⟩ := ih _ _ _ _ hok (hNt a) h
          have hwf3 := jWf_tr (hwf a) r3 (by rw [e2]; omega)
          refine ⟨r1, ?_, hwf3, by rw [e2] at r4; omega⟩
          rw [e2] at r2 r4
          have r2 : jSw p'.2.2.2.1 p'.2.1 + a ≤ jSw p'.2.2.2.1 p2.2.1 + p'.1 := r2
          have hs3 := hsw a
          rw [← jSw_eq p2.2.1 (fun i hi => r3 i (by rw [e2]; exact hi)), ← jSw_eq p.2.1 (fun i hi => r3 i (by rw [e2]; omega))] at hs3
          omega
        · rename_i a hs
          have hsp := jSp_ok ho2.1 (by omega) hs
          simp only at hsp
          cases h
          refine ⟨⟨w + 1, m + 1, hNt a⟩, ?_, hwf a, by rw [e2]; omega⟩
          rw [e2]
          have hs3 := hsw a
          show _ ≤ _ + a
          omega
theorem jVt_se {D m' : Nat} {p p2 : jP} (h : p2.2.2.2.1 0 p.2.1 = 1 ∧ jTl p2.2.2.2.1 (jTr p2.2.2.2.1 p2.2.2.2.2 D) (p2.2.2.2.1 2 p.2.1) (p.2.1 + 1) p2.2.1 (p2.2.2.2.1 3 p.2.1) ∨ p2.2.2.2.1 0 p.2.1 = 0 ∧ p2.2.2.2.1 2 p.2.1 = 2 * m' ∧ jTm p2.2.2.2.1 (jTr p2.2.2.2.1 p2.2.2.2.2 D) m' (p.2.1 + 1) p2.2.1 (p2.2.2.2.1 3 p.2.1)) (hlt : p.2.1 < p2.2.1) (hw : jSw p2.2.2.2.1 p2.2.1 + (p.1 + 1) + (if p2.2.1 = p.2.1 + 1 then 1 else 0) ≤ jSw p2.2.2.2.1 (p.2.1 + 1) + p2.1) : jVt (D + 1) p (jSe p2 7 p.2.1 p2.2.1) := by
  have e : ∀ k i, k ≠ 7 ∨ i ≠ p.2.1 → (jSe p2 7 p.2.1 p2.2.1).2.2.2.1 k i = p2.2.2.2.1 k i := by
    intro k i hk
    show a2 p2.2.2.2.1 7 p.2.1 p2.2.1 k i = _
    rw [a2_ite, if_neg (by omega)]
  have e7 : (jSe p2 7 p.2.1 p2.2.1).2.2.2.1 7 p.2.1 = p2.2.1 := by
    show a2 p2.2.2.2.1 7 p.2.1 p2.2.1 7 p.2.1 = _
    rw [a2_ite, if_pos ⟨rfl, rfl⟩]
  have hPP : ∀ a b, p.2.1 + 1 ≤ a → b ≤ p2.2.1 → jTr p2.2.2.2.1 p2.2.2.2.2 D a b → jTr (jSe p2 7 p.2.1 p2.2.1).2.2.2.1 (jSe p2 7 p.2.1 p2.2.1).2.2.2.2 D a b := fun a b ha hb h => jTr_fr D a b (fun k i hk h1 h2 _ => e k i (by omega)) (fun i h1 h2 => rfl) h
  refine ⟨?_, ?_⟩
  · rcases h with ⟨h0, h⟩ | ⟨h0, h2, h⟩
    · refine .inr (.inl ⟨⟨by rw [e 0 _ (by omega)]; exact h0, e7⟩, ?_⟩)
      rw [e 2 _ (by omega), e 3 _ (by omega)]
      exact jTl_fr (fun a b => jTr_lt D a b) _ _ _ (fun i h1 h2 => e 4 i (by omega)) hPP h
    · refine .inr (.inr ⟨⟨by rw [e 0 _ (by omega)]; exact h0, e7⟩, m', by rw [e 2 _ (by omega)]; exact h2, ?_⟩)
      rw [e 3 _ (by omega)]
      exact jTm_fr (fun a b => jTr_lt D a b) _ _ _ (fun i h1 h2 => ⟨e 4 i (by omega), e 0 i (by omega)⟩) hPP h
  · show jSw (jSe p2 7 p.2.1 p2.2.1).2.2.2.1 p2.2.1 + p.1 ≤ jSw (jSe p2 7 p.2.1 p2.2.1).2.2.2.1 p.2.1 + p2.1 + 1
    have h01 : p2.2.2.2.1 0 p.2.1 ≤ 1 := by rcases h with ⟨h, _⟩ | ⟨h, _⟩ <;> omega
    have hd := jSw_diff (T := p2.2.2.2.1) (T' := (jSe p2 7 p.2.1 p2.2.1).2.2.2.1) (a := p.2.1 + 1) p2.2.1 (by omega) (fun i h1 h2 => jWt_eq (e 0 i (by omega)) (fun _ => e 2 i (by omega)) (e 7 i (by omega)))
    have hs : jSw (jSe p2 7 p.2.1 p2.2.1).2.2.2.1 (p.2.1 + 1) = jSw (jSe p2 7 p.2.1 p2.2.1).2.2.2.1 p.2.1 + (if p2.2.1 = p.2.1 + 1 then 3 else 2) := by
      show jSw (jSe p2 7 p.2.1 p2.2.1).2.2.2.1 p.2.1 + jWt (jSe p2 7 p.2.1 p2.2.1).2.2.2.1 p.2.1 = _
      unfold jWt
      rw [e 0 _ (by omega), if_neg (by omega), if_neg (by omega), if_pos h01, e7]
    by_cases he : p2.2.1 = p.2.1 + 1
    · rw [if_pos he] at hw hs
      omega
    · rw [if_neg he] at hw hs
      omega
theorem jCo_vt {B : Nat → Nat} {n D : Nat} {val : jP → Except Nat (jP × Nat)} (hval : ∀ p r, jOk n p → val p = .ok r → jVo n p r.1 r.2) (htr : ∀ p r, jOk n p → val p = .ok r → jVt D p r.1) {p : jP} {r : jP × Nat} (ho : jOk n p) (hb : jBt B n p.1 = 123 ∨ jBt B n p.1 = 91) (h : jCo B n val p = .ok r) : jVt (D + 1) p r.1 := by
  have hlt := jBt_lt (B := B) (n := n) (a := p.1) rfl (by omega)
  have hs := jSk_le (B := B) (n := n) (a := p.1 + 1) (by omega)
  have hok : ∀ k, jOk n (jTo (jNd k p) (jSk B n (p.1 + 1))) := fun k => ⟨hs.2, by have := ho.2.1; show p.2.1 + 1 ≤ jSk B n (p.1 + 1); omega, by have := ho.2.2; show p.2.2.1 ≤ jSk B n (p.1 + 1); omega⟩
  have hr : ∀ k j, k ≤ 1 → (j = 0 ∨ j = 2 ∨ j = 3) → (jTo (jNd k p) (jSk B n (p.1 + 1))).2.2.2.1 j p.2.1 = if j = 0 then k else 0 := by
    intro k j _ hj
    show (jNd k p).2.2.2.1 j p.2.1 = _
    rw [jNd_row, if_pos rfl]
    rcases hj with rfl | rfl | rfl <;> simp
  have hcl : ∀ p2 : jP, p.2.1 + 1 < p2.2.1 → jSw p2.2.2.2.1 p2.2.1 + jSk B n (p.1 + 1) ≤ jSw p2.2.2.2.1 (p.2.1 + 1) + p2.1 → jSw p2.2.2.2.1 p2.2.1 + (p.1 + 1) + (if p2.2.1 = p.2.1 + 1 then 1 else 0) ≤ jSw p2.2.2.2.1 (p.2.1 + 1) + p2.1 := by
    intro p2 h0 h1
    rw [if_neg (by omega)]
    omega
  unfold jCo at h
  split at h
  · simp only at h
    have h0 := hr 0 0 (by omega) (by omega)
    have h2' := hr 0 2 (by omega) (by omega)
    have h3 := hr 0 3 (by omega) (by omega)
    simp at h0 h2' h3
    split at h
    · rename_i h2
      cases h
      refine jVt_se (m' := 0) (p2 := jTo (jTo (jNd 0 p) (jSk B n (p.1 + 1))) (jSk B n (p.1 + 1) + 1)) (.inr ⟨h0, h2', h3, rfl⟩) (Nat.lt_succ_self _) ?_
      show jSw _ (p.2.1 + 1) + (p.1 + 1) + (if p.2.1 + 1 = p.2.1 + 1 then 1 else 0) ≤ jSw _ (p.2.1 + 1) + (jSk B n (p.1 + 1) + 1)
      rw [if_pos rfl]
      omega
    · split at h
      · cases h
      · rename_i p2 hl
        cases h
        obtain ⟨⟨last', m', i1, i2, i3, i4⟩, w1, _, w2⟩ := jOs_vt hval htr _ _ 0 0 _ (hok 0) ⟨⟨h3, rfl, rfl⟩, h0, h2', Nat.lt_succ_self _⟩ hl
        exact jVt_se (.inr ⟨i2, i3, jTn_tm _ _ _ _ _ i1⟩) (by omega) (hcl _ w2 w1)
  · simp only at h
    have h0 := hr 1 0 (by omega) (by omega)
    have h2' := hr 1 2 (by omega) (by omega)
    have h3 := hr 1 3 (by omega) (by omega)
    simp at h0 h2' h3
    split at h
    · rename_i h2
      cases h
      refine jVt_se (m' := 0) (p2 := jTo (jTo (jNd 1 p) (jSk B n (p.1 + 1))) (jSk B n (p.1 + 1) + 1)) (.inl ⟨h0, ?_⟩) (Nat.lt_succ_self _) ?_
      · show jTl _ _ ((jTo (jNd 1 p) (jSk B n (p.1 + 1))).2.2.2.1 2 p.2.1) _ _ _
        rw [h2']
        exact ⟨h3, rfl⟩
      · show jSw _ (p.2.1 + 1) + (p.1 + 1) + (if p.2.1 + 1 = p.2.1 + 1 then 1 else 0) ≤ jSw _ (p.2.1 + 1) + (jSk B n (p.1 + 1) + 1)
        rw [if_pos rfl]
        omega
    · split at h
      · cases h
      · rename_i p2 hl
        cases h
        obtain ⟨⟨last', m', i1, i2, i3, i4⟩, w1, _, w2⟩ := jLs_vt hval htr _ _ 0 0 _ (hok 1) ⟨⟨h3, rfl, rfl⟩, h0, h2', Nat.lt_succ_self _⟩ hl
        refine jVt_se (m' := 0) (.inl ⟨i2, ?_⟩) (by omega) (hcl _ w2 w1)
        rw [i3]
        exact jTp_tl _ _ _ _ _ i1
theorem jV_vt {B : Nat → Nat} {n : Nat} : ∀ D p r, jOk n p → jV B n D p = .ok r → jVt D p r.1 := by
  intro D
  induction D with
  | zero =>
    intro p r ho h
    unfold jV at h
    split at h
    · cases h
    · exact jLf_vt ho.1 h
  | succ D ih =>
    intro p r ho h
    unfold jV at h
    split at h
    · rename_i hb
      exact jCo_vt (jV_ok D) ih ho hb h
    · exact jLf_vt ho.1 h
/-- a text that was read: everything that later readings want of it -/
def jGt (T : Nat → Nat → Nat) (N : Nat → Int) (m l n : Nat) : Prop := m ≤ 4096 ∧ l ≤ 4096 ∧ (∀ i, i < l → T 6 i < 256) ∧ (∀ u, u < m → T 0 u = 2 → T 5 u + T 2 u ≤ l) ∧ jTr T N 24 0 m ∧ jSw T m ≤ n + 1
theorem jRd_gt {B : Nat → Nat} {n : Nat} (hn : n ≤ 4096) {p : jP} {v e : Nat} (h : jRd B n = .ok (p, v, e)) : v = 0 ∧ e = p.1 ∧ e ≤ n ∧ jGt p.2.2.2.1 p.2.2.2.2 p.2.1 p.2.2.1 e := by
  have hg0 : jGd n (jTo jP0 (jSk B n 0)) := ⟨⟨(jSk_le (by omega)).2, Nat.zero_le _, Nat.zero_le _⟩, fun i hi => absurd hi (Nat.not_lt_zero _), fun u _ h => absurd h (Nat.not_lt_zero _)⟩
  unfold jRd at h
  split at h
  · cases h
  · rename_i p1 v1 hv
    split at h
    · cases h
      have hg := jGd_v hg0 hv
      have ho := jV_ok 24 _ _ hg0.1 hv
      have ht := jV_vt 24 _ _ hg0.1 hv
      obtain ⟨⟨a1, a2, a3⟩, b, c⟩ := hg
      simp only at a1 a2 a3 b c ho ht
      refine ⟨ho.1, rfl, a1, by omega, by omega, b, fun u hu hk => c u (Nat.zero_le _) hu hk, ht.1, ?_⟩
      have h2 := ht.2
      have e0 : jSw p.2.2.2.1 (jTo jP0 (jSk B n 0)).2.1 = 0 := rfl
      rw [e0] at h2
      omega
    · cases h
