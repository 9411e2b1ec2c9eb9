/-! PURE: the reading of a text leaves such a tree -/
/-- what a value's reading leaves: its tree, and what it cost -/
def jVt (D : Nat) (p p' : jP) : Prop := jTr p'.2.2.2.1 p'.2.2.2.2 D p.2.1 p'.2.1 ∧ jSw p'.2.2.2.1 p'.2.1 + p.1 ≤ jSw p'.2.2.2.1 p.2.1 + p'.1 + 1
theorem jVt_leaf {D : Nat} {p p' : jP} (h : jLfO p'.2.2.2.1 p'.2.2.2.2 p.2.1 p'.2.1) (hw : jWt p'.2.2.2.1 p.2.1 + p.1 ≤ p'.1 + 1) : jVt D p p' := by
  have h1 : p'.2.1 = p.2.1 + 1 := h.1
  refine ⟨?_, ?_⟩
  · cases D with
    | zero => exact h
    | succ D => exact .inl h
  · rw [h1]
    show jSw p'.2.2.2.1 p.2.1 + jWt p'.2.2.2.1 p.2.1 + p.1 ≤ _
    omega
theorem jStr_vt {B : Nat → Nat} {n D : Nat} {p : jP} {r : jP × Nat} (hp : p.1 < n) (h : jStr B n p = .ok r) : jVt D p r.1 := by
  unfold jStr at h
  split at h
  · cases h
  · rename_i a l T hr
    cases h
    have h1 := jSl_ok _ _ _ _ _ _ _ (by omega) hr
    obtain ⟨h1, h2, h3, h4, h5⟩ := h1
    have k0 : a2 T 2 p.2.1 (l - p.2.2.1) 0 p.2.1 = 2 := by
      rw [a2_ite, if_neg (by omega), h5 0 _ (.inl (by omega)), a2_ite, if_neg (by omega), jNd_row]
      simp
    have k2 : a2 T 2 p.2.1 (l - p.2.2.1) 2 p.2.1 = l - p.2.2.1 := by
      rw [a2_ite, if_pos ⟨rfl, rfl⟩]
    refine jVt_leaf ⟨rfl, ?_, ?_, ?_⟩ ?_
    · show 2 ≤ a2 T 2 p.2.1 (l - p.2.2.1) 0 p.2.1
      omega
    · show a2 T 2 p.2.1 (l - p.2.2.1) 0 p.2.1 ≤ 6
      omega
    · intro h
      have h : a2 T 2 p.2.1 (l - p.2.2.1) 0 p.2.1 = 3 := h
      omega
    · show jWt (a2 T 2 p.2.1 (l - p.2.2.1)) p.2.1 + p.1 ≤ a + 1
      unfold jWt
      rw [if_pos k0, k2]
      omega
theorem jDg_lt {B : Nat → Nat} {n : Nat} : ∀ f m a, (jDg B n f m a).1 + 1 ≤ (m + 1) * 10 ^ ((jDg B n f m a).2 - a) ∧ a ≤ (jDg B n f m a).2
  | 0, m, a => by
    show m + 1 ≤ (m + 1) * 10 ^ (a - a) ∧ a ≤ a
    rw [Nat.sub_self]
    omega
  | f + 1, m, a => by
    show (if jDi (jBt B n a) then jDg B n f (10 * m + (jBt B n a - 48)) (a + 1) else (m, a)).1 + 1 ≤ (m + 1) * 10 ^ ((if jDi (jBt B n a) then jDg B n f (10 * m + (jBt B n a - 48)) (a + 1) else (m, a)).2 - a) ∧ a ≤ (if jDi (jBt B n a) then jDg B n f (10 * m + (jBt B n a - 48)) (a + 1) else (m, a)).2
    by_cases h : jDi (jBt B n a)
    · rw [if_pos h]
      have hd : jBt B n a - 48 ≤ 9 := by omega
      have ih := jDg_lt (B := B) (n := n) f (10 * m + (jBt B n a - 48)) (a + 1)
      refine ⟨?_, by omega⟩
      have e : (jDg B n f (10 * m + (jBt B n a - 48)) (a + 1)).2 - a = ((jDg B n f (10 * m + (jBt B n a - 48)) (a + 1)).2 - (a + 1)) + 1 := by omega
      rw [e, Nat.pow_succ]
      refine Nat.le_trans ih.1 ?_
      have h10 : 10 * m + (jBt B n a - 48) + 1 ≤ (m + 1) * 10 := by omega
      calc (10 * m + (jBt B n a - 48) + 1) * 10 ^ ((jDg B n f (10 * m + (jBt B n a - 48)) (a + 1)).2 - (a + 1)) ≤ (m + 1) * 10 * 10 ^ ((jDg B n f (10 * m + (jBt B n a - 48)) (a + 1)).2 - (a + 1)) := Nat.mul_le_mul_right _ h10
        _ = (m + 1) * (10 ^ ((jDg B n f (10 * m + (jBt B n a - 48)) (a + 1)).2 - (a + 1)) * 10) := by rw [Nat.mul_assoc, Nat.mul_comm 10]
    · rw [if_neg h]
      show m + 1 ≤ (m + 1) * 10 ^ (a - a) ∧ a ≤ a
      rw [Nat.sub_self]
      omega
theorem jNr_lt {B : Nat → Nat} {n a : Nat} : (jNr B n a).1 < 10 ^ ((jNr B n a).2 - a) := by
  unfold jNr
  split
  · show 0 < 10 ^ (a + 1 - a)
    exact Nat.pow_pos (by omega)
  · have := jDg_lt (B := B) (n := n) n 0 a
    omega
theorem jNu_vt {B : Nat → Nat} {n D : Nat} {p : jP} {r : jP × Nat} (h : jNu B n p = .ok r) : jVt D p r.1 := by
  unfold jNu at h
  split at h
  · rename_i hd
    split at h
    · rename_i hm
      cases h
      have h1 := jNr_ok hd
      have h2 := jNa_le (B := B) (n := n) (a := p.1)
      have k0 : a2 (jNd 3 p).2.2.2.1 2 p.2.1 ((jNr B n (jNa B n p.1)).2 - jNa B n p.1) 0 p.2.1 = 3 := by
        rw [a2_ite, if_neg (by omega), jNd_row]
        simp
      have k2 : a2 (jNd 3 p).2.2.2.1 2 p.2.1 ((jNr B n (jNa B n p.1)).2 - jNa B n p.1) 2 p.2.1 = (jNr B n (jNa B n p.1)).2 - jNa B n p.1 := by
        rw [a2_ite, if_pos ⟨rfl, rfl⟩]
      refine jVt_leaf ⟨rfl, ?_, ?_, ?_⟩ ?_
      · show 2 ≤ a2 (jNd 3 p).2.2.2.1 2 p.2.1 ((jNr B n (jNa B n p.1)).2 - jNa B n p.1) 0 p.2.1
        omega
      · show a2 (jNd 3 p).2.2.2.1 2 p.2.1 ((jNr B n (jNa B n p.1)).2 - jNa B n p.1) 0 p.2.1 ≤ 6
        omega
      · intro _
        refine ⟨?_, ?_, ?_⟩
        · show -9223372036854775808 ≤ (if p.2.1 = p.2.1 then jNv B n p.1 (jNr B n (jNa B n p.1)).1 else p.2.2.2.2 p.2.1) ∧ (if p.2.1 = p.2.1 then jNv B n p.1 (jNr B n (jNa B n p.1)).1 else p.2.2.2.2 p.2.1) ≤ 9223372036854775807
          rw [if_pos rfl]
          unfold jNm at hm
          unfold jNv
          split at hm
          · rename_i hb
            rw [if_pos hb]
            omega
          · rename_i hb
            rw [if_neg hb]
            omega
        · show 0 < a2 (jNd 3 p).2.2.2.1 2 p.2.1 ((jNr B n (jNa B n p.1)).2 - jNa B n p.1) 2 p.2.1
          rw [k2]
          omega
        · show (if p.2.1 = p.2.1 then jNv B n p.1 (jNr B n (jNa B n p.1)).1 else p.2.2.2.2 p.2.1).natAbs < 10 ^ a2 (jNd 3 p).2.2.2.1 2 p.2.1 ((jNr B n (jNa B n p.1)).2 - jNa B n p.1) 2 p.2.1
          rw [if_pos rfl, k2]
          have hr := jNr_lt (B := B) (n := n) (a := jNa B n p.1)
          have hv : (jNv B n p.1 (jNr B n (jNa B n p.1)).1).natAbs = (jNr B n (jNa B n p.1)).1 := by
            unfold jNv
            split <;> omega
          rw [hv]
          exact hr
      · show jWt (a2 (jNd 3 p).2.2.2.1 2 p.2.1 ((jNr B n (jNa B n p.1)).2 - jNa B n p.1)) p.2.1 + p.1 ≤ (jNr B n (jNa B n p.1)).2 + 1
        unfold jWt
        rw [if_neg (by omega), if_pos k0, k2]
        omega
    · cases h
  · cases h
theorem jWd_vt {B : Nat → Nat} {n D : Nat} {p : jP} {k : Nat} {w : List Nat} {r : jP × Nat} (ho : p.1 ≤ n) (hk : 4 ≤ k ∧ k ≤ 6) (hw : ∀ x, x ∈ w → x ≠ 256) (hl : 4 ≤ w.length) (h : jWd B n k w p = .ok r) : jVt D p r.1 := by
  unfold jWd at h
  split at h
  · cases h
  · rename_i a hr
    cases h
    have h1 := jWl_ok _ _ _ ho hw hr
    have k0 : (jNd k p).2.2.2.1 0 p.2.1 = k := by
      rw [jNd_row]
      simp
    refine jVt_leaf ⟨rfl, ?_, ?_, ?_⟩ ?_
    · show 2 ≤ (jNd k p).2.2.2.1 0 p.2.1
      omega
    · show (jNd k p).2.2.2.1 0 p.2.1 ≤ 6
      omega
    · intro h
      have h : (jNd k p).2.2.2.1 0 p.2.1 = 3 := h
      omega
    · show jWt (jNd k p).2.2.2.1 p.2.1 + p.1 ≤ a + 1
      unfold jWt
      rw [if_neg (by omega), if_neg (by omega), if_neg (by omega)]
      omega
theorem jLf_vt {B : Nat → Nat} {n D : Nat} {p : jP} {r : jP × Nat} (ho : p.1 ≤ n) (h : jLf B n p = .ok r) : jVt D p r.1 := by
  unfold jLf at h
  split at h
  · rename_i hb
    exact jStr_vt (jBt_lt hb (by omega)) h
  · split at h
    · exact jNu_vt h
    · split at h
      · exact jWd_vt ho (by omega) (by simp) (by simp) h
      · split at h
        · exact jWd_vt ho (by omega) (by simp) (by simp) h
        · split at h
          · exact jWd_vt ho (by omega) (by simp) (by simp) h
          · cases h
/-- kinds and lengths of what was there stay -/
def jWf (p p' : jP) : Prop := ∀ i, i < p.2.1 → p'.2.2.2.1 0 i = p.2.2.2.1 0 i ∧ (2 ≤ p.2.2.2.1 0 i → p'.2.2.2.1 2 i = p.2.2.2.1 2 i) ∧ p'.2.2.2.1 7 i = p.2.2.2.1 7 i
theorem jWf_tr {p q r : jP} (h1 : jWf p q) (h2 : jWf q r) (hle : p.2.1 ≤ q.2.1) : jWf p r := by
  intro i hi
  have a := h1 i hi
  have b := h2 i (by omega)
  exact ⟨by rw [b.1, a.1], fun h => by rw [b.2.1 (by rw [a.1]; exact h), a.2.1 h], by rw [b.2.2, a.2.2]⟩
theorem jWf_vo {n w : Nat} {p p' : jP} (h : jVo n p p' w) : jWf p p' := by
  obtain ⟨_, _, _, _, _, _, _, g8, _⟩ := h
  intro i hi
  exact ⟨g8.1 0 i (by omega) hi, fun _ => g8.1 2 i (by omega) hi, g8.1 7 i (by omega) hi⟩
theorem jWf_lk {v last w a : Nat} {p : jP} (hv : p.2.2.2.1 0 v ≤ 1) : jWf p (jTo (jLk v last w p) a) := by
  intro i hi
  have e : ∀ k, (jTo (jLk v last w p) a).2.2.2.1 k i = (jLk v last w p).2.2.2.1 k i := fun _ => rfl
  refine ⟨?_, ?_, ?_⟩
  · rw [e, jLk_row, if_neg (by omega)]
    split
    · rw [if_neg (by omega)]
    · rw [if_neg (by omega)]
  · intro h2
    have hiv : i ≠ v := by intro h; subst h; omega
    rw [e, jLk_row, if_neg (by omega)]
    split
    · rw [if_neg (by omega)]
    · rw [if_neg (by omega)]
  · rw [e, jLk_row, if_neg (by omega)]
    split
    · rw [if_neg (by omega)]
    · rw [if_neg (by omega)]
def jLt (D v last m : Nat) (p : jP) : Prop := jTp p.2.2.2.1 (jTr p.2.2.2.1 p.2.2.2.2 D) m (v + 1) p.2.1 (p.2.2.2.1 3 v) last ∧ p.2.2.2.1 0 v = 1 ∧ p.2.2.2.1 2 v = m ∧ v < p.2.1
theorem jLs_vt {B : Nat → Nat} {n D : Nat} {val : jP → Except Nat (jP × Nat)} (hval : ∀ p r, jOk n p → val p = .ok r → jVo n p r.1 r.2) (htr : ∀ p r, jOk n p → val p = .ok r → jVt D p r.1) {v : Nat} : ∀ f p last m p', jOk n p → jLt D v last m p → jLs B n val v f p last = .ok p' → (∃ last' m', jLt D v last' m' p') ∧ jSw p'.2.2.2.1 p'.2.1 + p.1 ≤ jSw p'.2.2.2.1 p.2.1 + p'.1 ∧ jWf p p' ∧ p.2.1 < p'.2.1 := by
  intro f
  induction f with
  | zero => intro p last m p' _ _ h; cases h
  | succ f ih =>
    intro p last m p' ho hi h
    unfold jLs at h
    split at h
    · cases h
    · rename_i p1 w hv
      have hvo := hval _ _ ho hv
      have hvt := htr _ _ ho hv
      simp only at hvo hvt
      have ho1 := jVo_ok hvo ho
      obtain ⟨i1, i2, i3, i4⟩ := hi
      have hP : ∀ a b, jTr p.2.2.2.1 p.2.2.2.2 D a b → a < b := fun a b => jTr_lt D a b
      have hb := jTp_bd hP _ _ _ _ _ i1
      have hwf1 := jWf_vo hvo
      obtain ⟨g1, g2, g3, g4, g5, g6, g7, g8, g9, g10, g11, g12⟩ := hvo
      have k1 : p1.2.2.2.1 0 v = 1 := by rw [g8.1 0 v (by omega) i4]; exact i2
      have hrow := fun k i => jLk_row (v := v) (last := last) (w := w) (p := p1) k i
      have e5 : (jLk v last w p1).2.2.2.2 = p1.2.2.2.2 := jLk_5
      have hnew : jTr (jLk v last w p1).2.2.2.1 p1.2.2.2.2 D w p1.2.1 := by
        have hv1 := hvt.1
        rw [← g1] at hv1
        refine jTr_fr D _ _ (fun k i hk b1 b2 b3 => ?_) (fun _ _ _ => rfl) hv1
        rw [hrow, if_neg (by omega)]
        split
        · rw [if_neg (by omega)]
        · rw [if_neg (by omega)]
      have h4w : (jLk v last w p1).2.2.2.1 4 w = 0 := by
        rw [hrow, if_neg (by omega)]
        split
        · rw [if_neg (by omega)]; exact g9
        · rw [if_neg (by omega)]; exact g9
      have hLt : ∀ a, jLt D v (w + 1) (m + 1) (jTo (jLk v last w p1) a) := by
        intro a
        refine ⟨?_, ?_, ?_, ?_⟩
        · show jTp (jLk v last w p1).2.2.2.1 (jTr (jLk v last w p1).2.2.2.1 (jLk v last w p1).2.2.2.2 D) (m + 1) (v + 1) (jLk v last w p1).2.1 ((jLk v last w p1).2.2.2.1 3 v) (w + 1)
          rw [jLk_2, e5]
          rcases hb.2 with ⟨hm, hl⟩ | ⟨hm, hl1, hl2⟩
          · subst hm
            have hvw : v + 1 = p.2.1 := i1.2.1
            have e3 : (jLk v last w p1).2.2.2.1 3 v = w + 1 := by
              rw [hrow, if_neg (by omega), if_pos hl, if_pos ⟨rfl, rfl⟩]
            rw [e3]
            refine ⟨by omega, p1.2.1, ?_, .inl ⟨rfl, by omega, rfl, ?_⟩⟩
            · rw [hvw, ← g1]; exact hnew
            · rw [hvw, ← g1]; exact h4w
          · have hl0 : ¬ last = 0 := by omega
            have e3 : (jLk v last w p1).2.2.2.1 3 v = p.2.2.2.1 3 v := by
              rw [hrow, if_neg (by omega), if_neg hl0, if_neg (by omega), g8.1 3 v (by omega) i4]
            rw [e3]
            rw [g1] at hnew h4w ⊢
            refine jTp_app hnew h4w m (v + 1) _ last hm i1 (fun k i hk b1 b2 b3 => ?_) (fun i b1 b2 => g8.2.2 i b2) ?_
            · rw [← g1, hrow, if_neg (by omega), if_neg hl0, if_neg (by omega), g8.1 k i (by omega) b2]
            · rw [← g1, hrow, if_neg (by omega), if_neg hl0, if_pos ⟨rfl, rfl⟩]
        · show (jLk v last w p1).2.2.2.1 0 v = 1
          rw [hrow, if_neg (by omega)]
          split
          · rw [if_neg (by omega)]; exact k1
          · rw [if_neg (by omega)]; exact k1
        · show (jLk v last w p1).2.2.2.1 2 v = m + 1
          rw [hrow, if_pos ⟨rfl, rfl⟩, g8.1 2 v (by omega) i4, i3]
        · show v < (jLk v last w p1).2.1
          rw [jLk_2]; omega
      have hwf : ∀ a, jWf p (jTo (jLk v last w p1) a) := fun a => jWf_tr hwf1 (jWf_lk (by omega)) (by omega)
      have e2 : ∀ a, (jTo (jLk v last w p1) a).2.1 = p1.2.1 := fun a => jLk_2
      have e3 : ∀ a, (jTo (jLk v last w p1) a).2.2.1 = p1.2.2.1 := fun a => jLk_3
      have hsw : ∀ a, jSw (jTo (jLk v last w p1) a).2.2.2.1 p1.2.1 + p.1 ≤ jSw (jTo (jLk v last w p1) a).2.2.2.1 p.2.1 + p1.1 + 1 := by
        intro a
        have hl := jWf_lk (v := v) (last := last) (w := w) (a := a) (p := p1) (by omega)
        rw [jSw_eq p1.2.1 (fun i hi => hl i hi), jSw_eq p.2.1 (fun i hi => hl i (by omega))]
        exact hvt.2
      split at h
      · cases h
      · rename_i a hs
        have hsp := jSp_ok ho1.1 (by omega) hs
        simp only at hsp
        have hok : jOk n (jTo (jLk v last w p1) a) := ⟨hsp.2, by rw [e2]; have := ho1.2.1; show p1.2.1 ≤ a; omega, by rw [e3]; have := ho1.2.2; show p1.2.2.1 ≤ a; omega⟩
        obtain ⟨q1, q2, q3, q4⟩ := ih _ _ _ _ hok (hLt a) h
        have hwf2 := jWf_tr (hwf a) q3 (by rw [e2]; omega)
        refine ⟨q1, ?_, hwf2, by rw [e2] at q4; omega⟩
        rw [e2] at q2 q4
        have q2 : jSw p'.2.2.2.1 p'.2.1 + a ≤ jSw p'.2.2.2.1 p1.2.1 + p'.1 := q2
        have hs2 := hsw a
        rw [← jSw_eq p1.2.1 (fun i hi => q3 i (by rw [e2]; exact hi)), ← jSw_eq p.2.1 (fun i hi => q3 i (by rw [e2]; omega))] at hs2
        omega
      · rename_i a hs
        have hsp := jSp_ok ho1.1 (by omega) hs
        simp only at hsp
        cases h
        refine ⟨⟨w + 1, m + 1, hLt a⟩, ?_, hwf a, by rw [e2]; omega⟩
        rw [e2]
        have hs2 := hsw a
        show _ ≤ _ + a
        omega
