/-! PURE: letters are bytes -/
def jLe (p : jP) : Prop := ∀ i, i < p.2.2.1 → p.2.2.2.1 6 i < 256
theorem jSl_le {B : Nat → Nat} {n : Nat} : ∀ f a l T a' l' T', jSl B n f a l T = .ok (a', l', T') → (∀ i, i < l → T 6 i < 256) → ∀ i, i < l' → T' 6 i < 256 := by
  intro f
  induction f with
  | zero => intro a l T a' l' T' h; cases h
  | succ f ih =>
    intro a l T a' l' T' h hT
    unfold jSl at h
    split at h
    · cases h; exact hT
    · split at h
      · cases h
      · split at h
        · split at h
          · cases h
          · rename_i v a1 hr
            have h3 := jEs_ok hr
            refine ih _ _ _ _ _ _ h ?_
            intro i hi
            rw [a2_ite]
            split
            · exact h3.1
            · exact hT i (by omega)
        · rename_i h1 h2 h3
          refine ih _ _ _ _ _ _ h ?_
          intro i hi
          rw [a2_ite]
          split
          · omega
          · exact hT i (by omega)
theorem jStr_le {B : Nat → Nat} {n : Nat} {p : jP} {r : jP × Nat} (h : jStr B n p = .ok r) (hp : jLe p) : jLe r.1 := by
  unfold jStr at h
  split at h
  · cases h
  · rename_i a l T hr
    cases h
    intro i hi
    show a2 T 2 p.2.1 (l - p.2.2.1) 6 i < 256
    rw [a2_ite, if_neg (by omega)]
    refine jSl_le _ _ _ _ _ _ _ hr ?_ i hi
    intro i hi
    rw [a2_ite, if_neg (by omega), jNd_row]
    simp
    exact hp i hi
theorem jNd_le {k : Nat} {p : jP} (hp : jLe p) : jLe (jNd k p) := by
  intro i hi
  rw [jNd_row]
  simp
  exact hp i hi
theorem jLf_le {B : Nat → Nat} {n : Nat} {p : jP} {r : jP × Nat} (h : jLf B n p = .ok r) (hp : jLe p) : jLe r.1 := by
  have hw : ∀ k W, jWd B n k W p = .ok r → jLe r.1 := by
    intro k W h
    unfold jWd at h
    split at h
    · cases h
    · cases h; exact jNd_le hp
  unfold jLf at h
  split at h
  · exact jStr_le h hp
  · split at h
    · unfold jNu at h
      split at h
      · split at h
        · cases h
          intro i hi
          show a2 (jNd 3 p).2.2.2.1 2 p.2.1 ((jNr B n (jNa B n p.1)).2 - jNa B n p.1) 6 i < 256
          rw [a2_ite, if_neg (by omega)]
          exact jNd_le hp i hi
        · cases h
      · cases h
    · split at h
      · exact hw _ _ h
      · split at h
        · exact hw _ _ h
        · split at h
          · exact hw _ _ h
          · cases h
theorem jLk_le {v last w a : Nat} {p : jP} (hp : jLe p) : jLe (jTo (jLk v last w p) a) := by
  intro i hi
  have h2 : i < (jLk v last w p).2.2.1 := hi
  rw [jLk_3] at h2
  show (jLk v last w p).2.2.2.1 6 i < 256
  rw [jLk_row, if_neg (by omega)]
  split
  · rw [if_neg (by omega)]; exact hp i h2
  · rw [if_neg (by omega)]; exact hp i h2
theorem jLs_le {B : Nat → Nat} {n : Nat} {val : jP → Except Nat (jP × Nat)} (hval : ∀ p r, val p = .ok r → jLe p → jLe r.1) {v : Nat} : ∀ f p last p', jLs B n val v f p last = .ok p' → jLe p → jLe p' := by
  intro f
  induction f with
  | zero => intro p last p' h; cases h
  | succ f ih =>
    intro p last p' h hp
    unfold jLs at h
    split at h
    · cases h
    · rename_i p1 w hv
      have h1 := hval _ _ hv hp
      split at h
      · cases h
      · exact ih _ _ _ h (jLk_le h1)
      · cases h; exact jLk_le h1
theorem jOs_le {B : Nat → Nat} {n : Nat} {val : jP → Except Nat (jP × Nat)} (hval : ∀ p r, val p = .ok r → jLe p → jLe r.1) {v : Nat} : ∀ f p last p', jOs B n val v f p last = .ok p' → jLe p → jLe p' := by
  intro f
  induction f with
  | zero => intro p last p' h; cases h
  | succ f ih =>
    intro p last p' h hp
    unfold jOs at h
    split at h
    case isFalse => cases h
    split at h
    · cases h
    · rename_i p1 key hk
      have h0 := jStr_le hk hp
      split at h
      case isFalse => cases h
      split at h
      case isFalse => cases h
      split at h
      · cases h
      · rename_i p2 w hv
        have h1 := hval _ _ hv h0
        have h2 : jLe (jLk v last key p2) := jLk_le (a := (jLk v last key p2).1) h1
        split at h
        · cases h
        · exact ih _ _ _ h (jLk_le h2)
        · cases h; exact jLk_le h2
theorem jSe7_le {p : jP} {i v : Nat} (hp : jLe p) : jLe (jSe p 7 i v) := by
  intro j hj
  show a2 p.2.2.2.1 7 i v 6 j < 256
  rw [a2_ite, if_neg (by omega)]
  exact hp j hj
theorem jV_le {B : Nat → Nat} {n : Nat} : ∀ D p r, jV B n D p = .ok r → jLe p → jLe r.1 := by
  intro D
  induction D with
  | zero =>
    intro p r h hp
    unfold jV at h
    split at h
    · cases h
    · exact jLf_le h hp
  | succ D ih =>
    intro p r h hp
    unfold jV at h
    split at h
    · unfold jCo at h
      split at h
      · simp only at h
        split at h
        · cases h; exact jSe7_le (jNd_le hp)
        · split at h
          · cases h
          · rename_i p2 h2
            cases h
            exact jSe7_le (jOs_le ih _ _ _ _ h2 (jNd_le hp))
      · simp only at h
        split at h
        · cases h; exact jSe7_le (jNd_le hp)
        · split at h
          · cases h
          · rename_i p2 h2
            cases h
            exact jSe7_le (jLs_le ih _ _ _ _ h2 (jNd_le hp))
    · exact jLf_le h hp
