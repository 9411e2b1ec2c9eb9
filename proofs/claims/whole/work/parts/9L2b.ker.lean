/-! PURE: what faults there are -/
abbrev kEp (e : Nat × Nat) : Prop := 1 ≤ e.1 ∧ e.1 ≤ 20
section
variable {T : Nat → Nat → Nat} {N : Nat → Int} {rec : kR}
theorem kUl_er (hrec : ∀ v b q e, rec v b q = .error e → kEp e) {s : Nat} : ∀ m cur q e, kUl T rec s m cur q = .error e → kEp e
  | 0, _, _, _, h => by cases h
  | m + 1, cur, q, e, h => by
    unfold kUl at h
    split at h
    · rename_i e1 hr
      cases h
      exact hrec _ _ _ _ hr
    · split at h
      · exact kUl_er hrec m _ _ _ h
      · cases h
        exact ⟨by show 1 ≤ 6; omega, by show 6 ≤ 20; omega⟩
theorem kYl_er {s : Nat} : ∀ m cur q e, kYl T s m cur q = .error e → kEp e
  | 0, _, _, _, h => by cases h
  | m + 1, cur, q, e, h => by
    unfold kYl at h
    split at h
    · exact kYl_er m _ _ _ h
    · cases h
      exact ⟨by show 1 ≤ 11; omega, by show 11 ≤ 20; omega⟩
theorem kFl_er (hrec : ∀ v b q e, rec v b q = .error e → kEp e) {s : Nat} : ∀ m cur q e, kFl T rec s m cur q = .error e → kEp e
  | 0, _, _, _, h => by cases h
  | m + 1, cur, q, e, h => by
    unfold kFl at h
    split at h
    · split at h
      · split at h
        · split at h
          · split at h
            · rename_i e1 hr
              cases h
              exact hrec _ _ _ _ hr
            · exact kFl_er hrec m _ _ _ h
          · cases h
            exact ⟨by show 1 ≤ 8; omega, by show 8 ≤ 20; omega⟩
        · cases h
          exact ⟨by show 1 ≤ 9; omega, by show 9 ≤ 20; omega⟩
      · cases h
        exact ⟨by show 1 ≤ 8; omega, by show 8 ≤ 20; omega⟩
    · cases h
      exact ⟨by show 1 ≤ 11; omega, by show 11 ≤ 20; omega⟩
theorem kNa_er (hrec : ∀ v b q e, rec v b q = .error e → kEp e) {v k : Nat} {q : kP} {e : Nat × Nat} (h : kNa T N rec v k q = .error e) : kEp e := by
  unfold kNa at h
  split at h
  · split at h
    · split at h
      · unfold kFx at h
        split at h
        · cases h
          exact ⟨by show 1 ≤ 8; omega, by show 8 ≤ 20; omega⟩
        · split at h
          · cases h
          · cases h
            exact ⟨by show 1 ≤ 10; omega, by show 10 ≤ 20; omega⟩
      · split at h
        · unfold kEn at h
          split at h
          · cases h
            exact ⟨by show 1 ≤ 8; omega, by show 8 ≤ 20; omega⟩
          · split at h
            · split at h
              · rename_i e1 hy
                cases h
                exact kYl_er _ _ _ _ hy
              · split at h
                · cases h
                · split at h
                  · cases h
                  · cases h
                    exact ⟨by show 1 ≤ 12; omega, by show 12 ≤ 20; omega⟩
            · cases h
              exact ⟨by show 1 ≤ 11; omega, by show 11 ≤ 20; omega⟩
        · unfold kRc at h
          split at h
          · cases h
            exact ⟨by show 1 ≤ 8; omega, by show 8 ≤ 20; omega⟩
          · split at h
            · split at h
              · rename_i e1 hy
                cases h
                exact kFl_er hrec _ _ _ _ hy
              · cases h
            · cases h
              exact ⟨by show 1 ≤ 11; omega, by show 11 ≤ 20; omega⟩
    · cases h
      exact ⟨by show 1 ≤ 9; omega, by show 9 ≤ 20; omega⟩
  · cases h
    exact ⟨by show 1 ≤ 8; omega, by show 8 ≤ 20; omega⟩
theorem kKn_er {v : Nat} {q : kP} {e : Nat × Nat} (h : kKn T v q = .error e) : kEp e := by
  unfold kKn at h
  split at h
  · cases h
  · split at h
    · cases h
    · cases h
      exact ⟨by show 1 ≤ 3; omega, by show 3 ≤ 20; omega⟩
theorem kBd_er (hrec : ∀ v b q e, rec v b q = .error e → kEp e) {v : Nat} {br : Bool} {q : kP} {e : Nat × Nat} (h : kBd T N rec v br q = .error e) : kEp e := by
  unfold kBd at h
  split at h
  · exact kKn_er h
  · split at h
    · split at h
      · cases h
        exact ⟨by show 1 ≤ 4; omega, by show 4 ≤ 20; omega⟩
      · unfold kUn at h
        split at h
        · split at h
          · rename_i e1 hy
            cases h
            exact kUl_er hrec _ _ _ _ hy
          · cases h
        · cases h
          exact ⟨by show 1 ≤ 5; omega, by show 5 ≤ 20; omega⟩
    · split at h
      · unfold kOb at h
        split at h
        · split at h
          · unfold kCl at h
            split at h
            · cases h
              exact ⟨by show 1 ≤ 8; omega, by show 8 ≤ 20; omega⟩
            · split at h
              · rename_i e1 hr
                cases h
                exact hrec _ _ _ _ hr
              · cases h
          · split at h
            · exact kNa_er hrec h
            · exact kKn_er h
        · cases h
          exact ⟨by show 1 ≤ 7; omega, by show 7 ≤ 20; omega⟩
      · cases h
        exact ⟨by show 1 ≤ 2; omega, by show 2 ≤ 20; omega⟩
theorem kSo_er : ∀ D v b q e, kSo T N D v b q = .error e → kEp e
  | 0, v, b, q, e, h => by
    unfold kSo at h
    split at h
    · cases h
      exact ⟨by show 1 ≤ 14; omega, by show 14 ≤ 20; omega⟩
    · cases h
      exact ⟨by show 1 ≤ 13; omega, by show 13 ≤ 20; omega⟩
  | D + 1, v, b, q, e, h => by
    unfold kSo at h
    split at h
    · exact kBd_er (kSo_er D) h
    · cases h
      exact ⟨by show 1 ≤ 13; omega, by show 13 ≤ 20; omega⟩
end
theorem kTx_k {B : Nat → Nat} {n k e : Nat} (h : kTx B n = .error (k, e)) : 0 < k ∧ k < 1000 := by
  unfold kTx at h
  split at h
  · cases h
    omega
  · split at h
    · rename_i x hs
      cases h
      unfold kSr at hs
      split at hs
      · rename_i e1 hso
        cases hs
        have := kSo_er _ _ _ _ _ hso
        exact ⟨by have := this.1; simp at this; omega, by have := this.2; simp at this; omega⟩
      · split at hs
        · cases hs
        · cases hs
          omega
    · cases h
/-- a Text of the reference: its own cells alone -/
theorem mW_frc {c m l n : Nat} {q : kP} {T : Nat → Nat → Nat} {N : Nat → Int} {s t : aT} (h : ∀ k i, c ≤ k → k < c + 22 → gI s k i = gI t k i) (hL : ∀ k i, gL s k i = gL t k i) (hw : mW c q T N m l n t) : mW c q T N m l n s := by
  obtain ⟨hc, ⟨v1, v2, v3, v4⟩, ⟨t1, t2⟩, hr⟩ := hw
  refine ⟨hc, ⟨by rw [h _ _ (by omega) (by omega)]; exact v1, fun x hx => ?_, fun x h6 hx => ?_, fun i hi => ?_⟩, ⟨fun i hi => ?_, fun i hi => by rw [h _ _ (by omega) (by omega)]; exact t2 i hi⟩, hr⟩
  · rw [h _ _ (by omega) (by omega), h _ _ (by omega) (by omega), h _ _ (by omega) (by omega)]; exact v2 x hx
  · rw [h _ _ (by omega) (by omega), h _ _ (by omega) (by omega), h _ _ (by omega) (by omega)]; exact v3 x h6 hx
  · rw [h _ _ (by omega) (by omega), h _ _ (by omega) (by omega), h _ _ (by omega) (by omega), h _ _ (by omega) (by omega)]; exact v4 i hi
  · rw [h _ _ (by omega) (by omega), h _ _ (by omega) (by omega), h _ _ (by omega) (by omega), h _ _ (by omega) (by omega), h _ _ (by omega) (by omega), hL]; exact t1 i hi
