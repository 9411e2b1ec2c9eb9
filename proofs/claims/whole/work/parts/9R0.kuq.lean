/-! PURE: schemas' names are no words of their own, and differ -/
def kUq (T : Nat → Nat → Nat) (q : kP) : Prop := 6 ≤ q.1 1 ∧ (∀ s, 6 ≤ s → s < q.1 1 → q.2.1 1 s ≠ 0 → kKt T (q.2.1 1 s - 1) = 0) ∧ ∀ s t, 6 ≤ s → s < t → t < q.1 1 → q.2.1 1 s ≠ 0 → q.2.1 1 t ≠ 0 → jSm T (q.2.1 1 s - 1) (q.2.1 1 t - 1) = false
section
variable {T : Nat → Nat → Nat} {N : Nat → Int}
theorem kUq_op {q q' : kP} (h1 : q'.1 1 = q.1 1) (hr : ∀ t, q'.2.1 1 t = q.2.1 1 t) (h : kUq T q) : kUq T q' := by
  obtain ⟨a, b, c⟩ := h
  refine ⟨by rw [h1]; exact a, fun s h6 hs hn => ?_, fun s t h6 hst ht hn1 hn2 => ?_⟩
  · rw [hr] at hn ⊢
    exact b s h6 (by omega) hn
  · rw [hr] at hn1
    rw [hr] at hn2
    rw [hr, hr]
    exact c s t h6 hst (by omega) hn1 hn2
theorem kUq_0 : kUq T kP0 := ⟨Nat.le_refl 6, fun s h6 hs => by
  have e : kP0.1 1 = 6 := rfl
  omega, fun s t h6 hst ht => by
  have e : kP0.1 1 = 6 := rfl
  omega⟩
theorem kUq_sh {q : kP} {k : Nat} (h : kUq T q) : kUq T (kSh k q) := by
  obtain ⟨a, b, c⟩ := h
  have r : ∀ t, t ≠ q.1 1 → (kSh k q).2.1 1 t = q.2.1 1 t := fun t ht => by rw [kSh_Q, if_neg ht]
  have z : (kSh k q).2.1 1 (q.1 1) = 0 := by rw [kSh_Q, if_pos rfl, if_neg (by omega), if_pos (by omega)]
  have e1 : (kSh k q).1 1 = q.1 1 + 1 := rfl
  refine ⟨by omega, fun s h6 hs hn => ?_, fun s t h6 hst ht hn1 hn2 => ?_⟩
  · by_cases e : s = q.1 1
    · rw [e, z] at hn; exact absurd rfl hn
    · rw [r s e] at hn ⊢
      exact b s h6 (by omega) hn
  · by_cases e : t = q.1 1
    · rw [e, z] at hn2; exact absurd rfl hn2
    · rw [r t e] at hn2 ⊢
      rw [r s (by omega)] at hn1 ⊢
      exact c s t h6 hst (by omega) hn1 hn2
theorem kUq_nn {q : kP} {k x : Nat} (hk : kKt T x = 0) (hd : kDf T q x = 0) (h : kUq T q) : kUq T (kNn T (q.1 1) x (kSh k q)) := by
  obtain ⟨a, b, c⟩ := h
  have e0 : ∀ t, (kNn T (q.1 1) x (kSh k q)).2.1 1 t = if t = q.1 1 then x + 1 else q.2.1 1 t := fun t => by
    unfold kNn
    rw [kQ_Q, if_neg (by omega), kQ_Q]
    by_cases e : t = q.1 1
    · rw [if_pos ⟨rfl, e⟩, if_pos e]
    · rw [if_neg (fun h => e h.2), if_neg e, kPn_Q, if_neg (by omega), if_neg (by omega), kSh_Q, if_neg e]
  have e1 : (kNn T (q.1 1) x (kSh k q)).1 1 = q.1 1 + 1 := rfl
  have hd := (kFr_0 _ _).mp hd
  refine ⟨by omega, fun s h6 hs hn => ?_, fun s t h6 hst ht hn1 hn2 => ?_⟩
  · rw [e0] at hn ⊢
    by_cases e : s = q.1 1
    · rw [if_pos e, Nat.add_sub_cancel]; exact hk
    · rw [if_neg e] at hn ⊢
      exact b s h6 (by omega) hn
  · rw [e0, if_neg (by omega)] at hn1
    rw [e0] at hn2
    rw [e0, e0, if_neg (show ¬ s = q.1 1 by omega)]
    by_cases e : t = q.1 1
    · rw [if_pos e, Nat.add_sub_cancel]
      have := hd s h6 (by omega)
      rw [Bool.and_eq_false_iff] at this
      rcases this with g | g
      · exfalso
        apply hn1
        simpa using g
      · exact g
    · rw [if_neg e] at hn2 ⊢
      exact c s t h6 hst (by omega) hn1 hn2
theorem kUq_ap {q : kP} {s n : Nat} (h : kUq T q) : kUq T (kAp s n q) := kUq_op (q := q) rfl (fun t => by rw [kAp_Q, if_neg (by omega), if_neg (by omega), if_neg (by omega), if_neg (by omega), if_neg (by omega)]) h
theorem kUq_ak {q : kP} {s : Nat} (h : kUq T q) : kUq T (kAk s q) := kUq_op (q := q) rfl (fun t => kAk_r (by omega) (by omega)) h
theorem kUq_ss {q : kP} {s i x : Nat} (h : kUq T q) : kUq T (kSs s i x q) := kUq_op (q := q) rfl (fun t => by rw [kSs_Q, if_neg (by omega), if_neg (by omega)]) h
theorem kUq_si {q : kP} {s x : Nat} (h : kUq T q) : kUq T (kSi s x q) := kUq_op (q := q) rfl (fun t => by rw [kSi_Q, if_neg (by omega), if_neg (by omega)]) h
theorem kUq_sn {q : kP} {s i x : Nat} (h : kUq T q) : kUq T (kSn T s i x q) := kUq_op (q := q) rfl (fun t => by rw [kSn_Q, if_neg (by omega), if_neg (by omega), kPn_Q, if_neg (by omega), if_neg (by omega)]) h
theorem kUq_sd {q : kP} {s i dv : Nat} (h : kUq T q) : kUq T (kSd s i dv q) := kUq_op (q := q) rfl (fun t => by rw [kSd_Q, if_neg (by omega)]) h
theorem kUq_fd {q : kP} {s i x dv : Nat} (h : kUq T q) : kUq T (kFd T s i x dv q) := kUq_op (q := q) (by rw [kFd_1, if_neg (by omega), if_neg (by omega), if_neg (by omega)]) (fun t => kFd_Q (by omega)) h
theorem kUq_8 {q : kP} {s v : Nat} (h : kUq T q) : kUq T (kQ q 8 s v) := kUq_op (q := q) rfl (fun t => by rw [kQ_Q, if_neg (by omega)]) h
def kRuq (T : Nat → Nat → Nat) (rec : kR) : Prop := ∀ v br q q' x, kUq T q → rec v br q = .ok (q', x) → kUq T q'
theorem kUl_u {rec : kR} (hr : kRuq T rec) {s : Nat} : ∀ k cur q q', kUq T q → kUl T rec s k cur q = .ok q' → kUq T q'
  | 0, _, _, _, hw, h => by cases h; exact hw
  | k + 1, cur, q, q', hw, h => by
    unfold kUl at h
    split at h
    · cases h
    · rename_i q1 x hx
      split at h
      · exact kUl_u hr k _ _ _ (kUq_ss (kUq_ak (hr _ _ _ _ _ hw hx))) h
      · cases h
theorem kYl_u {s : Nat} : ∀ k cur q q', kUq T q → kYl T s k cur q = .ok q' → kUq T q'
  | 0, _, _, _, hw, h => by cases h; exact hw
  | k + 1, cur, q, q', hw, h => by
    unfold kYl at h
    split at h
    · exact kYl_u k _ _ _ (kUq_sn (kUq_ak hw)) h
    · cases h
theorem kFl_u {rec : kR} (hr : kRuq T rec) {s : Nat} : ∀ k cur q q', kUq T q → kFl T rec s k cur q = .ok q' → kUq T q'
  | 0, _, _, _, hw, h => by cases h; exact hw
  | k + 1, cur, q, q', hw, h => by
    unfold kFl at h
    split at h
    case isFalse => cases h
    split at h
    case isFalse => cases h
    split at h
    case isFalse => cases h
    split at h
    case isFalse => cases h
    split at h
    · cases h
    · rename_i q1 x hx
      exact kFl_u hr k _ _ _ (kUq_fd (kUq_ss (hr _ _ _ _ _ (kUq_sd (kUq_sn (kUq_ak hw))) hx))) h
theorem kBd_u {rec : kR} (hr : kRuq T rec) {q q' : kP} {v x : Nat} {br : Bool} (hw : kUq T q) (he : kBd T N rec v br q = .ok (q', x)) : kUq T q' := by
  have known : ∀ w, kKn T w q = .ok (q', x) → kUq T q' := by
    intro w hk
    unfold kKn at hk
    split at hk
    · cases hk; exact hw
    · split at hk
      · cases hk; exact hw
      · cases hk
  unfold kBd at he
  split at he
  · exact known _ he
  · split at he
    · split at he
      · cases he
      · unfold kUn at he
        split at he
        case isFalse => cases he
        split at he
        · cases he
        · rename_i q2 hy
          cases he
          exact kUl_u hr _ _ _ _ (kUq_ap (kUq_sh hw)) hy
    · split at he
      · unfold kOb at he
        split at he
        case isFalse => cases he
        split at he
        · unfold kCl at he
          split at he
          · cases he
          · split at he
            · cases he
            · rename_i q1 y hx
              cases he
              exact kUq_si (hr _ _ _ _ _ (kUq_ak (kUq_sh hw)) hx)
        · split at he
          · unfold kNa at he
            split at he
            case isFalse => cases he
            split at he
            case isFalse => cases he
            rename_i hna
            have hwn := fun k => kUq_nn (k := k) hna.2.1 hna.2.2 hw
            split at he
            · unfold kFx at he
              split at he
              · cases he
              · split at he
                · cases he
                  exact kUq_8 (hwn _)
                · cases he
            · split at he
              · unfold kEn at he
                split at he
                · cases he
                · split at he
                  case isFalse => cases he
                  split at he
                  · cases he
                  · rename_i q2 hy
                    have h2 := kYl_u _ _ _ _ (kUq_ap (hwn _)) hy
                    split at he
                    · cases he; exact h2
                    · split at he
                      · cases he; exact kUq_8 h2
                      · cases he
              · unfold kRc at he
                split at he
                · cases he
                · split at he
                  case isFalse => cases he
                  split at he
                  · cases he
                  · rename_i q2 hy
                    cases he
                    exact kFl_u hr _ _ _ _ (kUq_ap (hwn _)) hy
          · exact known _ he
      · cases he
theorem kSo_u : ∀ D, kRuq T (kSo T N D)
  | 0 => fun v br q q' x _ h => by
    unfold kSo at h
    split at h <;> cases h
  | D + 1 => fun v br q q' x hw h => by
    unfold kSo at h
    split at h
    · exact kBd_u (kSo_u D) (q := kC q 0 (q.1 0 + 1)) (kUq_op (q := q) rfl (fun _ => rfl) hw) h
    · cases h
end
