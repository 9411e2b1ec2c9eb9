/-! PURE: a reading keeps the two lists in step -/
section
variable {T : Nat → Nat → Nat} {N : Nat → Int} {m : Nat}
def kRw (T : Nat → Nat → Nat) (N : Nat → Int) (m : Nat) (rec : kR) : Prop := ∀ v br q q' x, kIv T m q → jVb T N m v → kWi T N m q → rec v br q = .ok (q', x) → kWi T N m q'
theorem kUl_w {rec : kR} (hrec : kRe T N m rec) (hrw : kRw T N m rec) {q0 : kP} {s e : Nat} : ∀ k lo cur q q', jTl T (jVe T N m) k lo e cur → kLo T m q0 s q → q.2.1 0 s = 8 → q.2.1 4 s + k ≤ q.2.1 7 s → kWi T N m q → kUl T rec s k cur q = .ok q' → kWi T N m q' := by
  intro k
  induction k with
  | zero =>
    intro lo cur q q' _ _ _ _ hw h
    cases h
    exact hw
  | succ k ih =>
    intro lo cur q q' hc hl h8 h7 hw h
    obtain ⟨hcur, e1, hP, hc⟩ := hc
    subst hcur
    unfold kUl at h
    rw [Nat.add_sub_cancel] at h
    split at h
    · cases h
    · rename_i q1 x hr
      have hok := hrec.1 _ _ _ _ _ hl.1 hP.1 hr
      have hw1 := hrw _ _ _ _ _ hl.1 hP.1 hw hr
      obtain ⟨o1, o2, o3, _⟩ := hok
      obtain ⟨hl1, hr1, hx1⟩ := kLo_fm hl o1 o2
      split at h
      · have e4 := hr1 4 (by omega)
        have hun := kLo_un (x := x) hl1 (by rw [hr1 0 (by omega)]; exact h8) (by rw [e4, hr1 7 (by omega)]; omega) o3
        exact ih e1 _ _ _ hc hun.1 (by rw [hun.2.2 0 (by omega) (by omega), hr1 0 (by omega)]; exact h8) (by rw [hun.2.1, hun.2.2 7 (by omega) (by omega), e4, hr1 7 (by omega)]; omega) (kWi_ss (kAk_Xz (by omega)) (kWi_ak hw1)) h
      · cases h
theorem kYl_w {s : Nat} : ∀ k cur q q', kWi T N m q → kYl T s k cur q = .ok q' → kWi T N m q' := by
  intro k
  induction k with
  | zero => intro cur q q' hw h; cases h; exact hw
  | succ k ih =>
    intro cur q q' hw h
    unfold kYl at h
    split at h
    · exact ih _ _ _ (kWi_sn (kWi_ak hw)) h
    · cases h
theorem kFl_w {rec : kR} (hrec : kRe T N m rec) (hrw : kRw T N m rec) {q0 : kP} {s e : Nat} : ∀ k lo cur q q', jTl T (jVe T N m) k lo e cur → kLo T m q0 s q → q.2.1 0 s = 11 → q.2.1 4 s + k ≤ q.2.1 7 s → kWi T N m q → kFl T rec s k cur q = .ok q' → kWi T N m q' := by
  intro k
  induction k with
  | zero =>
    intro lo cur q q' _ _ _ _ hw h
    cases h
    exact hw
  | succ k ih =>
    intro lo cur q q' hc hl h8 h7 hw h
    obtain ⟨hcur, e1, hP, hc⟩ := hc
    subst hcur
    unfold kFl at h
    rw [Nat.add_sub_cancel] at h
    split at h
    case isFalse => cases h
    rename_i h0
    split at h
    case isFalse => cases h
    rename_i hnm
    split at h
    case isFalse => cases h
    rename_i hn
    split at h
    case isFalse => cases h
    rename_i hty
    split at h
    · cases h
    · rename_i q1 x hr
      have m1 := kMb_ok hP.1 h0 hnm.1
      have m2 := kMb_ok hP.1 h0 hty
      have hlt1 := jVb_lt m1.1
      have hdm := kMb_le (W := kWs 18) hP.1 h0
      have hdv : kMb T lo (kWs 18) ≠ 0 → jVb T N m (kMb T lo (kWs 18) - 1) := fun h => (kMb_ok hP.1 h0 h).1
      generalize kMb T lo (kWs 18) = dv at *
      generalize kMb T lo (kWs 15) = nm at *
      generalize kMb T lo (kWs 12) = ty at *
      have hsy := (kLo_sy (dv := dv) hl (by omega) (by omega) (show nm - 1 < m by omega) hn.1 hdm).2
      have hok := hrec.1 _ _ _ _ _ hsy.1.1 m2.1 hr
      have hz1 : (kSn T s (q.2.1 4 s) (nm - 1) (kAk s q)).2.2 1 s (q.2.1 4 s) = 0 := by rw [kSn_X, if_neg (by omega), if_neg (by omega), kAk_Xz (by omega)]
      have hwd : kWi T N m (kSd s (q.2.1 4 s) dv (kSn T s (q.2.1 4 s) (nm - 1) (kAk s q))) := kWi_sd hz1 (kWi_sn (kWi_ak hw))
      have hw1 := hrw _ _ _ _ _ hsy.1.1 m2.1 hwd hr
      obtain ⟨o1, o2, o3, _⟩ := hok
      obtain ⟨hl1, hr1, hx1⟩ := kLo_fm hsy.1 o1 o2
      have e4 := hr1 4 (by omega)
      have ht1 := hl1.2.2.1
      have hss := kLo_ss (i := q.2.1 4 s) (x := x) hl1 (by rw [hr1 0 (by omega), hsy.2.2 0 (by omega) (by omega)]; omega) (by rw [e4, hsy.2.1]; omega) o3
      have hfd := kLo_fd (x := x) (dv := dv) (i := q.2.1 4 s) hss.1
      have rows : ∀ r, r = 0 ∨ r = 7 → (kFd T s (q.2.1 4 s) x dv (kSs s (q.2.1 4 s) x q1)).2.1 r s = q.2.1 r s := by
        intro r hr
        rw [kFd_Q (by omega), hss.2 r (by omega), hr1 r (by omega), hsy.2.2 r (by omega) (by omega)]
      have row4 : (kFd T s (q.2.1 4 s) x dv (kSs s (q.2.1 4 s) x q1)).2.1 4 s = q.2.1 4 s + 1 := by
        rw [kFd_Q (by omega), hss.2 4 (by omega), e4, hsy.2.1]
      have hz : q1.2.2 1 s (q.2.1 4 s) = 0 := by rw [hx1, kSd_X, if_neg (by omega), hz1]
      have h3 : q1.2.2 3 s (q.2.1 4 s) = dv := by rw [hx1, kSd_X, if_pos ⟨rfl, rfl, rfl⟩]
      have hws : kWi T N m (kSs s (q.2.1 4 s) x q1) := kWi_ss hz hw1
      have s1 : (kSs s (q.2.1 4 s) x q1).1 1 = q1.1 1 := rfl
      have hwf : kWi T N m (kFd T s (q.2.1 4 s) x dv (kSs s (q.2.1 4 s) x q1)) := kWi_fd ht1.2.1 (by rw [s1]; exact ht1.2.2) (by rw [hss.2 0 (by omega), hr1 0 (by omega), hsy.2.2 0 (by omega) (by omega)]; exact h8) (by rw [hss.2 4 (by omega), e4, hsy.2.1]; omega) (by rw [kSs_X, if_pos ⟨rfl, rfl, rfl⟩]; omega) (by rw [kSs_X, if_neg (by omega)]; exact h3) hdv hws
      exact ih e1 _ _ _ hc hfd (by rw [rows 0 (by omega)]; exact h8) (by rw [row4, rows 7 (by omega)]; omega) hwf h
theorem kBd_w {rec : kR} (hrec : kRe T N m rec) (hrw : kRw T N m rec) {q q' : kP} {v x : Nat} {br : Bool} (h : kIv T m q) (hn : q.1 1 + 1 ≤ 6 + q.1 0) (hv : jVb T N m v) (hw : kWi T N m q) (he : kBd T N rec v br q = .ok (q', x)) : kWi T N m q' := by
  have known : ∀ w, kKn T w q = .ok (q', x) → kWi T N m q' := by
    intro w hk
    unfold kKn at hk
    split at hk
    · cases hk; exact hw
    · split at hk
      · cases hk; exact hw
      · cases hk
  unfold kBd at he
  split at he
  · exact known _ he
  · split at he
    · rename_i h1
      split at he
      · cases he
      · unfold kUn at he
        split at he
        case isFalse => cases he
        rename_i hL
        split at he
        · cases he
        · rename_i q2 hy
          cases he
          have hu := kLo_u0 (n := T 2 v) h hn (by omega)
          have s4 : (kSh 8 q).2.1 4 (q.1 1) = 0 := by rw [kSh_Q, if_pos rfl, if_neg (by omega), if_pos (by omega)]
          exact kUl_w hrec hrw _ _ _ _ _ (jVb_l hv h1) hu.1 hu.2.1 (by rw [hu.2.2.1, hu.2.2.2]; omega) (kWi_ap s4 (kWi_sh hw)) hy
    · split at he
      · rename_i h0
        unfold kOb at he
        split at he
        case isFalse => cases he
        rename_i ht
        split at he
        · rename_i h78
          have hk67 : kKt T (kMb T v (kWs 12) - 1) - 1 = 6 ∨ kKt T (kMb T v (kWs 12) - 1) - 1 = 7 := by omega
          generalize kKt T (kMb T v (kWs 12) - 1) - 1 = k at *
          unfold kCl at he
          split at he
          · cases he
          · rename_i hz
            split at he
            · cases he
            · rename_i q1 y hr
              cases he
              have m1 := kMb_ok hv h0 hz
              have har := kLo_ar (k := k) h hn hk67
              have hok := hrec.1 _ _ _ _ _ har.1.1 m1.1 hr
              have hw1 := hrw _ _ _ _ _ har.1.1 m1.1 (kWi_ak (kWi_sh hw)) hr
              obtain ⟨o1, o2, o3, _⟩ := hok
              obtain ⟨hl1, hr1, hx1⟩ := kLo_fm har.1 o1 o2
              have s4 : (kSh k q).2.1 4 (q.1 1) = 0 := by rw [kSh_Q, if_pos rfl, if_neg (by omega), if_pos (by omega)]
              have hz0 := kAk_Xz (s := q.1 1) (q := kSh k q) (r := 1) (by omega)
              rw [s4] at hz0
              exact kWi_si (by rw [hx1]; exact hz0) hw1
        · split at he
          · rename_i h9
            have hkt := kKt_1 (T := T) (v := kMb T v (kWs 12) - 1) (by omega)
            have hk9 : 9 ≤ kKt T (kMb T v (kWs 12) - 1) - 1 ∧ kKt T (kMb T v (kWs 12) - 1) - 1 ≤ 11 := by omega
            generalize kKt T (kMb T v (kWs 12) - 1) - 1 = k at *
            unfold kNa at he
            split at he
            case isFalse => cases he
            rename_i hnm
            split at he
            case isFalse => cases he
            rename_i hna
            have m1 := kMb_ok hv h0 hnm.1
            have hlt1 := jVb_lt m1.1
            have hl0 := kLo_nn (k := k) (x := kMb T v (kWs 15) - 1) h hn hk9 (by omega) hna.1
            have r0 := kNn_r (T := T) (k := k) (x := kMb T v (kWs 15) - 1) (q := q) (r := 0) (by omega)
            have r4 := kNn_r (T := T) (k := k) (x := kMb T v (kWs 15) - 1) (q := q) (r := 4) (by omega)
            rw [if_pos rfl] at r0
            rw [if_neg (by omega), if_neg (by omega)] at r4
            have hwn : kWi T N m (kNn T (q.1 1) (kMb T v (kWs 15) - 1) (kSh k q)) := kWi_nn (kWi_sh hw)
            generalize kNn T (q.1 1) (kMb T v (kWs 15) - 1) (kSh k q) = qn at *
            split at he
            · unfold kFx at he
              split at he
              · cases he
              · split at he
                · cases he
                  exact kWi_q (by omega) hwn
                · cases he
            · split at he
              · rename_i hk
                unfold kEn at he
                split at he
                · cases he
                · split at he
                  · split at he
                    · cases he
                    · rename_i q2 hy
                      have hwy := kYl_w _ _ _ _ (kWi_ap r4 hwn) hy
                      split at he
                      · cases he
                        exact hwy
                      · split at he
                        · cases he
                          exact kWi_q (by omega) hwy
                        · cases he
                  · cases he
              · rename_i hk9' hk10
                unfold kRc at he
                split at he
                · cases he
                · rename_i hz
                  have m2 := kMb_ok hv h0 hz
                  split at he
                  · rename_i hL
                    split at he
                    · cases he
                    · rename_i q2 hy
                      cases he
                      have hap := kLo_ap (n := T 2 (kMb T v (kWs 19) - 1)) hl0 (by omega) r4 (by omega)
                      exact kFl_w hrec hrw _ _ _ _ _ (jVb_l m2.1 hL.1) hap.1 (by rw [hap.2.1 0 (by omega), r0]; omega) (by rw [hap.2.1 4 (by omega), hap.2.2, r4]; omega) (kWi_ap r4 hwn) hy
                  · cases he
          · exact known _ he
      · cases he
theorem kSo_w : ∀ D, kRw T N m (kSo T N D) := by
  intro D
  induction D with
  | zero =>
    intro v br q q' x _ _ _ h
    unfold kSo at h
    split at h <;> cases h
  | succ D ih =>
    intro v br q q' x hi hv hw h
    unfold kSo at h
    split at h
    · rename_i hl
      obtain ⟨hIc, hn1, _⟩ := kIv_c0 hi hl
      exact kBd_w (kSo_ok D) ih hIc hn1 hv (kWi_c0 hw) h
    · cases h
end
