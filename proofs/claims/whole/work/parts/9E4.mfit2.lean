/-! the reference's Text: fit -/
section
variable {c : Nat} {q : kP} {s : aT} {T : Nat → Nat → Nat} {N : Nat → Int} {m l n : Nat} {rec : Nat → Nat → Nat} {F D : Nat}
theorem mFr_go {r : Nat} {G : aRs} (go : ∀ x, mFr c q s T r = some x → G = some x) : G = mFr c q s T r := by
  unfold mFr at go ⊢
  by_cases h : r = 0
  · rw [if_pos h] at go ⊢; exact go _ rfl
  · rw [if_neg h] at go ⊢; exact go _ rfl
/-- what is known about the value itself -/
def mFz (c : Nat) (q : kP) (s : aT) (T : Nat → Nat → Nat) (N : Nat → Int) (m F : Nat) (rec : Nat → Nat → Nat) (v : Nat) : Prop := 2 ≤ T 0 v ∨ ∃ D, jVd T N m (D + 1) v ∧ mFy c q s T N m D F rec
theorem Mt_fitB (hc : isT c) (hT : mT c s T N m l) (hG : jGt T N m l n) (hI : kIv T m q) (hk2 : q.1 2 ≤ 2200) (hcd : kCd q) (d : Nat) {y v : Nat} (hb : jVb T N m v) (hy : y < q.1 1) (h8 : q.2.1 0 y ≠ 8) (hz : mFz c q s T N m F rec v) : fMt_fit (F + d + 3) c (nI v) (nI y) (mS c q s) = mFr c q s T (kFtB T N q rec v y) := by
  have hm := hG.1
  have hlt := jVb_lt hb
  have hkv := jVb_k hb
  have hn : q.1 1 < 140 := by have := hI.1; omega
  have hTq := mS_T (q := q) hT
  have fv := hTq.1 v (by omega)
  have hK : q.2.1 0 y ≤ 11 ∧ (6 ≤ q.2.1 0 y → 6 ≤ y) := by
    by_cases h : y < 6
    · have := (hI.2.1 y h).1; omega
    · have := (hI.2.2.1 y (by omega) hy).1; omega
  have nd0 : cG (fMt_need (F + d + 2) c 0 12 (nI (T 1 v)) (mS c q s)) (kV fun s1 => rV s1) = mFr c q s T (v + 1) := by rw [Mt_nd0 _ hc, cG_T]; rfl
  have nd1 : cG (fMt_need (F + d + 2) c 1 12 (nI (T 1 v)) (mS c q s)) (kV fun s1 => rV s1) = mFr c q s T 0 := by rw [Mt_need1 _ hc, cG_V]; rfl
  have f20 : ∀ b : Bool, fMt_fit_20 (F + d + 3) (nI (T 1 v)) (if b then 1 else 0) c (mS c q s) = mFr c q s T (if b then 0 else v + 1) := fun b => mFr_go (fun x hx => eMt_fit_20 (F + d + 2) _ _ c _ hc _ (by cases b; exact nd0.trans hx; exact nd1.trans hx))
  have f40 : ∀ b : Bool, fMt_fit_40 (F + d + 3) (nI (T 1 v)) (if b then 1 else 0) c (mS c q s) = mFr c q s T (if b then 0 else v + 1) := fun b => mFr_go (fun x hx => eMt_fit_40 (F + d + 2) _ _ c _ hc _ (by cases b; exact nd0.trans hx; exact nd1.trans hx))
  have f66 : ∀ b : Bool, fMt_fit_66 (F + d + 3) (nI (T 1 v)) (if b then 1 else 0) c (mS c q s) = mFr c q s T (if b then 0 else v + 1) := fun b => mFr_go (fun x hx => eMt_fit_66 (F + d + 2) _ _ c _ hc _ (by cases b; exact nd0.trans hx; exact nd1.trans hx))
  have f80 : ∀ b : Bool, fMt_fit_80 (F + d + 3) (nI (T 1 v)) (if b then 1 else 0) c (mS c q s) = mFr c q s T (if b then 0 else v + 1) := fun b => mFr_go (fun x hx => eMt_fit_80 (F + d + 2) _ _ c _ hc _ (by cases b; exact nd0.trans hx; exact nd1.trans hx))
  have f94 : ∀ b : Bool, fMt_fit_94 (F + d + 3) (nI (T 1 v)) (if b then 1 else 0) c (mS c q s) = mFr c q s T (if b then 0 else v + 1) := fun b => mFr_go (fun x hx => eMt_fit_94 (F + d + 2) _ _ c _ hc _ (by cases b; exact nd0.trans hx; exact nd1.trans hx))
  have f117 : ∀ b : Bool, fMt_fit_117 (F + d + 3) (nI (T 1 v)) (if b then 1 else 0) c (mS c q s) = mFr c q s T (if b then 0 else v + 1) := fun b => mFr_go (fun x hx => eMt_fit_117 (F + d + 2) _ _ c _ hc _ (by cases b; exact nd0.trans hx; exact nd1.trans hx))
  have f137 : ∀ b : Bool, fMt_fit_137 (F + d + 3) (nI (T 1 v)) (if b then 1 else 0) c (mS c q s) = mFr c q s T (if b then 0 else v + 1) := fun b => mFr_go (fun x hx => eMt_fit_137 (F + d + 2) _ _ c _ hc _ (by cases b; exact nd0.trans hx; exact nd1.trans hx))
  have f37 : fMt_fit_37 (F + d + 3) (nI (T 1 v)) c (mS c q s) = mFr c q s T 0 := mFr_go (fun x hx => eMt_fit_37 (F + d + 2) _ c _ hc _ ((f40 true).trans hx))
  have f65 : fMt_fit_65 (F + d + 3) (nI (T 1 v)) c (mS c q s) = mFr c q s T (v + 1) := mFr_go (fun x hx => eMt_fit_65 (F + d + 2) _ c _ hc _ ((f66 false).trans hx))
  have f116 : fMt_fit_116 (F + d + 3) (nI (T 1 v)) c (mS c q s) = mFr c q s T (v + 1) := mFr_go (fun x hx => eMt_fit_116 (F + d + 2) _ c _ hc _ ((f117 false).trans hx))
  have f136 : fMt_fit_136 (F + d + 3) (nI (T 1 v)) c (mS c q s) = mFr c q s T (v + 1) := mFr_go (fun x hx => eMt_fit_136 (F + d + 2) _ c _ hc _ ((f137 false).trans hx))
  have zk : ∀ j, j < 100 → (nI (T 0 v) = nI j) = (T 0 v = j) := fun j hj => nI_eqE (by omega) (by omega)
  have k0 : (nI (T 0 v) = 0) = (T 0 v = 0) := zk 0 (by omega)
  have k1 : (nI (T 0 v) = 1) = (T 0 v = 1) := zk 1 (by omega)
  have k2 : (nI (T 0 v) = 2) = (T 0 v = 2) := zk 2 (by omega)
  have k3 : (nI (T 0 v) = 3) = (T 0 v = 3) := zk 3 (by omega)
  have k4 : (nI (T 0 v) = 4) = (T 0 v = 4) := zk 4 (by omega)
  have k5 : (nI (T 0 v) = 5) = (T 0 v = 5) := zk 5 (by omega)
  have k6 : (nI (T 0 v) = 6) = (T 0 v = 6) := zk 6 (by omega)
  refine mFr_go (fun x hx => ?_)
  refine eMt_fit (F + d + 2) c _ _ _ hc _ ?_
  have l2 : ∀ K : Int32 → aRs, ldI 4200 (mS c q s) (c + 2) (nI v) K = K (nI (T 0 v)) := fun K => by rw [ldI_n (by omega) (by omega), fv.1]
  rw [ldI_n (by omega) (by omega), fv.2.1, ldI_n (by omega) (by omega), mS_9 hy]
  simp only [l2, k0, k1, k2, k3, k4, k5, k6]
  unfold kFtB at hx
  have hcase : q.2.1 0 y = 0 ∨ q.2.1 0 y = 1 ∨ q.2.1 0 y = 2 ∨ q.2.1 0 y = 3 ∨ q.2.1 0 y = 4 ∨ q.2.1 0 y = 5 ∨ q.2.1 0 y = 6 ∨ q.2.1 0 y = 7 ∨ q.2.1 0 y = 9 ∨ q.2.1 0 y = 10 ∨ q.2.1 0 y = 11 := by omega
  rcases hcase with h | h | h | h | h | h | h | h | h | h | h
  · rw [if_neg (by omega), if_neg (by omega), if_neg (by omega)] at hx
    have eL : kFtL T N q v y = decide (T 0 v = 6) := by unfold kFtL; simp [h]
    rw [eL] at hx
    rw [h, if_pos (by decide)]
    by_cases a : T 0 v = 6
    · rw [if_pos (by simp [a])] at hx
      rw [if_neg (fun e => e a)]
      exact (f20 true).trans hx
    · rw [if_neg (by simp [a])] at hx
      rw [if_pos a]
      exact (f20 false).trans hx
  · rw [if_neg (by omega), if_neg (by omega), if_neg (by omega)] at hx
    have eL : kFtL T N q v y = decide (T 0 v = 4 ∨ T 0 v = 5) := by unfold kFtL; simp [h]
    rw [eL] at hx
    rw [h, if_neg (by decide), if_pos (by decide)]
    by_cases a : T 0 v = 4
    · rw [if_pos (by simp [a])] at hx
      rw [if_pos a]
      exact f37.trans hx
    · rw [if_neg a]
      by_cases a5 : T 0 v = 5
      · rw [if_pos (by simp [a5])] at hx
        rw [if_neg (fun e => e a5)]
        exact f37.trans hx
      · rw [if_neg (by simp [a, a5])] at hx
        rw [if_pos a5]
        exact (f40 false).trans hx
  · rw [if_neg (by omega), if_neg (by omega), if_neg (by omega)] at hx
    have eL : kFtL T N q v y = decide (T 0 v = 3 ∧ -2147483648 ≤ N v ∧ N v ≤ 2147483647) := by unfold kFtL; simp [h]
    rw [eL] at hx
    rw [h, if_neg (by decide), if_neg (by decide), if_pos (by decide)]
    by_cases a : T 0 v = 3
    · have hnum := jVb_num hb a
      rw [if_neg (fun e => e a), ldL_n (by omega) (by omega), mT_N hTq (by omega) (by omega), ldL_n (by omega) (by omega), mT_N hTq (by omega) (by omega)]
      simp only [l_fits hnum.1 hnum.2]
      by_cases b : -2147483648 ≤ N v ∧ N v ≤ 2147483647
      · rw [if_pos (by simp [a, b])] at hx
        rw [if_neg (fun e => e b)]
        exact (f66 true).trans hx
      · rw [if_neg (by simp only [decide_eq_true_eq]; exact fun e => b e.2)] at hx
        rw [if_pos b]
        exact f65.trans hx
    · rw [if_neg (by simp [a])] at hx
      rw [if_pos a]
      exact f65.trans hx
  · rw [if_neg (by omega), if_neg (by omega), if_neg (by omega)] at hx
    have eL : kFtL T N q v y = decide (T 0 v = 3) := by unfold kFtL; simp [h]
    rw [eL] at hx
    rw [h, if_neg (by decide), if_neg (by decide), if_neg (by decide), if_pos (by decide)]
    by_cases a : T 0 v = 3
    · rw [if_pos (by simp [a])] at hx
      rw [if_neg (fun e => e a)]
      exact (f80 true).trans hx
    · rw [if_neg (by simp [a])] at hx
      rw [if_pos a]
      exact (f80 false).trans hx
  · rw [if_neg (by omega), if_neg (by omega), if_neg (by omega)] at hx
    have eL : kFtL T N q v y = decide (T 0 v = 2) := by unfold kFtL; simp [h]
    rw [eL] at hx
    rw [h, if_neg (by decide), if_neg (by decide), if_neg (by decide), if_neg (by decide), if_pos (by decide)]
    by_cases a : T 0 v = 2
    · rw [if_pos (by simp [a])] at hx
      rw [if_neg (fun e => e a)]
      exact (f94 true).trans hx
    · rw [if_neg (by simp [a])] at hx
      rw [if_pos a]
      exact (f94 false).trans hx
  · rw [if_neg (by omega), if_neg (by omega), if_neg (by omega)] at hx
    have eL : kFtL T N q v y = decide (T 0 v = 2) := by unfold kFtL; simp [h]
    rw [eL] at hx
    rw [h, if_neg (by decide), if_neg (by decide), if_neg (by decide), if_neg (by decide), if_neg (by decide), if_pos (by decide)]
    by_cases a : T 0 v = 2
    · rw [if_pos (by simp [a])] at hx
      rw [if_neg (fun e => e a)]
      exact (f94 true).trans hx
    · rw [if_neg (by simp [a])] at hx
      rw [if_pos a]
      exact (f94 false).trans hx
  · rw [if_pos h] at hx
    have hy6 := hK.2 (by omega)
    have hnd := hcd y hy6 hy
    have h41 := hnd.1.2.2.1 (.inl h)
    have hx0 := hnd.2 (by omega) (by omega) 0 (by omega)
    rw [h, if_neg (by decide), if_neg (by decide), if_neg (by decide), if_neg (by decide), if_neg (by decide), if_neg (by decide), if_pos (by decide)]
    by_cases a : T 0 v = 1
    · rw [if_pos a] at hx
      rw [if_neg (fun e => e a)]
      refine eMt_fit_162 (F + d + 2) c _ _ _ _ _ hc _ ?_
      rcases hz with hz | ⟨D, hvd, hrec⟩
      · omega
      rw [Mt_need1 _ hc, cG_V, ldI_n (by omega) (by omega), fv.2.2.2.1, Mt_fA hc hT hG hI hk2 hrec d hy6 hy (by omega) hx0 hlt.2 _ _ _ (jVd_l hvd a)]
      exact hx
    · rw [if_neg a] at hx
      rw [if_pos a]
      refine eMt_fit_162 (F + d + 2) c _ _ _ _ _ hc _ ?_
      rw [Mt_nd0 _ hc, cG_T]
      exact hx
  · rw [if_neg (by omega), if_pos h] at hx
    have hy6 := hK.2 (by omega)
    have hnd := hcd y hy6 hy
    have h41 := hnd.1.2.2.1 (.inr h)
    have hx0 := hnd.2 (by omega) (by omega) 0 (by omega)
    rw [h, if_neg (by decide), if_neg (by decide), if_neg (by decide), if_neg (by decide), if_neg (by decide), if_neg (by decide), if_neg (by decide), if_pos (by decide)]
    by_cases a : T 0 v = 0
    · rw [if_pos a] at hx
      rw [if_neg (fun e => e a)]
      refine eMt_fit_198 (F + d + 2) c _ _ _ _ _ hc _ ?_
      rcases hz with hz | ⟨D, hvd, hrec⟩
      · omega
      obtain ⟨k, hk, hch⟩ := jVd_o hvd a
      rw [hk, Nat.mul_div_cancel_left k (by omega)] at hx
      rw [Mt_need1 _ hc, cG_V, ldI_n (by omega) (by omega), fv.2.2.2.1, Mt_fM hc hT hG hI hk2 hrec d hy6 hy (by omega) hx0 hlt.2 _ _ _ hch]
      exact hx
    · rw [if_neg a] at hx
      rw [if_pos a]
      refine eMt_fit_198 (F + d + 2) c _ _ _ _ _ hc _ ?_
      rw [Mt_nd0 _ hc, cG_T]
      exact hx
  · rw [if_neg (by omega), if_neg (by omega), if_neg (by omega)] at hx
    have hy6 := hK.2 (by omega)
    have h89 := (hcd y hy6 hy).1.1 h
    have h865 := (hI.2.2.1 y hy6 hy).2.2.2.2.2.2.1
    have eL : kFtL T N q v y = decide (T 0 v = 2 ∧ T 2 v + 1 = q.2.1 8 y) := by unfold kFtL; simp [h]
    rw [eL] at hx
    rw [h, if_neg (by decide), if_neg (by decide), if_neg (by decide), if_neg (by decide), if_neg (by decide), if_neg (by decide), if_neg (by decide), if_neg (by decide), if_neg (by decide), if_pos (by decide)]
    by_cases a : T 0 v = 2
    · have h2le : T 2 v ≤ 4096 := by have h1 := hG.2.2.2.1 v (by omega) a; have h2 := hG.2.1; omega
      rw [if_neg (fun e => e a), ldI_n (by omega) (by omega), mT_Z hTq (by omega) (by omega), ldI_n (by omega) (by omega), mS_11 hy6 hy, if_pos h]
      simp (disch := omega) only [nI_eqE]
      by_cases b : T 2 v = q.2.1 8 y - 1
      · rw [if_pos (by simp only [decide_eq_true_eq]; omega)] at hx
        rw [if_neg (fun e => e b)]
        exact (f117 true).trans hx
      · rw [if_neg (by simp only [decide_eq_true_eq]; omega)] at hx
        rw [if_pos b]
        exact f116.trans hx
    · rw [if_neg (by simp [a])] at hx
      rw [if_pos a]
      exact f116.trans hx
  · rw [if_neg (by omega), if_neg (by omega), if_neg (by omega)] at hx
    have hy6 := hK.2 (by omega)
    have hIs := hI.2.2.1 y hy6 hy
    have h432 : q.2.1 4 y ≤ 32 := by have h1 := hIs.2.2.2.2.2.1 (.inr (by omega)); have h2 := hIs.2.2.2.2.2.2.2; omega
    have eL : kFtL T N q v y = decide (T 0 v = 2 ∧ kPt T q y (q.2.1 4 y) v ≠ 0) := by unfold kFtL; simp [h]
    rw [eL] at hx
    rw [h, if_neg (by decide), if_neg (by decide), if_neg (by decide), if_neg (by decide), if_neg (by decide), if_neg (by decide), if_neg (by decide), if_neg (by decide), if_neg (by decide), if_neg (by decide), if_pos (by decide)]
    by_cases a : T 0 v = 2
    · have hsy : fMt_symbol (F + d + 2) c (nI y) c (nI v) (mS c q s) = rI (zI (kPt T q y (q.2.1 4 y) v)) (mS c q s) := Mt_symbol (F + d + 1) hc hT hG hI hk2 (by omega) a hy6 hy (by omega) h432
      have hpb2 : kPt T q y (q.2.1 4 y) v ≤ 32 := by
        by_cases e : kPt T q y (q.2.1 4 y) v = 0
        · omega
        · have := kFr_1 _ _ e; unfold kPt at e ⊢; omega
      rw [if_neg (fun e => e a), hsy, cG_I]
      have e0 := zI_lt0 (x := kPt T q y (q.2.1 4 y) v) (by omega)
      simp only [e0]
      by_cases b : kPt T q y (q.2.1 4 y) v = 0
      · rw [if_neg (by simp [b])] at hx
        rw [if_pos b]
        exact f136.trans hx
      · rw [if_pos (by simp [a, b])] at hx
        rw [if_neg b]
        exact (f137 true).trans hx
    · rw [if_neg (by simp [a])] at hx
      rw [if_pos a]
      exact f136.trans hx
  · rw [if_neg (by omega), if_neg (by omega), if_pos h] at hx
    have hy6 := hK.2 (by omega)
    have hnd := hcd y hy6 hy
    rw [h, if_neg (by decide), if_neg (by decide), if_neg (by decide), if_neg (by decide), if_neg (by decide), if_neg (by decide), if_neg (by decide), if_neg (by decide), if_neg (by decide), if_neg (by decide), if_neg (by decide)]
    by_cases a : T 0 v = 0
    · rw [if_pos a] at hx
      rw [if_neg (fun e => e a)]
      refine eMt_fit_240 (F + d + 2) c _ _ _ _ _ hc _ ?_
      rcases hz with hz | ⟨D, hvd, hrec⟩
      · omega
      rw [Mt_need1 _ hc, cG_V, ldI_n (by omega) (by omega), mS_kids hI hy6 hy, Mt_fF hc hT hG hI hk2 hrec d hvd a hy6 hy h (hnd.2 (by omega) (by omega)) _ 0 (Nat.zero_add _)]
      exact hx
    · rw [if_neg a] at hx
      rw [if_pos a]
      refine eMt_fit_240 (F + d + 2) c _ _ _ _ _ hc _ ?_
      rw [Mt_nd0 _ hc, cG_T]
      exact hx
/-- a default against its field's schema, in the reference -/
theorem Mt_fit (hc : isT c) (hT : mT c s T N m l) (hG : jGt T N m l n) (hI : kIv T m q) (hk2 : q.1 2 ≤ 2200) (hcd : kCd q) : ∀ D, D ≤ 24 → mFy c q s T N m D (2 * D + 2) (kFit T N q D) := by
  have hn : q.1 1 < 140 := by have := hI.1; omega
  have hm := hG.1
  /- a union goes on to its first branch -/
  have un : ∀ (R : Nat → Nat) (F d v x : Nat), v < m → x < q.1 1 → (∀ d y, y < q.1 1 → q.2.1 0 y ≠ 8 → fMt_fit (F + d + 3) c (nI v) (nI y) (mS c q s) = mFr c q s T (R y)) → fMt_fit (F + d + 4) c (nI v) (nI x) (mS c q s) = mFr c q s T (R (kFb q x)) := by
    intro R F d v x hv hx hR
    unfold kFb
    by_cases h8 : q.2.1 0 x = 8
    · rw [if_pos h8]
      have h6 : 6 ≤ x := by
        by_cases h : x < 6
        · have := (hI.2.1 x h).1; omega
        · omega
      have hnd := hcd x h6 hx
      have h48 := hnd.1.2.2.2.1 h8
      have hx0 := hnd.2 (by omega) (by omega) 0 h48.1
      have hx1 := (hI.2.2.2.1 x 0 h6 hx h48.1).2.2.2.1
      have hkid := mS_kid (c := c) (s := s) hI h6 hx h48.1
      have hb := hR d (q.2.2 1 x 0 - 1) (by omega) (h48.2 0 h48.1)
      refine mFr_go (fun r hr => ?_)
      refine eMt_fit (F + d + 3) c _ _ _ hc _ ?_
      have hz1 : zI (q.2.2 1 x 0) = nI (q.2.2 1 x 0 - 1) := zI_pos (by omega)
      rw [ldI_n (by omega) (by omega), ldI_n (by omega) (by omega), mS_9 hx, h8, if_neg (by decide), if_neg (by decide), if_neg (by decide), if_neg (by decide), if_neg (by decide), if_neg (by decide), if_neg (by decide), if_neg (by decide), if_pos (by decide), ldI_n (by omega) (by omega), mS_kids hI h6 hx, hkid.2.1, zI_S, ldI_n (by omega) (by omega), hkid.2.2.1, hz1, hb, mFr_cg]
      unfold mFr at hr ⊢
      by_cases hz : R (q.2.2 1 x 0 - 1) = 0
      · rw [if_pos hz] at hr ⊢
        exact hr
      · rw [if_neg hz] at hr ⊢
        rw [if_neg hz]
        exact hr
    · rw [if_neg h8]
      exact hR (d + 1) x hx h8
  intro D
  induction D with
  | zero =>
    intro _ d v x hv hx
    have hlt := jVd_lt hv
    have e : 2 * 0 + 2 + d + 2 = 0 + d + 4 := by omega
    rw [e]
    exact un (fun y => kFtB T N q (fun _ _ => 0) v y) 0 d v x (by omega) hx (fun d y hy h8 => Mt_fitB (F := 0) hc hT hG hI hk2 hcd d (jVd_b (by omega) hv) hy h8 (.inl (jVd_0 hv)))
  | succ D ih =>
    intro hD d v x hv hx
    have hlt := jVd_lt hv
    have e : 2 * (D + 1) + 2 + d + 2 = (2 * D + 2) + d + 4 := by omega
    rw [e]
    exact un (fun y => kFtB T N q (kFit T N q D) v y) (2 * D + 2) d v x (by omega) hx (fun d y hy h8 => Mt_fitB (F := 2 * D + 2) hc hT hG hI hk2 hcd d (jVd_b hD hv) hy h8 (.inr ⟨D, hv, ih (by omega)⟩))
end
