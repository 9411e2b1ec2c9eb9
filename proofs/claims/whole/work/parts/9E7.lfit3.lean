/-! the lake's Defaults: misfit of a default against its field's schema -/
section
variable {b pb qb : Nat} {q : kP} {s : aT} {T : Nat → Nat → Nat} {N : Nat → Int} {m l n : Nat} {rec : Nat → Nat → Nat} {F D : Nat}
theorem kFb_ok (hI : kIv T m q) (hcd : kCd q) {x : Nat} (hx : x < q.1 1) : kFb q x < q.1 1 ∧ q.2.1 0 (kFb q x) ≠ 8 := by
  unfold kFb
  by_cases h8 : q.2.1 0 x = 8
  · rw [if_pos h8]
    have h6 : 6 ≤ x := by
      by_cases h : x < 6
      · have := (hI.2.1 x h).1; omega
      · omega
    have h48 := (hcd x h6 hx).1.2.2.2.1 h8
    have hx1 := (hI.2.2.2.1 x 0 h6 hx h48.1).2.2.2.1
    have hx0 := (hcd x h6 hx).2 (by omega) (by omega) 0 h48.1
    exact ⟨by omega, h48.2 0 h48.1⟩
  · rw [if_neg h8]
    exact ⟨hx, h8⟩
theorem Df_first (hC : lCx b pb qb s) (hI : kIv T m q) (hcd : kCd q) (hp : pb + q.1 3 ≤ 10112) (d : Nat) {x : Nat} (hx : x < q.1 1) : fDf_firstBranch (d + 1) (nI (lo b x)) (lS b pb qb q s) = rI (nI (lo b (kFb q x))) (lS b pb qb q s) := by
  have hn := hI.1
  have hltx := lo_lt hC (t := x) (by omega)
  refine eDf_firstBranch d _ _ _ ?_
  rw [ldI_n (by omega) (by omega), lS_kind hC hI hx]
  have hK : q.2.1 0 x ≤ 11 := by
    by_cases h : x < 6
    · have := (hI.2.1 x h).1; omega
    · have := (hI.2.2.1 x (by omega) hx).1; omega
  unfold kFb
  simp (disch := omega) only [nI_lit 8, nI_eqE]
  by_cases h8 : q.2.1 0 x = 8
  · have h6 : 6 ≤ x := by
      by_cases h : x < 6
      · have := (hI.2.1 x h).1; omega
      · omega
    have hnd := hcd x h6 hx
    have h48 := hnd.1.2.2.2.1 h8
    have h47 := hnd.1.2.2.2.2 (by omega) (by omega)
    have hx0 := hnd.2 (by omega) (by omega) 0 h48.1
    have h673 := (hI.2.2.1 x h6 hx).2.2.2.1
    have hij := hI.2.2.2.2 x 0 h6 hx (by omega)
    have h30 : q.2.1 30 (q.2.1 6 x + 0) = q.2.2 1 x 0 := by rw [hij.2.1, if_pos h48.1]
    have zl : zL b (q.2.2 1 x 0) = nI (lo b (q.2.2 1 x 0 - 1)) := by unfold zL; rw [if_neg hx0]
    have c29 : gI (lS b pb qb q s) 29 (pb + q.2.1 6 x + 0) = nI (lo b (q.2.2 1 x 0 - 1)) := by rw [Nat.add_assoc, lS_29 (by omega), h30, zl]
    have hps : fSc_partSchemaOf d (nI (lo b x)) 0 (lS b pb qb q s) = rI (nI (lo b (q.2.2 1 x 0 - 1))) (lS b pb qb q s) := by
      refine eSc_partSchemaOf d _ _ _ _ ?_
      rw [ldI_n (by omega) (by omega), lS_25 h6 hx, show (0 : Int32) = nI 0 from rfl, nI_addE, ldI_n (by omega) (by omega), c29]
      rfl
    rw [if_neg (fun e => e h8), hps, cG_I, if_pos h8]
    rfl
  · rw [if_pos h8, if_neg h8]
    rfl
def lFz (b pb qb : Nat) (q : kP) (s : aT) (T : Nat → Nat → Nat) (N : Nat → Int) (m F : Nat) (rec : Nat → Nat → Nat) (v x3 : Nat) : Prop := 2 ≤ T 0 v ∨ ∃ D, jVd T N m (D + 1) v ∧ lFy b pb qb q s T N m D F rec ∧ kFrb T m rec D N q ∧ x3 + 1 + D ≤ 25
theorem Df_misB (hC : lCx b pb qb s) (hT : lT s T N m l) (hG : jGt T N m l n) (hI : kIv T m q) (hcd : kCd q) (hp : pb + q.1 3 ≤ 10112) (hq : qb + q.1 6 ≤ 72704) (d : Nat) {x v x3 : Nat} (hb : jVb T N m v) (hx : x < q.1 1) (h25 : x3 ≤ 25) (hz : lFz b pb qb q s T N m F rec v x3) : fDf_misfit (F + d + 4) (nI v) (nI (lo b x)) (nI x3) (lS b pb qb q s) = rI (zI (kFtB T N q rec v (kFb q x))) (lS b pb qb q s) := by
  have hm := hG.1
  have hlt := jVb_lt hb
  have hkv := jVb_k hb
  have hn := hI.1
  have hTq := lS_T (b := b) (pb := pb) (qb := qb) (q := q) hT
  have fv := hTq.1 v (by omega)
  obtain ⟨hy, h8⟩ := kFb_ok hI hcd hx
  have hfi : fDf_firstBranch (F + d + 3) (nI (lo b x)) (lS b pb qb q s) = rI (nI (lo b (kFb q x))) (lS b pb qb q s) := Df_first hC hI hcd hp (F + d + 2) hx
  generalize kFb q x = y at *
  have hlty := lo_lt hC (t := y) (by omega)
  have hK : q.2.1 0 y ≤ 11 ∧ (6 ≤ q.2.1 0 y → 6 ≤ y) := by
    by_cases h : y < 6
    · have := (hI.2.1 y h).1; omega
    · have := (hI.2.2.1 y (by omega) hy).1; omega
  have zk : ∀ j, j < 100 → (nI (T 0 v) = nI j) = (T 0 v = j) := fun j hj => nI_eqE (by omega) (by omega)
  have k0 : (nI (T 0 v) = 0) = (T 0 v = 0) := zk 0 (by omega)
  have k1 : (nI (T 0 v) = 1) = (T 0 v = 1) := zk 1 (by omega)
  have zy : ∀ j, j < 100 → (nI (q.2.1 0 y) = nI j) = (q.2.1 0 y = j) := fun j hj => nI_eqE (by omega) (by omega)
  have y6 : (nI (q.2.1 0 y) = 6) = (q.2.1 0 y = 6) := zy 6 (by omega)
  have y7 : (nI (q.2.1 0 y) = 7) = (q.2.1 0 y = 7) := zy 7 (by omega)
  have y11 : (nI (q.2.1 0 y) = 11) = (q.2.1 0 y = 11) := zy 11 (by omega)
  have e25 : nI x3 ≤ 25 := by rw [nI_lit 25, nI_leE (by omega) (by omega)]; exact h25
  refine eDf_misfit (F + d + 3) _ _ _ _ _ ?_
  rw [hfi, cG_I, if_pos e25, ldI_n (by omega) (by omega), lS_kind hC hI hy]
  have l14 : ∀ K : Int32 → aRs, ldI 4096 (lS b pb qb q s) 14 (nI v) K = K (nI (T 0 v)) := fun K => by rw [ldI_n (by omega) (by omega), fv.1]
  simp only [l14, k0, k1, y6, y7, y11]
  unfold kFtB
  by_cases h6 : q.2.1 0 y = 6
  · rw [if_pos h6, if_pos h6]
    by_cases a : T 0 v = 1
    · rw [if_neg (fun e => e a), if_pos a]
      rcases hz with hz | ⟨D, hvd, hrec, hfb, hd⟩
      · omega
      have hy6 := hK.2 (by omega)
      have hnd := hcd y hy6 hy
      have h41 := hnd.1.2.2.1 (.inl h6)
      have hx0 := hnd.2 (by omega) (by omega) 0 (by omega)
      have hA := Df_fA hC hT hG hI hrec hfb d (by omega) a (jVb_2le hG hb a) hy6 hy (.inl h6) h41 hx0 hlt.2 hd _ _ _ 0 (jVd_l hvd a) (Nat.zero_add _)
      have hin : fDf_misfitInside (F + d + 3) (nI v) (zI (T 3 v)) (nI (lo b y)) (nI x3) (lS b pb qb q s) = rI (zI (kFiA T (fun w => rec w (q.2.2 1 y 0 - 1)) (T 2 v) (T 3 v))) (lS b pb qb q s) := by
        refine eDf_misfitInside (F + d + 2) _ _ _ _ _ _ ?_
        rw [ldI_n (by omega) (by omega), lS_kind hC hI hy]
        simp only [y7]
        rw [if_pos (by omega)]
        refine eDf_misfitInside_10 (F + d + 2) _ _ _ _ _ _ _ ?_
        exact hA
      rw [ldI_n (by omega) (by omega), lT_I hTq (by omega) (by omega), hin, cG_I]
      rfl
    · rw [if_pos a, if_neg a, zI_S]
      rfl
  rw [if_neg h6, if_neg h6]
  by_cases h7 : q.2.1 0 y = 7
  · rw [if_pos h7, if_pos h7]
    by_cases a : T 0 v = 0
    · rw [if_neg (fun e => e a), if_pos a]
      rcases hz with hz | ⟨D, hvd, hrec, hfb, hd⟩
      · omega
      have hy6 := hK.2 (by omega)
      have hnd := hcd y hy6 hy
      have h41 := hnd.1.2.2.1 (.inr h7)
      have hx0 := hnd.2 (by omega) (by omega) 0 (by omega)
      obtain ⟨k, hk, hch⟩ := jVd_o hvd a
      obtain ⟨k', hk', hch'⟩ := jVb_o hb a
      have hl := jTm_len hch'
      have hM := Df_fM hC hT hG hI hrec hfb d (v := v) (by omega) a hk (by omega) hy6 hy (.inr h7) h41 hx0 hlt.2 hd k _ _ hch (Nat.le_refl _)
      rw [Nat.sub_self] at hM
      have hin : fDf_misfitInside (F + d + 3) (nI v) (zI (T 3 v)) (nI (lo b y)) (nI x3) (lS b pb qb q s) = rI (zI (kFiM T (fun w => rec w (q.2.2 1 y 0 - 1)) k (T 3 v))) (lS b pb qb q s) := by
        refine eDf_misfitInside (F + d + 2) _ _ _ _ _ _ ?_
        rw [ldI_n (by omega) (by omega), lS_kind hC hI hy]
        simp only [y7]
        rw [if_neg (fun e => e h7)]
        refine eDf_misfitInside_10 (F + d + 2) _ _ _ _ _ _ _ ?_
        exact hM
      rw [ldI_n (by omega) (by omega), lT_I hTq (by omega) (by omega), hin, cG_I, hk, Nat.mul_div_cancel_left k (by omega)]
      rfl
    · rw [if_pos a, if_neg a, zI_S]
      rfl
  rw [if_neg h7, if_neg h7]
  by_cases h11 : q.2.1 0 y = 11
  · rw [if_pos h11, if_pos h11]
    by_cases a : T 0 v = 0
    · rw [if_neg (fun e => e a), if_pos a]
      rcases hz with hz | ⟨D, hvd, hrec, hfb, hd⟩
      · omega
      have hy6 := hK.2 (by omega)
      have hF := Df_fF hC hT hG hI hcd hp hq hrec hfb d hb hvd a hy6 hy h11 hd _ 0 (Nat.zero_add _)
      have hin : fDf_misfitField (F + d + 3) (nI v) (nI (lo b y)) (nI x3) (lS b pb qb q s) = rI (zI (kFiF T q rec v y (q.2.1 4 y) 0)) (lS b pb qb q s) := eDf_misfitField (F + d + 2) _ _ _ _ _ hF
      rw [hin, cG_I]
      rfl
    · rw [if_pos a, if_neg a, zI_S]
      rfl
  rw [if_neg h11, if_neg h11]
  have his : fDf_isFitting (F + d + 3) (nI v) (nI (lo b y)) (lS b pb qb q s) = rI (if kFtL T N q v y = true then 1 else 0) (lS b pb qb q s) := Df_isF hC hT hG hI hcd hp hq (F + d + 1) hb hy (by omega)
  rw [his, cG_I]
  by_cases hL : kFtL T N q v y = true
  · rw [if_neg (by rw [if_pos hL]; decide), if_pos hL]
    rfl
  · rw [if_pos (by rw [if_neg hL]), if_neg hL, zI_S]
    rfl
/-- a default against its field's schema, in the lake -/
theorem Df_mis (hC : lCx b pb qb s) (hT : lT s T N m l) (hG : jGt T N m l n) (hI : kIv T m q) (hcd : kCd q) (hp : pb + q.1 3 ≤ 10112) (hq : qb + q.1 6 ≤ 72704) : ∀ D, D ≤ 24 → lFy b pb qb q s T N m D (2 * D + 2) (kFit T N q D) := by
  intro D
  induction D with
  | zero =>
    intro _ d v x x3 hv hx h25
    have e : 2 * 0 + 2 + d + 2 = 0 + d + 4 := by omega
    rw [e]
    exact Df_misB (F := 0) (rec := fun _ _ => 0) hC hT hG hI hcd hp hq d (jVd_b (by omega) hv) hx (by omega) (.inl (jVd_0 hv))
  | succ D ih =>
    intro hD d v x x3 hv hx h25
    have e : 2 * (D + 1) + 2 + d + 2 = (2 * D + 2) + d + 4 := by omega
    rw [e]
    exact Df_misB (F := 2 * D + 2) hC hT hG hI hcd hp hq d (jVd_b hD hv) hx (by omega) (.inr ⟨D, hv, ih (by omega), kFit_le hI hcd D, by omega⟩)
end
