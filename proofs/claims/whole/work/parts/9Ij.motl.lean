/-! the reference: a datum, told -/
section
variable {c1 m1 l1 n1 c2 m2 l2 n2 n R : Nat} {B : Nat → Nat} {q1 q2 : kP} {T1 T2 : Nat → Nat → Nat} {N1 N2 : Nat → Int} {t : aT} {dW : Nat → Nat → List Nat} {D F : Nat}
/-- neither is a union, they are alike, and none of the six -/
theorem Mo_t121 (hR : mTo R t) (hi : mTi B n t) (h1 : mW c1 q1 T1 N1 m1 l1 n1 t) (h2 : mW c2 q2 T2 N2 m2 l2 n2 t) (hdx : mDx T2 N2 m2 q2 dW) (hrec : mDr R B n c1 c2 q1 q2 t dW D F) (hF : 52 ≤ F) (hF2 : D + 2 ≤ F) (d : Nat) {x y a e : Nat} {L M : List Nat} {b : Bool} (hx : x < q1.1 1) (hy : y < q2.1 1) (x6 : 6 ≤ q1.2.1 0 x) (x8 : q1.2.1 0 x ≠ 8) (hl : L.length ≤ R) (hk : kWq q1 B n (D + 1) x a e) (ha : kAi q1 q2 x y = true) (hM : kTn q1 q2 dW B n D (kTr q1 q2 dW B n D) x y a e M b) : mTl R t (fMo_tell_121 (F + d + 2) c1 (nI x) c2 (nI y) (nI (q1.2.1 0 x)) (oNn a (oU L t))) L M b e := by
  have I1 := h1.2.2.2.2.1
  have I2 := h2.2.2.2.2.1
  have hKx := kKi I1 hx
  have gx6 := hKx.2.mp x6
  have hkk := kAi_67 ha x6
  have gy6 := (kKi I2 hy).2.mp (by omega)
  have ww1 : ∀ a L, mW c1 q1 T1 N1 m1 l1 n1 (oNn a (oU L t)) := fun a L => oNn_W (oU_W h1)
  have ww2 : ∀ a L, mW c2 q2 T2 N2 m2 l2 n2 (oNn a (oU L t)) := fun a L => oNn_W (oU_W h2)
  have rx := fun a L => mW_r (ww1 a L) hx
  have ry := fun a L => mW_r (ww2 a L) hy
  have hle := kWq_le hk
  have hn := hi.1
  unfold kTn at hM
  rw [if_pos ha] at hM
  have hcase : (q1.2.1 0 x = 6 ∨ q1.2.1 0 x = 7) ∨ q1.2.1 0 x = 9 ∨ q1.2.1 0 x = 10 ∨ q1.2.1 0 x = 11 := by omega
  rcases hcase with h | h | h | h
  · rw [if_pos h] at hM
    obtain ⟨k, a1, k1, k2, k3, k4⟩ := hM
    have ent : ∀ r, (if k = 0 then fMo_tell_181 (F + d + 2) c1 (nI x) c2 (nI y) (nI (q1.2.1 0 x)) (Int64.ofNat k) (oNn a1 (oU L t)) else cG (fMo_tellVarint (F + d + 1) (Int64.ofNat k) (oNn a1 (oU L t))) (kV fun s17 => fMo_tell_181 (F + d + 2) c1 (nI x) c2 (nI y) (nI (q1.2.1 0 x)) (Int64.ofNat k) s17)) = some r → fMo_tell_121 (F + d + 2) c1 (nI x) c2 (nI y) (nI (q1.2.1 0 x)) (oNn a (oU L t)) = some r := by
      intro r hr
      refine eMo_tell_121 (F + d + 1) c1 _ c2 _ _ _ h1.1 h2.1 _ ?_
      have ek : (aLcmp (Int64.ofNat k) 0 ≤ 0) = (k = 0) := by
        rw [aLcmp_le, ofN_t (by omega), show (0 : Int64).toInt = 0 from rfl]
        exact propext ⟨fun h => by omega, fun h => by omega⟩
      rcases h with h | h
      · rw [h] at hr ⊢
        rw [if_neg (by decide), if_neg (by decide), if_neg (by decide), Mo_rv (oU_i hi) _ k2.1, cG_L]
        simp only [ek]
        exact hr
      · rw [h] at hr ⊢
        rw [if_neg (by decide), if_neg (by decide), if_neg (by decide), Mo_rv (oU_i hi) _ k2.1, cG_L]
        simp only [ek]
        exact hr
    by_cases k0 : k = 0
    · obtain ⟨rfl, rfl, rfl⟩ := k3 k0
      have hv := Mo_tv hR hl (d := F + d + 1) (by omega) (v := 0) (a := e)
      rw [show kVb 0 = [0] from rfl] at hv
      refine mTl_go (mTl_l hv) (fun r hr => ent r ?_)
      rw [if_pos k0]
      refine eMo_tell_181 (F + d + 1) c1 _ c2 _ _ _ _ h1.1 h2.1 _ ?_
      refine eMo_tell_183 (F + d + 1) c1 _ c2 _ _ _ _ _ h1.1 h2.1 _ ?_
      rw [k0, if_pos (by decide), if_pos (by decide)]
      exact eMo_tell_223 (F + d + 1) _ _ hr
    · obtain ⟨f, g, rfl, f1, f2, M', rfl, f3⟩ := k4 k0
      refine mTl_go (mTl_s (e := e) (b := b) (G := fun s17 => fMo_tell_181 (F + d + 2) c1 (nI x) c2 (nI y) (nI (q1.2.1 0 x)) (Int64.ofNat k) s17) (Mo_tv hR hl (d := F + d + 1) (by omega) (v := Int64.ofNat k) (a := f 0)) (by
        rw [if_pos rfl]
        refine ⟨M', rfl, fun hl' => ?_⟩
        have h183 := Mo_t183 hR hi h1 h2 hrec (by omega) (d + 1) hx hy hkk h k1 k0 f1 f2 k 0 _ M' b (by omega) hl' f3
        exact mTl_go h183 (fun r hr => eMo_tell_181 (F + d + 1) c1 _ c2 _ _ _ _ h1.1 h2.1 _ hr))) (fun r hr => ent r ?_)
      rw [if_neg k0]
      exact hr
  · rw [if_neg (by omega), if_neg (by omega), if_neg (by omega)] at hM
    obtain ⟨rfl, rfl⟩ := hM
    have h9 := hk.2.2.2.2.2.2.1 h
    have h8 := (h1.2.2.2.2.2.1 x gx6 hx).1.1 h
    have b8 := (I1.2.2.1 x gx6 hx).2.2.2.2.2.2.1
    have hc := Mo_cy hR hi hl (d := F + d + 1) (by omega) (y := Int64.ofNat (q1.2.1 8 x - 1)) (k0 := q1.2.1 8 x - 1) (ofN_t (by omega)) (a := a) (by omega)
    rw [h9, Nat.add_sub_cancel_left]
    refine mTl_go (mTl_l hc) (fun r hr => eMo_tell_121 (F + d + 1) c1 _ c2 _ _ _ h1.1 h2.1 _ ?_)
    rw [h, if_pos (by decide), ldI_n (rx 0 L).1 (by omega), ((rx _ _).2.2 gx6).2.2.1, if_pos h, nI_long (by omega)]
    exact hr
  · rw [if_neg (by omega), if_pos h] at hM
    obtain ⟨i, i1, i2, i3⟩ := hM
    have h47 := (h1.2.2.2.2.2.1 x gx6 hx).1.2.2.2.2 (by omega) (by omega)
    have h732 := (I1.2.2.1 x gx6 hx).2.2.2.2.2.2.2
    have hkx := mW_k (ww1 e L) gx6 hx i1
    have hpn := mW_pn h1 hx (by omega) i1
    have hm1 := h1.2.2.2.1.1
    have b8 := (I2.2.2.1 y gy6 hy).2.2.2.2.2.2.1
    have hpk := kPk_le (q1 := q2) (q2 := q1) (x := y) (y := x) (j := i)
    have y47 := (h2.2.2.2.2.2.1 y gy6 hy).1.2.2.2.2 (by omega) (by omega)
    have y732 := (I2.2.2.1 y gy6 hy).2.2.2.2.2.2.2
    have hsy := Mo_sy (ww2 e L) (ww1 e L) (F + d) hy hx (by omega) (by omega) i1
    have ent : ∀ r, (if kPk q2 q1 y x i ≠ 0 then fMo_tell_154 (F + d + 2) (nI (kPk q2 q1 y x i - 1)) (oNn e (oU L t)) else fMo_tell_154 (F + d + 2) (zI (q2.2.1 8 y)) (oNn e (oU L t))) = some r → fMo_tell_121 (F + d + 2) c1 (nI x) c2 (nI y) (nI (q1.2.1 0 x)) (oNn a (oU L t)) = some r := by
      intro r hr
      refine eMo_tell_121 (F + d + 1) c1 _ c2 _ _ _ h1.1 h2.1 _ ?_
      rw [h, if_neg (by decide), if_pos (by decide), Mo_rv (oU_i hi) _ i2.1, cG_L, ofN_i (by omega), Mw_kid (ww1 e L) _ hx (by omega) (by omega) i1, cN_I, ldI_n hkx.1 (by omega), hkx.2.2.2.1, zI_pos (by omega), hsy, cN_I]
      by_cases hp : kPk q2 q1 y x i ≠ 0
      · rw [if_pos hp] at hr
        rw [zI_pos (Nat.pos_of_ne_zero hp), if_pos (show (0 : Int32) ≤ nI (kPk q2 q1 y x i - 1) by rw [show (0 : Int32) = nI 0 from rfl, nI_leE (by omega) (by omega)]; omega)]
        exact hr
      · rw [if_neg hp] at hr
        rw [show kPk q2 q1 y x i = 0 by omega, if_neg (by decide), ldI_n (ry 0 L).1 (by omega), ((ry _ _).2.2 gy6).2.2.2, if_pos (by omega)]
        exact hr
    have e159 : ∀ k, k < 1000 → mTl R t (fMo_tell_154 (F + d + 2) (nI k) (oNn e (oU L t))) L (kVb (Int64.ofNat k)) true e := by
      intro k hk
      refine mTl_go (mTl_l (Mo_tv hR hl (d := F + d + 1) (by omega) (v := Int64.ofNat k) (a := e))) (fun r hr => eMo_tell_154 (F + d + 1) _ _ _ ?_)
      rw [if_pos (show (0 : Int32) ≤ nI k by rw [show (0 : Int32) = nI 0 from rfl, nI_leE (by omega) (by omega)]; omega)]
      refine eMo_tell_159 (F + d + 1) _ _ _ ?_
      rw [nI_long (by omega)]
      exact hr
    by_cases hp : kPk q2 q1 y x i ≠ 0
    · rw [if_pos hp] at i3
      obtain ⟨rfl, rfl⟩ := i3
      refine mTl_go (e159 _ (by omega)) (fun r hr => ent r ?_)
      rw [if_pos hp]
      exact hr
    · rw [if_neg hp] at i3
      simp only [if_neg hp] at ent
      by_cases hp8 : q2.2.1 8 y ≠ 0
      · rw [if_pos hp8] at i3
        obtain ⟨rfl, rfl⟩ := i3
        rw [zI_pos (Nat.pos_of_ne_zero hp8)] at ent
        exact mTl_go (e159 _ (by omega)) ent
      · rw [if_neg hp8] at i3
        obtain ⟨rfl, rfl⟩ := i3
        refine mTl_go (mTl_u (d := F + d) (a := e) hl (G := fun s1 => fMo_tell_159 (F + d + 2) (zI (q2.2.1 8 y)) s1)) (fun r hr => ent r (eMo_tell_154 (F + d + 1) _ _ _ ?_))
        rw [show q2.2.1 8 y = 0 by omega] at hr ⊢
        rw [if_neg (by decide)]
        exact hr
  · rw [if_neg (by omega), if_neg (by omega), if_pos h] at hM
    obtain ⟨f, f0, f1, f2, f3⟩ := hM
    have h8' := Mo_t8 hR hi h1 h2 hdx hrec hF hF2 d hx hy h (by omega) hk f0 f2 (q2.2.1 4 y) 0 a L M b (by omega) hl f3
    refine mTl_go (mTl_s (e := e) (b := b) (M := M) (G := fun s14 => rV s14) h8' (by
      cases b with
      | false => rw [if_neg (by decide)]; exact ⟨rfl, rfl⟩
      | true => rw [if_pos rfl]; exact ⟨[], by rw [List.append_nil], fun hl' => mTl_0 hl'⟩)) (fun r hr => eMo_tell_121 (F + d + 1) c1 _ c2 _ _ _ h1.1 h2.1 _ ?_)
    have htr : ∀ r, fMo_tellRecord_8 (F + d + 1) c1 (nI x) c2 (nI a) (zI (kKd q2 y 0)) (oNn a (oU L t)) = some r → fMo_tellRecord (F + d + 1) c1 (nI x) c2 (nI y) (oNn a (oU L t)) = some r := by
      intro r hr
      refine eMo_tellRecord (F + d) c1 _ c2 _ _ h1.1 h2.1 _ ?_
      rw [ldI_n (ry 0 L).1 (by omega), ((ry _ _).2.2 gy6).2.1, oNn_at]
      exact hr
    rw [h, if_neg (by decide), if_neg (by decide), if_pos (by decide)]
    cases h9 : fMo_tellRecord_8 (F + d + 1) c1 (nI x) c2 (nI a) (zI (kKd q2 y 0)) (oNn a (oU L t)) with
    | none => rw [h9] at hr; cases hr
    | some r' => rw [h9] at hr; rw [htr r' h9]; exact hr
theorem kAi_l {x y : Nat} (hk : q1.2.1 0 x = q2.2.1 0 y) (h : q1.2.1 0 x = 6 ∨ q1.2.1 0 x = 7) : kAi q1 q2 x y = true := by
  unfold kAi
  refine decide_eq_true ?_
  rw [if_neg (by omega)]
  exact ⟨hk, fun e => by omega, fun e => by omega⟩
/-- neither is a union -/
theorem Mo_tN (hR : mTo R t) (hi : mTi B n t) (h1 : mW c1 q1 T1 N1 m1 l1 n1 t) (h2 : mW c2 q2 T2 N2 m2 l2 n2 t) (hdx : mDx T2 N2 m2 q2 dW) (hrec : mDr R B n c1 c2 q1 q2 t dW D F) (hF : 52 ≤ F) (hF2 : D + 2 ≤ F) (d : Nat) {x y a e : Nat} {L M : List Nat} {b : Bool} (hx : x < q1.1 1) (hy : y < q2.1 1) (x8 : q1.2.1 0 x ≠ 8) (y8 : q2.2.1 0 y ≠ 8) (hl : L.length ≤ R) (hk : kWq q1 B n (D + 1) x a e) (hM : kTn q1 q2 dW B n D (kTr q1 q2 dW B n D) x y a e M b) : mTl R t (fMo_tell (F + d + 2) c1 (nI x) c2 (nI y) (oNn a (oU L t))) L M b e := by
  have I1 := h1.2.2.2.2.1
  have I2 := h2.2.2.2.2.1
  have kx := (kKi I1 hx).1
  have ky := (kKi I2 hy).1
  have ww1 : ∀ a L, mW c1 q1 T1 N1 m1 l1 n1 (oNn a (oU L t)) := fun a L => oNn_W (oU_W h1)
  have ww2 : ∀ a L, mW c2 q2 T2 N2 m2 l2 n2 (oNn a (oU L t)) := fun a L => oNn_W (oU_W h2)
  have rx := fun a L => mW_r (ww1 a L) hx
  have ry := fun a L => mW_r (ww2 a L) hy
  have e8 : ∀ k, k ≤ 11 → (nI k = 8) = (k = 8) := fun k hk => by rw [show (8 : Int32) = nI 8 from rfl, nI_eqE (by omega) (by omega)]
  have e6 : ∀ k, k ≤ 11 → (nI k = 6) = (k = 6) := fun k hk => by rw [show (6 : Int32) = nI 6 from rfl, nI_eqE (by omega) (by omega)]
  have e7 : ∀ k, k ≤ 11 → (nI k = 7) = (k = 7) := fun k hk => by rw [show (7 : Int32) = nI 7 from rfl, nI_eqE (by omega) (by omega)]
  have u0 : ∀ p : Prop, ∀ [Decidable p], ((if p then (1 : Int32) else 0) = 0) = ¬ p := fun p _ => by by_cases h : p <;> simp [h]
  have h85 : ∀ r, (if q1.2.1 0 x < 6 ∧ q2.2.1 0 y < 6 ∧ kSix (q1.2.1 0 x) (q2.2.1 0 y) then fMo_tell_103 (F + d + 2) (nI (q1.2.1 0 x)) (oNn a (oU L t)) else fMo_tell_101 (F + d + 2) (nI (q1.2.1 0 x)) (oNn a (oU L t))) = some r → fMo_tell_85 (F + d + 2) c2 (nI y) (nI (q1.2.1 0 x)) (oNn a (oU L t)) = some r := by
    intro r hr
    refine eMo_tell_85 (F + d + 1) c2 _ _ _ h2.1 _ ?_
    rw [Mo_six (by omega), cG_I]
    by_cases g1 : q1.2.1 0 x < 6
    · rw [if_neg (by rw [u0]; exact fun e => e g1), ldI_n (ry 0 L).1 (by omega), (ry _ _).2.1, Mo_six (by omega), cG_I]
      by_cases g2 : q2.2.1 0 y < 6
      · rw [if_neg (by rw [u0]; exact fun e => e g2), ldI_n (ry 0 L).1 (by omega), (ry _ _).2.1, Mo_word _ (by omega) (by omega), cG_I]
        by_cases g3 : kSix (q1.2.1 0 x) (q2.2.1 0 y)
        · rw [if_pos ⟨g1, g2, g3⟩] at hr
          rw [if_pos (by rw [u0]; exact fun e => e g3)]
          exact hr
        · rw [if_neg (fun e => g3 e.2.2)] at hr
          rw [if_neg (by rw [u0]; exact fun e => e g3)]
          exact hr
      · rw [if_neg (fun e => g2 e.2.1)] at hr
        rw [if_pos (by rw [u0]; exact g2)]
        exact hr
    · rw [if_neg (fun e => g1 e.1)] at hr
      rw [if_pos (by rw [u0]; exact g1)]
      exact hr
  have ent : ∀ r, (if q1.2.1 0 x < 6 ∨ q2.2.1 0 y < 6 ∨ q1.2.1 0 x ≠ q2.2.1 0 y then fMo_tell_85 (F + d + 2) c2 (nI y) (nI (q1.2.1 0 x)) (oNn a (oU L t)) else if kAi q1 q2 x y = true then fMo_tell_121 (F + d + 2) c1 (nI x) c2 (nI y) (nI (q1.2.1 0 x)) (oNn a (oU L t)) else cG (fMo_unresolved (F + d + 1) (oNn a (oU L t))) (kV fun s11 => fMo_tell_121 (F + d + 2) c1 (nI x) c2 (nI y) (nI (q1.2.1 0 x)) s11)) = some r → fMo_tell (F + d + 2) c1 (nI x) c2 (nI y) (oNn a (oU L t)) = some r := by
    intro r hr
    refine eMo_tell (F + d + 1) c1 _ c2 _ _ h1.1 h2.1 _ ?_
    rw [ldI_n (rx 0 L).1 (by omega), (rx _ _).2.1, if_pos (by rw [e8 _ kx]; exact x8), ldI_n (ry 0 L).1 (by omega), (ry _ _).2.1, if_pos (by rw [e8 _ ky]; exact y8), Mo_six (by omega), cG_I]
    by_cases g1 : q1.2.1 0 x < 6
    · rw [if_pos (.inl g1)] at hr
      rw [if_pos (by rw [u0]; exact fun e => e g1)]
      exact hr
    · rw [if_neg (by rw [u0]; exact fun e => e g1), ldI_n (ry 0 L).1 (by omega), (ry _ _).2.1, Mo_six (by omega), cG_I]
      by_cases g2 : q2.2.1 0 y < 6
      · rw [if_pos (.inr (.inl g2))] at hr
        rw [if_pos (by rw [u0]; exact fun e => e g2)]
        exact hr
      · rw [if_neg (by rw [u0]; exact fun e => e g2), ldI_n (ry 0 L).1 (by omega), (ry _ _).2.1]
        simp (disch := omega) only [nI_eqE, e6 _ kx, e7 _ kx]
        by_cases g3 : q1.2.1 0 x = q2.2.1 0 y
        · rw [if_neg (by omega)] at hr
          rw [if_pos g3]
          by_cases g6 : q1.2.1 0 x = 6
          · rw [if_pos (kAi_l g3 (.inl g6))] at hr
            rw [if_pos g6]
            exact hr
          · rw [if_neg g6]
            by_cases g7 : q1.2.1 0 x = 7
            · rw [if_pos (kAi_l g3 (.inr g7))] at hr
              rw [if_pos g7]
              exact hr
            · rw [if_neg g7]
              have hmt := Mo_mt0 (ww1 a L) (ww2 a L) (F + d) (R := false) hx hy (fun e => by omega)
              rw [if_neg (show ¬ (q1.2.1 0 x = 8 ∨ q2.2.1 0 y = 8) by omega), if_neg (show ¬ (q1.2.1 0 x = 6 ∨ q1.2.1 0 x = 7) by omega)] at hmt
              rw [hmt, cG_I]
              by_cases ga : kAi q1 q2 x y = true
              · rw [if_pos ga] at hr
                rw [ga, if_pos (by decide)]
                exact hr
              · rw [if_neg ga] at hr
                have ga : kAi q1 q2 x y = false := by simpa using ga
                rw [ga, if_neg (by decide)]
                exact hr
        · rw [if_pos (.inr (.inr g3))] at hr
          rw [if_neg g3]
          exact hr
  have hM0 := hM
  unfold kTn at hM
  by_cases ha : kAi q1 q2 x y = true
  · by_cases g1 : q1.2.1 0 x < 6
    · rw [if_pos ha, if_neg (by omega), if_neg (by omega), if_neg (by omega)] at hM
      obtain ⟨rfl, rfl⟩ := hM
      have hs : kSix (q1.2.1 0 x) (q2.2.1 0 y) := by
        unfold kAi at ha
        have ha := of_decide_eq_true ha
        rw [if_pos g1] at ha
        exact ha
      have g2 : q2.2.1 0 y < 6 := by unfold kSix at hs; omega
      obtain ⟨hle, w0, w1, w2, w4, _⟩ := hk
      have h6 := Mo_t6 hR hi hl (d := F + d + 1) (by omega) (x := q1.2.1 0 x) (a := a) (e := e) g1 w0 w1 hle.2 w2 w4
      refine mTl_go (mTl_l h6) (fun r hr => ent r ?_)
      rw [if_pos (.inl g1)]
      refine h85 r ?_
      rw [if_pos ⟨g1, g2, hs⟩]
      exact eMo_tell_103 (F + d + 1) _ _ _ hr
    · have hkk := kAi_67 ha (by omega)
      refine mTl_go (Mo_t121 hR hi h1 h2 hdx hrec hF hF2 d hx hy (by omega) x8 hl hk ha hM0) (fun r hr => ent r ?_)
      rw [if_neg (by omega), if_pos ha]
      exact hr
  · rw [if_neg ha] at hM
    obtain ⟨rfl, rfl⟩ := hM
    by_cases g : q1.2.1 0 x < 6 ∨ q2.2.1 0 y < 6 ∨ q1.2.1 0 x ≠ q2.2.1 0 y
    · refine mTl_go (mTl_u (d := F + d) (a := a) hl (G := fun s1 => fMo_tell_103 (F + d + 2) (nI (q1.2.1 0 x)) s1)) (fun r hr => ent r ?_)
      rw [if_pos g]
      refine h85 r ?_
      rw [if_neg (fun e => ha (by
        unfold kAi
        refine decide_eq_true ?_
        rw [if_pos e.1]
        exact e.2.2))]
      exact eMo_tell_101 (F + d + 1) _ _ _ hr
    · refine mTl_go (mTl_u (d := F + d) (a := a) hl (G := fun s11 => fMo_tell_121 (F + d + 2) c1 (nI x) c2 (nI y) (nI (q1.2.1 0 x)) s11)) (fun r hr => ent r ?_)
      rw [if_neg g, if_neg ha]
      exact hr
/-- to the branch that is wanted -/
theorem Mo_t46 (h1 : mW c1 q1 T1 N1 m1 l1 n1 t) {s : aT} (h2 : mW c2 q2 T2 N2 m2 l2 n2 s) (d : Nat) {x : Int32} {y j0 : Nat} (hy : y < q2.1 1) (y8 : q2.2.1 0 y = 8) (hj0 : j0 < q2.2.1 4 y) {r : _} (hr : cG (fMo_tellVarint d (Int64.ofNat j0) s) (kV fun s1 => ldI 2200 s1 (c2 + 15) (nI (q2.2.2 0 y j0)) (fun v2 => cG (fMo_tell d c1 x c2 v2 s1) (kV fun s3 => rV s3))) = some r) : ∀ k i, i + k = j0 → fMo_tell_46 (d + 1) c1 x c2 (nI (q2.2.2 0 y j0)) (nI i) (zI (kKd q2 y i)) s = some r := by
  have I2 := h2.2.2.2.2.1
  have y6 := (kKi I2 hy).2.mp (by omega)
  have y47 := (h2.2.2.2.2.2.1 y y6 hy).1.2.2.2.2 (by omega) (by omega)
  have y732 := (I2.2.2.1 y y6 hy).2.2.2.2.2.2.2
  intro k
  induction k with
  | zero =>
    intro i hik
    have ei : i = j0 := by omega
    subst ei
    have hk := mW_k h2 y6 hy hj0
    refine eMo_tell_46 d c1 _ c2 _ _ _ _ h1.1 h2.1 _ ?_
    rw [hk.2.1, zI_S, if_pos rfl, nI_long (by omega)]
    exact hr
  | succ k ih =>
    intro i hik
    have hil : i < q2.2.1 4 y := by omega
    have hk := mW_k h2 y6 hy hil
    have hk0 := mW_k h2 y6 hy hj0
    have hne : ¬ nI (q2.2.2 0 y i) = nI (q2.2.2 0 y j0) := by
      rw [nI_eqE (by have := hk.1; omega) (by have := hk0.1; omega)]
      intro e
      have := kKid I2 y6 hy hil hj0 e
      omega
    refine eMo_tell_46 d c1 _ c2 _ _ _ _ h1.1 h2.1 _ ?_
    rw [hk.2.1, zI_S, if_neg hne, ldI_n hk.1 (by omega), hk.2.2.2.2.2, nI_add1]
    exact ih (i + 1) (by omega)
/-- a datum, told by the reference -/
theorem Mo_tl (hR : mTo R t) (hi : mTi B n t) (h1 : mW c1 q1 T1 N1 m1 l1 n1 t) (h2 : mW c2 q2 T2 N2 m2 l2 n2 t) (hdx : mDx T2 N2 m2 q2 dW) : ∀ D, mDr R B n c1 c2 q1 q2 t dW D (3 * D + 52) := by
  have I1 := h1.2.2.2.2.1
  have I2 := h2.2.2.2.2.1
  have ww1 : ∀ a L, mW c1 q1 T1 N1 m1 l1 n1 (oNn a (oU L t)) := fun a L => oNn_W (oU_W h1)
  have ww2 : ∀ a L, mW c2 q2 T2 N2 m2 l2 n2 (oNn a (oU L t)) := fun a L => oNn_W (oU_W h2)
  have e8 : ∀ k, k ≤ 11 → (nI k = 8) = (k = 8) := fun k hk => by rw [show (8 : Int32) = nI 8 from rfl, nI_eqE (by omega) (by omega)]
  intro D
  induction D with
  | zero => intro d x y a e L M b _ _ _ h; exact h.elim
  | succ D ih =>
    intro d x y a e L M b hx hy hl hk hM
    have kx := (kKi I1 hx).1
    have ky := (kKi I2 hy).1
    have rx := fun a L => mW_r (ww1 a L) hx
    have ry := fun a L => mW_r (ww2 a L) hy
    rw [show 3 * (D + 1) + 52 + d = 3 * D + 52 + d + 2 + 1 by omega]
    unfold kTr at hM
    by_cases x8 : q1.2.1 0 x = 8
    · rw [if_pos x8] at hM
      obtain ⟨i, a1, i1, i2, i3, i4⟩ := hM
      have x6 := (kKi I1 hx).2.mp (by omega)
      have h47 := (h1.2.2.2.2.2.1 x x6 hx).1.2.2.2.2 (by omega) (by omega)
      have h732 := (I1.2.2.1 x x6 hx).2.2.2.2.2.2.2
      obtain ⟨p1, p2⟩ := kPx_lt I1 h1.2.2.2.2.2.1 x6 hx (by omega) (by omega) i1
      have hk2 := mW_k (ww1 a1 L) x6 hx i1
      have hd := ih (d + 2) (kPx q1 x i) y a1 e L M b p2 hy hl i3 i4
      rw [show 3 * D + 52 + (d + 2) = 3 * D + 52 + d + 2 by omega] at hd
      refine mTl_go (mTl_l hd) (fun r hr => eMo_tell (3 * D + 52 + d + 2) c1 _ c2 _ _ h1.1 h2.1 _ ?_)
      rw [ldI_n (rx 0 L).1 (by omega), (rx _ _).2.1, if_neg (fun e => e (by rw [e8 _ kx]; exact x8)), Mo_rv (oU_i hi) _ i2.1, cG_L, ofN_i (by omega), Mw_kid (ww1 a1 L) _ hx (by omega) (by omega) i1, cN_I, ldI_n hk2.1 (by omega), hk2.2.2.1, zI_pos (by omega)]
      exact hr
    · rw [if_neg x8] at hM
      by_cases y8 : q2.2.1 0 y = 8
      · rw [if_pos y8] at hM
        have y6 := (kKi I2 hy).2.mp (by omega)
        have hbf := Mo_bf (ww1 a L) (ww2 a L) (3 * D + 36 + d) hx hy y8
        rw [show 3 * D + 36 + d + 18 = 3 * D + 52 + d + 2 by omega] at hbf
        have hble := kBf_le (q1 := q1) (q2 := q2) (x := x) (y := y)
        have hko := kKo_lt y6 hy I2 h2.2.2.2.2.2.2.1 hble
        have ent : ∀ r, (if kBf q1 q2 x y = 0 then cG (fMo_unresolved (3 * D + 52 + d + 2) (oNn a (oU L t))) (kV fun s14 => fMo_tell_39 (3 * D + 52 + d + 2 + 1) c1 (nI x) c2 (nI y) (-1) s14) else fMo_tell_39 (3 * D + 52 + d + 2 + 1) c1 (nI x) c2 (nI y) (nI (q2.2.2 0 y (kBf q1 q2 x y - 1))) (oNn a (oU L t))) = some r → fMo_tell (3 * D + 52 + d + 2 + 1) c1 (nI x) c2 (nI y) (oNn a (oU L t)) = some r := by
          intro r hr
          refine eMo_tell (3 * D + 52 + d + 2) c1 _ c2 _ _ h1.1 h2.1 _ ?_
          rw [ldI_n (rx 0 L).1 (by omega), (rx _ _).2.1, if_pos (by rw [e8 _ kx]; exact x8), ldI_n (ry 0 L).1 (by omega), (ry _ _).2.1, if_neg (fun e => e (by rw [e8 _ ky]; exact y8)), hbf, cG_I]
          by_cases h0 : kBf q1 q2 x y = 0
          · rw [if_pos h0] at hr
            rw [hko.2.mpr h0, zI_0, if_neg (by decide)]
            exact hr
          · rw [if_neg h0] at hr
            have e0 : kKo q2 y (kBf q1 q2 x y) = q2.2.2 0 y (kBf q1 q2 x y - 1) + 1 := by unfold kKo; rw [if_neg h0]
            rw [e0, zI_S, if_pos (show (0 : Int32) ≤ nI (q2.2.2 0 y (kBf q1 q2 x y - 1)) by rw [show (0 : Int32) = nI 0 from rfl, nI_leE (by omega) (by have := hko.1; omega)]; omega)]
            exact hr
        by_cases h0 : kBf q1 q2 x y = 0
        · rw [if_pos h0] at hM
          simp only [if_pos h0] at ent
          obtain ⟨rfl, rfl⟩ := hM
          exact mTl_go (mTl_u (d := 3 * D + 52 + d + 1) (a := a) hl) ent
        · rw [if_neg h0] at hM
          simp only [if_neg h0] at ent
          obtain ⟨M', rfl, hM⟩ := hM
          have hj : kBf q1 q2 x y - 1 < q2.2.1 4 y := by omega
          obtain ⟨p1, p2⟩ := kPx_lt I2 h2.2.2.2.2.2.1 y6 hy (by omega) (by omega) hj
          have p8 := ((h2.2.2.2.2.2.1 y y6 hy).1.2.2.2.1 y8).2 (kBf q1 q2 x y - 1) hj
          have hkj := fun a L => mW_k (ww2 a L) y6 hy hj
          refine mTl_go (mTl_s (e := e) (b := b) (G := fun s1 => ldI 2200 s1 (c2 + 15) (nI (q2.2.2 0 y (kBf q1 q2 x y - 1))) (fun v2 => cG (fMo_tell (3 * D + 52 + d + 2) c1 (nI x) c2 v2 s1) (kV fun s3 => rV s3))) (Mo_tv hR hl (d := 3 * D + 52 + d + 2) (by omega) (v := Int64.ofNat (kBf q1 q2 x y - 1)) (a := a)) (by
            rw [if_pos rfl]
            refine ⟨M', rfl, fun hl' => ?_⟩
            show mTl R t (ldI 2200 _ (c2 + 15) _ _) _ _ _ _
            rw [ldI_n (hkj 0 L).1 (by omega), (hkj _ _).2.2.1, zI_pos (by omega)]
            exact mTl_l (Mo_tN hR hi h1 h2 hdx ih (by omega) (by omega) d hx p2 x8 p8 hl' hk hM))) (fun r hr => ent r ?_)
          refine eMo_tell_39 (3 * D + 52 + d + 2) c1 _ c2 _ _ _ h1.1 h2.1 _ ?_
          rw [ldI_n (ry 0 L).1 (by omega), ((ry _ _).2.2 y6).2.1]
          exact Mo_t46 h1 (ww2 a L) _ hy y8 hj hr (kBf q1 q2 x y - 1) 0 (by omega)
      · rw [if_neg y8] at hM
        have := Mo_tN hR hi h1 h2 hdx ih (by omega) (by omega) (d + 1) hx hy x8 y8 hl hk hM
        rw [show 3 * D + 52 + (d + 1) + 2 = 3 * D + 52 + d + 2 + 1 by omega] at this
        exact this
end
