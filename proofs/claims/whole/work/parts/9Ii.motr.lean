/-! the reference: a datum, told -/
section
variable {c1 m1 l1 n1 c2 m2 l2 n2 n R : Nat} {B : Nat → Nat} {q1 q2 : kP} {T1 T2 : Nat → Nat → Nat} {N1 N2 : Nat → Int} {t : aT} {dW : Nat → Nat → List Nat} {D F : Nat}
/-- what is known of the reader's defaults -/
def mDx (T : Nat → Nat → Nat) (N : Nat → Int) (m : Nat) (q : kP) (dW : Nat → Nat → List Nat) : Prop := ∀ y j, y < q.1 1 → q.2.1 0 y = 11 → j < q.2.1 4 y → q.2.2 3 y j ≠ 0 → jVd T N m 24 (q.2.2 3 y j - 1) ∧ kFit T N q 24 (q.2.2 3 y j - 1) (kPx q y j) = 0 ∧ dW y j = kWt T N q 24 (q.2.2 3 y j - 1) (kPx q y j)
/-- what is known of the data inside -/
def mDr (R : Nat) (B : Nat → Nat) (n c1 c2 : Nat) (q1 q2 : kP) (t : aT) (dW : Nat → Nat → List Nat) (D F : Nat) : Prop := ∀ d x y a e L M b, x < q1.1 1 → y < q2.1 1 → L.length ≤ R → kWq q1 B n D x a e → kTr q1 q2 dW B n D x y a e M b → mTl R t (fMo_tell (F + d) c1 (nI x) c2 (nI y) (oNn a (oU L t))) L M b e
theorem mTl_u {d a e : Nat} {L : List Nat} (hl : L.length ≤ R) {G : aT → aRs} : mTl R t (cG (fMo_unresolved (d + 1) (oNn a (oU L t))) (kV fun s => G s)) L [] false e := by
  unfold mTl
  rw [if_pos (show L.length + ([] : List Nat).length ≤ R from hl), if_neg (by decide)]
  refine ⟨a, L, ?_⟩
  have : fMo_unresolved (d + 1) (oNn a (oU L t)) = rT 0 (mFl 20 (oNn a (oU L t))) := by
    refine eMo_unresolved d _ _ ?_
    rw [Mo_fb (k := 20) (x := 20) rfl, cG_T]
    rfl
  rw [this, cG_T]
theorem kKid {q : kP} {T : Nat → Nat → Nat} {m x i j : Nat} (hI : kIv T m q) (h6 : 6 ≤ x) (hx : x < q.1 1) (hi : i < q.2.1 4 x) (hj : j < q.2.1 4 x) (e : q.2.2 0 x i = q.2.2 0 x j) : i = j := by
  have a := (hI.2.2.2.1 x i h6 hx hi).1
  have b := (hI.2.2.2.1 x j h6 hx hj).1
  rw [e] at a
  omega
/-- to the field that is wanted -/
theorem Mo_t26 (hi : mTi B n t) (h1 : mW c1 q1 T1 N1 m1 l1 n1 t) (h2 : mW c2 q2 T2 N2 m2 l2 n2 t) (hF : D + 1 ≤ F) (d : Nat) {x y j j0 : Nat} {z5 : Int32} (hx : x < q1.1 1) (hy : y < q2.1 1) (x11 : q1.2.1 0 x = 11) (y11 : q2.2.1 0 y = 11) {f : Nat → Nat} (hf : ∀ i, i < q1.2.1 4 x → kWq q1 B n D (kPx q1 x i) (f i) (f (i + 1))) (hj : j < q2.2.1 4 y) (hj0 : j0 < q1.2.1 4 x) {L : List Nat} {r : _} (hr : cG (fMo_tell (F + d) c1 (nI (kPx q1 x j0)) c2 (nI (kPx q2 y j)) (oNn (f j0) (oU L t))) (kV fun s3 => fMo_tellRecord_74 (F + d + 1) c1 (nI x) c2 z5 (nI (q2.2.2 0 y j)) s3) = some r) : ∀ k i, i + k = j0 → fMo_tellRecord_26 (F + d + 1) c1 (nI x) c2 z5 (nI (q2.2.2 0 y j)) (nI (q1.2.2 0 x j0)) (zI (kKd q1 x i)) (oNn (f i) (oU L t)) = some r := by
  have I1 := h1.2.2.2.2.1
  have I2 := h2.2.2.2.2.1
  have x6 := (kKi I1 hx).2.mp (by omega)
  have y6 := (kKi I2 hy).2.mp (by omega)
  have ww1 : ∀ a L, mW c1 q1 T1 N1 m1 l1 n1 (oNn a (oU L t)) := fun a L => oNn_W (oU_W h1)
  have ww2 : ∀ a L, mW c2 q2 T2 N2 m2 l2 n2 (oNn a (oU L t)) := fun a L => oNn_W (oU_W h2)
  have hky := fun a => mW_k (ww2 a L) y6 hy hj
  obtain ⟨y1, y2⟩ := kPx_lt I2 h2.2.2.2.2.2.1 y6 hy (by omega) (by omega) hj
  intro k
  induction k with
  | zero =>
    intro i hik
    have ei : i = j0 := by omega
    subst ei
    have hk := fun a => mW_k (ww1 a L) x6 hx hj0
    obtain ⟨p1, p2⟩ := kPx_lt I1 h1.2.2.2.2.2.1 x6 hx (by omega) (by omega) hj0
    refine eMo_tellRecord_26 (F + d) c1 _ c2 _ _ _ _ _ h1.1 h2.1 _ ?_
    rw [(hk 0).2.1, zI_S, if_pos rfl, ldI_n (hk 0).1 (by omega), (hk _).2.2.1, zI_pos (by omega), ldI_n (hky 0).1 (by omega), (hky _).2.2.1, zI_pos (by omega)]
    exact hr
  | succ k ih =>
    intro i hik
    have hil : i < q1.2.1 4 x := by omega
    have hk := fun a => mW_k (ww1 a L) x6 hx hil
    have hk0 := mW_k h1 x6 hx hj0
    obtain ⟨p1, p2⟩ := kPx_lt I1 h1.2.2.2.2.2.1 x6 hx (by omega) (by omega) hil
    have hne : ¬ nI (q1.2.2 0 x i) = nI (q1.2.2 0 x j0) := by
      rw [nI_eqE (by have := (hk 0).1; omega) (by have := hk0.1; omega)]
      intro e
      have := kKid I1 x6 hx hil hj0 e
      omega
    have hsk := Mo_sk (oU_i (L := L) hi) (oU_W h1) D (F + d - D - 1) (kPx q1 x i) (f i) (f (i + 1)) p2 (hf i hil)
    rw [show D + 1 + (F + d - D - 1) = F + d by omega] at hsk
    refine eMo_tellRecord_26 (F + d) c1 _ c2 _ _ _ _ _ h1.1 h2.1 _ ?_
    rw [(hk 0).2.1, zI_S, if_neg hne, ldI_n (hk 0).1 (by omega), (hk _).2.2.1, zI_pos (by omega), hsk, cG_V, ldI_n (hk 0).1 (by omega), (hk _).2.2.2.2.2]
    exact ih (i + 1) (by omega)
theorem Mo_t8 (hR : mTo R t) (hi : mTi B n t) (h1 : mW c1 q1 T1 N1 m1 l1 n1 t) (h2 : mW c2 q2 T2 N2 m2 l2 n2 t) (hdx : mDx T2 N2 m2 q2 dW) (hrec : mDr R B n c1 c2 q1 q2 t dW D F) (hF : 52 ≤ F) (hF2 : D + 2 ≤ F) (d : Nat) {x y a e : Nat} (hx : x < q1.1 1) (hy : y < q2.1 1) (x11 : q1.2.1 0 x = 11) (y11 : q2.2.1 0 y = 11) (hk : kWq q1 B n (D + 1) x a e) {f : Nat → Nat} (f0 : f 0 = a) (hf : ∀ i, i < q1.2.1 4 x → kWq q1 B n D (kPx q1 x i) (f i) (f (i + 1))) : ∀ k j a' L M b, j + k = q2.2.1 4 y → L.length ≤ R → kTf q1 q2 dW (kTr q1 q2 dW B n D) x y f k j M b → mTl R t (fMo_tellRecord_8 (F + d + 1) c1 (nI x) c2 (nI a) (zI (kKd q2 y j)) (oNn a' (oU L t))) L M b e := by
  have I1 := h1.2.2.2.2.1
  have I2 := h2.2.2.2.2.1
  have x6 := (kKi I1 hx).2.mp (by omega)
  have y6 := (kKi I2 hy).2.mp (by omega)
  have ww1 : ∀ a L, mW c1 q1 T1 N1 m1 l1 n1 (oNn a (oU L t)) := fun a L => oNn_W (oU_W h1)
  have ww2 : ∀ a L, mW c2 q2 T2 N2 m2 l2 n2 (oNn a (oU L t)) := fun a L => oNn_W (oU_W h2)
  have rx := fun a L => mW_r (ww1 a L) hx
  intro k
  induction k with
  | zero =>
    intro j a' L M b hj hl hM
    obtain ⟨rfl, rfl⟩ := hM
    have hsk := Mo_sk (oU_i (L := L) hi) (oU_W h1) (D + 1) (F + d - D - 2) x a e hx hk
    rw [show D + 1 + 1 + (F + d - D - 2) = F + d by omega] at hsk
    refine mTl_go (mTl_0 hl) (fun r hr => eMo_tellRecord_8 (F + d) c1 _ c2 _ _ _ h1.1 h2.1 _ ?_)
    rw [show j = q2.2.1 4 y by omega, kKd_e, if_pos (by decide), wI_eq, oNn_w, hsk, cG_V]
    exact hr
  | succ k ih =>
    intro j a' L M b hj hl hM
    have hjl : j < q2.2.1 4 y := by omega
    have hky := fun a L => mW_k (ww2 a L) y6 hy hjl
    obtain ⟨y1, y2⟩ := kPx_lt I2 h2.2.2.2.2.2.1 y6 hy (by omega) (by omega) hjl
    have hfl := Mo_fl (ww1 a' L) (ww2 a' L) (F + d - 1) hx hy (by omega) (by omega) hjl
    rw [show F + d - 1 + 1 = F + d by omega] at hfl
    have hpk := kPk_le (q1 := q1) (q2 := q2) (x := x) (y := y) (j := j)
    have hko := kKo_lt x6 hx I1 h1.2.2.2.2.2.2.1 hpk
    have h74 : ∀ M1, (L ++ M1).length ≤ R → ∀ a'' M2 b, kTf q1 q2 dW (kTr q1 q2 dW B n D) x y f k (j + 1) M2 b → mTl R t (fMo_tellRecord_74 (F + d + 1) c1 (nI x) c2 (nI a) (nI (q2.2.2 0 y j)) (oNn a'' (oU (L ++ M1) t))) (L ++ M1) M2 b e := by
      intro M1 hl1 a'' M2 b h
      refine mTl_go (ih (j + 1) a'' _ M2 b (by omega) hl1 h) (fun r hr => eMo_tellRecord_74 (F + d) c1 _ c2 _ _ _ h1.1 h2.1 _ ?_)
      rw [ldI_n (hky 0 L).1 (by omega), (hky _ _).2.2.2.2.2]
      exact hr
    unfold kTf at hM
    have ent : ∀ r, (if kPk q1 q2 x y j = 0 then (if q2.2.2 3 y j = 0 then cG (fMo_unresolved (F + d) (oNn a' (oU L t))) (kV fun s6 => fMo_tellRecord_74 (F + d + 1) c1 (nI x) c2 (nI a) (nI (q2.2.2 0 y j)) s6) else cG (fMo_tellDefault (F + d) c2 (nI (q2.2.2 3 y j - 1)) (nI (kPx q2 y j)) (oNn a' (oU L t))) (kV fun s9 => fMo_tellRecord_74 (F + d + 1) c1 (nI x) c2 (nI a) (nI (q2.2.2 0 y j)) s9)) else fMo_tellRecord_26 (F + d + 1) c1 (nI x) c2 (nI a) (nI (q2.2.2 0 y j)) (nI (q1.2.2 0 x (kPk q1 q2 x y j - 1))) (zI (kKd q1 x 0)) (oNn (f 0) (oU L t))) = some r → fMo_tellRecord_8 (F + d + 1) c1 (nI x) c2 (nI a) (zI (kKd q2 y j)) (oNn a' (oU L t)) = some r := by
      intro r hr
      refine eMo_tellRecord_8 (F + d) c1 _ c2 _ _ _ h1.1 h2.1 _ ?_
      rw [(hky 0 L).2.1, zI_S, if_neg (nI_n0 (by have := (hky 0 L).1; omega)), hfl, cG_I]
      by_cases h0 : kPk q1 q2 x y j = 0
      · rw [if_pos h0] at hr
        have e0 : kKo q1 x (kPk q1 q2 x y j) = 0 := hko.2.mpr h0
        rw [e0, if_pos (by decide), ldI_n (hky 0 L).1 (by omega), (hky _ _).2.2.2.2.1]
        by_cases h3 : q2.2.2 3 y j = 0
        · rw [if_pos h3] at hr
          rw [h3, if_pos (by decide)]
          exact hr
        · rw [if_neg h3] at hr
          have hb3 := jVd_lt (hdx y j hy y11 hjl h3).1
          have hm2 := h2.2.2.2.1.1
          rw [zI_pos (Nat.pos_of_ne_zero h3), if_neg (nI_n0 (by omega)), ldI_n (hky 0 L).1 (by omega), (hky _ _).2.2.2.2.1, zI_pos (Nat.pos_of_ne_zero h3), ldI_n (hky 0 L).1 (by omega), (hky _ _).2.2.1, zI_pos (Nat.pos_of_ne_zero y1)]
          exact hr
      · rw [if_neg h0] at hr
        have e0 : kKo q1 x (kPk q1 q2 x y j) = q1.2.2 0 x (kPk q1 q2 x y j - 1) + 1 := by unfold kKo; rw [if_neg h0]
        rw [e0, zI_S, if_neg (nI_n0 (by have := hko.1; omega)), wI_eq, oNn_w, ldI_n (rx 0 L).1 (by omega), ((rx _ _).2.2 x6).2.1, ← f0]
        rw [← f0] at hr
        exact hr
    by_cases h0 : kPk q1 q2 x y j = 0
    · rw [if_pos h0] at hM
      simp only [if_pos h0] at ent
      by_cases h3 : q2.2.2 3 y j = 0
      · rw [if_pos h3] at hM
        simp only [if_pos h3] at ent
        obtain ⟨rfl, rfl⟩ := hM
        have hu := mTl_u (d := F + d - 1) (a := a') (e := e) (t := t) hl (G := fun s6 => fMo_tellRecord_74 (F + d + 1) c1 (nI x) c2 (nI a) (nI (q2.2.2 0 y j)) s6)
        rw [show F + d - 1 + 1 = F + d by omega] at hu
        exact mTl_go hu ent
      · rw [if_neg h3] at hM
        simp only [if_neg h3] at ent
        obtain ⟨M2, rfl, hM⟩ := hM
        obtain ⟨v1, v2, v3⟩ := hdx y j hy y11 hjl h3
        have hd := Mo_td hR h2 24 (Nat.le_refl _) (F + d - 52) _ _ a' L v1 y2 v2 hl
        rw [show 2 * 24 + 4 + (F + d - 52) = F + d by omega, ← v3] at hd
        exact mTl_go (mTl_s (G := fun s9 => fMo_tellRecord_74 (F + d + 1) c1 (nI x) c2 (nI a) (nI (q2.2.2 0 y j)) s9) hd (by rw [if_pos rfl]; exact ⟨M2, rfl, fun hl' => h74 _ hl' a' M2 b hM⟩)) ent
    · rw [if_neg h0] at hM
      simp only [if_neg h0] at ent
      obtain ⟨M1, b1', r1, r2⟩ := hM
      obtain ⟨p1, p2⟩ := kPx_lt I1 h1.2.2.2.2.2.1 x6 hx (by omega) (by omega) (i := kPk q1 q2 x y j - 1) (by omega)
      have hd := hrec d (kPx q1 x (kPk q1 q2 x y j - 1)) (kPx q2 y j) (f (kPk q1 q2 x y j - 1)) (f (kPk q1 q2 x y j - 1 + 1)) L M1 b1' p2 y2 hl (hf _ (by omega)) r1
      refine mTl_go (mTl_s (e := e) (M := M) (b := b) (G := fun s3 => fMo_tellRecord_74 (F + d + 1) c1 (nI x) c2 (nI a) (nI (q2.2.2 0 y j)) s3) hd (by
        cases b1' with
        | false => rw [if_neg (by decide)] at r2 ⊢; exact r2
        | true =>
          rw [if_pos rfl] at r2 ⊢
          obtain ⟨M2, rfl, r2⟩ := r2
          exact ⟨M2, rfl, fun hl' => h74 _ hl' _ M2 b r2⟩)) (fun r hr => ent r ?_)
      exact Mo_t26 hi h1 h2 (by omega) d hx hy x11 y11 hf hjl (by omega) hr (kPk q1 q2 x y j - 1) 0 (by omega)
/-- items -/
theorem Mo_t183 (hR : mTo R t) (hi : mTi B n t) (h1 : mW c1 q1 T1 N1 m1 l1 n1 t) (h2 : mW c2 q2 T2 N2 m2 l2 n2 t) (hrec : mDr R B n c1 c2 q1 q2 t dW D F) (hF : 3 ≤ F) (d : Nat) {x y e : Nat} (hx : x < q1.1 1) (hy : y < q2.1 1) (hk : q1.2.1 0 x = q2.2.1 0 y) (h67 : q1.2.1 0 x = 6 ∨ q1.2.1 0 x = 7) {k0 : Nat} (hc : k0 ≤ 2000) (hc0 : k0 ≠ 0) {f g : Nat → Nat} (he : kNu B n (f k0) 0 e) (hf : ∀ i, i < k0 → (if q1.2.1 0 x = 7 then kSs2 B n (f i) (g i) else g i = f i) ∧ kWq q1 B n D (kPx q1 x 0) (g i) (f (i + 1))) : ∀ k i L M b, i + k = k0 → L.length ≤ R → kTi q1 q2 B (kTr q1 q2 dW B n D) x y f g k i M b → mTl R t (fMo_tell_183 (F + d + 1) c1 (nI x) c2 (nI y) (nI (q1.2.1 0 x)) (Int64.ofNat k0) (Int64.ofNat i) (oNn (f i) (oU L t))) L M b e := by
  have ecmp : ∀ i, i ≤ k0 → (0 ≤ aLcmp (Int64.ofNat i) (Int64.ofNat k0)) = (k0 ≤ i) := fun i h => by
    rw [aLcmp_ge, ofN_t (by omega), ofN_t (by omega)]
    exact propext ⟨fun h => by omega, fun h => by omega⟩
  have ww1 : ∀ a L, mW c1 q1 T1 N1 m1 l1 n1 (oNn a (oU L t)) := fun a L => oNn_W (oU_W h1)
  have ww2 : ∀ a L, mW c2 q2 T2 N2 m2 l2 n2 (oNn a (oU L t)) := fun a L => oNn_W (oU_W h2)
  have itx := fun a L => mW_item (ww1 a L) hx h67
  have ity := fun a L => mW_item (ww2 a L) hy (by omega)
  have rx := mW_r h1 hx
  have ry := mW_r h2 hy
  intro k
  induction k with
  | zero =>
    intro i L M b hik hl hM
    obtain ⟨rfl, rfl⟩ := hM
    have hv := Mo_tv hR hl (d := F + d) (by omega) (v := 0) (a := e)
    rw [show kVb 0 = [0] from rfl] at hv
    refine mTl_go (mTl_l hv) (fun r hr => eMo_tell_183 (F + d) c1 _ c2 _ _ _ _ _ h1.1 h2.1 _ ?_)
    rw [if_pos (by rw [ecmp i (by omega)]; omega), if_neg (show ¬ aLcmp (Int64.ofNat k0) 0 ≤ 0 by rw [aLcmp_le, ofN_t (by omega), show (0 : Int64).toInt = 0 from rfl]; omega), show i = k0 by omega, Mo_rv (oU_i hi) _ he.1, cG_L]
    exact eMo_tell_223 (F + d) _ _ hr
  | succ k ih =>
    intro i L M b hik hl hM
    obtain ⟨f1, f2⟩ := hf i (by omega)
    obtain ⟨M1, b1', r1, r2⟩ := hM
    have e193 : ∀ L M, L.length ≤ R → (if b1' = true then ∃ M2, M = M1 ++ M2 ∧ kTi q1 q2 B (kTr q1 q2 dW B n D) x y f g k (i + 1) M2 b else M = M1 ∧ b = false) → mTl R t (fMo_tell_193 (F + d + 1) c1 (nI x) c2 (nI y) (nI (q1.2.1 0 x)) (Int64.ofNat k0) (Int64.ofNat i) (oNn (g i) (oU L t))) L M b e := by
      intro L M hl hM
      have hd := hrec d (kPx q1 x 0) (kPx q2 y 0) (g i) (f (i + 1)) L M1 b1' (itx 0 L).2.2.2 (ity 0 L).2.2.2 hl f2 r1
      refine mTl_go (mTl_s (e := e) (M := M) (b := b) (G := fun s5 => fMo_tell_183 (F + d + 1) c1 (nI x) c2 (nI y) (nI (q1.2.1 0 x)) (Int64.ofNat k0) (Int64.ofNat (i + 1)) s5) hd (by
        cases b1' with
        | false => rw [if_neg (by decide)] at hM ⊢; exact hM
        | true =>
          rw [if_pos rfl] at hM ⊢
          obtain ⟨M2, rfl, hM⟩ := hM
          exact ⟨M2, rfl, fun hl' => ih (i + 1) _ M2 b (by omega) hl' hM⟩)) (fun r hr => eMo_tell_193 (F + d) c1 _ c2 _ _ _ _ _ h1.1 h2.1 _ ?_)
      rw [ldI_n rx.1 (by omega), (itx _ L).1, ldI_n (itx 0 L).2.1 (by omega), (itx _ L).2.2.1, ldI_n ry.1 (by omega), (ity _ L).1, ldI_n (ity 0 L).2.1 (by omega), (ity _ L).2.2.1, ofN_1]
      exact hr
    by_cases h7 : q1.2.1 0 x = 7
    · rw [if_pos h7] at f1
      have g5 := kSs2_le hi.2.2 f1
      have hs := Mo_t6 hR hi hl (d := F + d) (by omega) (x := 5) (a := f i) (e := g i) (by omega) (by omega) (by omega) g5.2 (by omega) (fun _ => f1)
      refine mTl_go (mTl_s (e := e) (M := M) (b := b) (G := fun s3 => fMo_tell_193 (F + d + 1) c1 (nI x) c2 (nI y) (nI (q1.2.1 0 x)) (Int64.ofNat k0) (Int64.ofNat i) s3) hs (by
        rw [if_pos rfl]
        cases b1' with
        | false =>
          rw [if_neg (by decide)] at r2
          exact ⟨M1, r2.1, fun hl' => e193 _ M1 hl' (by rw [if_neg (by decide)]; exact ⟨rfl, r2.2⟩)⟩
        | true =>
          rw [if_pos rfl] at r2
          obtain ⟨M2, r3, r4⟩ := r2
          exact ⟨M1 ++ M2, r3, fun hl' => e193 _ _ hl' (by rw [if_pos rfl]; exact ⟨M2, rfl, r4⟩)⟩)) (fun r hr => eMo_tell_183 (F + d) c1 _ c2 _ _ _ _ _ h1.1 h2.1 _ ?_)
      rw [if_neg (by rw [ecmp i (by omega)]; omega), if_neg (fun e => e (by rw [h7]; rfl))]
      exact hr
    · rw [if_neg h7] at f1
      have e0 : kTp B (f i) (g i - f i) = [] := by rw [f1, Nat.sub_self]; rfl
      rw [e0] at r2
      refine mTl_go (e193 L M hl (by
        cases b1' with
        | false => rw [if_neg (by decide)] at r2 ⊢; exact r2
        | true => rw [if_pos rfl] at r2 ⊢; exact r2)) (fun r hr => eMo_tell_183 (F + d) c1 _ c2 _ _ _ _ _ h1.1 h2.1 _ ?_)
      rw [if_neg (by rw [ecmp i (by omega)]; omega), if_pos (show ¬ nI (q1.2.1 0 x) = 7 by rw [show (7 : Int32) = nI 7 from rfl, nI_eqE (by omega) (by omega)]; exact h7), ← f1]
      exact hr
end
