/-! PURE: a tape's rows -/
/-- how many rows, and what is put; none: there is nothing, or a row of nothing -/
def kLw (q : kP) (B : Nat → Nat) (n x : Nat) : Nat → Nat → kB → Except (Nat × Nat) (Option (Nat × kB))
  | 0, _, _ => .ok none
  | f + 1, z, p => match kDt q B n 32 x (p.1, 0, 0, p.2.2.2) with
    | .error e => .error e
    | .ok p1 => if p1.1 = p.1 then .ok none else if p1.1 < n then kLw q B n x f (z + 1) p1 else .ok (some (z + 1, p1))
def kLk (q : kP) (B : Nat → Nat) (n x : Nat) : Except (Nat × Nat) (Option (Nat × kB)) := if n = 0 then .ok none else kLw q B n x n 0 (0, 0, 0, [])
theorem kDt_it {q : kP} {B : Nat → Nat} {n : Nat} (hB : ∀ i, B i < 256) {D x : Nat} {p p' : kB} (h : p.1 ≤ n) (h2 : p.2.1 ≤ 2000) (he : kDt q B n D x p = .ok p') : kGo n p p' := kDt_go hB D x p p' h h2 he
/-! the lake: looking at the tape -/
def lLr (t : aT) (F : aRs) (x : Except (Nat × Nat) (Option (Nat × kB))) : Prop := match x with
  | .ok (some (k, p)) => ∃ y, F = rI (nI k) (oK p y t)
  | .ok none => ∃ p y, F = rI (-34) (oK p y t)
  | .error e => ∃ t', F = rI (-(nI e.1)) (pI t' 0 15 (nI e.2)) ∧ gI t' 46 2 = nI e.1 ∧ gI t' 46 3 = nI e.2 ∧ lKg t' t
section
variable {A n b pb qb m : Nat} {B : Nat → Nat} {q : kP} {T : Nat → Nat → Nat} {t : aT} {p : kB} {y : Int64}
theorem Lo_row3 (hK : lKc A B n b pb qb q T m t) (d : Nat) {x : Nat} (hx : x < q.1 1) (ho : lKo n (p.1, 0, 0, p.2.2.2)) : lKr t (fLo_row (d + 106) (nI (lo b x)) (oK p y t)) (kDt q B n 32 x (p.1, 0, 0, p.2.2.2)) := by
  have h := Lo_dt hK 32 (Nat.le_refl _) d x (p.1, 0, 0, p.2.2.2) y 0 hx ho rfl
  rw [show 3 * 32 + 9 + d = d + 105 by omega] at h
  refine lKr_cz h (fun r hr => eLo_row (d + 105) _ _ _ ?_)
  rw [wI_eq, wI_eq, show (0 : Int32) = nI 0 from rfl, oK_w8, oK_w9]
  exact hr
theorem lKo_0 {p1 : kB} (h : lKo n p1) : lKo n (p1.1, 0, 0, p1.2.2.2) := ⟨h.1, h.2.1, h.2.2.1, Nat.zero_le _, Nat.zero_le _⟩
theorem Lk_l15 (hK : lKc A B n b pb qb q T m t) (hn : n ≤ 4096) (h11 : gI t 1 1 = nI n) (d : Nat) {x : Nat} (hx : x < q.1 1) : ∀ f z p y, f + z = n → z ≤ p.1 → p.1 < n → lKo n (p.1, 0, 0, p.2.2.2) → lLr t (fLk_lookAtTape_15 (d + 107) (nI (lo b x)) (nI z) (oK p y t)) (kLw q B n x f z p) := by
  have hB := hK.1.2.2.2.2
  intro f
  induction f with
  | zero =>
    intro z p y hf hz hp ho
    omega
  | succ f ih =>
    intro z p y hf hz hp ho
    have hrow := Lo_row3 (y := y) hK d hx ho
    have e11 : ∀ p y, gI (oK p y t) 1 1 = nI n := fun p y => by rw [oK_o (by omega)]; exact h11
    have go : ∀ r, cG (fLo_row (d + 106) (nI (lo b x)) (oK p y t)) (kI fun v2 s1 => if ¬ v2 = 0 then if ¬ gI s1 46 1 = nI p.1 then if gI s1 46 1 < gI s1 1 1 then fLk_lookAtTape_15 (d + 107) (nI (lo b x)) (nI z + 1) s1 else rI (nI z + 1) s1 else rI (-34) s1 else wI s1 0 15 (gI s1 46 3) (fun s3 => rI (-(gI s3 46 2)) s3)) = some r → fLk_lookAtTape_15 (d + 107) (nI (lo b x)) (nI z) (oK p y t) = some r := by
      intro r hr
      refine eLk_lookAtTape_15 (d + 106) _ _ _ _ ?_
      rw [e11, if_neg (show ¬ nI n ≤ nI z by rw [nI_leE (by omega) (by omega)]; omega), oK_at]
      exact hr
    unfold kLw
    cases hk : kDt q B n 32 x (p.1, 0, 0, p.2.2.2) with
    | error e =>
      rw [hk] at hrow
      obtain ⟨t', h1, h2, h3, h4⟩ := hrow
      refine ⟨t', go _ ?_, h2, h3, h4⟩
      rw [h1, cG_I, if_neg (fun e => e rfl), wI_eq, h3, gI_pI, if_neg (by omega), h2]
      rfl
    | ok p1 =>
      rw [hk] at hrow
      obtain ⟨y1, hrow⟩ := hrow
      have hg := kDt_go hB 32 x (p.1, 0, 0, p.2.2.2) p1 (by show p.1 ≤ n; omega) (Nat.zero_le _) hk
      have ho1 : lKo n p1 := lKo_go (p := (p.1, 0, 0, p.2.2.2)) ho hg
      have hle : p.1 ≤ p1.1 := hg.1
      have hle2 := hg.2.1
      have eeq : (nI p1.1 = nI p.1) = (p1.1 = p.1) := nI_eqE (by omega) (by omega)
      have elt : (nI p1.1 < nI n) = (p1.1 < n) := nI_ltE (by omega) (by omega)
      simp only
      by_cases h1 : p1.1 = p.1
      · rw [if_pos h1]
        refine ⟨p1, y1, go _ ?_⟩
        rw [hrow, cG_I, if_pos (by decide), oK_at, if_neg (by rw [eeq]; exact fun e => e h1)]
        rfl
      · rw [if_neg h1]
        by_cases h2 : p1.1 < n
        · rw [if_pos h2]
          have ihh := ih (z + 1) p1 y1 (by omega) (by omega) h2 (lKo_0 ho1)
          have go2 : ∀ r, fLk_lookAtTape_15 (d + 107) (nI (lo b x)) (nI (z + 1)) (oK p1 y1 t) = some r → fLk_lookAtTape_15 (d + 107) (nI (lo b x)) (nI z) (oK p y t) = some r := by
            intro r hr
            refine go r ?_
            rw [hrow, cG_I, if_pos (by decide), oK_at, e11, if_pos (by rw [eeq]; exact h1), if_pos (by rw [elt]; exact h2), nI_add1]
            exact hr
          unfold lLr at ihh ⊢
          split at ihh
          · obtain ⟨y2, ihh⟩ := ihh
            exact ⟨y2, go2 _ ihh⟩
          · obtain ⟨p2, y2, ihh⟩ := ihh
            exact ⟨p2, y2, go2 _ ihh⟩
          · obtain ⟨t', i1, i2⟩ := ihh
            exact ⟨t', go2 _ i1, i2⟩
        · rw [if_neg h2]
          refine ⟨y1, go _ ?_⟩
          rw [hrow, cG_I, if_pos (by decide), oK_at, e11, if_pos (by rw [eeq]; exact h1), if_neg (by rw [elt]; exact h2), nI_add1]
          rfl
theorem nI_sur (v : Int32) : ∃ k, v = nI k := ⟨v.toUInt32.toNat, by
  show v = ⟨UInt32.ofNat v.toUInt32.toNat⟩
  rw [UInt32.ofNat_toNat]⟩
/-- a Looker that has just been opened is on its way -/
theorem oK_new (t : aT) (h1 : gI t 46 1 = 0) : ∃ p y, pI t 47 1 0 = oK p y t ∧ p.1 = 0 ∧ p.2.2.2 = [] := by
  obtain ⟨k8, h8⟩ := nI_sur (gI t 46 8)
  obtain ⟨k9, h9⟩ := nI_sur (gI t 46 9)
  refine ⟨(0, k9, k8, []), gL t 46 4, aT_ext (fun k i => ?_) (fun k i => ?_) rfl, rfl, rfl⟩
  · rw [gI_pI]
    by_cases e6 : k = 46
    · subst e6
      rw [if_neg (by omega), oK_46]
      by_cases i1 : i = 1
      · rw [if_pos i1, i1, h1]; rfl
      · rw [if_neg i1]
        by_cases i8 : i = 8
        · rw [if_pos i8, i8]; exact h8
        · rw [if_neg i8]
          by_cases i9 : i = 9
          · rw [if_pos i9, i9]; exact h9
          · rw [if_neg i9]
    · by_cases e7 : k = 47
      · subst e7
        by_cases i1 : i = 1
        · subst i1; rw [if_pos ⟨rfl, rfl⟩, oK_n]; rfl
        · rw [if_neg (fun e => i1 e.2)]
          show gI t 47 i = if i = 1 then nI 0 else gI t 47 i
          rw [if_neg i1]
      · rw [if_neg (fun e => e7 e.1)]
        by_cases e8 : k = 48
        · subst e8; rfl
        · rw [oK_o ⟨e6, e7, e8⟩]
  · show gL t k i = if k = 46 ∧ i = 4 then gL t 46 4 else gL t k i
    by_cases h : k = 46 ∧ i = 4
    · rw [if_pos h, h.1, h.2]
    · rw [if_neg h]
/-- the state in which the tape's rows are looked at -/
def lOp (s : aT) (n : Nat) : aT := pI (pI (pM1 (pI s 0 15 (-1)) 2) 46 1 0) 46 7 (nI n)
theorem lOp_o {s : aT} {k i : Nat} (h1 : k ≠ 0) (h2 : k ≠ 46) : gI (lOp s n) k i = gI s k i := by
  unfold lOp
  rw [gI_pI, if_neg (by omega), gI_pI, if_neg (by omega)]
  show gI (pI s 0 15 (-1)) k i = _
  rw [gI_pI, if_neg (by omega)]
theorem lOp_kc {s : aT} (hn : n ≤ 4096) (hA : ∀ i, i < n → gI s 2 i = mI (B i)) (hB : ∀ i, B i < 256) (hv : lV b pb qb q s) (hI : kIv T m q) (hcd : kCd q) : lKc 2 B n b pb qb q T m (lOp s n) :=
  ⟨⟨⟨rfl, by omega, rfl⟩, by unfold lOp; rw [gI_pI, if_pos ⟨rfl, rfl⟩], ⟨hn, by decide⟩, fun i hi => by rw [lOp_o (by omega) (by omega)]; exact hA i hi, hB⟩, lV_fr (fun k i h g => lOp_o (by omega) (by omega)) hv, hI, hcd⟩
/-- looking at the tape, in the lake -/
theorem Lk_tape {s : aT} (hn : n ≤ 4096) (h11 : gI s 1 1 = nI n) (hA : ∀ i, i < n → gI s 2 i = mI (B i)) (hB : ∀ i, B i < 256) (hv : lV b pb qb q s) (hI : kIv T m q) (hcd : kCd q) (d : Nat) {x : Nat} (hx : x < q.1 1) : lLr (lOp s n) (fLk_lookAtTape (d + 108) (nI (lo b x)) s) (kLk q B n x) := by
  have hK : lKc 2 B n b pb qb q T m (lOp s n) := lOp_kc hn hA hB hv hI hcd
  have h11' : gI (lOp s n) 1 1 = nI n := by rw [lOp_o (by omega) (by omega)]; exact h11
  obtain ⟨p, y, he, hp1, hp2⟩ := oK_new (lOp s n) (by unfold lOp; rw [gI_pI, if_neg (by omega), gI_pI, if_pos ⟨rfl, rfl⟩])
  have hop : fLo_open (d + 107) 2 0 (gI (pI s 0 15 (-1)) 1 1) (pI s 0 15 (-1)) = rV (oK p y (lOp s n)) := by
    refine eLo_open (d + 107) _ _ _ _ _ ?_
    rw [wM_eq, wI_eq, wI_eq, wI_eq, gI_pI, if_neg (by omega), h11, ← he]
    rfl
  have go : ∀ r, fLk_lookAtTape_15 (d + 108) (nI (lo b x)) (nI 0) (oK p y (lOp s n)) = some r → fLk_lookAtTape (d + 108) (nI (lo b x)) s = some r := by
    intro r hr
    refine eLk_lookAtTape (d + 107) _ _ _ ?_
    rw [wI_eq, hop, cG_V]
    exact hr
  unfold kLk
  by_cases h0 : n = 0
  · rw [if_pos h0]
    refine ⟨p, y, go _ (eLk_lookAtTape_15 (d + 107) _ _ _ _ ?_)⟩
    rw [oK_o (by omega), h11', h0, if_pos (by decide)]
    rfl
  · rw [if_neg h0]
    have e0 : kLw q B n x n 0 (0, 0, 0, []) = kLw q B n x n 0 p := by
      obtain ⟨n1, rfl⟩ : ∃ n1, n = n1 + 1 := ⟨n - 1, by omega⟩
      unfold kLw
      rw [hp1, hp2]
    rw [e0]
    have h := Lk_l15 hK hn h11' (d + 1) hx n 0 p y (by omega) (by omega) (by omega) ⟨by show p.1 ≤ n; omega, by have e48 : alen 48 = 4096 := rfl; show p.2.2.2.length + n ≤ alen 48 + p.1; rw [hp2, hp1, e48]; show 0 + n ≤ _; omega, by show kBt p.2.2.2; rw [hp2]; exact kBt_n, Nat.zero_le _, Nat.zero_le _⟩
    unfold lLr at h ⊢
    split at h
    · obtain ⟨y2, h⟩ := h
      exact ⟨y2, go _ h⟩
    · obtain ⟨p2, y2, h⟩ := h
      exact ⟨p2, y2, go _ h⟩
    · obtain ⟨t', i1, i2⟩ := h
      exact ⟨t', go _ i1, i2⟩
end
/-! the reference: looking at the tape's rows -/
def mLr (u : Bool) (t : aT) (F : aRs) (x : Except (Nat × Nat) (Option (Nat × kB))) : Prop := match x with
  | .ok (some (k, p)) => F = rI (nI k) (oM u p t)
  | .ok none => ∃ p, F = rI (-34) (oM u p t)
  | .error e => ∃ t', F = rI (-(nI e.1)) (pI t' 67 3 (nI e.2)) ∧ mKg t' (pU t)
section
variable {c n m : Nat} {B : Nat → Nat} {q : kP} {T : Nat → Nat → Nat} {t : aT} {p : kB} {u : Bool}
theorem Mo_l16 (hK : mKc c B n q T m t) (d : Nat) {x : Nat} (hx : x < q.1 1) (hrt : gI t c 31 = nI x) : ∀ f z p, f + z = n → z ≤ p.1 → p.1 < n → mKo n (p.1, 0, 0, p.2.2.2) → mLr u t (fMo_lookAtRows_16 (d + 103) c (uF u) (nI z) (oM u p t)) (kLw q B n x f z p) := by
  have hB := hK.2.1.2.2.2
  have hn := hK.2.1.2.1
  have hc := isT_r hK.1
  intro f
  induction f with
  | zero =>
    intro z p hf hz hp ho
    omega
  | succ f ih =>
    intro z p hf hz hp ho
    have hrow := Mo_dt (u := u) hK 32 (Nat.le_refl _) d x (p.1, 0, 0, p.2.2.2) 0 hx ho rfl
    rw [show 3 * 32 + 6 + d = d + 102 by omega] at hrow
    have go : ∀ r, cC (fMo_datum (d + 102) c (nI x) (nI 0) (uF u) (oM u (p.1, 0, 0, p.2.2.2) t)) (kV fun s3 => if ¬ gI s3 67 23 = nI p.1 then fMo_lookAtRows_16 (d + 103) c (uF u) (nI z + 1) s3 else rI (-34) s3) (fun s3 => wI s3 67 3 (gI s3 67 25) (fun s4 => rI (-(gI s4 67 24)) s4)) = some r → fMo_lookAtRows_16 (d + 103) c (uF u) (nI z) (oM u p t) = some r := by
      intro r hr
      refine eMo_lookAtRows_16 (d + 102) _ _ _ _ hK.1 _ ?_
      rw [oM_end hK.2.1, oM_at, if_neg (show ¬ nI n ≤ nI p.1 by rw [nI_leE (by omega) (by omega)]; omega), wI_eq, wI_eq, show (0 : Int32) = nI 0 from rfl, oM_w26, oM_w27, oM_o (by omega), hrt]
      exact hr
    unfold kLw
    cases hk : kDt q B n 32 x (p.1, 0, 0, p.2.2.2) with
    | error e =>
      rw [hk] at hrow
      obtain ⟨t', h1, h2, h3, h4⟩ := hrow
      refine ⟨t', go _ ?_, h4⟩
      rw [h1, cC_T, wI_eq, h3, gI_pI, if_neg (by omega), h2]
      rfl
    | ok p1 =>
      rw [hk] at hrow
      have hrow : fMo_datum (d + 102) c (nI x) (nI 0) (uF u) (oM u (p.1, 0, 0, p.2.2.2) t) = rV (oM u p1 t) := hrow
      have hg := kDt_go hB 32 x (p.1, 0, 0, p.2.2.2) p1 (by show p.1 ≤ n; omega) (Nat.zero_le _) hk
      have ho1 : mKo n p1 := mKo_go (p := (p.1, 0, 0, p.2.2.2)) ho hg
      have hle : p.1 ≤ p1.1 := hg.1
      have hle2 := hg.2.1
      have eeq : (nI p1.1 = nI p.1) = (p1.1 = p.1) := nI_eqE (by omega) (by omega)
      simp only
      by_cases h1 : p1.1 = p.1
      · rw [if_pos h1]
        refine ⟨p1, go _ ?_⟩
        rw [hrow, cC_V, oM_at, if_neg (by rw [eeq]; exact fun e => e h1)]
        rfl
      · rw [if_neg h1]
        have go2 : ∀ r, fMo_lookAtRows_16 (d + 103) c (uF u) (nI (z + 1)) (oM u p1 t) = some r → fMo_lookAtRows_16 (d + 103) c (uF u) (nI z) (oM u p t) = some r := by
          intro r hr
          refine go r ?_
          rw [hrow, cC_V, oM_at, if_pos (by rw [eeq]; exact h1), nI_add1]
          exact hr
        by_cases h2 : p1.1 < n
        · rw [if_pos h2]
          have ihh := ih (z + 1) p1 (by omega) (by omega) h2 ⟨ho1.1, ho1.2.1, ho1.2.2.1, Nat.zero_le _, Nat.zero_le _⟩
          unfold mLr at ihh ⊢
          split at ihh
          · exact go2 _ ihh
          · obtain ⟨p2, ihh⟩ := ihh
            exact ⟨p2, go2 _ ihh⟩
          · obtain ⟨t', i1, i2⟩ := ihh
            exact ⟨t', go2 _ i1, i2⟩
        · rw [if_neg h2]
          refine go2 _ (eMo_lookAtRows_16 (d + 102) _ _ _ _ hK.1 _ ?_)
          rw [oM_end hK.2.1, oM_at, if_pos (show nI n ≤ nI p1.1 by rw [nI_leE (by omega) (by omega)]; omega)]
          rfl
theorem oM_new (t : aT) (h1 : gI t 67 23 = 0) (h2 : gI t 67 22 = 0) : ∃ p, t = oM u p t ∧ p.1 = 0 ∧ p.2.2.2 = [] := by
  obtain ⟨k8, h8⟩ := nI_sur (gI t 67 27)
  obtain ⟨k9, h9⟩ := nI_sur (gI t 67 26)
  refine ⟨(0, k9, k8, []), aT_ext (fun k i => ?_) (fun k i => rfl) rfl, rfl, rfl⟩
  by_cases e6 : k = 67
  · subst e6
    rw [oM_67]
    by_cases i1 : i = 23
    · rw [if_pos i1, i1, h1]; rfl
    · rw [if_neg i1]
      by_cases i8 : i = 26
      · rw [if_pos i8, i8]; exact h9
      · rw [if_neg i8]
        by_cases i9 : i = 27
        · rw [if_pos i9, i9]; exact h8
        · rw [if_neg i9]
          by_cases i2 : i = 22 ∧ u = true
          · rw [if_pos i2, i2.1, h2]; rfl
          · rw [if_neg i2]
  · rw [oM_k e6, if_neg (fun e => Nat.not_lt_zero _ e.2.2)]
/-- the state in which the rows are looked at -/
def mOp (s : aT) : aT := pI (pI (pI s 67 23 0) 67 22 0) 67 3 (-1)
theorem mOp_o {s : aT} {k i : Nat} (h : k ≠ 67) : gI (mOp s) k i = gI s k i := by
  unfold mOp
  rw [gI_pI, if_neg (fun e => h e.1), gI_pI, if_neg (fun e => h e.1), gI_pI, if_neg (fun e => h e.1)]
/-- looking at the tape, in the reference -/
theorem Mo_tape {s : aT} (hK : mKc c B n q T m (mOp s)) (d : Nat) {x : Nat} (hx : x < q.1 1) (hrt : gI s c 31 = nI x) : mLr u (mOp s) (fMo_lookAtRows (d + 104) c (uF u) s) (kLk q B n x) := by
  have hc := isT_r hK.1
  have hn := hK.2.1.2.1
  obtain ⟨p, he, hp1, hp2⟩ := oM_new (u := u) (mOp s) (by unfold mOp; rw [gI_pI, if_neg (by omega), gI_pI, if_neg (by omega), gI_pI, if_pos ⟨rfl, rfl⟩]) (by unfold mOp; rw [gI_pI, if_neg (by omega), gI_pI, if_pos ⟨rfl, rfl⟩])
  have go : ∀ r, (if ¬ gI (mOp s) 67 2 = 0 then fMo_lookAtRows_16 (d + 104) c (uF u) (nI 0) (mOp s) else rI (-34) (mOp s)) = some r → fMo_lookAtRows (d + 104) c (uF u) s = some r := by
    intro r hr
    refine eMo_lookAtRows (d + 103) _ _ _ hK.1 _ ?_
    rw [wI_eq, wI_eq, wI_eq]
    exact hr
  have e2 : (gI (mOp s) 67 2 = 0) = (n = 0) := by rw [hK.2.1.1, show (0 : Int32) = nI 0 from rfl, nI_eqE (by omega) (by omega)]
  unfold kLk
  by_cases h0 : n = 0
  · rw [if_pos h0]
    refine ⟨p, go _ ?_⟩
    rw [if_neg (fun e => e (e2.mpr h0)), ← he]
    rfl
  · rw [if_neg h0]
    have e0 : kLw q B n x n 0 (0, 0, 0, []) = kLw q B n x n 0 p := by
      obtain ⟨n1, rfl⟩ : ∃ n1, n = n1 + 1 := ⟨n - 1, by omega⟩
      unfold kLw
      rw [hp1, hp2]
    rw [e0]
    have h := Mo_l16 (u := u) hK (d + 1) hx (by rw [mOp_o (by omega)]; exact hrt) n 0 p (by omega) (by omega) (by omega) ⟨by show p.1 ≤ n; omega, by show p.2.2.2.length + n ≤ 4200 + p.1; rw [hp2, hp1]; show 0 + n ≤ _; omega, by show kBt p.2.2.2; rw [hp2]; exact kBt_n, Nat.zero_le _, Nat.zero_le _⟩
    rw [← he] at h
    have go2 : ∀ r, fMo_lookAtRows_16 (d + 104) c (uF u) (nI 0) (mOp s) = some r → fMo_lookAtRows (d + 104) c (uF u) s = some r := by
      intro r hr
      refine go r ?_
      rw [if_pos (fun e => h0 (e2.mp e))]
      exact hr
    unfold mLr at h ⊢
    split at h
    · exact go2 _ h
    · obtain ⟨p2, h⟩ := h
      exact ⟨p2, go2 _ h⟩
    · obtain ⟨t', i1, i2⟩ := h
      exact ⟨t', go2 _ i1, i2⟩
end
