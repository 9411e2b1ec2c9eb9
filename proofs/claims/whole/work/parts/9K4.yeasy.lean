/-! calls that ask, and the tape: both sides -/
def yS.stp (S : yS) (x : List Nat) : yS := yMk x S.pl S.ou S.pc S.dn S.pw S.fs
def yS.spl (S : yS) (x : List Nat) : yS := yMk S.tp x S.ou S.pc S.dn S.pw S.fs
def yS.sou (S : yS) (x : List Nat) : yS := yMk S.tp S.pl x S.pc S.dn S.pw S.fs
def yS.spc (S : yS) (x : Int32) : yS := yMk S.tp S.pl S.ou x S.dn S.pw S.fs
def yS.sdn (S : yS) (x : Bool) : yS := yMk S.tp S.pl S.ou S.pc x S.pw S.fs
def yS.spw (S : yS) (x : Nat) : yS := yMk S.tp S.pl S.ou S.pc S.dn x S.fs
def yS.sfs (S : yS) (x : List yFi) : yS := yMk S.tp S.pl S.ou S.pc S.dn S.pw x
/-- what a call of the lake's leaves: an answer, or an exception -/
def yLr (c : Nat) (s : aT) (E : Nat → Nat) (F : aRs) (r : Nat × Int32 × yS) : Prop := if r.1 = 0 then ∃ s', F = rI r.2.1 s' ∧ yLI (c + 1) r.2.2 s' ∧ xLk s s' else F = rX (E r.1) s
def yMr (s : aT) (F : aRs) (r : Nat × Int32 × yS) : Prop := ∃ s', F = rI r.2.1 s' ∧ gI s' 67 0 = nI r.1 ∧ yMI r.2.2 s' ∧ xMo s s'
def yLv (c : Nat) (s : aT) (E : Nat → Nat) (F : aRs) (r : Nat × yS) : Prop := if r.1 = 0 then ∃ s', F = rV s' ∧ yLI (c + 1) r.2 s' ∧ xLk s s' else F = rX (E r.1) s
def yMv (s : aT) (F : aRs) (r : Nat × yS) : Prop := ∃ s', F = rV s' ∧ gI s' 67 0 = nI r.1 ∧ yMI r.2 s' ∧ xMo s s'
section
variable {c : Nat} {S : yS} {s : aT}
theorem yLr_0 {E : Nat → Nat} {F : aRs} {v : Int32} {S' : yS} (h : ∃ s', F = rI v s' ∧ yLI (c + 1) S' s' ∧ xLk s s') : yLr c s E F (0, v, S') := by
  unfold yLr
  rw [if_pos rfl]
  exact h
theorem yLr_k {E : Nat → Nat} {F : aRs} {k : Nat} {v : Int32} {S' : yS} (hk : k ≠ 0) (h : F = rX (E k) s) : yLr c s E F (k, v, S') := by
  unfold yLr
  rw [if_neg hk]
  exact h
theorem yLr_go {E : Nat → Nat} {F G : aRs} {r : Nat × Int32 × yS} (h : yLr c s E F r) (go : ∀ x, F = some x → G = some x) : yLr c s E G r := by
  unfold yLr at h ⊢
  split at h
  · rename_i h0
    rw [if_pos h0]
    obtain ⟨s', h1, h2⟩ := h
    exact ⟨s', go _ h1, h2⟩
  · rename_i h0
    rw [if_neg h0]
    exact go _ h
theorem yMr_go {F G : aRs} {r : Nat × Int32 × yS} (h : yMr s F r) (go : ∀ x, F = some x → G = some x) : yMr s G r := by
  obtain ⟨s', h1, h2⟩ := h
  exact ⟨s', go _ h1, h2⟩
/-- the reference's thrown, refused -/
theorem Mo_r10 (d : Nat) {k : Nat} (hk : k ≤ 2) : fMo_refused_10 d (nI k) s = rI (if k = 0 then 0 else 1) (pI s 67 0 (nI k)) := by
  refine eMo_refused_10 d _ _ _ ?_
  have e : gI (pI s 67 0 (nI k)) 67 0 = nI k := by rw [gI_pI, if_pos ⟨rfl, rfl⟩]
  rw [wI_eq, e]
  by_cases h : k = 0
  · rw [h]; rfl
  · rw [if_neg (show ¬ nI k ≤ 0 by rw [show (0 : Int32) = nI 0 from rfl, nI_leE (by omega) (by omega)]; omega), if_neg h]; rfl
theorem Mo_ref (d : Nat) {a b : Bool} : fMo_refused d (uB a) (uB b) s = rI (if a = true ∨ b = true then 1 else 0) (pI s 67 0 (nI (if a = true then 1 else if b = true then 2 else 0))) := by
  cases a with
  | true => exact eMo_refused d _ _ _ _ (Mo_r10 d (k := 1) (by omega))
  | false =>
    cases b with
    | true => exact eMo_refused d _ _ _ _ (Mo_r10 d (k := 2) (by omega))
    | false => exact eMo_refused d _ _ _ _ (Mo_r10 d (k := 0) (by omega))
theorem yMI_0 {v : Int32} (h : yMI S s) : yMI S (pI s 67 0 v) := yMI_fr (fun k i hk hx => by
  rw [gI_pI, if_neg (fun e => hx (by unfold xTm; omega))]) h
theorem xMo_0 {n i : Nat} {v : Int32} : xMk n s (pI s 67 i v) := ⟨fun k j hk => by rw [gI_pI, if_neg (by omega)], Nat.le_add_right _ _, rfl⟩
theorem uB_0 {a : Bool} : (uB a = 0) = (a = false) := by cases a <;> simp [uB]
/- place -/
theorem L_place (h : yLI c S s) (d : Nat) (E : Nat → Nat) : yLr c s E (fLk_place d s) (0, S.pc, S) :=
  yLr_0 ⟨s, eLk_place d _ _ (by rw [h.1.1]; rfl), yLI_c (by omega) h, xLk_r⟩
theorem M_place (h : yMI S s) (d : Nat) : yMr s (fMo_place d s) (0, S.pc, S) :=
  ⟨pI s 67 0 0, eMo_place d _ _ (by rw [wI_eq, gI_pI, if_neg (by omega), h.1.1]; rfl), by rw [gI_pI, if_pos ⟨rfl, rfl⟩]; rfl, yMI_0 h, xMo_0⟩
/- files -/
def y_files (S : yS) : Nat × Int32 × yS := (0, if S.dn = true then -33 else nI S.fs.length, S)
theorem L_files (h : yLI c S s) (d : Nat) (E : Nat → Nat) : yLr c s E (fLk_files d s) (y_files S) := by
  refine yLr_0 ⟨s, eLk_files d _ _ ?_, yLI_c (by omega) h, xLk_r⟩
  rw [h.1.2]
  by_cases hd : S.dn = true
  · rw [if_neg (by rw [hd]; decide), if_pos hd]; rfl
  · rw [if_pos (by rw [uB_0]; simpa using hd), if_neg hd, h.2.2.2.2.1.1, yUp_f (by simpa using hd)]; rfl
theorem M_files (h : yMI S s) (d : Nat) : yMr s (fMo_files d s) (y_files S) := by
  refine ⟨pI s 67 0 0, eMo_files d _ _ ?_, by rw [gI_pI, if_pos ⟨rfl, rfl⟩]; rfl, yMI_0 h, xMo_0⟩
  have e1 : gI (pI s 67 0 0) 67 11 = uB S.dn := by rw [gI_pI, if_neg (by omega)]; exact h.1.2
  have e2 : gI (pI s 67 0 0) 67 13 = nI S.fs.length := by rw [gI_pI, if_neg (by omega)]; exact h.2.2.2.2.2.1.1
  show _ = rI (if S.dn = true then -33 else nI S.fs.length) _
  rw [wI_eq, e1, e2]
  by_cases hd : S.dn = true
  · rw [if_neg (by rw [hd]; decide), if_pos hd]
  · rw [if_pos (by rw [uB_0]; simpa using hd), if_neg hd]
/- power -/
theorem zI_ex {x : Int32} (h1 : ¬ x < -1) (h2 : x ≤ 1000) : ∃ pw, pw ≤ 1001 ∧ x = zI pw := by
  rw [Int32.lt_iff_toInt_lt] at h1
  rw [Int32.le_iff_toInt_le] at h2
  have e1 : (-1 : Int32).toInt = -1 := rfl
  have e2 : (1000 : Int32).toInt = 1000 := rfl
  rw [e1] at h1
  rw [e2] at h2
  refine ⟨(x.toInt + 1).toNat, by omega, ?_⟩
  by_cases h0 : x.toInt = -1
  · rw [h0]
    apply Int32.toInt_inj.mp
    rw [h0]
    rfl
  · rw [zI_pos (by omega)]
    apply Int32.toInt_inj.mp
    rw [nI_ti (by omega)]
    omega
def y_power (x : Int32) (S : yS) : Nat × yS := if x < -1 ∨ 1000 < x then (1, S) else (0, S.spw (x.toInt + 1).toNat)
theorem pw_of {x : Int32} {pw : Nat} (h : pw ≤ 1001) (e : x = zI pw) : (x.toInt + 1).toNat = pw := by
  rw [e]
  by_cases h0 : pw = 0
  · rw [h0]; rfl
  · rw [zI_pos (by omega), nI_ti (by omega)]; omega
theorem i32_nlt {a b : Int32} (h : ¬ a < b) : b ≤ a := by
  rw [Int32.lt_iff_toInt_lt] at h
  rw [Int32.le_iff_toInt_le]
  omega
theorem i32_nle {a b : Int32} (h : ¬ a ≤ b) : b < a := by
  rw [Int32.le_iff_toInt_le] at h
  rw [Int32.lt_iff_toInt_lt]
  omega
theorem L_power (h : yLI c S s) (d : Nat) {E : Nat → Nat} (hE : E 1 = 1) (x : Int32) : yLv c s E (fLk_power d x s) (y_power x S) := by
  by_cases h1 : x < -1
  · have er : y_power x S = (1, S) := if_pos (.inl h1)
    rw [er]
    unfold yLv
    rw [if_neg (by show ¬ 1 = 0; omega)]
    refine eLk_power d _ _ _ ?_
    show _ = rX (E 1) s
    rw [if_pos h1, hE]
  · by_cases h2 : x ≤ 1000
    · have h3 : ¬ (x < -1 ∨ 1000 < x) := fun e => by
        rcases e with e | e
        · exact h1 e
        · rw [Int32.le_iff_toInt_le] at h2
          rw [Int32.lt_iff_toInt_lt] at e
          omega
      have er : y_power x S = (0, S.spw (x.toInt + 1).toNat) := if_neg h3
      rw [er]
      unfold yLv
      rw [if_pos rfl]
      obtain ⟨pw, p1, p2⟩ := zI_ex h1 h2
      refine ⟨pI s 56 1 x, eLk_power d _ _ _ (by rw [if_neg h1, if_pos h2, wI_eq]; rfl), ?_, fun k i hk => by rw [gI_pI, if_neg (by omega)]⟩
      show yLI (c + 1) (S.spw (x.toInt + 1).toNat) _
      rw [pw_of p1 p2]
      obtain ⟨⟨a1, a2⟩, ⟨b1, b2, b3⟩, d1, ⟨tn, e1, e2, e3⟩, f1, g1, i1, j1⟩ := h
      have hx : ∀ k i, k ≠ 56 → gI (pI s 56 1 x) k i = gI s k i := fun k i hk => by rw [gI_pI, if_neg (by omega)]
      exact ⟨⟨by rw [hx 0 _ (by omega)]; exact a1, by rw [hx 0 _ (by omega)]; exact a2⟩, ⟨lBy_fr (fun k i hk => hx k i (by omega)) b1, lBy_fr (fun k i hk => hx k i (by omega)) b2, lBy_fr (fun k i hk => hx k i (by omega)) b3⟩, by rw [gI_pI, if_pos ⟨rfl, rfl⟩]; exact p2, ⟨tn, by omega, lDl_fr (fun i _ => hx 57 i (by omega)) e2, fun hd => by rw [hx 58 6 (by omega)]; exact e3 hd⟩, lFi_fr (fun k i h1 h2 => hx k i (by omega)) f1, lSc_fr (fun k i h1 h2 => hx k i (by omega)) g1, fun i hi j hj => by rw [hx 57 _ (by omega)]; exact i1 i hi j hj, lMk_fr (hx 49 4 (by omega)) (fun i _ => hx 50 i (by omega)) (by omega) j1⟩
    · have er : y_power x S = (1, S) := if_pos (.inr (i32_nle h2))
      rw [er]
      unfold yLv
      rw [if_neg (by show ¬ 1 = 0; omega)]
      refine eLk_power d _ _ _ ?_
      show _ = rX (E 1) s
      rw [if_neg h1, if_neg h2, hE]
theorem Mo_wi (d : Nat) {x a b : Int32} : fMo_within d x a b s = rI (uB (decide (¬ x < a ∧ ¬ b < x))) s := by
  refine eMo_within d _ _ _ _ _ ?_
  by_cases h1 : x < a
  · rw [if_pos h1, show decide (¬ x < a ∧ ¬ b < x) = false from decide_eq_false (fun e => e.1 h1)]; rfl
  · rw [if_neg h1]
    by_cases h2 : b < x
    · rw [if_pos h2, show decide (¬ x < a ∧ ¬ b < x) = false from decide_eq_false (fun e => e.2 h2)]; rfl
    · rw [if_neg h2, show decide (¬ x < a ∧ ¬ b < x) = true from decide_eq_true ⟨h1, h2⟩]; rfl
theorem M_power (h : yMI S s) (d : Nat) (x : Int32) : yMv s (fMo_power (d + 1) x s) (y_power x S) := by
  unfold yMv
  have go : ∀ (w : Bool) r, fMo_power_9 (d + 1) x (uB (!w)) s = some r → (uB (decide (¬ x < -1 ∧ ¬ 1000 < x)) = uB w) → fMo_power (d + 1) x s = some r := by
    intro w r hr hw
    refine eMo_power d _ _ _ ?_
    rw [Mo_wi, cG_I, hw]
    cases w with
    | true => rw [if_pos (by decide)]; exact hr
    | false => rw [if_neg (by decide)]; exact hr
  by_cases hb : x < -1 ∨ 1000 < x
  · have er : y_power x S = (1, S) := if_pos hb
    rw [er]
    refine ⟨pI s 67 0 (nI 1), go false _ (eMo_power_9 d _ _ _ _ ?_) (by rw [show decide (¬ x < -1 ∧ ¬ 1000 < x) = false from decide_eq_false (fun e => by rcases hb with hb | hb; exact e.1 hb; exact e.2 hb)]), by rw [gI_pI, if_pos ⟨rfl, rfl⟩], yMI_0 h, xMo_0⟩
    rw [show (0 : Int32) = uB false from rfl, Mo_ref, cG_I, if_pos (by decide)]
    rfl
  · have er : y_power x S = (0, S.spw (x.toInt + 1).toNat) := if_neg hb
    rw [er]
    have h1 : ¬ x < -1 := fun e => hb (.inl e)
    have h2 : ¬ 1000 < x := fun e => hb (.inr e)
    obtain ⟨pw, p1, p2⟩ := zI_ex h1 (i32_nlt h2)
    refine ⟨pI (pI s 67 0 (nI 0)) 67 12 x, go true _ (eMo_power_9 d _ _ _ _ ?_) (by rw [show decide (¬ x < -1 ∧ ¬ 1000 < x) = true from decide_eq_true ⟨h1, h2⟩]), by rw [gI_pI, if_neg (by omega), gI_pI, if_pos ⟨rfl, rfl⟩], ?_, xMo_t xMo_0 xMo_0⟩
    · rw [show (0 : Int32) = uB false from rfl, Mo_ref, cG_I, if_neg (by decide), wI_eq]
      rfl
    · show yMI (S.spw (x.toInt + 1).toNat) _
      rw [pw_of p1 p2]
      obtain ⟨⟨a1, a2⟩, ⟨b1, b2⟩, ⟨d1, d2⟩, ⟨e1, e2⟩, f1, g1, i1⟩ := yMI_0 (v := nI 0) h
      have hx : ∀ k i, ¬ (k = 67 ∧ i = 12) → gI (pI (pI s 67 0 (nI 0)) 67 12 x) k i = gI (pI s 67 0 (nI 0)) k i := fun k i hk => by rw [gI_pI, if_neg hk]
      exact ⟨⟨by rw [hx 67 3 (by omega)]; exact a1, by rw [hx 67 11 (by omega)]; exact a2⟩, ⟨by rw [hx 67 2 (by omega)]; exact b1, fun i hi => by rw [hx 68 i (by omega)]; exact b2 i hi⟩, ⟨by rw [hx 67 8 (by omega)]; exact d1, fun i hi => by rw [hx 135 i (by omega)]; exact d2 i hi⟩, ⟨by rw [hx 67 10 (by omega)]; exact e1, fun i hi => by rw [hx 136 i (by omega)]; exact e2 i hi⟩, by rw [gI_pI, if_pos ⟨rfl, rfl⟩]; exact p2, mFi_fr (hx 67 13 (by omega)) (fun k i h1 h2 => hx k i (by omega)) g1, fun i hi j hj => by rw [hx 143 _ (by omega)]; exact i1.1 i hi j hj, fun i hi => by rw [hx 143 _ (by omega)]; exact i1.2 i hi⟩
end
