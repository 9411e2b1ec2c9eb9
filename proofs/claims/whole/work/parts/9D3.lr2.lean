/-! the lake's reader: faults, names, words, branches -/
theorem jSm_comm {T : Nat → Nat → Nat} {x y : Nat} : jSm T x y = jSm T y x := by
  unfold jSm
  apply decide_eq_decide.mpr
  exact ⟨fun h => ⟨h.1.symm, fun i hi => (h.2 i (by omega)).symm⟩, fun h => ⟨h.1.symm, fun i hi => (h.2 i (by omega)).symm⟩⟩
def lF (s : aT) (x y : Int32) : aT := pI (pI s 37 0 x) 37 1 y
section
variable {b pb qb : Nat} {q : kP} {s : aT} {T : Nat → Nat → Nat} {N : Nat → Int} {m l n : Nat}
theorem lo_inj {x y : Nat} (h6 : 6 ≤ b) : (lo b x = lo b y) = (x = y) := by
  apply propext
  unfold lo
  constructor
  · intro h
    split at h <;> split at h <;> omega
  · intro h; rw [h]
theorem zL_S {x : Nat} : zL b (x + 1) = nI (lo b x) := by unfold zL; rw [if_neg (by omega), Nat.add_sub_cancel]
theorem zL_0 : zL b 0 = -1 := rfl
theorem lCx_f {x y : Int32} (h : lCx b pb qb s) : lCx b pb qb (lF s x y) := h
theorem lT_f {x y : Int32} (h : lT s T N m l) : lT (lF s x y) T N m l := h
theorem Sr_fail (d : Nat) (hT : lT s T N m l) (hG : jGt T N m l n) {v : Nat} (hv : v < m) (x : Int32) : fSr_fail d x (nI v) (lS b pb qb q s) = rI (-1) (lS b pb qb q (lF s x (nI (T 1 v)))) := by
  have hm := hG.1
  refine eSr_fail d _ _ _ _ ?_
  rw [wI_eq, lS_p37 (by omega), ldI_n (by omega) (by omega)]
  have h15 : gI (lS b pb qb q (pI s 37 0 x)) 15 v = nI (T 1 v) := by
    rw [lS_far (by omega), gI_pI, if_neg (by omega)]
    exact (hT.1 v hv).2.1
  rw [h15, wI_eq, lS_p37 (by omega)]
  rfl
/-- a name in the pool against a string of the text -/
theorem Lt_pool (d : Nat) (hT : lT s T N m l) (hG : jGt T N m l n) (hq : qb + q.1 6 ≤ 72704) {v x a : Nat} (hv : v < m) (hk : T 0 v ≤ 6) (hx : x < m) (hnam : kNam T x = true) (hpo : kPo T q a x) : gI (lS b pb qb q s) 33 (qb + a) = nI (T 2 x) ∧ qb + a + 1 + T 2 x ≤ 72704 ∧ fTx_tellsBytes d (nI v) 33 (nI (qb + a + 1)) (nI (T 2 x)) (lS b pb qb q s) = rI (if T 0 v = 2 ∧ jSm T x v = true then 1 else 0) (lS b pb qb q s) := by
  have hw := kNam_w hnam
  have hs := jGt_s hG hx hw.1
  obtain ⟨p1, p2, p3⟩ := hpo
  have hTq := lS_T (b := b) (pb := pb) (qb := qb) (q := q) hT
  refine ⟨?_, by omega, ?_⟩
  · rw [lS_33 (by omega), p2, mI_nI (by omega)]
  · have h := Lt_tb d hTq hG (x := v) (a := 33) (st := qb + a + 1) (len := T 2 x) (L := fun i => T 6 (T 5 x + i)) hv hk (by rw [alen_33]; omega) (by rw [alen_33]; omega) (by omega) (fun i hi => by
      have e : qb + a + 1 + i = qb + (a + 1 + i) := by omega
      rw [e, lS_33 (by omega), p3 i hi]) (fun i hi => hG.2.2.1 _ (by omega))
    rw [h]
    by_cases h2 : T 0 v = 2
    · rw [jTb_sm h2, jSm_comm]
      simp only [h2, true_and]
    · have e : jTb T v (T 2 x) (fun i => T 6 (T 5 x + i)) = false := by
        unfold jTb
        simp [h2]
      rw [e, if_neg (by decide), if_neg (fun e => h2 e.1)]
theorem Sc_def3 (d : Nat) (hC : lCx b pb qb s) (hT : lT s T N m l) (hG : jGt T N m l n) (hI : kIv T m q) (hq : qb + q.1 6 ≤ 72704) {v : Nat} (hv : v < m) (h2 : T 0 v = 2) : ∀ k j, j + k = q.1 1 → 6 ≤ j → fSc_defined_3 (d + 1) (nI v) (nI (lo b j)) (lS b pb qb q s) = rI (zL b (kFr (fun s => !(q.2.1 1 s == 0) && jSm T (q.2.1 1 s - 1) v) k j)) (lS b pb qb q s) := by
  have hb := hC.1
  have hb2 := hC.2.1
  have hn := hI.1
  have hm := hG.1
  have hlo : ∀ j, 6 ≤ j → lo b j = b + (j - 6) := fun j hj => by unfold lo; rw [if_neg (by omega)]; omega
  intro k
  induction k with
  | zero =>
    intro j hj h6
    refine eSc_defined_3 d _ _ _ _ ?_
    rw [lS_ns, hlo j h6]
    simp (disch := omega) only [nI_leE]
    rw [if_pos (by omega)]
    rfl
  | succ k ih =>
    intro j hj h6
    have hjn : j < q.1 1 := by omega
    have hs := hI.2.2.1 j h6 hjn
    have h36 : ∀ r, fSc_defined_3 (d + 1) (nI v) (nI (lo b (j + 1))) (lS b pb qb q s) = some r → fSc_defined_36 (d + 1) (nI v) (nI (lo b j)) (lS b pb qb q s) = some r := fun r hr => eSc_defined_36 d _ _ _ _ (by
      have e : lo b j + 1 = lo b (j + 1) := by rw [hlo j h6, hlo (j + 1) (by omega)]; omega
      rw [nI_add1, e]; exact hr)
    have ih := ih (j + 1) (by omega) (by omega)
    have ek : kFr (fun s => !(q.2.1 1 s == 0) && jSm T (q.2.1 1 s - 1) v) (k + 1) j = if (!(q.2.1 1 j == 0) && jSm T (q.2.1 1 j - 1) v) = true then j + 1 else kFr (fun s => !(q.2.1 1 s == 0) && jSm T (q.2.1 1 s - 1) v) k (j + 1) := rfl
    have hlt := lo_lt hC (t := j) (by omega)
    rw [ek]
    refine eSc_defined_3 d _ _ _ _ ?_
    rw [lS_ns]
    have e1 : ¬ nI (b + (q.1 1 - 6)) ≤ nI (lo b j) := by
      rw [nI_leE (by omega) (by omega), hlo j h6]; omega
    rw [if_neg e1, ldI_n (by omega) (by omega), lS_24 h6 hjn]
    by_cases hz : q.2.1 1 j = 0
    · rw [if_pos hz, if_pos rfl, if_neg (by simp [hz])]
      exact h36 _ ih
    · have hq1 : 0 < q.2.1 1 j ∧ q.2.1 1 j ≤ m ∧ kNam T (q.2.1 1 j - 1) = true ∧ kPo T q (q.2.1 9 j) (q.2.1 1 j - 1) := by
        rcases hs.2.1 with g | g
        · exact absurd g.2 hz
        · exact ⟨g.2.1, g.2.2.1, g.2.2.2.1, g.2.2.2.2⟩
      obtain ⟨t1, t2, t3⟩ := Lt_pool (b := b) (pb := pb) (s := s) d hT hG hq (v := v) hv (by omega) (by omega) hq1.2.2.1 hq1.2.2.2
      have hpo := hq1.2.2.2.1
      rw [if_neg hz, if_neg (nI_ne (by omega)), ldI_n (by omega) (by omega), lS_24 h6 hjn, if_neg hz, ldI_n (by omega) (by omega), lS_24 h6 hjn, if_neg hz, ldI_n (by omega) (by omega), t1, nI_add1, t3, cG_I]
      by_cases hb : jSm T (q.2.1 1 j - 1) v = true
      · rw [if_neg (by rw [if_pos ⟨h2, hb⟩]; decide), if_pos (by simp [hz, hb]), zL_S]
        rfl
      · rw [if_pos (by rw [if_neg (fun e => hb e.2)]), if_neg (by simp [hb])]
        exact h36 _ ih
theorem Sc_defined (d : Nat) (hC : lCx b pb qb s) (hT : lT s T N m l) (hG : jGt T N m l n) (hI : kIv T m q) (hq : qb + q.1 6 ≤ 72704) {v : Nat} (hv : v < m) (h2 : T 0 v = 2) : fSc_defined (d + 1) (nI v) (lS b pb qb q s) = rI (zL b (kDf T q v)) (lS b pb qb q s) := by
  have hn := hI.1
  refine eSc_defined d _ _ _ ?_
  have h := Sc_def3 d hC hT hG hI hq hv h2 (q.1 1 - 6) 6 (by omega) (by omega)
  have e : lo b 6 = b := by unfold lo; simp
  rw [e] at h
  rw [lS_22 (by omega), hC.2.2.1]
  exact h
theorem Sc_pt2 (d : Nat) (hC : lCx b pb qb s) (hT : lT s T N m l) (hG : jGt T N m l n) (hI : kIv T m q) (hq : qb + q.1 6 ≤ 72704) (hp : pb + q.1 3 ≤ 10112) {v t : Nat} (hv : v < m) (hk : T 0 v ≤ 6) (h6 : 6 ≤ t) (ht : t < q.1 1) (h10 : 10 ≤ q.2.1 0 t) : ∀ k i, i + k = q.2.1 4 t → fSc_partTold_2 (d + 1) (nI (lo b t)) (nI (q.2.1 4 t)) (nI v) (nI i) (lS b pb qb q s) = rI (zI (if T 0 v = 2 then kFr (fun i => jSm T (q.2.2 2 t i - 1) v) k i else 0)) (lS b pb qb q s) := by
  have hm := hG.1
  have hn := hI.1
  have hlt := lo_lt hC (t := t) (by omega)
  have hIs := hI.2.2.1 t h6 ht
  have h47 := hIs.2.2.2.2.2.1 (by omega)
  have h732 := hIs.2.2.2.2.2.2.2
  intro k
  induction k with
  | zero =>
    intro i hi
    refine eSc_partTold_2 d _ _ _ _ _ _ ?_
    simp (disch := omega) only [nI_leE]
    rw [if_pos (by omega)]
    have : (if T 0 v = 2 then kFr (fun i => jSm T (q.2.2 2 t i - 1) v) 0 i else 0) = 0 := by split <;> rfl
    rw [this]
    rfl
  | succ k ih =>
    intro i hi
    have hil : i < q.2.1 4 t := by omega
    have hil7 : i < q.2.1 7 t := by omega
    have hj := hI.2.2.2.2 t i h6 ht hil7
    have hbb := (hI.2.2.2.1 t i h6 ht hil).2.2.2.2.2
    have hq1 : 0 < q.2.2 2 t i ∧ q.2.2 2 t i ≤ m ∧ kNam T (q.2.2 2 t i - 1) = true ∧ kPo T q (q.2.2 4 t i) (q.2.2 2 t i - 1) := by
      rcases hbb with g | g
      · omega
      · exact ⟨g.2.1, g.2.2.1, g.2.2.2.1, g.2.2.2.2⟩
    obtain ⟨t1, t2, t3⟩ := Lt_pool (b := b) (pb := pb) (s := s) d hT hG hq (v := v) hv hk (by omega) hq1.2.2.1 hq1.2.2.2
    have h28 : gI (lS b pb qb q s) 28 (pb + q.2.1 6 t + i) = nI (qb + q.2.2 4 t i) := by
      rw [Nat.add_assoc, lS_28 (by have := hIs.2.2.2.1; omega), hj.2.2, if_pos ⟨hil, by omega⟩]
      unfold zQ
      rw [if_neg (by omega), Nat.add_sub_cancel]
    have h35 : ∀ r, fSc_partTold_2 (d + 1) (nI (lo b t)) (nI (q.2.1 4 t)) (nI v) (nI (i + 1)) (lS b pb qb q s) = some r → fSc_partTold_35 (d + 1) (nI (lo b t)) (nI (q.2.1 4 t)) (nI v) (nI i) (lS b pb qb q s) = some r := fun r hr => eSc_partTold_35 d _ _ _ _ _ _ (by rw [nI_add1]; exact hr)
    have ih := ih (i + 1) (by omega)
    refine eSc_partTold_2 d _ _ _ _ _ _ ?_
    have h674 := hIs.2.2.2.1
    have e1 : ¬ nI (q.2.1 4 t) ≤ nI i := by rw [nI_leE (by omega) (by omega)]; omega
    rw [if_neg e1, ldI_n (by omega) (by omega), lS_25 h6 ht, nI_addE, ldI_n (by omega) (by omega), h28, if_neg (nI_ne (by omega)), ldI_n (by omega) (by omega), t1, nI_add1, t3, cG_I]
    by_cases h2 : T 0 v = 2
    · have ek : kFr (fun i => jSm T (q.2.2 2 t i - 1) v) (k + 1) i = if jSm T (q.2.2 2 t i - 1) v = true then i + 1 else kFr (fun i => jSm T (q.2.2 2 t i - 1) v) k (i + 1) := rfl
      rw [if_pos h2] at ih ⊢
      rw [ek]
      by_cases hb : jSm T (q.2.2 2 t i - 1) v = true
      · rw [if_neg (by rw [if_pos ⟨h2, hb⟩]; decide), if_pos hb, zI_S]
        rfl
      · rw [if_pos (by rw [if_neg (fun e => hb e.2)]), if_neg hb]
        exact h35 _ ih
    · rw [if_neg h2] at ih ⊢
      rw [if_pos (by rw [if_neg (fun e => h2 e.1)])]
      exact h35 _ ih
theorem Sc_partTold (d : Nat) (hC : lCx b pb qb s) (hT : lT s T N m l) (hG : jGt T N m l n) (hI : kIv T m q) (hq : qb + q.1 6 ≤ 72704) (hp : pb + q.1 3 ≤ 10112) {v t : Nat} (hv : v < m) (hk : T 0 v ≤ 6) (h6 : 6 ≤ t) (ht : t < q.1 1) (h10 : 10 ≤ q.2.1 0 t) : fSc_partTold (d + 1) (nI (lo b t)) (nI (q.2.1 4 t)) (nI v) (lS b pb qb q s) = rI (zI (if T 0 v = 2 then kPt T q t (q.2.1 4 t) v else 0)) (lS b pb qb q s) := by
  refine eSc_partTold d _ _ _ _ _ ?_
  exact Sc_pt2 d hC hT hG hI hq hp hv hk h6 ht h10 (q.2.1 4 t) 0 (by omega)
theorem Sr_has8 (d : Nat) (hC : lCx b pb qb s) (hI : kIv T m q) (hp : pb + q.1 3 ≤ 10112) {x t : Nat} (hx : x < q.1 1) (h6 : 6 ≤ t) (ht : t < q.1 1) (h8 : q.2.1 0 t = 8) (hx1 : ∀ i, i < q.2.1 4 t → q.2.2 1 t i ≠ 0) : ∀ k i, i + k = q.2.1 4 t → fSr_hasBranchAs_8 (d + 2) (nI (lo b t)) (nI (q.2.1 4 t)) (nI (lo b x)) (nI (q.2.1 0 x)) (nI i) (lS b pb qb q s) = rI (if kFr (fun i => kAl q (q.2.2 1 t i - 1) x) k i = 0 then 0 else 1) (lS b pb qb q s) := by
  have hn := hI.1
  have hb6 := hC.1
  have hlt := lo_lt hC (t := t) (by omega)
  have hltx := lo_lt hC (t := x) (by omega)
  have hIs := hI.2.2.1 t h6 ht
  have h0x := kIv_0lt hI hx
  intro k
  induction k with
  | zero =>
    intro i hi
    refine eSr_hasBranchAs_8 (d + 1) _ _ _ _ _ _ _ ?_
    have h732 := hIs.2.2.2.2.2.2.2
    have h47 := hIs.2.2.2.2.2.1 (by omega)
    simp (disch := omega) only [nI_leE]
    rw [if_pos (by omega)]
    rfl
  | succ k ih =>
    intro i hi
    have hil : i < q.2.1 4 t := by omega
    have h47 := hIs.2.2.2.2.2.1 (by omega)
    have hil7 : i < q.2.1 7 t := by omega
    have hj := hI.2.2.2.2 t i h6 ht hil7
    have hle := (hI.2.2.2.1 t i h6 ht hil).2.2.2.1
    have hx0 := hx1 i hil
    have h674 := hIs.2.2.2.1
    have h732 := hIs.2.2.2.2.2.2.2
    have hy : q.2.2 1 t i - 1 < q.1 1 := by omega
    have hlty := lo_lt hC (t := q.2.2 1 t i - 1) (by omega)
    have h0y := kIv_0lt hI hy
    have hps : fSc_partSchemaOf (d + 1) (nI (lo b t)) (nI i) (lS b pb qb q s) = rI (nI (lo b (q.2.2 1 t i - 1))) (lS b pb qb q s) := by
      refine eSc_partSchemaOf (d + 1) _ _ _ _ ?_
      rw [ldI_n (by omega) (by omega), lS_25 h6 ht, nI_addE, Nat.add_assoc, ldI_n (by omega) (by omega), lS_29 (by omega), hj.2.1, if_pos hil]
      unfold zL
      rw [if_neg hx0]
      rfl
    have ek : kFr (fun i => kAl q (q.2.2 1 t i - 1) x) (k + 1) i = if kAl q (q.2.2 1 t i - 1) x = true then i + 1 else kFr (fun i => kAl q (q.2.2 1 t i - 1) x) k (i + 1) := rfl
    have ih := ih (i + 1) (by omega)
    have h41 : ∀ r, fSr_hasBranchAs_8 (d + 2) (nI (lo b t)) (nI (q.2.1 4 t)) (nI (lo b x)) (nI (q.2.1 0 x)) (nI (i + 1)) (lS b pb qb q s) = some r → fSr_hasBranchAs_41 (d + 2) (nI (lo b t)) (nI (q.2.1 4 t)) (nI (lo b x)) (nI (q.2.1 0 x)) (nI i) (lS b pb qb q s) = some r := fun r hr => eSr_hasBranchAs_41 (d + 1) _ _ _ _ _ _ _ (by rw [nI_add1]; exact hr)
    rw [ek]
    have hal : kAl q (q.2.2 1 t i - 1) x = decide (q.2.2 1 t i - 1 = x ∨ q.2.1 0 (q.2.2 1 t i - 1) = q.2.1 0 x ∧ (q.2.1 0 (q.2.2 1 t i - 1) = 6 ∨ q.2.1 0 (q.2.2 1 t i - 1) = 7)) := rfl
    have h26 : ∀ u : Int32, (u = 1 ∧ (q.2.1 0 x = 6 ∨ q.2.1 0 x = 7) ∨ u = 0 ∧ ¬ (q.2.1 0 x = 6 ∨ q.2.1 0 x = 7)) → fSr_hasBranchAs_26 (d + 2) (nI (lo b t)) (nI (q.2.1 4 t)) (nI (lo b x)) (nI (q.2.1 0 x)) (nI i) (nI (lo b (q.2.2 1 t i - 1))) u (lS b pb qb q s) = rI (if (if kAl q (q.2.2 1 t i - 1) x = true then i + 1 else kFr (fun i => kAl q (q.2.2 1 t i - 1) x) k (i + 1)) = 0 then 0 else 1) (lS b pb qb q s) := by
      intro u hu
      refine eSr_hasBranchAs_26 (d + 1) _ _ _ _ _ _ _ _ _ ?_
      simp (disch := omega) only [nI_eqE, lo_inj hb6]
      by_cases hxy : q.2.2 1 t i - 1 = x
      · rw [if_pos hxy]
        have hk : kAl q (q.2.2 1 t i - 1) x = true := by rw [hal]; simp [hxy]
        rw [hk]
        simp only [if_true]
        rw [if_neg (by omega)]
        rfl
      · rw [if_neg hxy]
        rcases hu with ⟨rfl, hu⟩ | ⟨rfl, hu⟩
        · rw [if_neg (by decide), ldI_n (by omega) (by omega), lS_kind hC hI hy]
          simp (disch := omega) only [nI_eqE]
          by_cases hk : q.2.1 0 (q.2.2 1 t i - 1) = q.2.1 0 x
          · rw [if_neg (fun e => e hk)]
            have hk2 : kAl q (q.2.2 1 t i - 1) x = true := by rw [hal]; simp only [decide_eq_true_eq]; exact .inr ⟨hk, by rw [hk]; exact hu⟩
            rw [hk2]
            simp only [if_true]
            rw [if_neg (by omega)]
            rfl
          · rw [if_pos hk]
            have hk2 : kAl q (q.2.2 1 t i - 1) x = false := by rw [hal]; simp only [decide_eq_false_iff_not]; omega
            rw [hk2]
            simp only [Bool.false_eq_true, if_false]
            exact h41 _ ih
        · rw [if_pos rfl]
          have hk2 : kAl q (q.2.2 1 t i - 1) x = false := by rw [hal]; simp only [decide_eq_false_iff_not]; omega
          rw [hk2]
          simp only [Bool.false_eq_true, if_false]
          exact h41 _ ih
    have h23 : (q.2.1 0 x = 6 ∨ q.2.1 0 x = 7) → fSr_hasBranchAs_23 (d + 2) (nI (lo b t)) (nI (q.2.1 4 t)) (nI (lo b x)) (nI (q.2.1 0 x)) (nI i) (nI (lo b (q.2.2 1 t i - 1))) (lS b pb qb q s) = rI (if (if kAl q (q.2.2 1 t i - 1) x = true then i + 1 else kFr (fun i => kAl q (q.2.2 1 t i - 1) x) k (i + 1)) = 0 then 0 else 1) (lS b pb qb q s) := fun h => eSr_hasBranchAs_23 (d + 1) _ _ _ _ _ _ _ _ (h26 1 (.inl ⟨rfl, h⟩))
    refine eSr_hasBranchAs_8 (d + 1) _ _ _ _ _ _ _ ?_
    have e1 : ¬ nI (q.2.1 4 t) ≤ nI i := by rw [nI_leE (by omega) (by omega)]; omega
    rw [if_neg e1, hps, cG_I]
    simp (disch := omega) only [nI_lit 6, nI_lit 7, nI_eqE]
    by_cases a6 : q.2.1 0 x = 6
    · rw [if_pos a6]
      exact h23 (.inl a6)
    · rw [if_neg a6]
      by_cases a7 : q.2.1 0 x = 7
      · rw [if_neg (fun e => e a7)]
        exact h23 (.inr a7)
      · rw [if_pos a7]
        exact h26 0 (.inr ⟨rfl, by omega⟩)
theorem Sr_has (d : Nat) (hC : lCx b pb qb s) (hI : kIv T m q) (hp : pb + q.1 3 ≤ 10112) {x t : Nat} (hx : x < q.1 1) (h6 : 6 ≤ t) (ht : t < q.1 1) (h8 : q.2.1 0 t = 8) (hx1 : ∀ i, i < q.2.1 4 t → q.2.2 1 t i ≠ 0) : fSr_hasBranchAs (d + 2) (nI (lo b t)) (nI (q.2.1 4 t)) (nI (lo b x)) (lS b pb qb q s) = rI (if kFr (fun i => kAl q (q.2.2 1 t i - 1) x) (q.2.1 4 t) 0 = 0 then 0 else 1) (lS b pb qb q s) := by
  have hn := hI.1
  have hltx := lo_lt hC (t := x) (by omega)
  refine eSr_hasBranchAs (d + 1) _ _ _ _ _ ?_
  rw [ldI_n (by omega) (by omega), lS_kind hC hI hx]
  exact Sr_has8 d hC hI hp hx h6 ht h8 hx1 (q.2.1 4 t) 0 (by omega)
/-- the words, by kind -/
def kWo (k : Nat) : Nat := if k = 9 then 1011 else if k = 10 then 1012 else if k = 11 then 1013 else 1003 + k
theorem Sc_wordOf (d : Nat) {k : Nat} (hk : k < 12) (h8 : k ≠ 8) (t : aT) : fSc_wordOf d (nI k) t = rA (kWo k) t := by
  have : k = 0 ∨ k = 1 ∨ k = 2 ∨ k = 3 ∨ k = 4 ∨ k = 5 ∨ k = 6 ∨ k = 7 ∨ k = 9 ∨ k = 10 ∨ k = 11 := by omega
  refine eSc_wordOf d _ _ _ ?_
  rcases this with rfl | rfl | rfl | rfl | rfl | rfl | rfl | rfl | rfl | rfl | rfl <;> rfl
theorem kWo_ok {k : Nat} (hk : k < 12) (h8 : k ≠ 8) : sWd (kWo k) (kWs k) := by
  have : k = 0 ∨ k = 1 ∨ k = 2 ∨ k = 3 ∨ k = 4 ∨ k = 5 ∨ k = 6 ∨ k = 7 ∨ k = 9 ∨ k = 10 ∨ k = 11 := by omega
  rcases this with rfl | rfl | rfl | rfl | rfl | rfl | rfl | rfl | rfl | rfl | rfl <;> exact sWd_ok (_, _) (by decide)
theorem Sr_kt2 (d : Nat) (hT : lT s T N m l) (hG : jGt T N m l n) {v : Nat} (hv : v < m) (hk : T 0 v ≤ 6) : ∀ k j, j + k = 12 → fSr_kindTold_2 (d + 7) (nI v) (nI j) s = rI (zI (kFr (fun k => !(k == 8) && jTw T v (kWs k)) k j)) s := by
  intro k
  induction k with
  | zero =>
    intro j hj
    refine eSr_kindTold_2 (d + 6) _ _ _ _ ?_
    have : j = 12 := by omega
    subst this
    rw [if_pos (by decide)]
    rfl
  | succ k ih =>
    intro j hj
    have h17 : ∀ r, fSr_kindTold_2 (d + 7) (nI v) (nI (j + 1)) s = some r → fSr_kindTold_17 (d + 7) (nI v) (nI j) s = some r := fun r hr => eSr_kindTold_17 (d + 6) _ _ _ _ (by rw [nI_add1]; exact hr)
    have ih := ih (j + 1) (by omega)
    have ek : kFr (fun k => !(k == 8) && jTw T v (kWs k)) (k + 1) j = if (!(j == 8) && jTw T v (kWs j)) = true then j + 1 else kFr (fun k => !(k == 8) && jTw T v (kWs k)) k (j + 1) := rfl
    rw [ek]
    refine eSr_kindTold_2 (d + 6) _ _ _ _ ?_
    simp (disch := omega) only [nI_lit 12, nI_lit 8, nI_leE, nI_eqE]
    rw [if_neg (by omega)]
    by_cases h8 : j = 8
    · rw [if_pos h8, if_neg (by simp [h8])]
      exact h17 _ ih
    · have his := Lt_tells d hT hG (kWo_ok (k := j) (by omega) h8) hv hk
      rw [if_neg h8, Sc_wordOf _ (by omega) h8, cG_A, his, cG_I]
      by_cases hb : jTw T v (kWs j) = true
      · rw [if_neg (by rw [hb]; decide), if_pos (by simp [h8, hb]), zI_S]
        rfl
      · rw [if_pos (by rw [if_neg hb]), if_neg (by simp [hb])]
        exact h17 _ ih
theorem Sr_kindTold (d : Nat) (hT : lT s T N m l) (hG : jGt T N m l n) {v : Nat} (hv : v < m) (hk : T 0 v ≤ 6) : fSr_kindTold (d + 7) (nI v) s = rI (zI (kKt T v)) s := by
  refine eSr_kindTold (d + 6) _ _ _ ?_
  exact Sr_kt2 d hT hG hv hk 12 0 (by omega)
/-- behind what is kept anything may stand -/
abbrev lGa (b pb qb k i : Nat) : Prop := k = 22 ∧ (i = 14 ∨ i = 15) ∨ k = 32 ∧ i = 1 ∨ k = 37 ∧ i = 5 ∨ k = 38 ∧ i = 4 ∨ (23 ≤ k ∧ k ≤ 27) ∧ b ≤ i ∨ (28 ≤ k ∧ k ≤ 31) ∧ pb ≤ i ∨ k = 33 ∧ qb ≤ i ∨ k = 39 ∨ k = 40
def lGb (b pb qb : Nat) (t s : aT) : Prop := (∀ k i, ¬ lGa b pb qb k i → gI t k i = gI s k i) ∧ (∀ k i, gL t k i = gL s k i) ∧ t.2.2 = s.2.2
theorem lGb_S : lGb b pb qb (lS b pb qb q s) s := by
  refine ⟨fun k i h => ?_, fun _ _ => rfl, rfl⟩
  unfold lGa at h
  by_cases hf : k < 22 ∨ 34 ≤ k ∧ k ≤ 36 ∨ 41 ≤ k
  · exact lS_far hf
  · by_cases h22 : k = 22
    · subst h22; exact lS_22 (by omega)
    · by_cases h37 : k = 37
      · subst h37; exact lS_37 (by omega)
      · by_cases h23 : 23 ≤ k ∧ k ≤ 27
        · exact lS_lo h23 (by omega)
        · by_cases h28 : 28 ≤ k ∧ k ≤ 31
          · have e : ¬ pb ≤ i := by omega
            have : k = 28 ∨ k = 29 ∨ k = 30 ∨ k = 31 := by omega
            rcases this with rfl | rfl | rfl | rfl <;> simp [gI, lS, e]
          · by_cases h33 : k = 33
            · subst h33
              have e : ¬ qb ≤ i := by omega
              simp [gI, lS, e]
            · by_cases h32 : k = 32
              · subst h32
                have e : ¬ i = 1 := by omega
                simp [gI, lS, e]
              · by_cases h38 : k = 38
                · subst h38
                  have e : ¬ i = 4 := by omega
                  simp [gI, lS, e]
                · omega
theorem lGb_pI {t : aT} {k0 i0 : Nat} {v : Int32} (h : lGb b pb qb t s) (hg : lGa b pb qb k0 i0) : lGb b pb qb (pI t k0 i0 v) s := by
  refine ⟨fun k i hn => ?_, h.2.1, h.2.2⟩
  rw [gI_pI, if_neg (fun e => hn (by rw [e.1, e.2]; exact hg))]
  exact h.1 k i hn
/-- what a reading in the lake must have done -/
def lRm (b pb qb : Nat) (s : aT) (F : aRs) (x : kE) : Prop := match x with
  | .ok (q', v) => F = rI (nI (lo b v)) (lS b pb qb q' s)
  | .error (k, e) => ∃ t, F = rI (-1) t ∧ lGb b pb qb t (lF s (nI k) (nI e))
theorem lRm_go {F G : aRs} {x : kE} (h : lRm b pb qb s F x) (go : ∀ r, F = some r → G = some r) : lRm b pb qb s G x := by
  unfold lRm at h ⊢
  split at h
  · exact go _ h
  · obtain ⟨t, h, hg⟩ := h
    exact ⟨t, go _ h, hg⟩
theorem Sr_kn2 (d : Nat) (hC : lCx b pb qb s) (hT : lT s T N m l) (hG : jGt T N m l n) (hI : kIv T m q) (hq : qb + q.1 6 ≤ 72704) {v : Nat} (hv : v < m) (h2 : T 0 v = 2) : ∀ k j, j + k = 6 → lRm b pb qb s (fSr_known_2 (d + 7) (nI v) (nI j) (lS b pb qb q s)) (if kFr (fun k => jTw T v (kWs k)) k j ≠ 0 then .ok (q, kFr (fun k => jTw T v (kWs k)) k j - 1) else if kDf T q v ≠ 0 then .ok (q, kDf T q v - 1) else .error (3, T 1 v)) := by
  have hn := hI.1
  intro k
  induction k with
  | zero =>
    intro j hj
    have : j = 6 := by omega
    subst this
    have ez : kFr (fun k => jTw T v (kWs k)) 0 6 = 0 := rfl
    rw [if_neg (fun e => e ez)]
    have hdf : fSc_defined (d + 6) (nI v) (lS b pb qb q s) = rI (zL b (kDf T q v)) (lS b pb qb q s) := Sc_defined (d + 5) hC hT hG hI hq hv h2
    have hdl := kDf_le (v := v) hI
    have go : ∀ r, (if kDf T q v = 0 then cG (fSr_fail (d + 6) 3 (nI v) (lS b pb qb q s)) (kI fun v4 s3 => rI v4 s3) else rI (nI (lo b (kDf T q v - 1))) (lS b pb qb q s)) = some r → fSr_known_2 (d + 7) (nI v) (nI 6) (lS b pb qb q s) = some r := by
      intro r hr
      refine eSr_known_2 (d + 6) _ _ _ _ ?_
      rw [if_pos (by decide), hdf, cG_I]
      by_cases hz : kDf T q v = 0
      · rw [if_pos hz] at hr
        rw [hz, zL_0, if_neg (by decide)]
        exact hr
      · rw [if_neg hz] at hr
        have hlt := lo_lt hC (t := kDf T q v - 1) (by omega)
        have e : zL b (kDf T q v) = nI (lo b (kDf T q v - 1)) := by unfold zL; rw [if_neg hz]
        rw [e, if_pos (nI_ne (by omega))]
        exact hr
    by_cases hz : kDf T q v = 0
    · rw [if_neg (fun e => e hz)]
      rw [if_pos hz, Sr_fail _ hT hG hv, cG_I] at go
      exact ⟨_, go _ rfl, lGb_S⟩
    · rw [if_pos hz]
      rw [if_neg hz] at go
      exact go _ rfl
  | succ k ih =>
    intro j hj
    have hTq := lS_T (b := b) (pb := pb) (qb := qb) (q := q) hT
    have his := Lt_tells d hTq hG (kWo_ok (k := j) (by omega) (by omega)) hv (by omega)
    have ih := ih (j + 1) (by omega)
    have ek : kFr (fun k => jTw T v (kWs k)) (k + 1) j = if jTw T v (kWs j) = true then j + 1 else kFr (fun k => jTw T v (kWs k)) k (j + 1) := rfl
    have go : ∀ r, (if jTw T v (kWs j) = true then rI (nI j) (lS b pb qb q s) else fSr_known_2 (d + 7) (nI v) (nI (j + 1)) (lS b pb qb q s)) = some r → fSr_known_2 (d + 7) (nI v) (nI j) (lS b pb qb q s) = some r := by
      intro r hr
      refine eSr_known_2 (d + 6) _ _ _ _ ?_
      have e6 : ¬ (6 : Int32) ≤ nI j := by rw [nI_lit 6, nI_leE (by omega) (by omega)]; omega
      rw [if_neg e6, Sc_wordOf _ (by omega) (by omega), cG_A, his, cG_I]
      by_cases hb : jTw T v (kWs j) = true
      · rw [if_pos hb] at hr
        rw [if_neg (by rw [hb]; decide)]
        exact hr
      · rw [if_neg hb] at hr
        rw [if_pos (by rw [if_neg hb]), nI_add1]
        exact hr
    rw [ek]
    by_cases hb : jTw T v (kWs j) = true
    · rw [if_pos hb, if_pos (by omega), Nat.add_sub_cancel]
      rw [if_pos hb] at go
      have e : lo b j = j := by unfold lo; rw [if_pos (by omega)]
      show fSr_known_2 (d + 7) (nI v) (nI j) (lS b pb qb q s) = rI (nI (lo b j)) (lS b pb qb q s)
      rw [e]
      exact go _ rfl
    · rw [if_neg hb]
      rw [if_neg hb] at go
      exact lRm_go ih go
theorem Sr_known (d : Nat) (hC : lCx b pb qb s) (hT : lT s T N m l) (hG : jGt T N m l n) (hI : kIv T m q) (hq : qb + q.1 6 ≤ 72704) {v : Nat} (hv : v < m) (h2 : T 0 v = 2) : lRm b pb qb s (fSr_known (d + 7) (nI v) (lS b pb qb q s)) (kKn T v q) := by
  have h := Sr_kn2 d hC hT hG hI hq hv h2 6 0 (by omega)
  exact lRm_go h (fun r hr => eSr_known (d + 6) _ _ _ hr)
end
