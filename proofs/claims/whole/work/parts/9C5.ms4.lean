/-! the reference's Text: unions -/
/-- what a reading of a schema wants -/
def kPre (T : Nat → Nat → Nat) (N : Nat → Int) (m : Nat) (q : kP) (v : Nat) : Prop := kIv T m q ∧ jVb T N m v ∧ 2 * q.1 2 + kWv T v ≤ 4300 ∧ q.1 4 ≤ q.1 0
def mCx (c : Nat) (s : aT) (T : Nat → Nat → Nat) (N : Nat → Int) (m l n : Nat) (rec : kR) (E dep : Nat) : Prop := isT c ∧ mT c s T N m l ∧ jGt T N m l n ∧ kRe T N m rec ∧ ∀ d v (br : Bool) q, kPre T N m q v → kRm c s (fMt_schemaOf (E + d + 8) c (nI v) (nI dep) (if br then 1 else 0) (mS c q s)) (rec v br q)
section
variable {c : Nat} {q : kP} {s : aT} {T : Nat → Nat → Nat} {N : Nat → Int} {m l n : Nat} {rec : kR} {E dep : Nat}
theorem kIv_0lt {x : Nat} (hI : kIv T m q) (hx : x < q.1 1) : q.2.1 0 x < 100 := by
  by_cases h6 : x < 6
  · rw [(hI.2.1 x h6).1]; omega
  · have := (hI.2.2.1 x (by omega) hx).1
    omega
theorem Mt_u59 (d : Nat) (hc : isT c) (hT : mT c s T N m l) (hG : jGt T N m l n) (hI : kIv T m q) (hk2 : q.1 2 ≤ 2200) {x2 z4 z5 : Int32} {b x t : Nat} (hb : b < m) (hx : x < q.1 1) (h6 : 6 ≤ t) (ht : t < q.1 1) (hx1 : ∀ i, i < q.2.1 4 t → q.2.2 1 t i ≠ 0) : ∀ k i, i + k = q.2.1 4 t →
    (kFr (fun i => kAl q (q.2.2 1 t i - 1) x) k i = 0 → ∀ r, fMt_union_59 (d + 2) c x2 z4 z5 (nI b) (nI x) (zI 0) (mS c q s) = some r → fMt_union_59 (d + 2) c x2 z4 z5 (nI b) (nI x) (zI (kPr q t i)) (mS c q s) = some r) ∧
    (kFr (fun i => kAl q (q.2.2 1 t i - 1) x) k i ≠ 0 → fMt_union_59 (d + 2) c x2 z4 z5 (nI b) (nI x) (zI (kPr q t i)) (mS c q s) = rT 0 (mS c q (mFt c s 6 (nI (T 1 b))))) := by
  have hm := hG.1
  have hn : q.1 1 < 140 := by have := hI.1; omega
  intro k
  induction k with
  | zero =>
    intro i hi
    have e : kPr q t i = 0 := by unfold kPr; rw [if_neg (by omega)]
    rw [e]
    exact ⟨fun _ r hr => hr, fun h => absurd rfl h⟩
  | succ k ih =>
    intro i hi
    have hil : i < q.2.1 4 t := by omega
    obtain ⟨k1, k2, k3, k4, k5, k6⟩ := mS_kid (c := c) (s := s) hI h6 ht hil
    have hle := (hI.2.2.2.1 t i h6 ht hil).2.2.2.1
    have hx0 := hx1 i hil
    have hal := Mt_alike (s := s) (d + 1) hc (x := q.2.2 1 t i - 1) (y := x) (show q.2.2 1 t i - 1 < q.1 1 by omega) hx hn (kIv_0lt hI (by omega)) (kIv_0lt hI hx)
    have ek : kFr (fun i => kAl q (q.2.2 1 t i - 1) x) (k + 1) i = if kAl q (q.2.2 1 t i - 1) x = true then i + 1 else kFr (fun i => kAl q (q.2.2 1 t i - 1) x) k (i + 1) := rfl
    have go : ∀ r, (if kAl q (q.2.2 1 t i - 1) x = true then fMt_union_73 (d + 2) c x2 z4 z5 (nI b) (nI x) (nI (q.2.2 0 t i)) 0 (mS c q s) else fMt_union_73 (d + 2) c x2 z4 z5 (nI b) (nI x) (nI (q.2.2 0 t i)) 1 (mS c q s)) = some r → fMt_union_59 (d + 2) c x2 z4 z5 (nI b) (nI x) (zI (kPr q t i)) (mS c q s) = some r := by
      intro r hr
      refine eMt_union_59 (d + 1) c _ _ _ _ _ _ _ hc _ ?_
      rw [k2, zI_S, if_neg (nI_pos (by omega)), ldI_n (by omega) (by omega), k3, zI_pos (by omega), hal, cG_I]
      by_cases hs : kAl q (q.2.2 1 t i - 1) x = true
      · rw [if_pos hs] at hr
        rw [if_pos (by rw [hs]; decide)]
        exact hr
      · rw [if_neg hs] at hr
        rw [if_neg (by rw [if_neg hs]; decide)]
        exact hr
    rw [ek]
    by_cases hs : kAl q (q.2.2 1 t i - 1) x = true
    · rw [if_pos hs] at go ⊢
      refine ⟨fun h => by omega, fun _ => go _ ?_⟩
      refine eMt_union_73 (d + 1) c _ _ _ _ _ _ _ _ hc _ ?_
      rw [ldI_n (by omega) (by omega), ((mS_T (q := q) hT).1 b hb).2.1, Mt_nd0 _ hc, cG_T]
      rfl
    · rw [if_neg hs] at go ⊢
      have step : ∀ r, fMt_union_59 (d + 2) c x2 z4 z5 (nI b) (nI x) (zI (kPr q t (i + 1))) (mS c q s) = some r → fMt_union_59 (d + 2) c x2 z4 z5 (nI b) (nI x) (zI (kPr q t i)) (mS c q s) = some r := by
        intro r hr
        refine go _ ?_
        refine eMt_union_73 (d + 1) c _ _ _ _ _ _ _ _ hc _ ?_
        rw [ldI_n (by omega) (by omega), Mt_need1 _ hc, cG_V, ldI_n (by omega) (by omega), k6]
        exact hr
      have ih := ih (i + 1) (by omega)
      exact ⟨fun h r hr => step r (ih.1 h r hr), fun h => step _ (ih.2 h)⟩
/-- the last kid of a schema -/
def kLs (q : kP) (t : Nat) : Nat := if q.2.1 4 t = 0 then 0 else q.2.2 0 t (q.2.1 4 t - 1) + 1
theorem Mt_u44 (cx : mCx c s T N m l n rec E dep) (d : Nat) {x2 : Int32} (hx2 : x2 + 1 = nI dep) {q0 : kP} {t e : Nat} (he : e ≤ m) : ∀ k lo cur q, jTl T (jVe T N m) k lo e cur → kLo T m q0 t q → q.2.1 0 t = 8 → q.2.1 4 t + k ≤ q.2.1 7 t → (∀ i, i < q.2.1 4 t → q.2.2 1 t i ≠ 0) → 2 * q.1 2 + jSw T e ≤ 4300 + jSw T lo → q.1 4 ≤ q.1 0 → kRu c s t (fMt_union_44 (E + d + 9) c x2 (nI t) (zI (kLs q t)) (zI cur) (mS c q s)) (kUl T rec t k cur q) := by
  obtain ⟨hc, hT, hG, hre, hrec⟩ := cx
  have hm := hG.1
  intro k
  induction k with
  | zero =>
    intro lo cur q hch hl _ _ _ _ _
    have : cur = 0 := hch.1
    subst this
    show fMt_union_44 (E + d + 9) c x2 (nI t) (zI (kLs q t)) (zI 0) (mS c q s) = rI (nI t) (mS c q s)
    refine eMt_union_44 (E + d + 8) c _ _ _ _ _ hc _ ?_
    rw [if_pos (by decide)]
    rfl
  | succ k ih =>
    intro lo cur q hch hl h8 h7 hx1 hbud h40
    obtain ⟨hcur, e1, hP, hch⟩ := hch
    subst hcur
    have hlt := jVb_lt hP.1
    have hw := kWv_eq (T := T) (v := lo) hlt.1
    rw [← hP.2] at hw hlt
    have hle := jTl_lt jVe_lt _ _ _ _ hch
    have hsm := jSw_mono (T := T) (a := e1) e hle
    have hr := hrec d lo true q ⟨hl.1, hP.1, by omega, h40⟩
    unfold kUl
    rw [Nat.add_sub_cancel]
    have go : ∀ r, cG (fMt_schemaOf (E + d + 8) c (nI lo) (nI dep) 1 (mS c q s)) (kI fun v2 s1 => ldI 140 s1 (c + 12) (nI t) (fun v3 => fMt_union_59 (E + d + 9) c x2 (nI t) (zI (kLs q t)) (nI lo) v2 v3 s1)) = some r → fMt_union_44 (E + d + 9) c x2 (nI t) (zI (kLs q t)) (zI (lo + 1)) (mS c q s) = some r := by
      intro r hr
      refine eMt_union_44 (E + d + 8) c _ _ _ _ _ hc _ ?_
      rw [zI_S, if_neg (nI_pos (by omega)), hx2]
      exact hr
    cases hrc : rec lo true q with
    | error e =>
      obtain ⟨k0, e0⟩ := e
      rw [hrc] at hr
      obtain ⟨q', hr⟩ := hr
      refine ⟨q', go _ ?_⟩
      rw [if_pos rfl] at hr
      rw [hr, cG_T]
      rfl
    | ok qx =>
      obtain ⟨q1, x⟩ := qx
      rw [hrc] at hr
      have hr : fMt_schemaOf (E + d + 8) c (nI lo) (nI dep) 1 (mS c q s) = rI (nI x) (mS c q1 s) := hr
      have hok := hre.1 _ _ _ _ _ hl.1 hP.1 hrc
      obtain ⟨o1, o2, o3, o4, o5, o6, o7, o8, o9⟩ := hok
      obtain ⟨hl1, hr1, hxx⟩ := kLo_fm hl o1 o2
      have ht := hl1.2.2.1
      have hn : q1.1 1 < 140 := by have := o1.1; omega
      have els : kLs q t = kLs q1 t := by
        unfold kLs
        rw [hr1 4 (by omega), hxx]
      have e4 := hr1 4 (by omega)
      have hx1' : ∀ i, i < q1.2.1 4 t → q1.2.2 1 t i ≠ 0 := fun i hi => by rw [hxx]; exact hx1 i (by rw [e4] at hi; exact hi)
      have hu := Mt_u59 (s := s) (E + d + 7) hc hT hG o1 (by omega) (x2 := x2) (z4 := nI t) (z5 := zI (kLs q t)) (b := lo) (x := x) (t := t) (by omega) o3 ht.2.1 ht.2.2 hx1' (q1.2.1 4 t) 0 (by omega)
      have go1 : ∀ r, fMt_union_59 (E + d + 9) c x2 (nI t) (zI (kLs q t)) (nI lo) (nI x) (zI (kPr q1 t 0)) (mS c q1 s) = some r → fMt_union_44 (E + d + 9) c x2 (nI t) (zI (kLs q t)) (zI (lo + 1)) (mS c q s) = some r := by
        intro r hr2
        refine go _ ?_
        rw [hr, cG_I, ldI_n (by omega) (by omega), mS_kids o1 ht.2.1 ht.2.2]
        exact hr2
      simp only
      by_cases hz : kFr (fun i => kAl q1 (q1.2.2 1 t i - 1) x) (q1.2.1 4 t) 0 = 0
      · rw [if_pos hz]
        have hlt4 : q1.2.1 4 t < q1.2.1 7 t := by rw [e4, hr1 7 (by omega)]; omega
        have h732 := (o1.2.2.1 t ht.2.1 ht.2.2).2.2.2.2.2.2.2
        have hun := kLo_un (x := x) hl1 (by rw [hr1 0 (by omega)]; exact h8) hlt4 o3
        have hak := Mt_addKid (s := s) (E + d + 8) hc ht.2.1 ht.2.2 hn (by omega) (by omega) (fun hz => (o1.2.2.2.1 t (q1.2.1 4 t - 1) ht.2.1 ht.2.2 (by omega)).1.1)
        have hx0 : (kAk t q1).2.2 0 t (q1.2.1 4 t) = q1.1 2 := kAk_X0
        have hss := mS_ss (c := c) (s := s) (q := kAk t q1) (t := t) (i := q1.2.1 4 t) (x := x) (by rw [hx0]; exact Nat.lt_succ_self _)
        rw [hx0] at hss
        have els2 : kLs (kSs t (q1.2.1 4 t) x (kAk t q1)) t = q1.1 2 + 1 := by
          unfold kLs
          rw [hun.2.1, if_neg (by omega), Nat.add_sub_cancel, kSs_X, if_neg (by omega), hx0]
        refine kRu_go (ih e1 _ _ hch hun.1 (by rw [hun.2.2 0 (by omega) (by omega), hr1 0 (by omega)]; exact h8) (by rw [hun.2.1, hun.2.2 7 (by omega) (by omega), e4, hr1 7 (by omega)]; omega) ?_ ?_ ?_) (fun r hr2 => go1 _ (hu.1 hz _ ?_))
        · intro i hi
          rw [hun.2.1] at hi
          rw [kSs_X]
          by_cases e : i = q1.2.1 4 t
          · rw [if_pos ⟨rfl, rfl, e⟩]; omega
          · rw [if_neg (by omega), kAk_Xo (.inr e)]
            exact hx1' i (by omega)
        · rw [kSs_c, if_pos rfl]; omega
        · rw [kSs_c, kSs_c, if_neg (by omega), if_neg (by omega)]; omega
        · rw [els2, zI_S] at hr2
          refine eMt_union_59 (E + d + 8) c _ _ _ _ _ _ _ hc _ ?_
          rw [if_pos (by decide), els]
          rw [show kLs q1 t = (if q1.2.1 4 t = 0 then 0 else q1.2.2 0 t (q1.2.1 4 t - 1) + 1) from rfl, hak, cG_I, stI_n (by omega) (by omega), hss, ldI_n (by omega) (by omega), ((mS_T (q := kSs t (q1.2.1 4 t) x (kAk t q1)) hT).1 lo (by omega)).2.2.2.2.1]
          exact hr2
      · rw [if_neg hz]
        exact ⟨q1, go1 _ (hu.2 hz)⟩
theorem Mt_union (cx : mCx c s T N m l n rec E dep) (d : Nat) {dep0 : Nat} (hd : dep0 + 1 = dep) {v : Nat} (hp : kPre T N m q v) (hn1 : q.1 1 + 1 ≤ 6 + q.1 0) (h1 : T 0 v = 1) (br : Bool) : kRm c s (fMt_union (E + d + 9) c (nI v) (nI dep0) (if br then 1 else 0) (mS c q s)) (if br then .error (4, T 1 v) else kUn T rec v q) := by
  have hcx := cx
  obtain ⟨hc, hT, hG, hre, hrec⟩ := cx
  obtain ⟨hI, hv, hbud, h40⟩ := hp
  have hlt := jVb_lt hv
  have hm := hG.1
  have hTq := mS_T (q := q) hT
  cases br with
  | true =>
    refine ⟨q, ?_⟩
    refine eMt_union (E + d + 8) c _ _ _ _ hc _ ?_
    rw [if_pos rfl, if_pos (by decide)]
    refine eMt_union_6 (E + d + 8) c _ _ _ _ hc _ ?_
    rw [ldI_n (by omega) (by omega), (hTq.1 v (by omega)).2.1, Mt_nd0 _ hc, cG_T]
    rfl
  | false =>
    rw [if_neg (by decide), if_neg (by decide)]
    have hs := hTq.1 v (by omega)
    have h2le : T 2 v ≤ 4096 := by
      have := jTl_lt jVe_lt _ _ _ _ (jVb_l hv h1)
      have hk : ∀ k lo e cur, jTl T (jVe T N m) k lo e cur → k + lo ≤ e := by
        intro k
        induction k with
        | zero => intro lo e cur h; have := h.2; omega
        | succ k ih =>
          intro lo e cur h
          obtain ⟨_, e1, hP, h⟩ := h
          have a := jVe_lt _ _ hP
          have b := ih _ _ _ h
          omega
      have := hk _ _ _ _ (jVb_l hv h1)
      omega
    have go6 : ∀ r, (if T 2 v ≤ 0 then fMt_union_26 (E + d + 9) c (nI v) (nI dep0) (mS c q s) else if 17 ≤ T 2 v then fMt_union_26 (E + d + 9) c (nI v) (nI dep0) (mS c q s) else fMt_union_27 (E + d + 9) c (nI v) (nI dep0) 1 (mS c q s)) = some r → fMt_union (E + d + 9) c (nI v) (nI dep0) 0 (mS c q s) = some r := by
      intro r hr
      refine eMt_union (E + d + 8) c _ _ _ _ hc _ ?_
      rw [if_neg (by decide)]
      refine eMt_union_6 (E + d + 8) c _ _ _ _ hc _ ?_
      rw [ldI_n (by omega) (by omega), Mt_need1 _ hc, cG_V, ldI_n (by omega) (by omega), mT_Z hTq (by omega) (by omega), show (0 : Int32) = nI 0 from rfl]
      simp (disch := omega) only [nI_leE]
      rw [ldI_n (by omega) (by omega), mT_Z hTq (by omega) (by omega)]
      simp (disch := omega) only [nI_lit 17, nI_leE]
      exact hr
    unfold kUn
    by_cases hL : 0 < T 2 v ∧ T 2 v < 17
    · rw [if_pos hL]
      rw [if_neg (by omega), if_neg (by omega)] at go6
      have hn : q.1 1 < 140 := by have := hI.1; omega
      have hu := kLo_u0 (n := T 2 v) hI hn1 (by omega)
      have a : ∀ j, (kAp (q.1 1) (T 2 v) (kSh 8 q)).1 j = if j = 3 then q.1 3 + T 2 v else if j = 1 then q.1 1 + 1 else q.1 j := fun j => rfl
      have hw := kWv_eq (T := T) (v := v) hlt.1
      have hwl : 2 ≤ jWt T v := jWt_2 _ (by omega)
      have hl44 := Mt_u44 hcx d (x2 := nI dep0) (by rw [nI_add1, hd]) (q0 := q) (t := q.1 1) (e := jE T v) hlt.2 _ _ _ _ (jVb_l hv h1) hu.1 hu.2.1 (by rw [hu.2.2.1, hu.2.2.2]; omega) (fun i hi => by rw [hu.2.2.1] at hi; omega) (by rw [a 2, if_neg (by omega), if_neg (by omega)]; omega) (by rw [a 4, a 0, if_neg (by omega), if_neg (by omega), if_neg (by omega), if_neg (by omega)]; exact h40)
      have els : kLs (kAp (q.1 1) (T 2 v) (kSh 8 q)) (q.1 1) = 0 := by unfold kLs; rw [hu.2.2.1, if_pos rfl]
      rw [els, mS_ap] at hl44
      have go : ∀ r, fMt_union_44 (E + d + 9) c (nI dep0) (nI (q.1 1)) (zI 0) (zI (T 3 v)) (mS c (kSh 8 q) s) = some r → fMt_union (E + d + 9) c (nI v) (nI dep0) 0 (mS c q s) = some r := by
        intro r hr
        refine go6 _ ?_
        refine eMt_union_27 (E + d + 8) c _ _ _ _ hc _ ?_
        rw [ldI_n (by omega) (by omega), Mt_need1 _ hc, cG_V, nI_lit 8, Mt_shape _ hc (by have := hI.1; omega) hn, cG_I, ldI_n (by omega) (by omega), ((mS_T (q := kSh 8 q) hT).1 v (by omega)).2.2.2.1]
        exact hr
      cases hul : kUl T rec (q.1 1) (T 2 v) (T 3 v) (kAp (q.1 1) (T 2 v) (kSh 8 q)) with
      | error e =>
        obtain ⟨k0, e0⟩ := e
        rw [hul] at hl44
        obtain ⟨q', h⟩ := hl44
        exact ⟨q', go _ h⟩
      | ok q2 =>
        rw [hul] at hl44
        have h : fMt_union_44 (E + d + 9) c (nI dep0) (nI (q.1 1)) (zI 0) (zI (T 3 v)) (mS c (kSh 8 q) s) = rI (nI (q.1 1)) (mS c q2 s) := hl44
        exact go _ h
    · rw [if_neg hL]
      refine ⟨q, go6 _ ?_⟩
      have h26 : fMt_union_26 (E + d + 9) c (nI v) (nI dep0) (mS c q s) = rT 0 (mS c q (mFt c s 5 (nI (T 1 v)))) := by
        refine eMt_union_26 (E + d + 8) c _ _ _ hc _ ?_
        refine eMt_union_27 (E + d + 8) c _ _ _ _ hc _ ?_
        rw [ldI_n (by omega) (by omega), (hTq.1 v (by omega)).2.1, Mt_nd0 _ hc, cG_T]
        rfl
      rw [h26]
      by_cases h0 : T 2 v ≤ 0
      · rw [if_pos h0]
        rfl
      · rw [if_neg h0, if_pos (by omega)]
        rfl
end
