/-! the lake's reader: unions, arrays, maps -/
def kPrl (pb qb : Nat) (T : Nat → Nat → Nat) (N : Nat → Int) (m : Nat) (q : kP) (v : Nat) : Prop := kIv T m q ∧ jVb T N m v ∧ 2 * (pb + q.1 3) + kWv T v ≤ 20226 ∧ qb + q.1 6 + q.1 7 + 2 * kWv T v ≤ 72704 ∧ q.1 4 ≤ q.1 0 ∧ q.1 5 ≤ q.1 4
def lCy (b pb qb : Nat) (s : aT) (T : Nat → Nat → Nat) (N : Nat → Int) (m l n : Nat) (rec : kR) (E dep : Nat) : Prop := lCx b pb qb s ∧ lT s T N m l ∧ jGt T N m l n ∧ kRe T N m rec ∧ ∀ d v (br : Bool) q, kPrl pb qb T N m q v → lRm b pb qb s (fSr_schemaOf (E + d + 8) (nI v) (nI dep) (if br then 1 else 0) (lS b pb qb q s)) (rec v br q)
def lRu (b pb qb : Nat) (s : aT) (t : Nat) (F : aRs) (x : Except (Nat × Nat) kP) : Prop := match x with
  | .ok q' => F = rI (nI (lo b t)) (lS b pb qb q' s)
  | .error (k, e) => ∃ t, F = rI (-1) t ∧ lGb b pb qb t (lF s (nI k) (nI e))
section
variable {b pb qb : Nat} {q : kP} {s : aT} {T : Nat → Nat → Nat} {N : Nat → Int} {m l n : Nat} {rec : kR} {E dep : Nat}
theorem lRu_go {t : Nat} {F G : aRs} {x : Except (Nat × Nat) kP} (h : lRu b pb qb s t F x) (go : ∀ r, F = some r → G = some r) : lRu b pb qb s t G x := by
  unfold lRu at h ⊢
  split at h
  · exact go _ h
  · obtain ⟨t, h, hg⟩ := h
    exact ⟨t, go _ h, hg⟩
theorem jTl_w {k lo e cur : Nat} (h : jTl T (jVe T N m) k lo e cur) : 2 * k + jSw T lo ≤ jSw T e := by
  induction k generalizing lo cur with
  | zero => have := h.2; rw [this]; omega
  | succ k ih =>
    obtain ⟨_, e1, hP, h⟩ := h
    have hw := kWv_eq (T := T) (v := lo) (jVb_lt hP.1).1
    rw [← hP.2] at hw
    have h2 := jVb_w2 hP.1
    have b := ih h
    omega
theorem lS_ap0 {k : Nat} : lS b pb qb (kAp (q.1 1) 0 (kSh k q)) s = lS b pb qb (kSh k q) s := by
  refine lS_ext (fun j hj => ?_) (fun r i hr _ => ?_) (fun r i h1 h2 _ => ?_) (fun i _ => ?_) (fun r i hr _ => ?_)
  · rw [kAp_1]
    split
    · rename_i e; subst e; rfl
    · rfl
  · rw [kAp_Q]
    by_cases h6 : r = 6 ∧ i = q.1 1
    · rw [if_pos h6, h6.1, h6.2, kSh_Q, if_pos rfl, if_neg (by omega), if_neg (by omega), if_pos rfl]
      rfl
    · rw [if_neg h6]
      by_cases h7 : r = 7 ∧ i = q.1 1
      · rw [if_pos h7, h7.1, h7.2, kSh_Q, if_pos rfl, if_neg (by omega), if_pos (by omega)]
      · rw [if_neg h7]; repeat' rw [if_neg (by omega)]
  · rw [kAp_Q]; repeat' rw [if_neg (by omega)]
  · rw [kAp_Q]; repeat' rw [if_neg (by omega)]
  · rw [kAp_Q]; repeat' rw [if_neg (by omega)]
theorem Sr_add (d : Nat) (hC : lCx b pb qb s) {k k0 : Nat} {x : Int32} (h6 : 6 ≤ q.1 1) (hn : q.1 1 < 134) (hp : pb + q.1 3 + k0 ≤ 10112) : fSr_add (d + 1) (nI k) x (nI k0) (lS b pb qb q s) = rI (nI (lo b (q.1 1))) (lS b pb qb (kAp (q.1 1) k0 (kSh k q)) s) := by
  have hlt := lo_lt hC (t := q.1 1) (by omega)
  have h1 : (kSh k q).1 1 = q.1 1 + 1 := rfl
  have h3 : (kSh k q).1 3 = q.1 3 := rfl
  refine eSr_add d _ _ _ _ _ ?_
  rw [Sc_add d hC h6 hn, cG_I, if_neg (nI_ne (by omega)), Sc_addParts d hC (q := kSh k q) h6 (by rw [h1]; omega) (by rw [h1]; omega) (by rw [h3]; exact hp), cG_I, if_neg (by decide)]
  rfl
theorem Sr_u31 (cy : lCy b pb qb s T N m l n rec E dep) (d : Nat) {x2 : Int32} (hx2 : x2 + 1 = nI dep) {q0 : kP} {t e : Nat} (he : e ≤ m) : ∀ k lo1 cur q, jTl T (jVe T N m) k lo1 e cur → kLo T m q0 t q → q.2.1 0 t = 8 → q.2.1 4 t + k = q.2.1 7 t → (∀ i, i < q.2.1 4 t → q.2.2 1 t i ≠ 0) → 2 * (pb + q.1 3) + jSw T e ≤ 20224 + 2 * k + jSw T lo1 → qb + q.1 6 + q.1 7 + 2 * jSw T e ≤ 72704 + 2 * jSw T lo1 → q.1 4 ≤ q.1 0 → q.1 5 ≤ q.1 4 → lRu b pb qb s t (fSr_union_31 (E + d + 9) x2 (nI (q.2.1 7 t)) (nI (lo b t)) (zI cur) (nI (q.2.1 4 t)) (lS b pb qb q s)) (kUl T rec t k cur q) := by
  obtain ⟨hC, hT, hG, hre, hrec⟩ := cy
  have hm := hG.1
  intro k
  induction k with
  | zero =>
    intro lo1 cur q hch hl h8 h7 _ _ _ _ _
    have hI := hl.1
    have ht := hl.2.2.1
    have hn := hI.1
    have hlt := lo_lt hC (t := t) (by omega)
    have h732 := (hI.2.2.1 t ht.2.1 ht.2.2).2.2.2.2.2.2.2
    show fSr_union_31 (E + d + 9) x2 (nI (q.2.1 7 t)) (nI (lo b t)) (zI cur) (nI (q.2.1 4 t)) (lS b pb qb q s) = rI (nI (lo b t)) (lS b pb qb q s)
    refine eSr_union_31 (E + d + 8) _ _ _ _ _ _ _ ?_
    have e1 : nI (q.2.1 7 t) ≤ nI (q.2.1 4 t) := by rw [nI_leE (by omega) (by omega)]; omega
    rw [if_neg (nI_ne (by omega)), if_pos e1]
    rfl
  | succ k ih =>
    intro lo1 cur q hch hl h8 h7 hx1 hbud hpool h40 h54
    obtain ⟨hcur, e1, hP, hch⟩ := hch
    subst hcur
    have hlt := jVb_lt hP.1
    have hw := kWv_eq (T := T) (v := lo1) hlt.1
    rw [← hP.2] at hw hlt
    have hle := jTl_lt jVe_lt _ _ _ _ hch
    have hsm := jSw_mono (T := T) (a := e1) e hle
    have hrest := jTl_w hch
    have hI := hl.1
    have ht := hl.2.2.1
    have hn := hI.1
    have hltt := lo_lt hC (t := t) (by omega)
    have h732 := (hI.2.2.1 t ht.2.1 ht.2.2).2.2.2.2.2.2.2
    have hr := hrec d lo1 true q ⟨hI, hP.1, by omega, by omega, h40, h54⟩
    rw [if_pos rfl] at hr
    have go : ∀ r, cG (fSr_schemaOf (E + d + 8) (nI lo1) (nI dep) 1 (lS b pb qb q s)) (kI fun v2 s1 => if ¬ v2 = (-1) then cG (fSr_hasBranchAs (E + d + 8) (nI (lo b t)) (nI (q.2.1 4 t)) v2 s1) (kI fun v4 s3 => if v4 = 0 then ldI 5254 s3 25 (nI (lo b t)) (fun v5 => stI 10112 s3 29 (v5 + nI (q.2.1 4 t)) v2 (fun s6 => ldI 4096 s6 18 (nI lo1) (fun v7 => fSr_union_31 (E + d + 9) x2 (nI (q.2.1 7 t)) (nI (lo b t)) v7 (nI (q.2.1 4 t + 1)) s6))) else cG (fSr_fail (E + d + 8) 6 (nI lo1) s3) (kI fun v9 s8 => rI v9 s8)) else rI (-1) s1) = some r → fSr_union_31 (E + d + 9) x2 (nI (q.2.1 7 t)) (nI (lo b t)) (zI (lo1 + 1)) (nI (q.2.1 4 t)) (lS b pb qb q s) = some r := by
      intro r hr
      refine eSr_union_31 (E + d + 8) _ _ _ _ _ _ _ ?_
      have e1 : ¬ nI (q.2.1 7 t) ≤ nI (q.2.1 4 t) := by rw [nI_leE (by omega) (by omega)]; omega
      rw [if_neg (nI_ne (by omega)), if_neg e1, zI_S, hx2, nI_add1]
      exact hr
    unfold kUl
    rw [Nat.add_sub_cancel]
    cases hrc : rec lo1 true q with
    | error er =>
      obtain ⟨k0, e0⟩ := er
      rw [hrc] at hr
      obtain ⟨tt, hr, hg⟩ := hr
      refine ⟨tt, go _ ?_, hg⟩
      rw [hr, cG_I, if_neg (by decide)]
      rfl
    | ok qx =>
      obtain ⟨q1, x⟩ := qx
      rw [hrc] at hr
      have hr : fSr_schemaOf (E + d + 8) (nI lo1) (nI dep) 1 (lS b pb qb q s) = rI (nI (lo b x)) (lS b pb qb q1 s) := hr
      have hok := hre.1 _ _ _ _ _ hI hP.1 hrc
      obtain ⟨o1, o2, o3, o4, o5, o6, o7, o8, o9⟩ := hok
      obtain ⟨hl1, hr1, hxx⟩ := kLo_fm hl o1 o2
      have hn1 := o1.1
      have hltx := lo_lt hC (t := x) (by omega)
      have e4 := hr1 4 (by omega)
      have e7 := hr1 7 (by omega)
      have ht1 := hl1.2.2.1
      have hx1' : ∀ i, i < q1.2.1 4 t → q1.2.2 1 t i ≠ 0 := fun i hi => by rw [hxx]; exact hx1 i (by rw [e4] at hi; exact hi)
      have h674 := (o1.2.2.1 t ht1.2.1 ht1.2.2).2.2.2.1
      have hhas := Sr_has (s := s) (E + d + 6) hC o1 (by omega) o3 ht1.2.1 ht1.2.2 (by rw [hr1 0 (by omega)]; exact h8) hx1'
      rw [e4] at hhas
      have go1 : ∀ r, (if kFr (fun i => kAl q1 (q1.2.2 1 t i - 1) x) (q.2.1 4 t) 0 = 0 then fSr_union_31 (E + d + 9) x2 (nI (q.2.1 7 t)) (nI (lo b t)) (zI (T 4 lo1)) (nI (q.2.1 4 t + 1)) (lS b pb qb (kSs t (q.2.1 4 t) x (kAk t q1)) s) else rI (-1) (lS b pb qb q1 (lF s 6 (nI (T 1 lo1))))) = some r → fSr_union_31 (E + d + 9) x2 (nI (q.2.1 7 t)) (nI (lo b t)) (zI (lo1 + 1)) (nI (q.2.1 4 t)) (lS b pb qb q s) = some r := by
        intro r hr2
        refine go _ ?_
        have hhas' : fSr_hasBranchAs (E + d + 8) (nI (lo b t)) (nI (q.2.1 4 t)) (nI (lo b x)) (lS b pb qb q1 s) = rI (if kFr (fun i => kAl q1 (q1.2.2 1 t i - 1) x) (q.2.1 4 t) 0 = 0 then 0 else 1) (lS b pb qb q1 s) := hhas
        rw [hr, cG_I, if_pos (nI_ne (by omega)), hhas', cG_I]
        by_cases hz : kFr (fun i => kAl q1 (q1.2.2 1 t i - 1) x) (q.2.1 4 t) 0 = 0
        · rw [if_pos hz] at hr2
          rw [if_pos (by rw [if_pos hz]), ldI_n (by omega) (by omega), lS_25 ht1.2.1 ht1.2.2, nI_addE, stI_n (by omega) (by omega)]
          have hak : lS b pb qb q1 s = lS b pb qb (kAk t q1) s := lS_ak.symm
          have p6 : (kAk t q1).2.1 6 t = q1.2.1 6 t := kAk_r (by omega) (by omega)
          have h3 : (kAk t q1).1 3 = q1.1 3 := rfl
          have hss := lS_ss (b := b) (pb := pb) (qb := qb) (s := s) (q := kAk t q1) (t := t) (i := q.2.1 4 t) (x := x) (by rw [p6, h3]; omega)
          rw [p6] at hss
          rw [hak, hss, ldI_n (by omega) (by omega), ((lS_T (b := b) (pb := pb) (qb := qb) (q := kSs t (q.2.1 4 t) x (kAk t q1)) hT).1 lo1 (by omega)).2.2.2.2.1]
          exact hr2
        · rw [if_neg hz] at hr2
          rw [if_neg (by rw [if_neg hz]; decide), Sr_fail _ hT hG (by omega), cG_I]
          exact hr2
      simp only
      rw [e4]
      by_cases hz : kFr (fun i => kAl q1 (q1.2.2 1 t i - 1) x) (q.2.1 4 t) 0 = 0
      · rw [if_pos hz]
        rw [if_pos hz] at go1
        have hun := kLo_un (x := x) hl1 (by rw [hr1 0 (by omega)]; exact h8) (by rw [e4, e7]; omega) o3
        rw [e4] at hun
        have hih := ih e1 _ _ hch hun.1 (by rw [hun.2.2 0 (by omega) (by omega), hr1 0 (by omega)]; exact h8) (by rw [hun.2.1, hun.2.2 7 (by omega) (by omega), e7]; omega) ?_ ?_ ?_ ?_ ?_
        · rw [hun.2.1, hun.2.2 7 (by omega) (by omega), e7] at hih
          exact lRu_go hih go1
        · intro i hi
          rw [hun.2.1] at hi
          rw [kSs_X]
          by_cases e : i = q.2.1 4 t
          · rw [if_pos ⟨rfl, rfl, e⟩]; omega
          · rw [if_neg (by omega), kAk_Xo (.inr (by omega))]
            exact hx1' i (by omega)
        · rw [kSs_c, if_neg (by omega)]; omega
        · rw [kSs_c, kSs_c, if_neg (by omega), if_neg (by omega)]; omega
        · rw [kSs_c, kSs_c, if_neg (by omega), if_neg (by omega)]; omega
        · rw [kSs_c, kSs_c, if_neg (by omega), if_neg (by omega)]; omega
      · rw [if_neg hz]
        rw [if_neg hz] at go1
        exact ⟨_, go1 _ rfl, lGb_S⟩
theorem Sr_union (cy : lCy b pb qb s T N m l n rec E dep) (d : Nat) {dep0 : Nat} (hd : dep0 + 1 = dep) {v : Nat} (hp : kPrl pb qb T N m q v) (hn1 : q.1 1 + 1 ≤ 6 + q.1 0) (h1 : T 0 v = 1) : lRm b pb qb s (fSr_union (E + d + 9) (nI v) (nI dep0) (lS b pb qb q s)) (kUn T rec v q) := by
  have hcy := cy
  obtain ⟨hC, hT, hG, hre, hrec⟩ := cy
  obtain ⟨hI, hv, hbud, hpool, h40, h54⟩ := hp
  have hlt := jVb_lt hv
  have hm := hG.1
  have hTq := lS_T (b := b) (pb := pb) (qb := qb) (q := q) hT
  have h2le := jVb_2le hG hv h1
  have hn := hI.1
  unfold kUn
  by_cases hL : 0 < T 2 v ∧ T 2 v < 17
  · rw [if_pos hL]
    have hu := kLo_u0 (n := T 2 v) hI hn1 (by omega)
    have hch := jVb_l hv h1
    have hcw := jTl_w hch
    have hw := kWv_eq (T := T) (v := v) hlt.1
    have hwl : 2 ≤ jWt T v := jWt_2 _ (by omega)
    have a : ∀ j, (kAp (q.1 1) (T 2 v) (kSh 8 q)).1 j = if j = 3 then q.1 3 + T 2 v else if j = 1 then q.1 1 + 1 else q.1 j := fun j => rfl
    have a0 := a 0
    have a3 := a 3
    have a4 := a 4
    have a5 := a 5
    have a6 := a 6
    have a7 := a 7
    simp at a0 a3 a4 a5 a6 a7
    have hl31 := Sr_u31 hcy d (x2 := nI dep0) (by rw [nI_add1, hd]) (q0 := q) (t := q.1 1) (e := jE T v) hlt.2 _ _ _ _ hch hu.1 hu.2.1 (by rw [hu.2.2.1, hu.2.2.2]; omega) (fun i hi => by rw [hu.2.2.1] at hi; omega) (by omega) (by omega) (by omega) (by omega)
    rw [hu.2.2.1, hu.2.2.2] at hl31
    have go : ∀ r, fSr_union_31 (E + d + 9) (nI dep0) (nI (T 2 v)) (nI (lo b (q.1 1))) (zI (T 3 v)) (nI 0) (lS b pb qb (kAp (q.1 1) (T 2 v) (kSh 8 q)) s) = some r → fSr_union (E + d + 9) (nI v) (nI dep0) (lS b pb qb q s) = some r := by
      intro r hr
      refine eSr_union (E + d + 8) _ _ _ _ ?_
      have hadd : fSr_add (E + d + 8) (nI 8) (nI v) (nI (T 2 v)) (lS b pb qb q s) = rI (nI (lo b (q.1 1))) (lS b pb qb (kAp (q.1 1) (T 2 v) (kSh 8 q)) s) := Sr_add (E + d + 7) hC (by omega) (by omega) (by omega)
      rw [ldI_n (by omega) (by omega), lT_Z hTq (by omega) (by omega)]
      simp (disch := omega) only [nI_lit 1, nI_lit 16, nI_ltE, nI_leE]
      rw [if_neg (by omega), if_pos (by omega), nI_lit 8, hadd, cG_I, ldI_n (by omega) (by omega), lT_I (lS_T (b := b) (pb := pb) (qb := qb) (q := kAp (q.1 1) (T 2 v) (kSh 8 q)) hT) (by omega) (by omega)]
      exact hr
    cases hul : kUl T rec (q.1 1) (T 2 v) (T 3 v) (kAp (q.1 1) (T 2 v) (kSh 8 q)) with
    | error er =>
      obtain ⟨k0, e0⟩ := er
      rw [hul] at hl31
      obtain ⟨tt, h, hg⟩ := hl31
      exact ⟨tt, go _ h, hg⟩
    | ok q2 =>
      rw [hul] at hl31
      exact go _ hl31
  · rw [if_neg hL]
    have h12 : fSr_union_12 (E + d + 9) (nI v) (lS b pb qb q s) = rI (-1) (lS b pb qb q (lF s 5 (nI (T 1 v)))) := by
      refine eSr_union_12 (E + d + 8) _ _ _ ?_
      rw [Sr_fail _ hT hG (by omega), cG_I]
      rfl
    refine ⟨_, ?_, lGb_S (q := q)⟩
    refine eSr_union (E + d + 8) _ _ _ _ ?_
    rw [ldI_n (by omega) (by omega), lT_Z hTq (by omega) (by omega)]
    simp (disch := omega) only [nI_lit 1, nI_lit 16, nI_ltE, nI_leE]
    by_cases h0 : T 2 v < 1
    · rw [if_pos h0]
      exact h12
    · rw [if_neg h0, if_neg (by omega)]
      exact h12
theorem Sr_coll (cy : lCy b pb qb s T N m l n rec E dep) (d : Nat) {dep0 : Nat} (hd : dep0 + 1 = dep) {v k w : Nat} (hp : kPrl pb qb T N m q v) (hn1 : q.1 1 + 1 ≤ 6 + q.1 0) (h0 : T 0 v = 0) (hk67 : k = 6 ∨ k = 7) (hw : sWd w (kWs (k + 7))) : lRm b pb qb s (fSr_collection (E + d + 9) (nI v) (nI k) w (nI dep0) (lS b pb qb q s)) (kCl T rec v k q) := by
  obtain ⟨hC, hT, hG, hre, hrec⟩ := cy
  obtain ⟨hI, hv, hbud, hpool, h40, h54⟩ := hp
  have hlt := jVb_lt hv
  have hm := hG.1
  have hTq := lS_T (b := b) (pb := pb) (qb := qb) (q := q) hT
  have hn := hI.1
  have hmem : fTx_member (E + d + 8) (nI v) w (lS b pb qb q s) = rI (zI (kMb T v (kWs (k + 7)))) (lS b pb qb q s) := Lt_mb (E + d + 1) hTq hG hw hv h0
  unfold kCl
  have hmle := kMb_le (W := kWs (k + 7)) hv h0
  have hok := fun h => kMb_ok (W := kWs (k + 7)) hv h0 h
  have hm3 := kGm_3 hv h0 (W1 := kWs (k + 7)) (W2 := kWs 15) (W3 := kWs 12) (by rcases hk67 with rfl | rfl <;> decide) (by rcases hk67 with rfl | rfl <;> decide) (by decide)
  generalize kMb T v (kWs (k + 7)) = z at *
  by_cases hz : z = 0
  · rw [if_pos hz]
    refine ⟨_, ?_, lGb_S (q := q)⟩
    refine eSr_collection (E + d + 8) _ _ _ _ _ _ ?_
    rw [hmem, cG_I, hz, if_neg (by decide), Sr_fail _ hT hG (by omega), cG_I]
    rfl
  · rw [if_neg hz]
    have hvz := hok hz
    have har := kLo_ar (k := k) hI hn1 hk67
    have a : ∀ j, (kAk (q.1 1) (kSh k q)).1 j = if j = 2 then q.1 2 + 1 else if j = 1 then q.1 1 + 1 else q.1 j := fun j => rfl
    have a0 := a 0
    have a3 := a 3
    have a4 := a 4
    have a5 := a 5
    have a6 := a 6
    have a7 := a 7
    simp at a0 a3 a4 a5 a6 a7
    have hr := hrec d (z - 1) false (kAk (q.1 1) (kSh k q)) ⟨har.1.1, hvz.1, by omega, by omega, by omega, by omega⟩
    rw [if_neg (by decide), lS_ak] at hr
    have hltq := lo_lt hC (t := q.1 1) (by omega)
    have hadd : fSr_add (E + d + 8) (nI k) (nI v) 0 (lS b pb qb q s) = rI (nI (lo b (q.1 1))) (lS b pb qb (kSh k q) s) := by
      have := Sr_add (b := b) (pb := pb) (qb := qb) (s := s) (q := q) (E + d + 7) hC (k := k) (k0 := 0) (x := nI v) (by omega) (by omega) (by omega)
      rw [lS_ap0] at this
      exact this
    have go : ∀ r, cG (fSr_schemaOf (E + d + 8) (nI (z - 1)) (nI dep) 0 (lS b pb qb (kSh k q) s)) (kI fun v6 s5 => fSr_collection_32 (E + d + 9) (nI (lo b (q.1 1))) v6 s5) = some r → fSr_collection (E + d + 9) (nI v) (nI k) w (nI dep0) (lS b pb qb q s) = some r := by
      intro r hr
      refine eSr_collection (E + d + 8) _ _ _ _ _ _ ?_
      rw [hmem, cG_I, zI_pos (by omega), if_pos (nI_ne (by omega)), hadd, cG_I, if_pos (nI_ne (by omega)), nI_add1, hd]
      exact hr
    cases hrc : rec (z - 1) false (kAk (q.1 1) (kSh k q)) with
    | error er =>
      obtain ⟨k0, e0⟩ := er
      rw [hrc] at hr
      obtain ⟨tt, hr, hg⟩ := hr
      refine ⟨tt, go _ ?_, hg⟩
      rw [hr, cG_I]
      refine eSr_collection_32 (E + d + 8) _ _ _ _ ?_
      rw [if_neg (by decide)]
      rfl
    | ok qx =>
      obtain ⟨q1, x⟩ := qx
      rw [hrc] at hr
      have hr : fSr_schemaOf (E + d + 8) (nI (z - 1)) (nI dep) 0 (lS b pb qb (kSh k q) s) = rI (nI (lo b x)) (lS b pb qb q1 s) := hr
      have hok := hre.1 _ _ _ _ _ har.1.1 hvz.1 hrc
      obtain ⟨o1, o2, o3, _⟩ := hok
      obtain ⟨hl1, hr1, hxx⟩ := kLo_fm har.1 o1 o2
      have hno := o1.1
      have hltx := lo_lt hC (t := x) (by omega)
      refine go _ ?_
      rw [hr, cG_I]
      refine eSr_collection_32 (E + d + 8) _ _ _ _ ?_
      rw [if_pos (nI_ne (by omega)), stI_n (by omega) (by omega), lS_si hl1.2.2.1.2.1 hl1.2.2.1.2.2 (by rw [hr1 0 (by omega), har.2.1]; exact hk67)]
      rfl
end
