/-! PURE: a plain form is no longer than its text: every kind -/
section
variable {T : Nat → Nat → Nat} {N : Nat → Int} {m D : Nat}
theorem kNn_1 {k x : Nat} {q : kP} : (kNn T (q.1 1) x (kSh k q)).2.1 1 (q.1 1) = x + 1 := by
  unfold kNn
  rw [kQ_Q, if_neg (by omega), kQ_Q, if_pos ⟨rfl, rfl⟩]
theorem kPln_len {q : kP} {x : Nat} {W : List Nat} : (kPln T q x W).length = T 2 (q.2.1 1 x - 1) + 21 + (kWs (q.2.1 0 x)).length + W.length := by
  unfold kPln
  rw [List.length_append, List.length_append, List.length_append, List.length_append, List.length_append, kQt_len, kLe_len, kQt_len]
  have a : (kPw 26).length = 8 := rfl
  have b : (kPw 27).length = 8 := rfl
  rw [a, b]
  show 8 + (_ + (8 + (_ + (_ + 1)))) = _
  omega
theorem kPz_U {q : kP} {x B : Nat} (h6 : 6 ≤ x) (h : kPz T q 0 D x (q.2.1 4 x) B) : (kPlU q (kPl T q D) x (q.2.1 4 x) 0 (x + 1)).1.length + (if q.2.1 4 x = 0 then 0 else 1) ≤ B := by
  obtain ⟨f, f0, f1, f2, f3⟩ := h
  have hm := kOc_mono (fun a b => kTt_lt D a b) (fun i hi => (f2 i hi).2)
  have hl := (kPlU_lat (q := q) (rec := kPl T q D) (x := x) (f := f) (q.2.1 4 x) 0 (fun j _ hj => kPl_lat D _ _ _ (by have := hm j 0 (by omega) (by omega); omega) (f2 j (by omega)).2)).2
  rw [f0] at hl
  rw [hl]
  refine Nat.le_trans (kSg_le _ _ (fun j _ _ => ?_)) f3
  show _ ≤ kCo T q 0 x j + _ + 1
  omega
theorem kPz_F {q : kP} {x B : Nat} (h6 : 6 ≤ x) (h : kPz T q 1 D x (q.2.1 4 x) B) : (kPlF T q (kPl T q D) x (q.2.1 4 x) 0 (x + 1)).1.length + (if q.2.1 4 x = 0 then 0 else 1) ≤ B := by
  obtain ⟨f, f0, f1, f2, f3⟩ := h
  have hm := kOc_mono (fun a b => kTt_lt D a b) (fun i hi => (f2 i hi).2)
  have hl := (kPlF_lat (T := T) (q := q) (rec := kPl T q D) (x := x) (f := f) (q.2.1 4 x) 0 (fun j _ hj => kPl_lat D _ _ _ (by have := hm j 0 (by omega) (by omega); omega) (f2 j (by omega)).2)).2
  rw [f0] at hl
  rw [hl]
  refine Nat.le_trans (kSg_le _ _ (fun j _ _ => ?_)) f3
  show _ ≤ kCo T q 1 x j + _ + 1
  unfold kCo
  rw [if_neg (by omega)]
  exact Nat.le_refl _
theorem kBd_pl {rec : kR} (hrec : kRe T N m rec) (hrt : kRt T N m D rec) (hrp : kRp T N m D rec) {q q' : kP} {v x : Nat} {br : Bool} (h : kIv T m q) (hn : q.1 1 + 1 ≤ 6 + q.1 0) (hv : jVb T N m v) (he : kBd T N rec v br q = .ok (q', x)) : (kPl T q' (D + 1) x (q.1 1)).1.length + 1 ≤ kWv T v := by
  have ha := h.1
  have hltv := jVb_lt hv
  have hwv := kWv_eq (T := T) hltv.1
  have known : ∀ w, T 0 w = 2 → kKn T w q = .ok (q', x) → (kPl T q' (D + 1) x (q.1 1)).1.length + 1 ≤ jWt T w := by
    intro w h2 hk
    have hjw : jWt T w = T 2 w + 3 := by unfold jWt; rw [if_pos h2]
    rw [hjw]
    unfold kKn at hk
    split at hk
    · rename_i hw
      cases hk
      have hf := kFr_1 _ _ hw
      have hw6 : kWd T w - 1 < 6 := by unfold kWd; omega
      have hj : jTw T w (kWs (kWd T w - 1)) = true := hf.2.2
      have hjl := jTw_w hj
      rw [kPl_old (by omega), if_pos hw6]
      show (kQt (kWs (kWd T w - 1))).length + 1 ≤ _
      rw [kQt_len]
      omega
    · split at hk
      · rename_i hd
        cases hk
        have hdf := kDf_ok h hd
        have hsm : T 2 (q.2.1 1 (kDf T q w - 1) - 1) = T 2 w := by
          have := hdf.2.2.2.1
          unfold jSm at this
          exact (of_decide_eq_true this).1
        rw [kPl_old (by omega), if_neg (by omega)]
        show (kQt (kLe T (q.2.1 1 (kDf T q w - 1) - 1))).length + 1 ≤ _
        rw [kQt_len, kLe_len]
        omega
      · cases hk
  unfold kBd at he
  split at he
  · rename_i h2
    have := known v h2 he
    omega
  · split at he
    · rename_i h1
      split at he
      · cases he
      · unfold kUn at he
        split at he
        case isFalse => cases he
        rename_i hL
        split at he
        · cases he
        · rename_i q2 hy
          cases he
          have hu := kLo_u0 (n := T 2 v) h hn (by omega)
          have hch := jVb_l hv h1
          have hok := kUl_ok hrec _ _ _ _ _ hch hu.1 hu.2.1 (by rw [hu.2.2.1, hu.2.2.2]; omega) hy
          have htt := kUl_tt hrec hrt _ _ _ _ _ hch hu.1 hu.2.1 (by rw [hu.2.2.1, hu.2.2.2]; omega) (by rw [hu.2.2.1]; exact kPf_0 rfl) (fun i hi => by rw [hu.2.2.1] at hi; omega) hy
          have hpz := kUl_pl hrec hrt hrp _ _ _ _ _ 0 (jSw T (jE T v) - jSw T (v + 1)) hch hu.1 hu.2.1 (by rw [hu.2.2.1, hu.2.2.2]; omega) (by rw [hu.2.2.1]; exact kPz_0 rfl) (by omega) hy
          obtain ⟨i1, i2, i3, i4, i5⟩ := htt
          have hU := kPz_U (by omega) hpz
          rw [hu.2.2.2] at i3
          rw [if_neg (by omega)] at hU
          rw [kPl_new (by omega) (by omega)]
          unfold kPlB
          rw [if_neg (by omega), if_pos i4]
          simp only
          rw [List.length_append, List.length_append]
          show 1 + (_ + 1) + 1 ≤ _
          have := jWt_2 (T := T) v (by omega)
          omega
    · split at he
      · rename_i h0
        unfold kOb at he
        split at he
        case isFalse => cases he
        rename_i ht
        have mt := kMb_ok hv h0 ht.1
        have hwt := kWv_eq (T := T) (jVb_lt mt.1).1
        have hjt : jWt T (kMb T v (kWs 12) - 1) = T 2 (kMb T v (kWs 12) - 1) + 3 := by unfold jWt; rw [if_pos ht.2]
        have l12 : (kWs 12).length = 4 := rfl
        split at he
        · rename_i h78
          have hkt := kKt_1 (T := T) (v := kMb T v (kWs 12) - 1) (by omega)
          have hk67 : kKt T (kMb T v (kWs 12) - 1) - 1 = 6 ∨ kKt T (kMb T v (kWs 12) - 1) - 1 = 7 := by omega
          have hjl := jTw_w hkt.2.2
          generalize kKt T (kMb T v (kWs 12) - 1) - 1 = k at *
          unfold kCl at he
          split at he
          · cases he
          · rename_i hz
            split at he
            · cases he
            · rename_i q1 y hr
              cases he
              have m1 := kMb_ok hv h0 hz
              have hg3 : 2 + kGm T v (kWs 12) + kGm T v (kWs (k + 7)) + kGm T v (kWs 18) ≤ kWv T v := by
                rcases hk67 with rfl | rfl
                · exact kGm_3 hv h0 (by decide) (by decide) (by decide)
                · exact kGm_3 hv h0 (by decide) (by decide) (by decide)
              rw [mt.2.2, m1.2.2] at hg3
              have har := kLo_ar (k := k) h hn hk67
              have hok := hrec.1 _ _ _ _ _ har.1.1 m1.1 hr
              have hoc := hrt _ _ _ _ _ har.1.1 m1.1 hr
              have hpl := hrp _ _ _ _ _ har.1.1 m1.1 hr
              obtain ⟨o1, o2, o3, _⟩ := hok
              obtain ⟨hl1, hr1, hx1⟩ := kLo_fm har.1 o1 o2
              have hR : ∀ r s', r = 0 ∨ r = 1 ∨ r = 4 ∨ r = 7 ∨ r = 8 → (kSi (q.1 1) y q1).2.1 r s' = q1.2.1 r s' := fun r s' a => by rw [kSi_Q, if_neg (by omega), if_neg (by omega)]
              have k0 : (kSi (q.1 1) y q1).2.1 0 (q.1 1) = k := by rw [hR 0 _ (by omega), hr1 0 (by omega), har.2.1]
              have c1 : (kAk (q.1 1) (kSh k q)).1 1 = q.1 1 + 1 := rfl
              rw [c1] at hoc hpl
              have hx0 : (kSi (q.1 1) y q1).2.2 1 (q.1 1) 0 = y + 1 := by rw [kSi_X, if_pos ⟨rfl, rfl, rfl⟩]
              have hfr := kPl_fr (T := T) (q := q1) (q' := kSi (q.1 1) y q1) D y (q.1 1 + 1) (q1.1 1) (by omega) hoc.1 (fun r s' a b c => hR r s' (by omega)) (fun z _ => hR 1 z (by omega)) (fun r s' i a b c => by rw [kSi_X, if_neg (by omega)])
              rw [kPl_new (by omega) (by omega)]
              unfold kPlB
              rw [k0, if_pos hk67, hx0, Nat.add_sub_cancel, hfr]
              simp only
              rw [List.length_append, List.length_append, List.length_append, List.length_append, List.length_append, kQt_len]
              have b24 : (kPw 24).length = 8 := rfl
              have hk7 : (kWs (k + 7)).length = (kPw (if k = 6 then 23 else 25)).length - 3 ∧ 3 ≤ (kPw (if k = 6 then 23 else 25)).length := by
                rcases hk67 with rfl | rfl <;> decide
              rw [b24]
              show 8 + (_ + (1 + (_ + (_ + 1)))) + 1 ≤ _
              omega
        · split at he
          · rename_i h9
            have hkt := kKt_1 (T := T) (v := kMb T v (kWs 12) - 1) (by omega)
            have hk9 : 9 ≤ kKt T (kMb T v (kWs 12) - 1) - 1 ∧ kKt T (kMb T v (kWs 12) - 1) - 1 ≤ 11 := by omega
            have hjl := jTw_w hkt.2.2
            generalize kKt T (kMb T v (kWs 12) - 1) - 1 = k at *
            unfold kNa at he
            split at he
            case isFalse => cases he
            rename_i hnm
            split at he
            case isFalse => cases he
            rename_i hna
            have m1 := kMb_ok hv h0 hnm.1
            have hlt1 := jVb_lt m1.1
            have hwn := kWv_eq (T := T) hlt1.1
            have hnw := kNam_w hna.1
            have l15 : (kWs 15).length = 4 := rfl
            have e15 : kMb T v (kWs 15) - 1 + 1 - 1 = kMb T v (kWs 15) - 1 := Nat.add_sub_cancel _ _
            have hl0 := kLo_nn (k := k) (x := kMb T v (kWs 15) - 1) h hn hk9 (by omega) hna.1
            have r0 := kNn_r (T := T) (k := k) (x := kMb T v (kWs 15) - 1) (q := q) (r := 0) (by omega)
            have r4 := kNn_r (T := T) (k := k) (x := kMb T v (kWs 15) - 1) (q := q) (r := 4) (by omega)
            rw [if_pos rfl] at r0
            rw [if_neg (by omega), if_neg (by omega)] at r4
            have r1 := kNn_1 (T := T) (k := k) (x := kMb T v (kWs 15) - 1) (q := q)
            have c1 : (kNn T (q.1 1) (kMb T v (kWs 15) - 1) (kSh k q)).1 1 = q.1 1 + 1 := rfl
            have hg : ∀ W, W = kWs 16 ∨ W = kWs 17 ∨ W = kWs 19 → 2 + kGm T v (kWs 15) + kGm T v (kWs 12) + kGm T v W ≤ kWv T v := by
              intro W hW
              rcases hW with rfl | rfl | rfl
              · exact kGm_3 hv h0 (by decide) (by decide) (by decide)
              · exact kGm_3 hv h0 (by decide) (by decide) (by decide)
              · exact kGm_3 hv h0 (by decide) (by decide) (by decide)
            rw [m1.2.2, mt.2.2] at hg
            generalize kNn T (q.1 1) (kMb T v (kWs 15) - 1) (kSh k q) = qn at *
            split at he
            · rename_i hk
              unfold kFx at he
              split at he
              · cases he
              · rename_i hz
                have m2 := kMb_ok hv h0 hz
                split at he
                · rename_i hs
                  cases he
                  have hg3 := hg (kWs 16) (.inl rfl)
                  rw [m2.2.2] at hg3
                  have hw2 := kWv_eq (T := T) (jVb_lt m2.1).1
                  have hj2 : jWt T (kMb T v (kWs 16) - 1) = T 2 (kMb T v (kWs 16) - 1) + 1 := by unfold jWt; rw [if_neg (by omega), if_pos hs.1]
                  have habs := jVb_abs m2.1 hs.1
                  generalize kMb T v (kWs 16) - 1 = w at *
                  have k0 : ∀ z, (kQ qn 8 (q.1 1) z).2.1 0 (q.1 1) = 9 := fun z => by rw [kQ_Q, if_neg (by omega), r0, hk]
                  have k1 : ∀ z, (kQ qn 8 (q.1 1) z).2.1 1 (q.1 1) = qn.2.1 1 (q.1 1) := fun z => by rw [kQ_Q, if_neg (by omega)]
                  have k8 : ∀ z, (kQ qn 8 (q.1 1) z).2.1 8 (q.1 1) = z := fun z => by rw [kQ_Q, if_pos ⟨rfl, rfl⟩]
                  rw [kPl_new (by omega) (by omega)]
                  unfold kPlB
                  rw [k0, if_neg (by omega), if_neg (by omega), if_pos rfl]
                  simp only
                  rw [kPln_len, k0, k1, k8, r1, e15, List.length_append]
                  have b28 : (kPw 28).length = 8 := rfl
                  have l9 : (kWs 9).length = 5 := rfl
                  have l16 : (kWs 16).length = 4 := rfl
                  have hdg : (kDg ((N w).toNat + 1 - 1)).length ≤ T 2 w := by
                    unfold kDg
                    split
                    · show 2 ≤ T 2 w
                      rename_i h10
                      by_cases h1 : T 2 w = 1
                      · rw [h1] at habs
                        omega
                      · omega
                    · show 1 ≤ T 2 w
                      omega
                  subst hk
                  omega
                · cases he
            · split at he
              · rename_i hk
                unfold kEn at he
                split at he
                · cases he
                · rename_i hz
                  have m2 := kMb_ok hv h0 hz
                  split at he
                  · rename_i hL
                    split at he
                    · cases he
                    · rename_i q2 hy
                      have hap := kLo_ap (n := T 2 (kMb T v (kWs 17) - 1)) hl0 (by omega) r4 (by omega)
                      have hch := jVb_l m2.1 hL.1
                      have hyl := kYl_ok _ _ _ _ _ hch hap.1 (by rw [hap.2.1 0 (by omega), r0]; omega) (by rw [hap.2.1 4 (by omega), hap.2.2, r4]; omega) hy
                      obtain ⟨i1, i2, i3, i4, i5, i6, i7⟩ := hyl
                      rw [hap.2.1 4 (by omega), r4] at i6
                      rw [hap.2.1 0 (by omega), r0, hk] at i7
                      have hg3 := hg (kWs 17) (.inr (.inl rfl))
                      rw [m2.2.2] at hg3
                      have hw2 := kWv_eq (T := T) (jVb_lt m2.1).1
                      have hj2 := jWt_2 (T := T) (kMb T v (kWs 17) - 1) (by omega)
                      have hpy := kYl_pl _ _ _ _ _ 0 (jSw T (jE T (kMb T v (kWs 17) - 1)) - jSw T (kMb T v (kWs 17) - 1 + 1)) hch (by rw [hap.2.1 4 (by omega), r4]; exact Nat.le_refl _) (by omega) hy
                      have a1 : (kAp (q.1 1) (T 2 (kMb T v (kWs 17) - 1)) qn).2.1 1 (q.1 1) = qn.2.1 1 (q.1 1) := by
                        rw [kAp_Q, if_neg (by omega), if_neg (by omega), if_neg (by omega), if_neg (by omega), if_neg (by omega)]
                      rw [a1, r1] at hpy
                      have hyl2 := kPlY_len (T := T) (q := q2) (x := q.1 1) (q2.2.1 4 (q.1 1)) 0
                      rw [if_neg (by omega)] at hyl2
                      have b29 : (kPw 29).length = 12 := rfl
                      have l10 : (kWs 10).length = 4 := rfl
                      have l17 : (kWs 17).length = 7 := rfl
                      have fin : ∀ q3 : kP, (∀ r, r = 0 ∨ r = 1 ∨ r = 4 → q3.2.1 r (q.1 1) = q2.2.1 r (q.1 1)) → q3.2.2 = q2.2.2 → (kPl T q3 (D + 1) (q.1 1) (q.1 1)).1.length + 1 ≤ kWv T v := by
                        intro q3 h3 hX
                        rw [kPl_new (by omega) (by omega)]
                        unfold kPlB
                        rw [h3 0 (by omega), i7, if_neg (by omega), if_neg (by omega), if_neg (by omega), if_pos rfl]
                        simp only
                        rw [kPln_len, h3 0 (by omega), h3 1 (by omega), h3 4 (by omega), i7, hpy.2, e15, List.length_append, List.length_append, kPlY_cg (q := q2) (q' := q3) _ _ (fun j _ _ => by rw [hX])]
                        show _ + (12 + (_ + 1)) + 1 ≤ _
                        subst hk
                        omega
                      split at he
                      · cases he
                        exact fin _ (fun _ _ => rfl) rfl
                      · split at he
                        · cases he
                          exact fin _ (fun r hr => by rw [kQ_Q, if_neg (by omega)]) rfl
                        · cases he
                  · cases he
              · rename_i hk9' hk10
                unfold kRc at he
                split at he
                · cases he
                · rename_i hz
                  have m2 := kMb_ok hv h0 hz
                  split at he
                  · rename_i hL
                    split at he
                    · cases he
                    · rename_i q2 hy
                      cases he
                      have hap := kLo_ap (n := T 2 (kMb T v (kWs 19) - 1)) hl0 (by omega) r4 (by omega)
                      have hch := jVb_l m2.1 hL.1
                      have hg3 := hg (kWs 19) (.inr (.inr rfl))
                      rw [m2.2.2] at hg3
                      have hw2 := kWv_eq (T := T) (jVb_lt m2.1).1
                      have htt := kFl_tt hrec hrt _ _ _ _ _ hch hap.1 (by rw [hap.2.1 0 (by omega), r0]; omega) (by rw [hap.2.1 4 (by omega), hap.2.2, r4]; omega) (by rw [hap.2.1 4 (by omega), r4]; exact kPf_0 c1) hy
                      have hpz := kFl_pl hrec hrt hrp _ _ _ _ _ 0 (jSw T (jE T (kMb T v (kWs 19) - 1)) - jSw T (kMb T v (kWs 19) - 1 + 1)) hch hap.1 (by rw [hap.2.1 0 (by omega), r0]; omega) (by rw [hap.2.1 4 (by omega), hap.2.2, r4]; omega) (by rw [hap.2.1 4 (by omega), r4]; exact kPz_0 c1) (by omega) hy
                      obtain ⟨i1, i2, i3⟩ := htt
                      obtain ⟨p1, p2, p3⟩ := hpz
                      rw [hap.2.1 4 (by omega), r4, Nat.zero_add] at p3
                      have a1 : (kAp (q.1 1) (T 2 (kMb T v (kWs 19) - 1)) qn).2.1 1 (q.1 1) = qn.2.1 1 (q.1 1) := by
                        rw [kAp_Q, if_neg (by omega), if_neg (by omega), if_neg (by omega), if_neg (by omega), if_neg (by omega)]
                      rw [a1, r1] at p2
                      have hF := kPz_F (by omega) p1
                      have b30 : (kPw 30).length = 11 := rfl
                      have l11 : (kWs 11).length = 6 := rfl
                      have l19 : (kWs 19).length = 6 := rfl
                      have hk11 : k = 11 := by omega
                      rw [kPl_new (by omega) (by omega)]
                      unfold kPlB
                      rw [i3, if_neg (by omega), if_neg (by omega), if_neg (by omega), if_neg (by omega)]
                      simp only
                      rw [kPln_len, i3, p2, e15, List.length_append, List.length_append]
                      show _ + (11 + (_ + 1)) + 1 ≤ _
                      rw [hk11] at hjl
                      have hj2 := jWt_2 (T := T) (kMb T v (kWs 19) - 1) (by omega)
                      by_cases hz0 : q'.2.1 4 (q.1 1) = 0
                      · have hj3 : jWt T (kMb T v (kWs 19) - 1) = 3 := by
                          rw [← p3, hz0] at hch
                          have h7 : kMb T v (kWs 19) - 1 + 1 = jE T (kMb T v (kWs 19) - 1) := hch.2
                          unfold jE at h7
                          rw [if_pos (by omega)] at h7
                          unfold jWt
                          rw [if_neg (by omega), if_neg (by omega), if_pos (by omega), if_pos h7.symm]
                        rw [if_pos hz0] at hF
                        rw [← p3, hz0] at hch
                        have h8 : kMb T v (kWs 19) - 1 + 1 = jE T (kMb T v (kWs 19) - 1) := hch.2
                        rw [← h8] at hF
                        omega
                      · rw [if_neg hz0] at hF
                        omega
                  · cases he
          · have hk := known _ ht.2 he
            have hg3 := kGm_3 (W1 := kWs 12) (W2 := kWs 15) (W3 := kWs 18) hv h0 (by decide) (by decide) (by decide)
            rw [mt.2.2] at hg3
            omega
      · cases he
theorem kSo_pl : ∀ D, kRp T N m D (kSo T N D) := by
  intro D
  induction D with
  | zero =>
    intro v br q q' x _ _ h
    unfold kSo at h
    split at h <;> cases h
  | succ D ih =>
    intro v br q q' x hi hv h
    unfold kSo at h
    split at h
    · rename_i hl
      have hc := kIv_c0 hi hl
      exact kBd_pl (q := kC q 0 (q.1 0 + 1)) (kSo_ok D) (kSo_tt D) ih hc.1 hc.2.1 hv h
    · cases h
end
