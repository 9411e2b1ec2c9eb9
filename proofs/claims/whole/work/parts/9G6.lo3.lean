/-! the lake's Looker: fields, items, blocks -/
theorem cQ_abs {v : Int64} {K : Int64 → aRs} : cQ 912 [.long v] K = K (if 0 < v then v else -v) := rfl
theorem v_abs {v : Int64} (h1 : -9223372036854775807 ≤ v.toInt) : (if 0 < v then v else -v).toInt = v.toInt.natAbs := by
  have h0 : (0 < v) = (0 < v.toInt) := by
    apply propext
    rw [Int64.lt_iff_toInt_lt]
    rfl
  have h2 := Int64.toInt_lt v
  by_cases h : 0 < v.toInt
  · rw [if_pos (by rw [h0]; exact h)]
    omega
  · rw [if_neg (by rw [h0]; exact h), Int64.toInt_neg, Int.bmod_eq_of_le (by omega) (by omega)]
    omega
/-- what a Looker stands on -/
def lKc (A : Nat) (B : Nat → Nat) (n b pb qb : Nat) (q : kP) (T : Nat → Nat → Nat) (m : Nat) (t : aT) : Prop := lIn A B n t ∧ lV b pb qb q t ∧ kIv T m q ∧ kCd q
/-- what is known about the data inside -/
def lKd (B : Nat → Nat) (n b : Nat) (q : kP) (t : aT) (D F : Nat) (rec : kDr) : Prop := ∀ d x p y x2, x < q.1 1 → lKo n p → x2 + D = 32 → lKr t (fLo_datum (F + d) (nI (lo b x)) (nI x2) (oK p y t)) (rec x p)
section
variable {A n b pb qb m D F : Nat} {B : Nat → Nat} {q : kP} {T : Nat → Nat → Nat} {t : aT} {p : kB} {y : Int64} {rec : kDr}
theorem oK_V (hv : lV b pb qb q t) : lV b pb qb q (oK p y t) := lV_fr (fun k i h1 h2 => oK_o (by omega)) hv
theorem kCd_p (hI : kIv T m q) (hcd : kCd q) {x i : Nat} (h6 : 6 ≤ x) (hx : x < q.1 1) (h9 : q.2.1 0 x ≠ 9) (h10 : q.2.1 0 x ≠ 10) (hi : i < q.2.1 4 x) : q.2.2 1 x i ≠ 0 ∧ q.2.2 1 x i - 1 < q.1 1 := by
  have h1 := (hcd x h6 hx).2 h9 h10 i hi
  have h2 := (hI.2.2.2.1 x i h6 hx hi).2.2.2.1
  have := hI.1
  exact ⟨h1, by omega⟩
theorem Lo_fi (hK : lKc A B n b pb qb q T m t) (hr : kRg n rec) (hrec : lKd B n b q t D F rec) (d : Nat) {x x2 : Nat} (h6 : 6 ≤ x) (hx : x < q.1 1) (h11 : q.2.1 0 x = 11) (h32 : x2 + 1 + D = 32) : ∀ k i p y, i + k = q.2.1 4 x → lKo n p → lKr t (fLo_fields_2 (F + d + 1) (nI (lo b x)) (nI x2) (nI i) (oK p y t)) (kFs q rec x k i p) := by
  obtain ⟨hin, hv, hI, hcd⟩ := hK
  have hlx := lV_lo hv hx
  have h47 := (hcd x h6 hx).1.2.2.2.2 (by omega) (by omega)
  have h732 := (hI.2.2.1 x h6 hx).2.2.2.2.2.2.2
  have e26 : ∀ p y, gI (oK p y t) 26 (lo b x) = nI (q.2.1 7 x) := fun p y => by rw [oK_o (by omega)]; exact (hv.2.2.2.1 x h6 hx).2.2.2.1
  intro k
  induction k with
  | zero =>
    intro i p y hi ho
    refine ⟨y, eLo_fields_2 (F + d) _ _ _ _ _ ?_⟩
    rw [ldI_n hlx (by omega), e26]
    simp (disch := omega) only [nI_leE]
    rw [if_pos (by omega)]
    rfl
  | succ k ih =>
    intro i p y hi ho
    obtain ⟨c1, c2⟩ := kCd_p hI hcd h6 hx (by omega) (by omega) (show i < q.2.1 4 x by omega)
    have hps := lV_ps (oK_V (p := p) (y := y) hv) hI (F + d) h6 hx (by omega) (show i < q.2.1 4 x by omega) c1
    have hd := hrec d (q.2.2 1 x i - 1) p y (x2 + 1) c2 ho h32
    have go : ∀ r, cG (fLo_datum (F + d) (nI (lo b (q.2.2 1 x i - 1))) (nI (x2 + 1)) (oK p y t)) (kI fun v5 s4 => if ¬ v5 = 0 then fLo_fields_2 (F + d + 1) (nI (lo b x)) (nI x2) (nI (i + 1)) s4 else rI 0 s4) = some r → fLo_fields_2 (F + d + 1) (nI (lo b x)) (nI x2) (nI i) (oK p y t) = some r := by
      intro r hr
      refine eLo_fields_2 (F + d) _ _ _ _ _ ?_
      rw [ldI_n hlx (by omega), e26]
      simp (disch := omega) only [nI_leE]
      rw [if_neg (by omega), hps, cG_I, nI_add1 x2, nI_add1 i]
      exact hr
    unfold kFs
    cases hk : rec (q.2.2 1 x i - 1) p with
    | error e =>
      rw [hk] at hd
      exact lKf_cg hd go (fun _ => rfl)
    | ok p1 =>
      rw [hk] at hd
      obtain ⟨y1, hd⟩ := hd
      have hg := hr _ _ _ ho.1 ho.2.2.2.1 hk
      refine lKr_go (ih (i + 1) p1 y1 (by omega) (lKo_go ho hg)) (fun r hr2 => go r ?_)
      rw [hd, cG_I, if_pos (by decide)]
      exact hr2
/-- what a block's end answers -/
def kBe2 (v w : Int64) (a2 e : Nat) (x : kBe) : kBe := match x with
  | .error e => .error e
  | .ok p3 => if v.toInt < 0 ∧ w.toInt ≠ ((p3.1 - a2 : Nat) : Int) then .error (6, e) else .ok p3
theorem Lo_b20 (hK : lKc A B n b pb qb q T m t) (hr : kRg n rec) (hrec : lKd B n b q t D F rec) (hF : 8 ≤ F) (d : Nat) {x x2 : Nat} (h6 : 6 ≤ x) (hx : x < q.1 1) (h67 : q.2.1 0 x = 6 ∨ q.2.1 0 x = 7) (h32 : x2 + 1 + D = 32) {v w : Int64} {a2 e : Nat} (hv0 : v.toInt ≠ 0) (hv1 : v.toInt.natAbs ≤ 2000) : ∀ k j p y, j + k = v.toInt.natAbs → a2 ≤ p.1 → lKo n p → lKr t (fLo_block_20 (F + d + 1) (nI (lo b x)) v (nI x2) (nI e) w (nI a2) (nI j) (oK p y t)) (kBe2 v w a2 e (kIs2 q B n rec x k p)) := by
  obtain ⟨hin, hv, hI, hcd⟩ := hK
  have hlx := lV_lo hv hx
  have hA := hin.2.2.1
  obtain ⟨F0, hF0⟩ : ∃ F0, F + d = F0 + 5 := ⟨F + d - 5, by omega⟩
  have h41 := (hcd x h6 hx).1.2.2.1 h67
  obtain ⟨c1, c2⟩ := kCd_p hI hcd h6 hx (by omega) (by omega) (show 0 < q.2.1 4 x by omega)
  have h18 := ((hI.2.2.1 x h6 hx).2.2.2.2.1 h67).2.2
  rw [if_neg (by omega)] at h18
  have e23 : ∀ p y, gI (oK p y t) 23 (lo b x) = nI (q.2.1 0 x) := fun p y => by rw [oK_o (by omega)]; exact (hv.2.2.2.1 x h6 hx).1
  have e27 : ∀ p y, gI (oK p y t) 27 (lo b x) = nI (lo b (q.2.2 1 x 0 - 1)) := fun p y => by
    rw [oK_o (by omega), (hv.2.2.2.1 x h6 hx).2.2.2.2, if_pos h67, h18]
    unfold zL
    rw [if_neg c1]
  have habs := v_abs (v := v) (by omega)
  have ecmp : ∀ j, j ≤ 4000 → (0 ≤ aLcmp (nI j).toInt64 (if 0 < v then v else -v)) = (v.toInt.natAbs ≤ j) := fun j hj => by
    rw [aLcmp_ge, habs, nI_long (by omega), Int64.toInt_ofNat_of_lt (by omega)]
    apply propext
    omega
  intro k
  induction k with
  | zero =>
    intro j p y hj ha2 ho
    have hp := ho.1
    have etold : (aLcmp ((gI (oK p y t) 46 1) - nI a2).toInt64 w = 0) = (((p.1 - a2 : Nat) : Int) = w.toInt) := by
      rw [aLcmp_eq, oK_at, nI_sub ha2, nI_long (by omega), Int64.toInt_ofNat_of_lt (by omega)]
    have go : ∀ r, (if 0 < aLcmp v 0 then rI 1 (oK p y t) else if aLcmp ((gI (oK p y t) 46 1) - nI a2).toInt64 w = 0 then rI 1 (oK p y t) else cG (fLo_fail (F + d) (nI 6) (nI e) (oK p y t)) (kI fun v3 s2 => if v3 = 0 then rI 0 s2 else rI 1 s2)) = some r → fLo_block_20 (F + d + 1) (nI (lo b x)) v (nI x2) (nI e) w (nI a2) (nI j) (oK p y t) = some r := by
      intro r hr
      rw [hF0] at hr ⊢
      refine eLo_block_20 F0 _ _ _ _ _ _ _ _ _ ?_
      rw [cQ_abs]
      simp only [ecmp j (by omega)]
      rw [if_pos (by omega)]
      exact hr
    show lKr t _ (if v.toInt < 0 ∧ w.toInt ≠ ((p.1 - a2 : Nat) : Int) then .error (6, e) else .ok p)
    have h0 : (0 < aLcmp v 0) = (0 < v.toInt) := by rw [aLcmp_gt]; rfl
    by_cases hpos : 0 < v.toInt
    · rw [if_neg (by omega)]
      refine ⟨y, go _ ?_⟩
      rw [if_pos (by rw [h0]; exact hpos)]
      rfl
    · by_cases hw : w.toInt = ((p.1 - a2 : Nat) : Int)
      · rw [if_neg (by omega)]
        refine ⟨y, go _ ?_⟩
        rw [if_neg (by rw [h0]; exact hpos), if_pos (by rw [etold]; omega)]
        rfl
      · rw [if_pos ⟨by omega, hw⟩]
        refine lKf_cg (K := fun v3 s2 => if v3 = 0 then rI 0 s2 else rI 1 s2) (Lo_fail (F + d) (p := p) (y := y)) (fun r hr => go r ?_) (fun _ => rfl)
        rw [if_neg (by rw [h0]; exact hpos), if_neg (by rw [etold]; omega)]
        exact hr
  | succ k ih =>
    intro j p y hj ha2 ho
    have g39 : ∀ p1 y1, lKo n p1 → p.1 ≤ p1.1 → lKr t (fLo_block_36 (F + d + 1) (nI (lo b x)) v (nI x2) (nI e) w (nI a2) (nI j) (oK p1 y1 t)) (kBe2 v w a2 e (match rec (q.2.2 1 x 0 - 1) p1 with | .error e => .error e | .ok p2 => kIs2 q B n rec x k p2)) := by
      intro p1 y1 ho1 hle
      have hd := hrec d (q.2.2 1 x 0 - 1) p1 y1 (x2 + 1) c2 ho1 h32
      have go : ∀ r, cG (fLo_datum (F + d) (nI (lo b (q.2.2 1 x 0 - 1))) (nI (x2 + 1)) (oK p1 y1 t)) (kI fun v3 s2 => if ¬ v3 = 0 then fLo_block_20 (F + d + 1) (nI (lo b x)) v (nI x2) (nI e) w (nI a2) (nI (j + 1)) s2 else rI 0 s2) = some r → fLo_block_36 (F + d + 1) (nI (lo b x)) v (nI x2) (nI e) w (nI a2) (nI j) (oK p1 y1 t) = some r := by
        intro r hr
        rw [hF0] at hr ⊢
        refine eLo_block_36 F0 _ _ _ _ _ _ _ _ _ ?_
        refine eLo_block_39 F0 _ _ _ _ _ _ _ _ _ _ ?_
        rw [if_neg (by decide), ldI_n hlx (by omega), e27, nI_add1 x2, nI_add1 j]
        exact hr
      cases hk : rec (q.2.2 1 x 0 - 1) p1 with
      | error e' =>
        rw [hk] at hd
        exact lKf_cg hd go (fun _ => rfl)
      | ok p2 =>
        rw [hk] at hd
        obtain ⟨y2, hd⟩ := hd
        have hg := hr _ _ _ ho1.1 ho1.2.2.2.1 hk
        refine lKr_go (ih (j + 1) p2 y2 (by omega) (by have := hg.1; omega) (lKo_go ho1 hg)) (fun r hr2 => go r ?_)
        rw [hd, cG_I, if_pos (by decide)]
        exact hr2
    have e7 : (nI (q.2.1 0 x) = 7) = (q.2.1 0 x = 7) := nI_eqE (b := 7) (by omega) (by omega)
    have go : ∀ r, (if ¬ q.2.1 0 x = 7 then fLo_block_36 (F + d + 1) (nI (lo b x)) v (nI x2) (nI e) w (nI a2) (nI j) (oK p y t) else cG (fLo_countedBytes (F + d) (oK p y t)) (kI fun v6 s5 => if v6 = 0 then fLo_block_39 (F + d + 1) (nI (lo b x)) v (nI x2) (nI e) w (nI a2) (nI j) 0 s5 else fLo_block_36 (F + d + 1) (nI (lo b x)) v (nI x2) (nI e) w (nI a2) (nI j) s5)) = some r → fLo_block_20 (F + d + 1) (nI (lo b x)) v (nI x2) (nI e) w (nI a2) (nI j) (oK p y t) = some r := by
      intro r hr
      rw [hF0] at hr ⊢
      refine eLo_block_20 F0 _ _ _ _ _ _ _ _ _ ?_
      rw [cQ_abs]
      simp only [ecmp j (by omega)]
      rw [if_neg (by omega), ldI_n hlx (by omega), e23]
      simp only [e7]
      exact hr
    unfold kIs2 kIm
    by_cases h7 : q.2.1 0 x = 7
    · rw [if_neg (fun e => e h7)] at go
      rw [if_pos h7]
      have hst := Lo_str (y := y) hin ho (d := F + d) (by omega)
      cases hk : kSt B n p with
      | error e' =>
        rw [hk] at hst
        refine lKf_cg hst go (fun s => ?_)
        show fLo_block_39 (F + d + 1) (nI (lo b x)) v (nI x2) (nI e) w (nI a2) (nI j) 0 s = rI 0 s
        rw [hF0]
        refine eLo_block_39 F0 _ _ _ _ _ _ _ _ _ _ ?_
        rfl
      | ok p1 =>
        rw [hk] at hst
        obtain ⟨y1, hst⟩ := hst
        have hg := kSt_go hin.2.2.2.2 hk
        refine lKr_go (g39 p1 y1 (lKo_go ho hg) hg.1) (fun r hr2 => go r ?_)
        rw [hst, cG_I, if_neg (by decide)]
        exact hr2
    · rw [if_pos h7] at go
      rw [if_neg h7]
      exact lKr_go (g39 p y ho (Nat.le_refl _)) go
end
