/-! the reference's looking: items, lists -/
def mKc (c : Nat) (B : Nat → Nat) (n : Nat) (q : kP) (T : Nat → Nat → Nat) (m : Nat) (t : aT) : Prop := isT c ∧ mIn B n t ∧ mV c q t ∧ kIv T m q ∧ kCd q ∧ q.1 2 ≤ 2200
def mKd (c n : Nat) (q : kP) (t : aT) (u : Bool) (D F : Nat) (rec : kDr) : Prop := ∀ d x p x3, x < q.1 1 → mKo n p → x3 + D = 32 → mKr u t (fMo_datum (F + d) c (nI x) (nI x3) (uF u) (oM u p t)) (rec x p)
theorem isT_r {c : Nat} (h : isT c) : 69 ≤ c ∧ c ≤ 113 := by
  unfold isT at h
  simp only [List.mem_cons, List.not_mem_nil, or_false] at h
  omega
section
variable {c n m D F : Nat} {B : Nat → Nat} {q : kP} {T : Nat → Nat → Nat} {t : aT} {p : kB} {u : Bool} {rec : kDr}
theorem mKc_r (hK : mKc c B n q T m t) {x : Nat} (hx : x < q.1 1) (p : kB) : gI (oM u p t) (c + 9) x = nI (q.2.1 0 x) ∧ (6 ≤ x → gI (oM u p t) (c + 12) x = zI (kKd q x 0) ∧ gI (oM u p t) (c + 13) x = nI (q.2.1 4 x) ∧ gI (oM u p t) (c + 11) x = nI (if q.2.1 0 x = 9 then q.2.1 8 x - 1 else 0)) := by
  have hcr := isT_r hK.1
  have hr := hK.2.2.1.2.1 x hx
  refine ⟨?_, fun h6 => ⟨?_, ?_, ?_⟩⟩
  · rw [oM_o (by omega)]; exact hr.1
  · rw [oM_o (by omega), hr.2.2, (hK.2.2.2.1.2.2.1 x h6 hx).2.2.1]
    unfold kKd
    by_cases e : q.2.1 4 x = 0
    · rw [if_pos e, if_neg (by omega)]
    · rw [if_neg e, if_pos (by omega)]
  · rw [oM_o (by omega)]; exact (hK.2.2.1.2.2.1 x h6 hx).2.1
  · rw [oM_o (by omega)]; exact (hK.2.2.1.2.2.1 x h6 hx).1
theorem mKc_k (hK : mKc c B n q T m t) {x i : Nat} (h6 : 6 ≤ x) (hx : x < q.1 1) (hi : i < q.2.1 4 x) (p : kB) : q.2.2 0 x i < 2200 ∧ kKd q x i = q.2.2 0 x i + 1 ∧ gI (oM u p t) (c + 15) (q.2.2 0 x i) = zI (q.2.2 1 x i) ∧ gI (oM u p t) (c + 18) (q.2.2 0 x i) = zI (kKd q x (i + 1)) := by
  have hcr := isT_r hK.1
  have hii := hK.2.2.2.1.2.2.2.1 x i h6 hx hi
  have hr := hK.2.2.1.2.2.2 (q.2.2 0 x i) hii.1.1
  have h22 := hK.2.2.2.2.2
  refine ⟨by have := hii.1.1; omega, by unfold kKd; rw [if_pos hi], ?_, ?_⟩
  · rw [oM_o (by omega), hr.1, hii.2.1.1]
  · rw [oM_o (by omega), hr.2.2.2, hii.2.2.1]
    rfl
theorem Mo_item (hK : mKc c B n q T m t) (hr : kRg n rec) (hrec : mKd c n q t u D F rec) (hF : 3 ≤ F) (d : Nat) {x x3 : Nat} (h6 : 6 ≤ x) (hx : x < q.1 1) (h67 : q.2.1 0 x = 6 ∨ q.2.1 0 x = 7) (h32 : x3 + 1 + D = 32) (ho : mKo n p) : mKr u t (fMo_item (F + d + 1) c (nI x) (nI x3) (uF u) (oM u p t)) (kIm q B n rec x p) := by
  obtain ⟨hc, hin, hv, hI, hcd, h22⟩ := id hK
  have hn1 := hI.1
  have h41 := (hcd x h6 hx).1.2.2.1 h67
  obtain ⟨c1, c2⟩ := kCd_p hI hcd h6 hx (by omega) (by omega) (show 0 < q.2.1 4 x by omega)
  have g9 : ∀ p1, mKo n p1 → mKr u t (fMo_item_9 (F + d + 1) c (nI x) (nI x3) (uF u) (oM u p1 t)) (rec (q.2.2 1 x 0 - 1) p1) := by
    intro p1 ho1
    have hk := mKc_k (u := u) hK h6 hx (show 0 < q.2.1 4 x by omega) p1
    refine mKr_cv (hrec d (q.2.2 1 x 0 - 1) p1 (x3 + 1) c2 ho1 h32) (fun r hr2 => eMo_item_9 (F + d) c _ _ _ _ hc _ ?_)
    rw [ldI_n (by omega) (by omega), ((mKc_r (u := u) hK hx p1).2 h6).1, hk.2.1, zI_S, ldI_n hk.1 (by omega), hk.2.2.1, zI_pos (by omega), nI_add1]
    exact hr2
  have e7 : (nI (q.2.1 0 x) = 7) = (q.2.1 0 x = 7) := nI_eqE (b := 7) (by omega) (by omega)
  have go : ∀ r, (if ¬ q.2.1 0 x = 7 then fMo_item_9 (F + d + 1) c (nI x) (nI x3) (uF u) (oM u p t) else cG (fMo_string (F + d) (uF u) (oM u p t)) (kV fun s2 => fMo_item_9 (F + d + 1) c (nI x) (nI x3) (uF u) s2)) = some r → fMo_item (F + d + 1) c (nI x) (nI x3) (uF u) (oM u p t) = some r := by
    intro r hr2
    refine eMo_item (F + d) c _ _ _ _ hc _ ?_
    rw [ldI_n (by omega) (by omega), (mKc_r (u := u) hK hx p).1]
    simp only [e7]
    exact hr2
  unfold kIm
  by_cases h7 : q.2.1 0 x = 7
  · rw [if_neg (fun e => e h7)] at go
    rw [if_pos h7]
    have hst := Mo_str (u := u) hin ho (d := F + d) (by omega)
    cases hk : kSt B n p with
    | error e =>
      rw [hk] at hst
      exact mKf_cg hst go
    | ok p1 =>
      rw [hk] at hst
      have hst : fMo_string (F + d) (uF u) (oM u p t) = rV (oM u p1 t) := hst
      have hg := kSt_go hin.2.2.2 hk
      refine mKr_go (g9 p1 (mKo_go ho hg)) (fun r hr2 => go r ?_)
      rw [hst, cG_V]
      exact hr2
  · rw [if_pos h7] at go
    rw [if_neg h7]
    exact mKr_go (g9 p ho) go
theorem Mo_b91 (hK : mKc c B n q T m t) (hr : kRg n rec) (hrec : mKd c n q t u D F rec) (hF : 3 ≤ F) (d : Nat) {x x3 : Nat} (h6 : 6 ≤ x) (hx : x < q.1 1) (h67 : q.2.1 0 x = 6 ∨ q.2.1 0 x = 7) (h32 : x3 + 1 + D = 32) {v w l9 : Int64} {a2 e N0 : Nat} {z5 z6 z7 z12 : Int32} (hl9 : l9.toInt = N0) (hN : N0 ≤ 2000) (hz12 : (z12 = 0) = (0 ≤ v.toInt)) : ∀ k j p, j + k = N0 → a2 ≤ p.1 → mKo n p → (match kBe2 v w a2 e (kIs2 q B n rec x k p) with
    | .ok p3 => ∀ r, fMo_blocks_118 (F + d + 2) c (nI x) (nI x3) (uF u) z5 z6 z7 l9 (oM u p3 t) = some r → fMo_blocks_91 (F + d + 2) c (nI x) (nI x3) (uF u) z5 z6 z7 l9 z12 (nI e) w (nI a2) (nI j) (oM u p t) = some r
    | .error er => mKf t (fMo_blocks_91 (F + d + 2) c (nI x) (nI x3) (uF u) z5 z6 z7 l9 z12 (nI e) w (nI a2) (nI j) (oM u p t)) er.1 er.2) := by
  obtain ⟨hc, hin, hv, hI, hcd, h22⟩ := id hK
  have hn := hin.2.1
  have ecmp : ∀ j, j ≤ 4000 → (0 ≤ aLcmp (nI j).toInt64 l9) = (N0 ≤ j) := fun j hj => by
    rw [aLcmp_ge, hl9, nI_long (by omega), Int64.toInt_ofNat_of_lt (by omega)]
    apply propext
    omega
  intro k
  induction k with
  | zero =>
    intro j p hj ha2 ho
    have hp := ho.1
    have etold : (aLcmp w ((gI (oM u p t) 67 23) - nI a2).toInt64 = 0) = (w.toInt = ((p.1 - a2 : Nat) : Int)) := by
      rw [aLcmp_eq, oM_at, nI_sub ha2, nI_long (by omega), Int64.toInt_ofNat_of_lt (by omega)]
    have go : ∀ r, (if z12 = 0 then fMo_blocks_118 (F + d + 2) c (nI x) (nI x3) (uF u) z5 z6 z7 l9 (oM u p t) else if aLcmp w ((gI (oM u p t) 67 23) - nI a2).toInt64 = 0 then fMo_blocks_118 (F + d + 2) c (nI x) (nI x3) (uF u) z5 z6 z7 l9 (oM u p t) else cG (fMo_failBytes (F + d + 1) (nI 6) (nI e) (oM u p t)) (kV fun s1 => fMo_blocks_118 (F + d + 2) c (nI x) (nI x3) (uF u) z5 z6 z7 l9 s1)) = some r → fMo_blocks_91 (F + d + 2) c (nI x) (nI x3) (uF u) z5 z6 z7 l9 z12 (nI e) w (nI a2) (nI j) (oM u p t) = some r := by
      intro r hr2
      refine eMo_blocks_91 (F + d + 1) c _ _ _ _ _ _ _ _ _ _ _ _ _ hc _ ?_
      rw [if_pos (by rw [ecmp j (by omega)]; omega)]
      exact hr2
    have ek : kBe2 v w a2 e (kIs2 q B n rec x 0 p) = if v.toInt < 0 ∧ w.toInt ≠ ((p.1 - a2 : Nat) : Int) then .error (6, e) else .ok p := rfl
    rw [ek]
    by_cases hpos : 0 ≤ v.toInt
    · rw [if_neg (by omega)]
      intro r hr2
      refine go r ?_
      rw [if_pos (by rw [hz12]; exact hpos)]
      exact hr2
    · by_cases hw : w.toInt = ((p.1 - a2 : Nat) : Int)
      · rw [if_neg (by omega)]
        intro r hr2
        refine go r ?_
        rw [if_neg (by rw [hz12]; exact hpos), if_pos (by rw [etold]; exact hw)]
        exact hr2
      · rw [if_pos ⟨by omega, hw⟩]
        rw [if_neg (by rw [hz12]; exact hpos), if_neg (by rw [etold]; exact hw)] at go
        exact mKf_cg (Mo_fail (F + d + 1)) go
  | succ k ih =>
    intro j p hj ha2 ho
    have hit := Mo_item (u := u) hK hr hrec hF d h6 hx h67 h32 ho
    have go : ∀ r, cG (fMo_item (F + d + 1) c (nI x) (nI x3) (uF u) (oM u p t)) (kV fun s2 => fMo_blocks_91 (F + d + 2) c (nI x) (nI x3) (uF u) z5 z6 z7 l9 z12 (nI e) w (nI a2) (nI (j + 1)) s2) = some r → fMo_blocks_91 (F + d + 2) c (nI x) (nI x3) (uF u) z5 z6 z7 l9 z12 (nI e) w (nI a2) (nI j) (oM u p t) = some r := by
      intro r hr2
      refine eMo_blocks_91 (F + d + 1) c _ _ _ _ _ _ _ _ _ _ _ _ _ hc _ ?_
      rw [if_neg (by rw [ecmp j (by omega)]; omega), nI_add1]
      exact hr2
    have ek : kIs2 q B n rec x (k + 1) p = match kIm q B n rec x p with | .error e => .error e | .ok p1 => kIs2 q B n rec x k p1 := rfl
    rw [ek]
    cases hk : kIm q B n rec x p with
    | error e' =>
      rw [hk] at hit
      exact mKf_cg hit go
    | ok p1 =>
      rw [hk] at hit
      have hit : fMo_item (F + d + 1) c (nI x) (nI x3) (uF u) (oM u p t) = rV (oM u p1 t) := hit
      have hg := kIm_go hin.2.2.2 hr ho.1 ho.2.2.2.1 hk
      have ihh := ih (j + 1) p1 (by omega) (by have := hg.1; omega) (mKo_go ho hg)
      simp only
      cases hks : kBe2 v w a2 e (kIs2 q B n rec x k p1) with
      | error er =>
        rw [hks] at ihh
        refine mKf_go ihh (fun r hr2 => go r ?_)
        rw [hit, cG_V]
        exact hr2
      | ok p3 =>
        rw [hks] at ihh
        intro r hr2
        refine go r ?_
        rw [hit, cG_V]
        exact ihh r hr2
end
