/-! the reference's looking: a datum -/
section
variable {c n m D F : Nat} {B : Nat → Nat} {q : kP} {T : Nat → Nat → Nat} {t : aT} {p : kB} {u : Bool} {rec : kDr}
theorem Mt_kid7 (hK : mKc c B n q T m t) (d : Nat) {x i : Nat} (h6 : 6 ≤ x) (hx : x < q.1 1) (hi : i < q.2.1 4 x) (h32 : q.2.1 4 x ≤ 100) : ∀ k j, j + k = i → fMt_kid_7 d c (nI i) (zI (kKd q x j)) (nI j) (oM u p t) = rI (zI (kKd q x i)) (oM u p t) := by
  intro k
  induction k with
  | zero =>
    intro j hj
    refine eMt_kid_7 d c _ _ _ _ hK.1 _ ?_
    simp (disch := omega) only [nI_leE]
    rw [if_pos (by omega), show j = i by omega]
    rfl
  | succ k ih =>
    intro j hj
    have hk := mKc_k (u := u) hK h6 hx (show j < q.2.1 4 x by omega) p
    refine eMt_kid_7 d c _ _ _ _ hK.1 _ ?_
    simp (disch := omega) only [nI_leE]
    rw [if_neg (by omega), hk.2.1, zI_S, ldI_n hk.1 (by omega), hk.2.2.2, nI_add1, ih (j + 1) (by omega)]
    rfl
theorem Mo_fi (hK : mKc c B n q T m t) (hr : kRg n rec) (hrec : mKd c n q t u D F rec) (d : Nat) {x x3 : Nat} (h6 : 6 ≤ x) (hx : x < q.1 1) (h11 : q.2.1 0 x = 11) (h32 : x3 + 1 + D = 32) : ∀ k i p, i + k = q.2.1 4 x → mKo n p → mKr u t (fMo_datum_167 (F + d + 1) c (nI x3) (uF u) (zI (kKd q x i)) (oM u p t)) (kFs q rec x k i p) := by
  obtain ⟨hc, hin, hv, hI, hcd, h22⟩ := id hK
  intro k
  induction k with
  | zero =>
    intro i p hi ho
    have ek : kKd q x i = 0 := by unfold kKd; rw [if_neg (by omega)]
    refine eMo_datum_167 (F + d) c _ _ _ _ hc _ ?_
    rw [ek, if_pos (by decide)]
    rfl
  | succ k ih =>
    intro i p hi ho
    obtain ⟨c1, c2⟩ := kCd_p hI hcd h6 hx (by omega) (by omega) (show i < q.2.1 4 x by omega)
    have hk := mKc_k (u := u) hK h6 hx (show i < q.2.1 4 x by omega)
    have hd := hrec d (q.2.2 1 x i - 1) p (x3 + 1) c2 ho h32
    have go : ∀ r, cG (fMo_datum (F + d) c (nI (q.2.2 1 x i - 1)) (nI (x3 + 1)) (uF u) (oM u p t)) (kV fun s2 => ldI 2200 s2 (c + 18) (nI (q.2.2 0 x i)) (fun v3 => fMo_datum_167 (F + d + 1) c (nI x3) (uF u) v3 s2)) = some r → fMo_datum_167 (F + d + 1) c (nI x3) (uF u) (zI (kKd q x i)) (oM u p t) = some r := by
      intro r hr2
      refine eMo_datum_167 (F + d) c _ _ _ _ hc _ ?_
      rw [(hk p).2.1, zI_S, if_neg (nI_pos (by have := (hk p).1; omega)), ldI_n (hk p).1 (by omega), (hk p).2.2.1, zI_pos (by omega), nI_add1]
      exact hr2
    unfold kFs
    cases hke : rec (q.2.2 1 x i - 1) p with
    | error e =>
      rw [hke] at hd
      exact mKf_cg hd go
    | ok p1 =>
      rw [hke] at hd
      have hd : fMo_datum (F + d) c (nI (q.2.2 1 x i - 1)) (nI (x3 + 1)) (uF u) (oM u p t) = rV (oM u p1 t) := hd
      have hg := hr _ _ _ ho.1 ho.2.2.2.1 hke
      refine mKr_go (ih (i + 1) p1 (by omega) (mKo_go ho hg)) (fun r hr2 => go r ?_)
      rw [hd, cG_V, ldI_n (hk p1).1 (by omega), (hk p1).2.2.2]
      exact hr2
theorem Mo_dt0 (hK : mKc c B n q T m t) (hr : kRg n rec) (hrec : mKd c n q t u D F rec) (hF : 3 ≤ F) (d : Nat) {x x3 : Nat} (hx : x < q.1 1) (h32 : x3 + 1 + D = 32) (ho : mKo n p) : mKr u t (fMo_datum (F + d + 3) c (nI x) (nI x3) (uF u) (oM u p t)) (if p.2.2.1 < 4000 then kDb q B n rec x (p.1, p.2.1, p.2.2.1 + 1, p.2.2.2) else .error (8, p.1)) := by
  obtain ⟨hc, hin, hv, hI, hcd, h22⟩ := id hK
  obtain ⟨o1, o2, o3, o4, o5⟩ := ho
  have hn1 := hI.1
  have hn := hin.2.1
  have e31 : nI x3 ≤ 31 := by rw [nI_lit 31, nI_leE (by omega) (by omega)]; omega
  have eda : (gI (oM u p t) 67 27 = 4000) = (p.2.2.1 = 4000) := by rw [oM_da, show (4000 : Int32) = nI 4000 from rfl, nI_eqE (by omega) (by omega)]
  have go0 : ∀ r, fMo_datum_10 (F + d + 3) c (nI x) (nI x3) (uF u) (nI p.1) (oM u p t) = some r → fMo_datum (F + d + 3) c (nI x) (nI x3) (uF u) (oM u p t) = some r := by
    intro r hr2
    refine eMo_datum (F + d + 2) c _ _ _ _ hc _ ?_
    rw [if_pos e31, oM_at]
    exact hr2
  by_cases h4 : p.2.2.1 < 4000
  case neg =>
    rw [if_neg h4]
    obtain ⟨t', h1, h2, h3, h5⟩ := Mo_fail (F + d + 2) (p := p) (u := u) (t := t) (k := 8) (e := p.1)
    refine ⟨t', go0 _ (eMo_datum_10 (F + d + 2) c _ _ _ _ _ hc _ ?_), h2, h3, h5⟩
    rw [if_neg (by rw [eda]; exact fun e => e (by omega)), show (8 : Int32) = nI 8 from rfl, h1, cG_T]
    rfl
  rw [if_pos h4]
  have go1 : ∀ r, fMo_datum_18 (F + d + 3) c (nI x) (nI x3) (uF u) (nI p.1) (oM u p t) = some r → fMo_datum (F + d + 3) c (nI x) (nI x3) (uF u) (oM u p t) = some r := by
    intro r hr2
    refine go0 _ (eMo_datum_10 (F + d + 2) c _ _ _ _ _ hc _ ?_)
    rw [if_pos (by rw [eda]; omega)]
    exact hr2
  have hK11 : q.2.1 0 x ≤ 11 ∧ (6 ≤ q.2.1 0 x → 6 ≤ x) := by
    by_cases h : x < 6
    · have := (hI.2.1 x h).1; omega
    · have := (hI.2.2.1 x (by omega) hx).1; omega
  have hkd : ∀ p, gI (oM u p t) (c + 9) x = nI (q.2.1 0 x) := fun p => (mKc_r (u := u) hK hx p).1
  have ho1 : mKo n (p.1, p.2.1, p.2.2.1 + 1, p.2.2.2) := ⟨o1, o2, o3, o4, by show p.2.2.1 + 1 ≤ 4000; omega⟩
  have ew : pI (oM u p t) 67 27 ((gI (oM u p t) 67 27) + 1) = oM u (p.1, p.2.1, p.2.2.1 + 1, p.2.2.2) t := by rw [oM_da, nI_add1, oM_w27]
  have ep1 : p.1 = (p.1, p.2.1, p.2.2.1 + 1, p.2.2.2).1 := rfl
  rw [ep1] at go1
  generalize hp1 : (p.1, p.2.1, p.2.2.1 + 1, p.2.2.2) = p1 at *
  have hx140 : x < 140 := by omega
  have num : ∀ (int : Prop) [Decidable int], (q.2.1 0 x = 2 ∨ q.2.1 0 x = 3) → (q.2.1 0 x = 2) = int → mKr u t (cG (fMo_varint (F + d + 2) (oM u p1 t)) (kL fun v10 s9 => ldI 140 s9 (c + 9) (nI x) (fun v11 => if ¬ v11 = 2 then fMo_datum_64 (F + d + 3) (uF u) v10 s9 else if aLcmp v10 v10.toInt32.toInt64 = 0 then fMo_datum_64 (F + d + 3) (uF u) v10 s9 else cG (fMo_failBytes (F + d + 2) 2 (nI p1.1) s9) (kV fun s12 => fMo_datum_64 (F + d + 3) (uF u) v10 s12)))) (kNb B n int p1) := by
    intro int _ h23 hint
    have hvi := Mo_vi (u := u) (p := p1) hin (d := F + d + 2) (by omega) ho1.1
    unfold kNb
    cases hk : kVr B n p1.1 with
    | error e =>
      rw [hk] at hvi
      obtain ⟨t', h1, h2, h3, h5⟩ := hvi
      refine ⟨t', ?_, h2, h3, h5⟩
      rw [h1, cG_T]
    | ok va =>
      obtain ⟨v, a⟩ := va
      rw [hk] at hvi
      have hvi : fMo_varint (F + d + 2) (oM u p1 t) = rL v (oM u (a, p1.2) t) := hvi
      have hl := kVr_len hin.2.2.2 hk
      have ho2 := ho1.2.1
      have hf := v_fits v
      have e2 : (nI (q.2.1 0 x) = 2) = (q.2.1 0 x = 2) := nI_eqE (b := 2) (by omega) (by omega)
      have h64 : fMo_datum_64 (F + d + 3) (uF u) v (oM u (a, p1.2) t) = rV (oM u (a, p1.2.1, p1.2.2.1, p1.2.2.2 ++ kVb v) t) := by
        refine eMo_datum_64 (F + d + 2) _ _ _ _ ?_
        rw [Mo_pu (p := (a, p1.2)) (d := F + d + 2) (by omega) (v := v) (by show p1.2.2.2.length + _ ≤ _; omega) (K := fun s => rV s)]
        rfl
      rw [hvi, cG_L, ldI_n hx140 (by omega), hkd]
      simp only [e2, hf]
      by_cases hi : q.2.1 0 x = 2
      · rw [if_neg (fun e => e hi)]
        by_cases hb : -2147483648 ≤ v.toInt ∧ v.toInt ≤ 2147483647
        · rw [if_pos hb, if_neg (fun e => e.2 hb)]
          exact h64
        · rw [if_neg hb, if_pos ⟨by rw [← hint]; exact hi, hb⟩]
          obtain ⟨t', h1, h2, h3, h5⟩ := Mo_fail (F + d + 2) (p := (a, p1.2)) (u := u) (t := t) (k := 2) (e := p1.1)
          refine ⟨t', ?_, h2, h3, h5⟩
          rw [show (2 : Int32) = nI 2 from rfl, h1, cG_T]
      · rw [if_pos hi, if_neg (fun e => hi (by rw [hint]; exact e.1))]
        exact h64
  have hcase : q.2.1 0 x = 0 ∨ q.2.1 0 x = 1 ∨ q.2.1 0 x = 2 ∨ q.2.1 0 x = 3 ∨ (q.2.1 0 x = 4 ∨ q.2.1 0 x = 5) ∨ (q.2.1 0 x = 6 ∨ q.2.1 0 x = 7) ∨ q.2.1 0 x = 8 ∨ q.2.1 0 x = 9 ∨ q.2.1 0 x = 10 ∨ q.2.1 0 x = 11 := by omega
  rcases hcase with h | h | h | h | h | h | h | h | h | h
  · have ek : kDb q B n rec x p1 = .ok p1 := by unfold kDb; rw [if_pos h]
    rw [ek]
    refine go1 _ (eMo_datum_18 (F + d + 2) c _ _ _ _ _ hc _ ?_)
    rw [wI_eq, ew, ldI_n hx140 (by omega), hkd, h, if_pos (by decide)]
    rfl
  · have ek : kDb q B n rec x p1 = (if p1.1 < n then (if B p1.1 ≤ 1 then .ok (p1.1 + 1, p1.2.1, p1.2.2.1, p1.2.2.2 ++ [B p1.1]) else .error (3, p1.1)) else .error (1, n)) := by unfold kDb; rw [if_neg (by omega), if_pos h]
    rw [ek]
    have hby := Mo_byte (p := p1) (u := u) hin (d := F + d + 2) (by omega) ho1.1
    have hB := hin.2.2.2
    have hb1 : (nI (B p1.1) ≤ (1 : Int32)) = (B p1.1 ≤ 1) := by rw [show (1 : Int32) = nI 1 from rfl, nI_leE (by have := hB p1.1; omega) (by omega)]
    have go : ∀ r, cG (fMo_byteHere (F + d + 2) (oM u p1 t)) (kI fun v6 s5 => if v6 ≤ 1 then fMo_datum_40 (F + d + 3) (uF u) v6 s5 else cG (fMo_failBytes (F + d + 2) 3 (nI p1.1) s5) (kV fun s7 => fMo_datum_40 (F + d + 3) (uF u) v6 s7)) = some r → fMo_datum (F + d + 3) c (nI x) (nI x3) (uF u) (oM u p t) = some r := by
      intro r hr2
      refine go1 _ (eMo_datum_18 (F + d + 2) c _ _ _ _ _ hc _ ?_)
      rw [wI_eq, ew, ldI_n hx140 (by omega), hkd, h, if_neg (by decide), if_pos (by decide)]
      exact hr2
    by_cases hlt : p1.1 < n
    · rw [if_pos hlt]
      by_cases h1 : B p1.1 ≤ 1
      · rw [if_pos h1]
        have ho2 := ho1.2.1
        refine go _ ?_
        rw [hby.1 hlt, cG_I]
        simp only [hb1]
        rw [if_pos h1]
        refine eMo_datum_40 (F + d + 2) _ _ _ _ ?_
        rw [Mo_put (p := (p1.1 + 1, p1.2)) (u := u) (t := t) (d := F + d + 2) (by omega) (k := B p1.1) (nI_byte (hB _)) (by show p1.2.2.2.length + 1 ≤ _; omega), cG_V]
        rfl
      · rw [if_neg h1]
        obtain ⟨t', h2, h3, h5, h7⟩ := Mo_fail (F + d + 2) (p := (p1.1 + 1, p1.2)) (u := u) (t := t) (k := 3) (e := p1.1)
        refine ⟨t', go _ ?_, h3, h5, h7⟩
        rw [hby.1 hlt, cG_I]
        simp only [hb1]
        rw [if_neg h1, show (3 : Int32) = nI 3 from rfl, h2, cG_T]
        rfl
    · rw [if_neg hlt]
      exact mKf_cg (hby.2 hlt) go
  · have ek : kDb q B n rec x p1 = kNb B n True p1 := by
      unfold kDb kNb
      rw [if_neg (by omega), if_neg (by omega), if_pos (.inl h)]
      cases kVr B n p1.1 with
      | error e => rfl
      | ok va =>
        obtain ⟨v, a⟩ := va
        simp only
        by_cases hc : -2147483648 ≤ v.toInt ∧ v.toInt ≤ 2147483647
        · rw [if_neg (fun e => e.2 hc), if_neg (fun e => e.2 hc)]
        · rw [if_pos ⟨h, hc⟩, if_pos ⟨trivial, hc⟩]
    rw [ek]
    refine mKr_go (num True (.inl h) (by rw [h]; exact eq_true rfl)) (fun r hr2 => go1 _ (eMo_datum_18 (F + d + 2) c _ _ _ _ _ hc _ ?_))
    rw [wI_eq, ew, ldI_n hx140 (by omega), hkd, h, if_neg (by decide), if_neg (by decide), if_pos (by decide)]
    exact hr2
  · have ek : kDb q B n rec x p1 = kNb B n False p1 := by
      unfold kDb kNb
      rw [if_neg (by omega), if_neg (by omega), if_pos (.inr h)]
      cases kVr B n p1.1 with
      | error e => rfl
      | ok va =>
        obtain ⟨v, a⟩ := va
        simp only
        rw [if_neg (by omega), if_neg (fun e => e.1)]
    rw [ek]
    refine mKr_go (num False (.inr h) (by rw [h]; exact eq_false (by omega))) (fun r hr2 => go1 _ (eMo_datum_18 (F + d + 2) c _ _ _ _ _ hc _ ?_))
    rw [wI_eq, ew, ldI_n hx140 (by omega), hkd, h, if_neg (by decide), if_neg (by decide), if_neg (by decide), if_pos (by decide)]
    exact hr2
  · have ek : kDb q B n rec x p1 = kSt B n p1 := by unfold kDb; rw [if_neg (by omega), if_neg (by omega), if_neg (by omega), if_pos h]
    rw [ek]
    refine mKr_cv (Mo_str (u := u) hin ho1 (d := F + d + 2) (by omega)) (fun r hr2 => go1 _ (eMo_datum_18 (F + d + 2) c _ _ _ _ _ hc _ ?_))
    rw [wI_eq, ew, ldI_n hx140 (by omega), hkd]
    rcases h with h | h
    · rw [h, if_neg (by decide), if_neg (by decide), if_neg (by decide), if_neg (by decide), if_pos (by decide)]
      exact hr2
    · rw [h, if_neg (by decide), if_neg (by decide), if_neg (by decide), if_neg (by decide), if_neg (by decide), if_pos (by decide)]
      exact hr2
  · have h6 := hK11.2 (by omega)
    have ek : kDb q B n rec x p1 = kBl q B n rec x p1.2.2.2.length 2001 0 p1 := by unfold kDb; rw [if_neg (by omega), if_neg (by omega), if_neg (by omega), if_neg (by omega), if_neg (by omega), if_neg (by omega), if_neg (by omega), if_neg (by omega)]
    rw [ek]
    have hbl := Mo_bl (u := u) hK hr hrec hF d (z := p1.2.2.2.length) (z5 := gI (oM u p1 t) 67 22) (fun hu => by rw [hu]; exact oM_n) h6 hx h h32 2001 0 0 p1 rfl (Nat.le_refl _) (Nat.zero_le _) ho1 (by have := ho1.2.1; show p1.2.2.2.length + 0 + n ≤ _; omega) (Nat.le_refl _)
    have hbs : mKr u t (fMo_blocks (F + d + 2) c (nI x) (nI x3) (uF u) (oM u p1 t)) (kBl q B n rec x p1.2.2.2.length 2001 0 p1) := mKr_go hbl (fun r hr2 => eMo_blocks (F + d + 1) c _ _ _ _ hc _ hr2)
    refine mKr_cv hbs (fun r hr2 => go1 _ (eMo_datum_18 (F + d + 2) c _ _ _ _ _ hc _ ?_))
    rw [wI_eq, ew, ldI_n hx140 (by omega), hkd]
    rcases h with h | h
    · rw [h, if_neg (by decide), if_neg (by decide), if_neg (by decide), if_neg (by decide), if_neg (by decide), if_neg (by decide), if_pos (by decide)]
      exact hr2
    · rw [h, if_neg (by decide), if_neg (by decide), if_neg (by decide), if_neg (by decide), if_neg (by decide), if_neg (by decide), if_neg (by decide), if_pos (by decide)]
      exact hr2
  · have h6 := hK11.2 (by omega)
    have h47 := (hcd x h6 hx).1.2.2.2.2 (by omega) (by omega)
    have h732 := (hI.2.2.1 x h6 hx).2.2.2.2.2.2.2
    have ek : kDb q B n rec x p1 = (match kCh B n (q.2.1 4 x) 4 p1 with | .error e => .error e | .ok (p2, i) => rec (q.2.2 1 x i - 1) p2) := by unfold kDb; rw [if_neg (by omega), if_neg (by omega), if_neg (by omega), if_neg (by omega), if_pos h]; cases kCh B n (q.2.1 4 x) 4 p1 <;> rfl
    rw [ek]
    have hvi := Mo_vi (u := u) (p := p1) hin (d := F + d + 2) (by omega) ho1.1
    have go : ∀ r, cG (fMo_varint (F + d + 2) (oM u p1 t)) (kL fun v28 s27 => if aLcmp v28 0 < 0 then fMo_datum_137 (F + d + 3) c (nI x) (nI x3) (uF u) (nI p1.1) v28 s27 else ldI 140 s27 (c + 13) (nI x) (fun v29 => if aLcmp v28 v29.toInt64 < 0 then fMo_datum_141 (F + d + 3) c (nI x) (nI x3) (uF u) v28 s27 else fMo_datum_137 (F + d + 3) c (nI x) (nI x3) (uF u) (nI p1.1) v28 s27)) = some r → fMo_datum (F + d + 3) c (nI x) (nI x3) (uF u) (oM u p t) = some r := by
      intro r hr2
      refine go1 _ (eMo_datum_18 (F + d + 2) c _ _ _ _ _ hc _ ?_)
      rw [wI_eq, ew, ldI_n hx140 (by omega), hkd, h, if_neg (by decide), if_neg (by decide), if_neg (by decide), if_neg (by decide), if_neg (by decide), if_neg (by decide), if_neg (by decide), if_neg (by decide), if_pos (by decide)]
      exact hr2
    unfold kCh
    cases hk : kVr B n p1.1 with
    | error e =>
      rw [hk] at hvi
      exact mKf_cg hvi go
    | ok va =>
      obtain ⟨v, a⟩ := va
      rw [hk] at hvi
      have hvi : fMo_varint (F + d + 2) (oM u p1 t) = rL v (oM u (a, p1.2) t) := hvi
      have hl := kVr_len hin.2.2.2 hk
      have ho2 := ho1.2.1
      have e13 : gI (oM u (a, p1.2) t) (c + 13) x = nI (q.2.1 4 x) := ((mKc_r (u := u) hK hx (a, p1.2)).2 h6).2.1
      have ekk : (nI (q.2.1 4 x)).toInt64.toInt = q.2.1 4 x := by rw [nI_long (by omega), Int64.toInt_ofNat_of_lt (by omega)]
      have hneg : (aLcmp v 0 < 0) = (v.toInt < 0) := by rw [aLcmp_lt]; rfl
      simp only
      by_cases hbad : v.toInt < 0 ∨ (q.2.1 4 x : Int) ≤ v.toInt
      · rw [if_pos hbad]
        obtain ⟨t', h1, h2, h3, h5⟩ := Mo_fail (F + d + 2) (p := (a, p1.2)) (u := u) (t := t) (k := 4) (e := p1.1)
        have h137 : fMo_datum_137 (F + d + 3) c (nI x) (nI x3) (uF u) (nI p1.1) v (oM u (a, p1.2) t) = rT 0 t' := by
          refine eMo_datum_137 (F + d + 2) c _ _ _ _ _ _ hc _ ?_
          rw [show (4 : Int32) = nI 4 from rfl, h1, cG_T]
          rfl
        refine ⟨t', go _ ?_, h2, h3, h5⟩
        rw [hvi, cG_L]
        by_cases hn0 : v.toInt < 0
        · rw [if_pos (by rw [hneg]; exact hn0), h137]
          rfl
        · rw [if_neg (by rw [hneg]; exact hn0), ldI_n hx140 (by omega), e13, if_neg (by rw [aLcmp_lt, ekk]; omega), h137]
          rfl
      · rw [if_neg hbad]
        have hi : v.toInt.toNat < q.2.1 4 x := by omega
        obtain ⟨c1, c2⟩ := kCd_p hI hcd h6 hx (by omega) (by omega) hi
        have hg : kGo n p1 (a, p1.2.1, p1.2.2.1, p1.2.2.2 ++ kVb v) := kGo_app (by omega) (by omega) (by omega) (kBt_vb v)
        have hkk := mKc_k (u := u) hK h6 hx hi (a, p1.2.1, p1.2.2.1, p1.2.2.2 ++ kVb v)
        have hkid := Mt_kid7 (u := u) (p := (a, p1.2.1, p1.2.2.1, p1.2.2.2 ++ kVb v)) hK (F + d + 2) h6 hx hi (by omega) v.toInt.toNat 0 (by omega)
        simp only
        refine mKr_cv (hrec (d + 2) (q.2.2 1 x v.toInt.toNat - 1) (a, p1.2.1, p1.2.2.1, p1.2.2.2 ++ kVb v) (x3 + 1) c2 (mKo_go ho1 hg) h32) (fun r hr2 => go r ?_)
        rw [hvi, cG_L, if_neg (by rw [hneg]; omega), ldI_n hx140 (by omega), e13, if_pos (by rw [aLcmp_lt, ekk]; omega)]
        refine eMo_datum_141 (F + d + 2) c _ _ _ _ _ hc _ ?_
        rw [Mo_pu (p := (a, p1.2)) (d := F + d + 2) (by omega) (v := v) (by show p1.2.2.2.length + _ ≤ _; omega) (K := fun s => fMo_datum_146 (F + d + 3) c (nI x) (nI x3) (uF u) v s)]
        refine eMo_datum_146 (F + d + 2) c _ _ _ _ _ hc _ ?_
        have hkid2 : fMt_kid (F + d + 2) c (nI x) v.toInt32 (oM u (a, p1.2.1, p1.2.2.1, p1.2.2.2 ++ kVb v) t) = rI (zI (kKd q x v.toInt.toNat)) (oM u (a, p1.2.1, p1.2.2.1, p1.2.2.2 ++ kVb v) t) := by
          refine eMt_kid (F + d + 2) c _ _ _ hc _ ?_
          rw [v_nat (by omega) (by omega), ldI_n hx140 (by omega), ((mKc_r (u := u) hK hx _).2 h6).1]
          exact hkid
        show cN (fMt_kid (F + d + 2) c (nI x) v.toInt32 (oM u (a, p1.2.1, p1.2.2.1, p1.2.2.2 ++ kVb v) t)) _ = some r
        rw [hkid2, cN_I, hkk.2.1, zI_S, ldI_n hkk.1 (by omega), hkk.2.2.1, zI_pos (by omega), nI_add1]
        exact hr2
  · have h6 := hK11.2 (by omega)
    have h8 := (hcd x h6 hx).1.1 h
    have h865 := (hI.2.2.1 x h6 hx).2.2.2.2.2.2.1
    have ek : kDb q B n rec x p1 = kPs B n (q.2.1 8 x - 1) p1 := by unfold kDb; rw [if_neg (by omega), if_neg (by omega), if_neg (by omega), if_neg (by omega), if_neg (by omega), if_pos h]
    rw [ek]
    have e11 : gI (oM u p1 t) (c + 11) x = nI (q.2.1 8 x - 1) := by rw [((mKc_r (u := u) hK hx p1).2 h6).2.2, if_pos h]
    have eti : (Int64.ofNat (q.2.1 8 x - 1)).toInt = ((q.2.1 8 x - 1 : Nat) : Int) := Int64.toInt_ofNat_of_lt (by omega)
    have hpa := Mo_pass (p := p1) (u := u) hin (d := F + d + 2) (by omega) (v := Int64.ofNat (q.2.1 8 x - 1)) (by omega) ho1.1
    rw [eti, Int.toNat_natCast] at hpa
    have go : ∀ r, cG (fMo_pass (F + d + 2) (Int64.ofNat (q.2.1 8 x - 1)) (oM u p1 t)) (kV fun s32 => fMo_datum_83 (F + d + 3) (uF u) (nI p1.1) s32) = some r → fMo_datum (F + d + 3) c (nI x) (nI x3) (uF u) (oM u p t) = some r := by
      intro r hr2
      refine go1 _ (eMo_datum_18 (F + d + 2) c _ _ _ _ _ hc _ ?_)
      rw [wI_eq, ew, ldI_n hx140 (by omega), hkd, h, if_neg (by decide), if_neg (by decide), if_neg (by decide), if_neg (by decide), if_neg (by decide), if_neg (by decide), if_neg (by decide), if_neg (by decide), if_neg (by decide), if_pos (by decide), ldI_n hx140 (by omega), e11, nI_long (by omega)]
      exact hr2
    have ho2 := ho1.2.1
    unfold kPs
    by_cases hle : q.2.1 8 x - 1 ≤ n - p1.1
    · rw [if_pos hle]
      have h83 := Mo_d83 (u := u) (t := t) hin (F + d + 1) (q.2.1 8 x - 1) p1.1 (p1.1 + (q.2.1 8 x - 1), p1.2) rfl (by show p1.1 + (q.2.1 8 x - 1) ≤ n; have := ho1.1; omega) (by show p1.2.2.2.length + _ ≤ _; omega)
      refine go _ ?_
      rw [hpa.1 (by omega), cG_V, h83]
      rfl
    · rw [if_neg hle]
      exact mKf_cg (hpa.2 (by omega)) go
  · have h6 := hK11.2 (by omega)
    have h47 := (hcd x h6 hx).1.2.2.2.2 (by omega) (by omega)
    have h732 := (hI.2.2.1 x h6 hx).2.2.2.2.2.2.2
    have ek : kDb q B n rec x p1 = (match kCh B n (q.2.1 4 x) 5 p1 with | .error e => .error e | .ok (p2, _) => .ok p2) := by unfold kDb; rw [if_neg (by omega), if_neg (by omega), if_neg (by omega), if_neg (by omega), if_neg (by omega), if_neg (by omega), if_pos h]; cases kCh B n (q.2.1 4 x) 5 p1 <;> rfl
    rw [ek]
    have hvi := Mo_vi (u := u) (p := p1) hin (d := F + d + 2) (by omega) ho1.1
    have go : ∀ r, cG (fMo_varint (F + d + 2) (oM u p1 t)) (kL fun v35 s34 => if aLcmp v35 0 < 0 then fMo_datum_112 (F + d + 3) (uF u) (nI p1.1) v35 s34 else ldI 140 s34 (c + 13) (nI x) (fun v36 => if aLcmp v35 v36.toInt64 < 0 then fMo_datum_116 (F + d + 3) (uF u) v35 s34 else fMo_datum_112 (F + d + 3) (uF u) (nI p1.1) v35 s34)) = some r → fMo_datum (F + d + 3) c (nI x) (nI x3) (uF u) (oM u p t) = some r := by
      intro r hr2
      refine go1 _ (eMo_datum_18 (F + d + 2) c _ _ _ _ _ hc _ ?_)
      rw [wI_eq, ew, ldI_n hx140 (by omega), hkd, h, if_neg (by decide), if_neg (by decide), if_neg (by decide), if_neg (by decide), if_neg (by decide), if_neg (by decide), if_neg (by decide), if_neg (by decide), if_neg (by decide), if_neg (by decide), if_pos (by decide)]
      exact hr2
    unfold kCh
    cases hk : kVr B n p1.1 with
    | error e =>
      rw [hk] at hvi
      exact mKf_cg hvi go
    | ok va =>
      obtain ⟨v, a⟩ := va
      rw [hk] at hvi
      have hvi : fMo_varint (F + d + 2) (oM u p1 t) = rL v (oM u (a, p1.2) t) := hvi
      have hl := kVr_len hin.2.2.2 hk
      have ho2 := ho1.2.1
      have e13 : gI (oM u (a, p1.2) t) (c + 13) x = nI (q.2.1 4 x) := ((mKc_r (u := u) hK hx (a, p1.2)).2 h6).2.1
      have ekk : (nI (q.2.1 4 x)).toInt64.toInt = q.2.1 4 x := by rw [nI_long (by omega), Int64.toInt_ofNat_of_lt (by omega)]
      have hneg : (aLcmp v 0 < 0) = (v.toInt < 0) := by rw [aLcmp_lt]; rfl
      simp only
      by_cases hbad : v.toInt < 0 ∨ (q.2.1 4 x : Int) ≤ v.toInt
      · rw [if_pos hbad]
        obtain ⟨t', h1, h2, h3, h5⟩ := Mo_fail (F + d + 2) (p := (a, p1.2)) (u := u) (t := t) (k := 5) (e := p1.1)
        have h112 : fMo_datum_112 (F + d + 3) (uF u) (nI p1.1) v (oM u (a, p1.2) t) = rT 0 t' := by
          refine eMo_datum_112 (F + d + 2) _ _ _ _ _ ?_
          rw [show (5 : Int32) = nI 5 from rfl, h1, cG_T]
          rfl
        refine ⟨t', go _ ?_, h2, h3, h5⟩
        rw [hvi, cG_L]
        by_cases hn0 : v.toInt < 0
        · rw [if_pos (by rw [hneg]; exact hn0), h112]
          rfl
        · rw [if_neg (by rw [hneg]; exact hn0), ldI_n hx140 (by omega), e13, if_neg (by rw [aLcmp_lt, ekk]; omega), h112]
          rfl
      · rw [if_neg hbad]
        refine go _ ?_
        rw [hvi, cG_L, if_neg (by rw [hneg]; omega), ldI_n hx140 (by omega), e13, if_pos (by rw [aLcmp_lt, ekk]; omega)]
        refine eMo_datum_116 (F + d + 2) _ _ _ _ ?_
        rw [Mo_pu (p := (a, p1.2)) (d := F + d + 2) (by omega) (v := v) (by show p1.2.2.2.length + _ ≤ _; omega) (K := fun s => rV s)]
        rfl
  · have h6 := hK11.2 (by omega)
    have ek : kDb q B n rec x p1 = kFs q rec x (q.2.1 4 x) 0 p1 := by unfold kDb; rw [if_neg (by omega), if_neg (by omega), if_neg (by omega), if_neg (by omega), if_neg (by omega), if_neg (by omega), if_neg (by omega), if_pos h]
    rw [ek]
    have hfi := Mo_fi (u := u) hK hr hrec (d + 2) (x3 := x3) h6 hx h h32 (q.2.1 4 x) 0 p1 (by omega) ho1
    refine mKr_go hfi (fun r hr2 => go1 _ (eMo_datum_18 (F + d + 2) c _ _ _ _ _ hc _ ?_))
    rw [wI_eq, ew, ldI_n hx140 (by omega), hkd, h, if_neg (by decide), if_neg (by decide), if_neg (by decide), if_neg (by decide), if_neg (by decide), if_neg (by decide), if_neg (by decide), if_neg (by decide), if_neg (by decide), if_neg (by decide), if_neg (by decide), if_pos (by decide), ldI_n hx140 (by omega), ((mKc_r (u := u) hK hx p1).2 h6).1]
    exact hr2
/-- a datum, in the reference -/
theorem Mo_dt (hK : mKc c B n q T m t) : ∀ D, D ≤ 32 → mKd c n q t u D (3 * D + 6) (kDt q B n D) := by
  intro D
  induction D with
  | zero =>
    intro _ d x p x3 hx ho h32
    rw [show 3 * 0 + 6 + d = d + 5 + 1 by omega]
    obtain ⟨t', h1, h2, h3, h5⟩ := Mo_fail (d + 5) (p := p) (u := u) (t := t) (k := 7) (e := p.1)
    refine ⟨t', eMo_datum (d + 5) c _ _ _ _ hK.1 _ ?_, h2, h3, h5⟩
    rw [show x3 = 32 by omega, if_neg (by decide), oM_at, show (7 : Int32) = nI 7 from rfl, h1, cG_T]
    rfl
  | succ D ih =>
    intro hD d x p x3 hx ho h32
    have h := Mo_dt0 (u := u) hK (kDt_go hK.2.1.2.2.2 D) (ih (by omega)) (by omega) d hx (x3 := x3) (by omega) ho
    rw [show 3 * D + 6 + d + 3 = 3 * (D + 1) + 6 + d by omega] at h
    exact h
end
