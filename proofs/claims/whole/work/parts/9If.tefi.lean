/-! the lake: fields, a datum -/
section
variable {A n b1 pb1 qb1 b2 pb2 qb2 m1 m2 c : Nat} {B : Nat → Nat} {q1 q2 : kP} {T1 T2 : Nat → Nat → Nat} {t t' : aT} {L : List Nat} {z : Nat} {dW : Nat → Nat → List Nat}
/-- the places of the writer's fields -/
theorem Te_f6 {D F : Nat} (hF : 2 * D + 3 ≤ F) (d : Nat) {x x3 : Nat} {x2 : Int32} (hx : x < q1.1 1) (x11 : q1.2.1 0 x = 11) (h32 : x3 + 1 + D ≤ 32) {f : Nat → Nat} (hf : ∀ i, i < q1.2.1 4 x → kWq q1 B n D (kPx q1 x i) (f i) (f (i + 1))) : ∀ k i t, i + k = q1.2.1 4 x → lTc A B n c t → lW b1 pb1 qb1 q1 T1 m1 t → (∀ j, j < i → gI t 53 (x3 * 32 + j) = nI (f j)) → ∃ t', lQ (x3 * 32) t t' ∧ (∀ j, j < q1.2.1 4 x → gI t' 53 (x3 * 32 + j) = nI (f j)) ∧ ∀ r, fTe_fields_38 (F + d + 1) (nI (lo b1 x)) x2 (nI x3) (nI (x3 * 32)) (nI (f (q1.2.1 4 x))) 0 (oT (f (q1.2.1 4 x)) (oB c L t')) = some r → fTe_fields_6 (F + d + 1) (nI (lo b1 x)) x2 (nI x3) (nI (x3 * 32)) (nI i) (oT (f i) (oB c L t)) = some r := by
  intro k
  induction k with
  | zero =>
    intro i t hi ht w1 hp
    have hlx := lV_lo w1.1 hx
    have x6 := (kKi w1.2.1 hx).2.mp (by omega)
    have h47 := (w1.2.2.1 x x6 hx).1.2.2.2.2 (by omega) (by omega)
    have h732 := (w1.2.1.2.2.1 x x6 hx).2.2.2.2.2.2.2
    have ww : ∀ a, lW b1 pb1 qb1 q1 T1 m1 (oT a (oB c L t)) := fun a => oT_W (lTc_W ht w1)
    have ei : i = q1.2.1 4 x := by omega
    refine ⟨t, lQ_r, fun j hj => hp j (by omega), fun r hr => eTe_fields_6 (F + d) _ _ _ _ _ _ _ ?_⟩
    rw [ldI_n hlx (by omega), ((ww _).1.2.2.2.1 x x6 hx).2.2.2.1, ← h47, if_pos (show nI (q1.2.1 4 x) ≤ nI i by rw [nI_leE (by omega) (by omega)]; omega), ei, oT_at]
    exact hr
  | succ k ih =>
    intro i t hi ht w1 hp
    have hlx := lV_lo w1.1 hx
    have x6 := (kKi w1.2.1 hx).2.mp (by omega)
    have h47 := (w1.2.2.1 x x6 hx).1.2.2.2.2 (by omega) (by omega)
    have h732 := (w1.2.1.2.2.1 x x6 hx).2.2.2.2.2.2.2
    have hc := ht.2.2.2.1
    have ww : ∀ a, lW b1 pb1 qb1 q1 T1 m1 (oT a (oB c L t)) := fun a => oT_W (lTc_W ht w1)
    have hq : lQ (x3 * 32) t (pI t 53 (x3 * 32 + i) (nI (f i))) := ⟨fun k j hk => by rw [gI_pI, if_neg (by omega)], rfl⟩
    have ht2 := lQ_c hq ht
    have w12 := lQ_W hq w1
    obtain ⟨p1, p2⟩ := kPx_lt w1.2.1 w1.2.2.1 x6 hx (by omega) (by omega) (i := i) (by omega)
    obtain ⟨t', g1, g2, g3⟩ := ih (i + 1) (pI t 53 (x3 * 32 + i) (nI (f i))) (by omega) ht2 w12 (fun j hj => by
      rw [gI_pI]
      by_cases h : j = i
      · rw [if_pos ⟨rfl, by omega⟩, h]
      · rw [if_neg (by omega), hp j (by omega)])
    obtain ⟨d', hd'⟩ : ∃ d', F + d = 2 * D + 3 + d' := ⟨F + d - (2 * D + 3), by omega⟩
    have hsk := Te_sk (lTc_i (L := L) ht2) (lTc_W ht2 w12) D d' (kPx q1 x i) (x3 + 1) (f i) (f (i + 1)) p2 (by omega) (hf i (by omega))
    rw [← hd'] at hsk
    refine ⟨t', lQ_t hq g1, g2, fun r hr => eTe_fields_6 (F + d) _ _ _ _ _ _ _ ?_⟩
    rw [ldI_n hlx (by omega), ((ww _).1.2.2.2.1 x x6 hx).2.2.2.1, ← h47, if_neg (show ¬ nI (q1.2.1 4 x) ≤ nI i by rw [nI_leE (by omega) (by omega)]; omega), nI_addE, stI_n (by omega) (by omega), oT_at, oTB_53 hc, lV_ps (oT_W (lTc_W ht2 w12)).1 w1.2.1 (F + d) x6 hx (by omega) (by omega) p1, cG_I, nI_add1 x3, hsk, cG_V, nI_add1 i]
    exact g3 r hr
/-- what is known of the reader's defaults -/
def kDx (q : kP) (dW : Nat → Nat → List Nat) : Prop := ∀ y j, y < q.1 1 → q.2.1 0 y = 11 → j < q.2.1 4 y → q.2.2 3 y j ≠ 0 → kBt (dW y j) ∧ kDa q (q.2.1 6 y + j) (dW y j)
theorem Te_f38 {D F : Nat} (hdw : kDx q2 dW) (hrec : lDa A B n c b1 pb1 qb1 m1 b2 pb2 qb2 m2 q1 q2 T1 T2 dW D F) (hF : 12 ≤ F) (d : Nat) {x y x3 e : Nat} (hx : x < q1.1 1) (hy : y < q2.1 1) (x11 : q1.2.1 0 x = 11) (y11 : q2.2.1 0 y = 11) (h32 : x3 + 1 + D ≤ 32) {f : Nat → Nat} (hf : ∀ i, i < q1.2.1 4 x → kWq q1 B n D (kPx q1 x i) (f i) (f (i + 1))) : ∀ k j a L M b t, j + k = q2.2.1 4 y → lTc A B n c t → lW b1 pb1 qb1 q1 T1 m1 t → lW b2 pb2 qb2 q2 T2 m2 t → L.length ≤ alen (c + 1) → (∀ i, i < q1.2.1 4 x → gI t 53 (x3 * 32 + i) = nI (f i)) → kTf q1 q2 dW (kTr q1 q2 dW B n D) x y f k j M b → lTy (x3 * 32) c t (fTe_fields_38 (F + d + 1) (nI (lo b1 x)) (nI (lo b2 y)) (nI x3) (nI (x3 * 32)) (nI e) (nI j) (oT a (oB c L t))) L M b e := by
  have h91 : ∀ {z6 v : Int32} {s : aT}, ¬ v = 0 → fTe_fields_91 (F + d + 1) (nI (lo b1 x)) (nI (lo b2 y)) (nI x3) (nI (x3 * 32)) (nI e) z6 v s = rI v s := by
    intro z6 v s h
    refine eTe_fields_91 (F + d) _ _ _ _ _ _ _ _ _ ?_
    rw [if_neg h]
    rfl
  intro k
  induction k with
  | zero =>
    intro j a L M b t hj ht w1 w2 hl hp hM
    obtain ⟨rfl, rfl⟩ := hM
    have hly := lV_lo w2.1 hy
    have y6 := (kKi w2.2.1 hy).2.mp (by omega)
    have h47 := (w2.2.2.1 y y6 hy).1.2.2.2.2 (by omega) (by omega)
    have h732 := (w2.2.1.2.2.1 y y6 hy).2.2.2.2.2.2.2
    have ww : ∀ a, lW b2 pb2 qb2 q2 T2 m2 (oT a (oB c L t)) := fun a => oT_W (lTc_W ht w2)
    unfold lTy
    rw [if_pos (show L.length + ([] : List Nat).length ≤ _ from hl), if_pos rfl]
    refine ⟨t, lQ_r, eTe_fields_38 (F + d) _ _ _ _ _ _ _ _ ?_⟩
    rw [ldI_n hly (by omega), ((ww _).1.2.2.2.1 y y6 hy).2.2.2.1, ← h47, if_pos (show nI (q2.2.1 4 y) ≤ nI j by rw [nI_leE (by omega) (by omega)]; omega), wI_eq, oT_w, List.append_nil]
    rfl
  | succ k ih =>
    intro j a L M b t hj ht w1 w2 hl hp hM
    have hly := lV_lo w2.1 hy
    have y6 := (kKi w2.2.1 hy).2.mp (by omega)
    have x6 := (kKi w1.2.1 hx).2.mp (by omega)
    have h47 := (w2.2.2.1 y y6 hy).1.2.2.2.2 (by omega) (by omega)
    have h732 := (w2.2.1.2.2.1 y y6 hy).2.2.2.2.2.2.2
    have x47 := (w1.2.2.1 x x6 hx).1.2.2.2.2 (by omega) (by omega)
    have x732 := (w1.2.1.2.2.1 x x6 hx).2.2.2.2.2.2.2
    have ww1 : ∀ a, lW b1 pb1 qb1 q1 T1 m1 (oT a (oB c L t)) := fun a => oT_W (lTc_W ht w1)
    have ww : ∀ a, lW b2 pb2 qb2 q2 T2 m2 (oT a (oB c L t)) := fun a => oT_W (lTc_W ht w2)
    have hjl : j < q2.2.1 4 y := by omega
    have h28 := lW_28 w2 hy (by omega) hjl
    have hc := ht.2.2.2.1
    have hk := kPk_le (q1 := q1) (q2 := q2) (x := x) (y := y) (j := j)
    obtain ⟨d0, hd0⟩ : ∃ d0, F + d = d0 + 1 := ⟨F + d - 1, by omega⟩
    have hpl := Sc_pl (ww1 a) (ww a) d0 hx hy (by omega) (by omega) hjl
    rw [← hd0] at hpl
    unfold kTf at hM
    have hih : ∀ M1, (L ++ M1).length ≤ alen (c + 1) → ∀ a' t' M2, lQ (x3 * 32 + 32) t t' → kTf q1 q2 dW (kTr q1 q2 dW B n D) x y f k (j + 1) M2 b → lTy (x3 * 32) c t' (fTe_fields_91 (F + d + 1) (nI (lo b1 x)) (nI (lo b2 y)) (nI x3) (nI (x3 * 32)) (nI e) (nI j) 0 (oT a' (oB c (L ++ M1) t'))) (L ++ M1) M2 b e := by
      intro M1 hl1 a' t' M2 hq h2
      refine lTy_go (ih (j + 1) a' (L ++ M1) M2 b t' (by omega) (lQ_c hq ht) (lQ_W hq w1) (lQ_W hq w2) hl1 (fun i hi => by rw [hq.1 53 _ (by omega)]; exact hp i hi) h2) (fun r hr => eTe_fields_91 (F + d) _ _ _ _ _ _ _ _ _ ?_)
      rw [if_pos rfl, nI_add1]
      exact hr
    by_cases h0 : kPk q1 q2 x y j = 0
    · rw [if_pos h0] at hM
      have go : ∀ r, cG (fTe_defaultOf (F + d) (nI (pb2 + (q2.2.1 6 y + j))) (oT a (oB c L t))) (kI fun v14 s13 => fTe_fields_91 (F + d + 1) (nI (lo b1 x)) (nI (lo b2 y)) (nI x3) (nI (x3 * 32)) (nI e) (nI j) v14 s13) = some r → fTe_fields_38 (F + d + 1) (nI (lo b1 x)) (nI (lo b2 y)) (nI x3) (nI (x3 * 32)) (nI e) (nI j) (oT a (oB c L t)) = some r := by
        intro r hr
        refine eTe_fields_38 (F + d) _ _ _ _ _ _ _ _ ?_
        rw [ldI_n hly (by omega), ((ww _).1.2.2.2.1 y y6 hy).2.2.2.1, ← h47, if_neg (show ¬ nI (q2.2.1 4 y) ≤ nI j by rw [nI_leE (by omega) (by omega)]; omega), ldI_n hly (by omega), ((ww _).1.2.2.2.1 y y6 hy).2.2.1, nI_addE, Nat.add_assoc, hpl, cG_I, if_neg (fun e => e (by rw [zI_n1 (by omega)]; exact h0))]
        exact hr
      by_cases h3 : q2.2.2 3 y j = 0
      · rw [if_pos h3] at hM
        obtain ⟨rfl, rfl⟩ := hM
        unfold lTy
        rw [if_pos (show L.length + ([] : List Nat).length ≤ _ from hl), if_neg (by decide)]
        refine ⟨t, a, L, lQ_r, go _ ?_⟩
        have hdf : fTe_defaultOf (F + d) (nI (pb2 + (q2.2.1 6 y + j))) (oT a (oB c L t)) = rI (-20) (oT a (oB c L t)) := by
          rw [hd0]
          refine eTe_defaultOf d0 _ _ _ ?_
          rw [ldI_n h28.2.2.1 (by omega), if_neg (fun e => e (by rw [lW_30 (ww a) hy y11 hjl]; exact h3))]
          rfl
        rw [hdf, cG_I, h91 (by decide)]
        rfl
      · rw [if_neg h3] at hM
        obtain ⟨M2, rfl, hM⟩ := hM
        obtain ⟨d7, hd7⟩ : ∃ d7, F + d = d7 + 7 := ⟨F + d - 7, by omega⟩
        have hdw2 := hdw y j hy y11 hjl h3
        have hdf := Te_df (a := a) ht w2 hl d7 hy y11 hjl hdw2.1 hdw2.2
        rw [← hd7] at hdf
        have hs := lTy_s (z := x3 * 32) (z1 := x3 * 32 + 32) (e := e) (M := dW y j ++ M2) (b := b) (G := fun v s => fTe_fields_91 (F + d + 1) (nI (lo b1 x)) (nI (lo b2 y)) (nI x3) (nI (x3 * 32)) (nI e) (nI j) v s) (by omega) (lTy_of hdf) (fun v s hv => h91 hv) (by
          rw [if_pos rfl]
          exact ⟨M2, rfl, fun t' hq hl' => hih _ hl' a t' M2 hq hM⟩)
        exact lTy_go hs go
    · rw [if_neg h0] at hM
      obtain ⟨M1, b1', r1, r2⟩ := hM
      obtain ⟨p1, p2⟩ := kPx_lt w1.2.1 w1.2.2.1 x6 hx (by omega) (by omega) (i := kPk q1 q2 x y j - 1) (by omega)
      obtain ⟨y1, y2⟩ := kPx_lt w2.2.1 w2.2.2.1 y6 hy (by omega) (by omega) hjl
      have g29 : gI (oT (f (kPk q1 q2 x y j - 1)) (oB c L t)) 29 (pb2 + (q2.2.1 6 y + j)) = nI (lo b2 (kPx q2 y j)) := by
        have hj := w2.2.1.2.2.2.2 y j y6 hy (by omega)
        rw [((ww _).1.2.2.2.2.1 _ h28.2.2.2.1).2.1, hj.2.1, if_pos hjl]
        unfold zL
        rw [if_neg y1]
      have hd := hrec d (kPx q1 x (kPk q1 q2 x y j - 1)) (kPx q2 y j) (x3 + 1) (f (kPk q1 q2 x y j - 1)) (f (kPk q1 q2 x y j - 1 + 1)) L M1 b1' t ht w1 w2 hl p2 y2 (by omega) (hf _ (by omega)) r1
      have hs := lTy_s (z := x3 * 32) (z1 := (x3 + 1) * 32) (e := e) (M := M) (b := b) (G := fun v s => fTe_fields_91 (F + d + 1) (nI (lo b1 x)) (nI (lo b2 y)) (nI x3) (nI (x3 * 32)) (nI e) (nI j) v s) (by omega) hd (fun v s hv => h91 hv) (by
        cases b1' with
        | false => rw [if_neg (by decide)] at r2 ⊢; exact r2
        | true =>
          rw [if_pos rfl] at r2 ⊢
          obtain ⟨M2, rfl, r2⟩ := r2
          exact ⟨M2, rfl, fun t' hq hl' => hih _ hl' _ t' M2 (lQ_m (by omega) hq) r2⟩)
      refine lTy_go hs (fun r hr => eTe_fields_38 (F + d) _ _ _ _ _ _ _ _ ?_)
      have g53 : gI (oT a (oB c L t)) 53 (x3 * 32 + (kPk q1 q2 x y j - 1)) = nI (f (kPk q1 q2 x y j - 1)) := by rw [oT_o (by omega), oB_o (by omega) (by omega)]; exact hp _ (by omega)
      rw [ldI_n hly (by omega), ((ww _).1.2.2.2.1 y y6 hy).2.2.2.1, ← h47, if_neg (show ¬ nI (q2.2.1 4 y) ≤ nI j by rw [nI_leE (by omega) (by omega)]; omega), ldI_n hly (by omega), ((ww _).1.2.2.2.1 y y6 hy).2.2.1, nI_addE, Nat.add_assoc, hpl, cG_I, if_pos (by rw [zI_n1 (by omega)]; exact h0), zI_pos (by omega), nI_addE, ldI_n (by omega) (by omega), g53, wI_eq, oT_w, lV_ps (ww1 _).1 w1.2.1 (F + d) x6 hx (by omega) (by omega) p1, cG_I, ldI_n h28.2.2.1 (by omega), g29, nI_add1 x3]
      exact hr
/-- a record -/
theorem Te_fi {D F : Nat} (hdw : kDx q2 dW) (hrec : lDa A B n c b1 pb1 qb1 m1 b2 pb2 qb2 m2 q1 q2 T1 T2 dW D F) (hF : 12 ≤ F) (hF2 : 2 * D + 3 ≤ F) (d : Nat) {x y x3 a e : Nat} (hx : x < q1.1 1) (hy : y < q2.1 1) (x11 : q1.2.1 0 x = 11) (y11 : q2.2.1 0 y = 11) (h32 : x3 + 1 + D ≤ 32) {f : Nat → Nat} (f0 : f 0 = a) (f1 : f (q1.2.1 4 x) = e) (hf : ∀ i, i < q1.2.1 4 x → kWq q1 B n D (kPx q1 x i) (f i) (f (i + 1))) {M : List Nat} {b : Bool} (ht : lTc A B n c t) (w1 : lW b1 pb1 qb1 q1 T1 m1 t) (w2 : lW b2 pb2 qb2 q2 T2 m2 t) (hl : L.length ≤ alen (c + 1)) (hM : kTf q1 q2 dW (kTr q1 q2 dW B n D) x y f (q2.2.1 4 y) 0 M b) : lTy (x3 * 32) c t (fTe_fields (F + d + 1) (nI (lo b1 x)) (nI (lo b2 y)) (nI x3) (oT a (oB c L t))) L M b e := by
  obtain ⟨t', g1, g2, g3⟩ := Te_f6 (L := L) (x2 := nI (lo b2 y)) hF2 d hx x11 h32 hf (q1.2.1 4 x) 0 t (by omega) ht w1 (fun j hj => absurd hj (Nat.not_lt_zero _))
  have h38 := Te_f38 (e := e) hdw hrec hF d hx hy x11 y11 h32 hf (q2.2.1 4 y) 0 e L M b t' (by omega) (lQ_c g1 ht) (lQ_W g1 w1) (lQ_W g1 w2) hl g2 hM
  rw [f1] at g3
  rw [f0] at g3
  refine lTy_b g1 (lTy_go h38 (fun r hr => eTe_fields (F + d) _ _ _ _ _ ?_))
  rw [show (32 : Int32) = nI 32 from rfl, nI_mulE]
  exact g3 r hr
end
/-! the lake: a datum, told -/
section
variable {A n b1 pb1 qb1 b2 pb2 qb2 m1 m2 c : Nat} {B : Nat → Nat} {q1 q2 : kP} {T1 T2 : Nat → Nat → Nat} {t : aT} {L : List Nat} {dW : Nat → Nat → List Nat}
theorem kAi_67 {x y : Nat} (h : kAi q1 q2 x y = true) (h6 : 6 ≤ q1.2.1 0 x) : q1.2.1 0 x = q2.2.1 0 y := by
  unfold kAi at h
  have h := of_decide_eq_true h
  rw [if_neg (by omega)] at h
  exact h.1
theorem Te_d56 {D F : Nat} (hdw : kDx q2 dW) (hrec : lDa A B n c b1 pb1 qb1 m1 b2 pb2 qb2 m2 q1 q2 T1 T2 dW D F) (hF : 12 ≤ F) (hF2 : 2 * D + 11 ≤ F) (d : Nat) {x y x3 a e : Nat} (hx : x < q1.1 1) (hy : y < q2.1 1) (x8 : q1.2.1 0 x ≠ 8) (h32 : x3 + 1 + D ≤ 32) (hk : kWq q1 B n (D + 1) x a e) {M : List Nat} {b : Bool} (ht : lTc A B n c t) (w1 : lW b1 pb1 qb1 q1 T1 m1 t) (w2 : lW b2 pb2 qb2 q2 T2 m2 t) (hl : L.length ≤ alen (c + 1)) (hM : kTn q1 q2 dW B n D (kTr q1 q2 dW B n D) x y a e M b) : lTy (x3 * 32) c t (fTe_datum_56 (F + d + 2) (nI (lo b1 x)) (nI x3) (nI (lo b2 y)) (oT a (oB c L t))) L M b e := by
  have hlx := lV_lo w1.1 hx
  have hki := kKi w1.2.1 hx
  have ww1 : lW b1 pb1 qb1 q1 T1 m1 (oT a (oB c L t)) := oT_W (lTc_W ht w1)
  have ww2 : lW b2 pb2 qb2 q2 T2 m2 (oT a (oB c L t)) := oT_W (lTc_W ht w2)
  have hal := Ma_alike ww1 ww2 (F + d) hx hy x8
  unfold kTn at hM
  by_cases ha : kAi q1 q2 x y = true
  · rw [if_pos ha] at hM hal
    have e56 : ∀ (G : aRs) (hG : G = (if q1.2.1 0 x = 6 ∨ q1.2.1 0 x = 7 then fTe_items (F + d + 1) (nI (lo b1 x)) (nI (lo b2 y)) (nI x3) (oT a (oB c L t)) else if q1.2.1 0 x = 10 then fTe_symbol (F + d + 1) (nI (lo b1 x)) (nI (lo b2 y)) (oT a (oB c L t)) else if q1.2.1 0 x = 11 then fTe_fields (F + d + 1) (nI (lo b1 x)) (nI (lo b2 y)) (nI x3) (oT a (oB c L t)) else fTe_asItIs (F + d + 1) (nI (lo b1 x)) (oT a (oB c L t)))) (r : _), cG G (kI fun v s => rI v s) = some r → fTe_datum_56 (F + d + 2) (nI (lo b1 x)) (nI x3) (nI (lo b2 y)) (oT a (oB c L t)) = some r := by
      intro G hG r hr
      refine eTe_datum_56 (F + d + 1) _ _ _ _ _ ?_
      rw [hal, cG_I, if_pos (by decide), ldI_n hlx (by omega), lV_kind ww1.1 w1.2.1 hx]
      have hcase : q1.2.1 0 x = 0 ∨ q1.2.1 0 x = 1 ∨ q1.2.1 0 x = 2 ∨ q1.2.1 0 x = 3 ∨ q1.2.1 0 x = 4 ∨ q1.2.1 0 x = 5 ∨ q1.2.1 0 x = 6 ∨ q1.2.1 0 x = 7 ∨ q1.2.1 0 x = 9 ∨ q1.2.1 0 x = 10 ∨ q1.2.1 0 x = 11 := by omega
      rw [hG] at hr
      rcases hcase with h | h | h | h | h | h | h | h | h | h | h <;> rw [h] at hr ⊢ <;> exact hr
    have fin : ∀ {G : aRs}, lTy (x3 * 32) c t G L M b e → lTy (x3 * 32) c t (cG G (kI fun v s => rI v s)) L M b e := by
      intro G h
      have := lTy_s (z := x3 * 32) (G := fun v s => rI v s) (M := M) (b := b) (e := e) (Nat.le_refl _) h (fun _ _ _ => rfl) (by
        cases b with
        | false => rw [if_neg (by decide)]; exact ⟨rfl, rfl⟩
        | true =>
          rw [if_pos rfl]
          refine ⟨[], by rw [List.append_nil], fun t' _ hl' => ?_⟩
          unfold lTy
          rw [if_pos (by exact hl'), if_pos rfl]
          exact ⟨t', lQ_r, by rw [List.append_nil]⟩)
      exact this
    by_cases h67 : q1.2.1 0 x = 6 ∨ q1.2.1 0 x = 7
    · rw [if_pos h67] at hM
      obtain ⟨k, a1, k1, k2, k3, k4⟩ := hM
      refine lTy_go (fin (Te_it hrec hF d hx hy (kAi_67 ha (by omega)) h67 h32 k1 k2 k3 k4 ht w1 w2 hl)) (e56 _ (by rw [if_pos h67]))
    · rw [if_neg h67] at hM
      by_cases h10 : q1.2.1 0 x = 10
      · rw [if_pos h10] at hM
        obtain ⟨i, i1, i2, i3⟩ := hM
        have hs := Te_sy (A := A) ht w1 w2 hl (F + d - 1) hx hy h10 (by rw [← kAi_67 ha (by omega)]; exact h10) i1 i2 i3
        rw [show F + d - 1 + 2 = F + d + 1 by omega] at hs
        exact lTy_go (fin (lTy_of hs)) (e56 _ (by rw [if_neg h67, if_pos h10]))
      · rw [if_neg h10] at hM
        by_cases h11 : q1.2.1 0 x = 11
        · rw [if_pos h11] at hM
          obtain ⟨f, f0, f1, f2, f3⟩ := hM
          exact lTy_go (fin (Te_fi hdw hrec hF (by omega) d hx hy h11 (by rw [← kAi_67 ha (by omega)]; exact h11) h32 f0 f1 f2 ht w1 w2 hl f3)) (e56 _ (by rw [if_neg h67, if_neg h10, if_pos h11]))
        · rw [if_neg h11] at hM
          obtain ⟨rfl, rfl⟩ := hM
          have hs := Te_as ht w1 hl (F + d - 2 * D - 11) (D := D + 1) (by omega) hx hk
          rw [show 2 * (D + 1) + (F + d - 2 * D - 11) + 10 = F + d + 1 by omega] at hs
          exact lTy_go (fin (lTy_of hs)) (e56 _ (by rw [if_neg h67, if_neg h10, if_neg h11]))
  · rw [if_neg ha] at hM hal
    obtain ⟨rfl, rfl⟩ := hM
    unfold lTy
    rw [if_pos (show L.length + ([] : List Nat).length ≤ _ from hl), if_neg (by decide)]
    refine ⟨t, a, L, lQ_r, eTe_datum_56 (F + d + 1) _ _ _ _ _ ?_⟩
    rw [hal, cG_I, if_neg (fun e => e rfl)]
    rfl
/-- a datum, told by the lake -/
theorem Te_da (hdw : kDx q2 dW) : ∀ D, lDa A B n c b1 pb1 qb1 m1 b2 pb2 qb2 m2 q1 q2 T1 T2 dW D (2 * D + 21) := by
  intro D
  induction D with
  | zero => intro d x y x3 a e L M b t _ _ _ _ _ _ _ h; exact h.elim
  | succ D ih =>
    intro d x y x3 a e L M b t ht w1 w2 hl hx hy h32 hk hM
    have hlx := lV_lo w1.1 hx
    have hly := lV_lo w2.1 hy
    have ww1 : ∀ a L, lW b1 pb1 qb1 q1 T1 m1 (oT a (oB c L t)) := fun a L => oT_W (lTc_W ht w1)
    have ww2 : ∀ a L, lW b2 pb2 qb2 q2 T2 m2 (oT a (oB c L t)) := fun a L => oT_W (lTc_W ht w2)
    have e32 : nI x3 < 32 := by rw [show (32 : Int32) = nI 32 from rfl, nI_ltE (by omega) (by omega)]; omega
    rw [show 2 * (D + 1) + 21 + d = 2 * D + d + 22 + 1 by omega]
    have e8 : ∀ k, k ≤ 11 → (nI k = 8) = (k = 8) := fun k hk => by rw [show (8 : Int32) = nI 8 from rfl, nI_eqE (by omega) (by omega)]
    have k1 := (kKi w1.2.1 hx).1
    have k2 := (kKi w2.2.1 hy).1
    unfold kTr at hM
    by_cases h8 : q1.2.1 0 x = 8
    · rw [if_pos h8] at hM
      obtain ⟨i, a1, i1, i2, i3, i4⟩ := hM
      have h6 := (kKi w1.2.1 hx).2.mp (by omega)
      have h47 := (w1.2.2.1 x h6 hx).1.2.2.2.2 (by omega) (by omega)
      have h732 := (w1.2.1.2.2.1 x h6 hx).2.2.2.2.2.2.2
      obtain ⟨p1, p2⟩ := kPx_lt w1.2.1 w1.2.2.1 h6 hx (by omega) (by omega) (i := i) i1
      have e26 : gI (oT a1 (oB c L t)) 26 (lo b1 x) = nI (q1.2.1 4 x) := by rw [((ww1 a1 L).1.2.2.2.1 x h6 hx).2.2.2.1, h47]
      have hbt : fTe_branchTold (2 * D + d + 22) (nI (lo b1 x)) (oT a (oB c L t)) = rI (nI (lo b1 (kPx q1 x i))) (oT a1 (oB c L t)) := by
        refine eTe_branchTold (2 * D + d + 21) _ _ _ ?_
        rw [Te_vi (lTc_i ht) _ i2.1, cG_L, if_neg (show ¬ aLcmp (Int64.ofNat i) 0 < 0 by rw [aLcmp_lt, ofN_t (by omega), show (0 : Int64).toInt = 0 from rfl]; omega), ldI_n hlx (by omega), e26, nI_long (by omega), if_neg (show ¬ 0 ≤ aLcmp (Int64.ofNat i) (Int64.ofNat (q1.2.1 4 x)) by rw [aLcmp_ge, ofN_t (by omega), ofN_t (by omega)]; omega)]
        refine eTe_branchTold_19 (2 * D + d + 21) _ _ _ _ _ ?_
        rw [if_neg (by decide), ofN_i (by omega), lV_ps (ww1 a1 L).1 w1.2.1 _ h6 hx (by omega) i1 p1, cG_I]
        rfl
      have hd := ih (d + 1) (kPx q1 x i) y (x3 + 1) a1 e L M b t ht w1 w2 hl p2 hy (by omega) i3 i4
      rw [show 2 * D + 21 + (d + 1) = 2 * D + d + 22 by omega] at hd
      have hs := lTy_s (z := x3 * 32) (z1 := (x3 + 1) * 32) (G := fun v s => rI v s) (M := M) (b := b) (e := e) (by omega) hd (fun _ _ _ => rfl) (by
        cases b with
        | false => rw [if_neg (by decide)]; exact ⟨rfl, rfl⟩
        | true =>
          rw [if_pos rfl]
          refine ⟨[], by rw [List.append_nil], fun t' _ hl' => ?_⟩
          unfold lTy
          rw [if_pos (by exact hl'), if_pos rfl]
          exact ⟨t', lQ_r, by rw [List.append_nil]⟩)
      refine lTy_go hs (fun r hr => eTe_datum (2 * D + d + 22) _ _ _ _ _ ?_)
      rw [if_pos e32, ldI_n hlx (by omega), lV_kind (ww1 a L).1 w1.2.1 hx, if_neg (fun e => e (by rw [e8 _ k1]; exact h8)), hbt, cG_I, nI_add1 x3]
      exact hr
    · rw [if_neg h8] at hM
      have go : ∀ r, (if q2.2.1 0 y = 8 then cG (fMa_branchFor (2 * D + d + 22) (nI (lo b1 x)) (nI (lo b2 y)) (oT a (oB c L t))) (kI fun v4 s3 => if ¬ v4 = (-1) then gC (gM3 s3) 0 (cG (fBy_putVarint (2 * D + d + 22) (gM3 s3) v4.toInt64 s3) (kI fun v7 s6 => if ¬ v7 = 0 then cG (fSc_partSchemaOf (2 * D + d + 22) (nI (lo b2 y)) v4 s6) (kI fun v9 s8 => fTe_datum_56 (2 * D + d + 22 + 1) (nI (lo b1 x)) (nI x3) v9 s8) else rI (-31) s6)) else rI (-20) s3) else fTe_datum_56 (2 * D + d + 22 + 1) (nI (lo b1 x)) (nI x3) (nI (lo b2 y)) (oT a (oB c L t))) = some r → fTe_datum (2 * D + d + 22 + 1) (nI (lo b1 x)) (nI (lo b2 y)) (nI x3) (oT a (oB c L t)) = some r := by
        intro r hr
        refine eTe_datum (2 * D + d + 22) _ _ _ _ _ ?_
        rw [if_pos e32, ldI_n hlx (by omega), lV_kind (ww1 a L).1 w1.2.1 hx, if_pos (by rw [e8 _ k1]; exact h8), ldI_n hly (by omega), lV_kind (ww2 a L).1 w2.2.1 hy]
        by_cases y8 : q2.2.1 0 y = 8
        · rw [if_pos y8] at hr
          rw [if_neg (fun e => e (by rw [e8 _ k2]; exact y8))]
          exact hr
        · rw [if_neg y8] at hr
          rw [if_pos (by rw [e8 _ k2]; exact y8)]
          exact hr
      by_cases y8 : q2.2.1 0 y = 8
      · rw [if_pos y8] at hM
        simp only [if_pos y8] at go
        have y6 := (kKi w2.2.1 hy).2.mp (by omega)
        have h47 := (w2.2.2.1 y y6 hy).1.2.2.2.2 (by omega) (by omega)
        have h732 := (w2.2.1.2.2.1 y y6 hy).2.2.2.2.2.2.2
        have hbf := Ma_branch (ww1 a L) (ww2 a L) (2 * D + d + 2) hx hy y8
        rw [show 2 * D + d + 2 + 20 = 2 * D + d + 22 by omega] at hbf
        have hble := kBf_le (q1 := q1) (q2 := q2) (x := x) (y := y)
        by_cases h0 : kBf q1 q2 x y = 0
        · rw [if_pos h0] at hM
          obtain ⟨rfl, rfl⟩ := hM
          unfold lTy
          rw [if_pos (show L.length + ([] : List Nat).length ≤ _ from hl), if_neg (by decide)]
          refine ⟨t, a, L, lQ_r, go _ ?_⟩
          rw [hbf, cG_I, if_neg (fun e => e (by rw [zI_n1 (by omega)]; exact h0))]
          rfl
        · rw [if_neg h0] at hM
          obtain ⟨M', rfl, hM⟩ := hM
          obtain ⟨p1, p2⟩ := kPx_lt w2.2.1 w2.2.2.1 y6 hy (by omega) (by omega) (i := kBf q1 q2 x y - 1) (by omega)
          have g3 : gM3 (oT a (oB c L t)) = c := ht.2.1
          refine lTy_go (Te_pvK (d := 2 * D + d + 22) (v := Int64.ofNat (kBf q1 q2 x y - 1)) (a := a) (K := fun s6 => cG (fSc_partSchemaOf (2 * D + d + 22) (nI (lo b2 y)) (nI (kBf q1 q2 x y - 1)) s6) (kI fun v9 s8 => fTe_datum_56 (2 * D + d + 22 + 1) (nI (lo b1 x)) (nI x3) v9 s8)) ht hl (by omega) (fun hl' => ?_)) (fun r hr => go r ?_)
          · have hd := Te_d56 (x3 := x3) hdw ih (by omega) (by omega) d hx p2 h8 (by omega) hk ht w1 w2 hl' hM
            rw [show 2 * D + 21 + d + 2 = 2 * D + d + 22 + 1 by omega] at hd
            show lTy _ _ _ (cG (fSc_partSchemaOf (2 * D + d + 22) (nI (lo b2 y)) (nI (kBf q1 q2 x y - 1)) _) _) _ _ _ _
            rw [lV_ps (ww2 a _).1 w2.2.1 _ y6 hy (by omega) (by omega) p1, cG_I]
            exact hd
          · rw [hbf, cG_I, if_pos (by rw [zI_n1 (by omega)]; exact h0), g3, gC_B ht.2.2.1, zI_pos (by omega), nI_long (by omega)]
            exact hr
      · rw [if_neg y8] at hM
        simp only [if_neg y8] at go
        have hd := Te_d56 (x3 := x3) hdw ih (by omega) (by omega) d hx hy h8 (by omega) hk ht w1 w2 hl hM
        rw [show 2 * D + 21 + d + 2 = 2 * D + d + 22 + 1 by omega] at hd
        exact lTy_go hd go
end
