/-! the reference: fields; a pair; fitting -/
section
variable {c c1 c2 m l n m1 l1 n1 m2 l2 n2 : Nat} {q q1 q2 : kP} {T T1 T2 : Nat → Nat → Nat} {N N1 N2 : Nat → Int} {t : aT} {L : List (Nat × Nat)}
theorem mPz_go {F G : aRs} {L1 : List (Nat × Nat)} {o : Option (List (Nat × Nat))} {a b : Nat} (h : mPz a b t F L1 o) (go : ∀ r, F = some r → G = some r) : mPz a b t G L1 o := by
  unfold mPz at h ⊢
  split at h
  · exact go _ h
  · obtain ⟨L', h, hp⟩ := h
    exact ⟨L', go _ h, hp⟩
theorem Mo_p177 (h : mBo c1 q1 T1 N1 m1 l1 n1 c2 q2 T2 N2 m2 l2 n2 t) (d : Nat) {x y : Nat} (hx : x < q1.1 1) (hy : y < q2.1 1) (x11 : q1.2.1 0 x = 11) (y11 : q2.2.1 0 y = 11) : ∀ k j L, kPr2 (q1.1 1) (q2.1 1) L → j + k = q2.2.1 4 y → mPz (q1.1 1) (q2.1 1) t (fMo_may_177 (d + 2) c1 (nI x) c2 (nI 11) 1 (zI (kKd q2 y j)) (mAk L t)) L (kAf q1 q2 x y k j) := by
  have h1 := h.1
  have h2 := h.2.1
  have x6 := (kKi h1.2.2.2.2.1 hx).2.mp (by omega)
  have y6 := (kKi h2.2.2.2.2.1 hy).2.mp (by omega)
  intro k
  induction k with
  | zero =>
    intro j L hp hj
    rw [show j = q2.2.1 4 y by omega, kKd_e]
    refine eMo_may_177 (d + 1) _ _ _ _ _ _ _ h1.1 h2.1 _ ?_
    rw [if_pos (by decide)]
    rfl
  | succ k ih =>
    intro j L hp hj
    have hjl : j < q2.2.1 4 y := by omega
    have hk := mW_k (mAk_W (L := L) h2) y6 hy hjl
    have hfl := Mo_fl (mAk_W (L := L) h1) (mAk_W h2) d hx hy (by omega) (by omega) hjl
    have hpk := kPk_le (q1 := q1) (q2 := q2) (x := x) (y := y) (j := j)
    have hko := kKo_lt (q := q1) x6 hx h1.2.2.2.2.1 h1.2.2.2.2.2.2.1 hpk
    have hm := (h2.2.2.2.2.1.2.2.2.1 y j y6 hy hjl).2.2.2.2.1
    have hm2 := h2.2.2.2.1.1
    have e209 : ∀ L1, ∀ r, fMo_may_177 (d + 2) c1 (nI x) c2 (nI 11) 1 (zI (kKd q2 y (j + 1))) (mAk L1 t) = some r → fMo_may_209 (d + 2) c1 (nI x) c2 (nI 11) (nI (q2.2.2 0 y j)) (mAk L1 t) = some r := by
      intro L1 r hr
      have hk2 := mW_k (mAk_W (L := L1) h2) y6 hy hjl
      refine eMo_may_209 (d + 1) _ _ _ _ _ _ h1.1 h2.1 _ (eMo_may_212 (d + 1) _ _ _ _ _ _ _ h1.1 h2.1 _ ?_)
      rw [ldI_n hk.1 (by omega), hk2.2.2.2.2.2]
      exact hr
    have go : ∀ r, (if kPk q1 q2 x y j = 0 then fMo_may_200 (d + 2) c1 (nI x) c2 (nI 11) 1 (nI (q2.2.2 0 y j)) (zI (kKo q1 x (kPk q1 q2 x y j))) (mAk L t) else ldI 2200 (mAk L t) (c1 + 15) (zI (kKo q1 x (kPk q1 q2 x y j))) (fun v3 => ldI 2200 (mAk L t) (c2 + 15) (nI (q2.2.2 0 y j)) (fun v4 => cG (fMo_ask (d + 1) v3 v4 (mAk L t)) (kV fun s5 => fMo_may_200 (d + 2) c1 (nI x) c2 (nI 11) 1 (nI (q2.2.2 0 y j)) (zI (kKo q1 x (kPk q1 q2 x y j))) s5)))) = some r → fMo_may_177 (d + 2) c1 (nI x) c2 (nI 11) 1 (zI (kKd q2 y j)) (mAk L t) = some r := by
      intro r hr
      refine eMo_may_177 (d + 1) _ _ _ _ _ _ _ h1.1 h2.1 _ ?_
      rw [hk.2.1, zI_S, if_neg (nI_n0 (by omega)), if_neg (fun e => e rfl), hfl, cG_I]
      simp only [zI_lt0 (show kKo q1 x (kPk q1 q2 x y j) < 2147483648 by omega), hko.2]
      exact hr
    unfold kAf
    by_cases h0 : kPk q1 q2 x y j = 0
    · rw [if_pos h0]
      simp only [if_pos h0] at go
      have eko : zI (kKo q1 x (kPk q1 q2 x y j)) = -1 := by rw [(hko.2).mpr h0, zI_0]
      by_cases h3 : q2.2.2 3 y j = 0
      · rw [if_pos h3]
        obtain ⟨L', i1, i2⟩ := Mo_p177f h d hx hy x11 y11 k (j + 1) L hp (by omega)
        refine ⟨L', go _ (eMo_may_200 (d + 1) _ _ _ _ _ _ _ _ h1.1 h2.1 _ ?_), i2⟩
        rw [if_neg (by decide), eko, if_neg (by decide), ldI_n hk.1 (by omega), hk.2.2.2.2.1, h3, if_pos (by decide)]
        refine eMo_may_211 (d + 1) _ _ _ _ _ _ h1.1 h2.1 _ (eMo_may_212 (d + 1) _ _ _ _ _ _ _ h1.1 h2.1 _ ?_)
        rw [ldI_n hk.1 (by omega), hk.2.2.2.2.2]
        exact i1
      · rw [if_neg h3]
        refine mPz_go (ih (j + 1) L hp (by omega)) (fun r hr => go r (eMo_may_200 (d + 1) _ _ _ _ _ _ _ _ h1.1 h2.1 _ ?_))
        rw [if_neg (by decide), eko, if_neg (by decide), ldI_n hk.1 (by omega), hk.2.2.2.2.1, zI_pos (by omega), if_neg (nI_n0 (by omega))]
        exact e209 L r hr
    · rw [if_neg h0]
      simp only [if_neg h0] at go
      obtain ⟨p1, p2⟩ := kPx_lt h1.2.2.2.2.1 h1.2.2.2.2.2.1 x6 hx (by omega) (by omega) (i := kPk q1 q2 x y j - 1) (by omega)
      obtain ⟨r1, r2⟩ := kPx_lt h2.2.2.2.2.1 h2.2.2.2.2.2.1 y6 hy (by omega) (by omega) (i := j) hjl
      have hk1 := mW_k (mAk_W (L := L) h1) x6 hx (i := kPk q1 q2 x y j - 1) (by omega)
      have eko : zI (kKo q1 x (kPk q1 q2 x y j)) = nI (q1.2.2 0 x (kPk q1 q2 x y j - 1)) := by
        unfold kKo
        rw [if_neg h0, zI_S]
      have ihh := ih (j + 1) _ (kAs_pr (p := (kPx q1 x (kPk q1 q2 x y j - 1), kPx q2 y j)) hp p2 r2) (by omega)
      have go2 : ∀ r, fMo_may_177 (d + 2) c1 (nI x) c2 (nI 11) 1 (zI (kKd q2 y (j + 1))) (mAk (kAs L (kPx q1 x (kPk q1 q2 x y j - 1), kPx q2 y j)) t) = some r → fMo_may_177 (d + 2) c1 (nI x) c2 (nI 11) 1 (zI (kKd q2 y j)) (mAk L t) = some r := by
        intro r hr
        refine go r ?_
        rw [eko, ldI_n hk1.1 (by omega), hk1.2.2.1, zI_pos (by omega), ldI_n hk.1 (by omega), hk.2.2.1, zI_pos (by omega), mBo_ask h hp (d + 1) p2 r2, cG_V]
        refine eMo_may_200 (d + 1) _ _ _ _ _ _ _ _ h1.1 h2.1 _ ?_
        rw [if_neg (by decide), if_pos (show (0 : Int32) ≤ nI (q1.2.2 0 x (kPk q1 q2 x y j - 1)) by rw [show (0 : Int32) = nI 0 from rfl, nI_leE (by omega) (by omega)]; omega)]
        exact e209 _ r hr
      cases hkf : kAf q1 q2 x y k (j + 1) with
      | none =>
        rw [hkf] at ihh
        obtain ⟨L', ihh, hp'⟩ := ihh
        exact ⟨L', go2 _ ihh, hp'⟩
      | some M =>
        rw [hkf] at ihh
        exact go2 _ ihh
/-- a pair, in the reference -/
theorem Mo_may (h : mBo c1 q1 T1 N1 m1 l1 n1 c2 q2 T2 N2 m2 l2 n2 t) (hp : kPr2 (q1.1 1) (q2.1 1) L) (d : Nat) {x y : Nat} (hx : x < q1.1 1) (hy : y < q2.1 1) : mPz (q1.1 1) (q2.1 1) t (fMo_may (d + 19) c1 (nI x) c2 (nI y) (mAk L t)) L (kPq q1 q2 x y) := by
  have h1 := h.1
  have h2 := h.2.1
  have w1 := mAk_W (L := L) h1
  have w2 := mAk_W (L := L) h2
  have r1 := mW_r w1 hx
  have r2 := mW_r w2 hy
  have k1 := kKi h1.2.2.2.2.1 hx
  have k2 := kKi h2.2.2.2.2.1 hy
  have eE : ∀ a b : Nat, a ≤ 11 → b ≤ 11 → (nI a = nI b) = (a = b) := fun a b ha hb => by rw [nI_eqE (by omega) (by omega)]
  unfold kPq
  by_cases x8 : q1.2.1 0 x = 8
  · rw [if_pos x8]
    refine eMo_may (d + 18) _ _ _ _ _ h1.1 h2.1 _ ?_
    rw [ldI_n r1.1 (by omega), r1.2.1, x8, if_neg (fun e => e rfl), ldI_n r1.1 (by omega), (r1.2.2 (k1.2.mp (by omega))).2.1, Mo_p13 h (d + 18) hx hy x8 (q1.2.1 4 x) 0 L hp (by omega)]
    rfl
  · rw [if_neg x8]
    by_cases y8 : q2.2.1 0 y = 8
    · rw [if_pos y8]
      have y6 := k2.2.mp (by omega)
      have hb := kBf_le (q1 := q1) (q2 := q2) (x := x) (y := y)
      have hko := kKo_lt (q := q2) y6 hy h2.2.2.2.2.1 h2.2.2.2.2.2.2.1 hb
      have hbr := Mo_bf w1 w2 d hx hy y8
      have go : ∀ r, (if kBf q1 q2 x y = 0 then fMo_may_51 (d + 19) (zI (kKo q2 y (kBf q1 q2 x y))) (mAk L t) else ldI 2200 (mAk L t) (c2 + 15) (zI (kKo q2 y (kBf q1 q2 x y))) (fun v15 => cG (fMo_ask (d + 18) (nI x) v15 (mAk L t)) (kV fun s16 => fMo_may_51 (d + 19) (zI (kKo q2 y (kBf q1 q2 x y))) s16))) = some r → fMo_may (d + 19) c1 (nI x) c2 (nI y) (mAk L t) = some r := by
        intro r hr
        refine eMo_may (d + 18) _ _ _ _ _ h1.1 h2.1 _ ?_
        rw [ldI_n r1.1 (by omega), r1.2.1, if_pos (show ¬ nI (q1.2.1 0 x) = 8 by rw [show (8 : Int32) = nI 8 from rfl, eE _ _ k1.1 (by omega)]; exact x8), ldI_n r2.1 (by omega), r2.2.1, y8, if_neg (fun e => e rfl), hbr, cG_I]
        simp only [zI_lt0 (show kKo q2 y (kBf q1 q2 x y) < 2147483648 by omega), hko.2]
        exact hr
      by_cases h0 : kBf q1 q2 x y = 0
      · rw [if_pos h0]
        refine ⟨L, go _ ?_, hp⟩
        rw [if_pos h0]
        refine eMo_may_51 (d + 18) _ _ _ ?_
        rw [(hko.2).mpr h0, if_pos (by decide)]
        rfl
      · rw [if_neg h0]
        obtain ⟨p1, p2⟩ := kPx_lt h2.2.2.2.2.1 h2.2.2.2.2.2.1 y6 hy (by omega) (by omega) (i := kBf q1 q2 x y - 1) (by omega)
        have hk := mW_k w2 y6 hy (i := kBf q1 q2 x y - 1) (by omega)
        have eko : zI (kKo q2 y (kBf q1 q2 x y)) = nI (q2.2.2 0 y (kBf q1 q2 x y - 1)) := by
          unfold kKo
          rw [if_neg h0, zI_S]
        refine go _ ?_
        rw [if_neg h0, eko, ldI_n hk.1 (by omega), hk.2.2.1, zI_pos (by omega), mBo_ask h hp (d + 18) hx p2, cG_V]
        refine eMo_may_51 (d + 18) _ _ _ ?_
        rw [if_neg (nI_n0 (by omega))]
        rfl
    · rw [if_neg y8]
      have e66 : fMo_may_66 (d + 19) c2 (nI y) (nI (q1.2.1 0 x)) (mAk L t) = rI (if q1.2.1 0 x < 6 ∧ kSix (q1.2.1 0 x) (q2.2.1 0 y) then 1 else 0) (mAk L t) := by
        refine eMo_may_66 (d + 18) _ _ _ _ h2.1 _ ?_
        rw [Mo_six (by omega), cG_I]
        by_cases h6 : q1.2.1 0 x < 6
        · rw [if_pos h6, if_neg (by decide), ldI_n r2.1 (by omega), r2.2.1, Mo_six (by omega), cG_I]
          by_cases g6 : q2.2.1 0 y < 6
          · rw [if_pos g6, if_neg (by decide), ldI_n r2.1 (by omega), r2.2.1, Mo_word (d + 18) (by omega) (by omega), cG_I]
            by_cases hs : kSix (q1.2.1 0 x) (q2.2.1 0 y)
            · rw [if_pos hs, if_neg (by decide), if_pos ⟨h6, hs⟩]; rfl
            · rw [if_neg hs, if_pos rfl, if_neg (fun e => hs e.2)]; rfl
          · have k0 : kSix (q1.2.1 0 x) (q2.2.1 0 y) ↔ (q1.2.1 0 x = q2.2.1 0 y ∨ q1.2.1 0 x = 2 ∧ q2.2.1 0 y = 3 ∨ (q1.2.1 0 x = 4 ∨ q1.2.1 0 x = 5) ∧ (q2.2.1 0 y = 4 ∨ q2.2.1 0 y = 5)) := Iff.rfl
            rw [if_neg g6, if_pos rfl, if_neg (fun e => by have := k0.mp e.2; omega)]
            rfl
        · rw [if_neg h6, if_pos rfl, if_neg (fun e => h6 e.1)]
          rfl
      have go0 : ∀ r, (if q1.2.1 0 x < 6 ∨ q2.2.1 0 y < 6 then fMo_may_66 (d + 19) c2 (nI y) (nI (q1.2.1 0 x)) (mAk L t) else if q1.2.1 0 x = q2.2.1 0 y then (if nI (q1.2.1 0 x) = 6 then fMo_may_100 (d + 19) c1 (nI x) c2 (nI y) (mAk L t) else if ¬ nI (q1.2.1 0 x) = 7 then cG (fMo_matches (d + 18) c1 (nI x) c2 (nI y) (mAk L t)) (kI fun v10 s9 => if ¬ v10 = 0 then if ¬ nI (q1.2.1 0 x) = 10 then ldI 140 s9 (c2 + 12) (nI y) (fun v11 => fMo_may_177 (d + 19) c1 (nI x) c2 (nI (q1.2.1 0 x)) 1 v11 s9) else ldI 140 s9 (c1 + 12) (nI x) (fun v12 => fMo_may_136 (d + 19) c1 c2 (nI y) 1 v12 s9) else rI 0 s9) else fMo_may_100 (d + 19) c1 (nI x) c2 (nI y) (mAk L t)) else rI 0 (mAk L t)) = some r → fMo_may (d + 19) c1 (nI x) c2 (nI y) (mAk L t) = some r := by
        intro r hr
        refine eMo_may (d + 18) _ _ _ _ _ h1.1 h2.1 _ ?_
        rw [ldI_n r1.1 (by omega), r1.2.1, if_pos (show ¬ nI (q1.2.1 0 x) = 8 by rw [show (8 : Int32) = nI 8 from rfl, eE _ _ k1.1 (by omega)]; exact x8), ldI_n r2.1 (by omega), r2.2.1, if_pos (show ¬ nI (q2.2.1 0 y) = 8 by rw [show (8 : Int32) = nI 8 from rfl, eE _ _ k2.1 (by omega)]; exact y8), Mo_six (by omega), cG_I]
        by_cases x6 : q1.2.1 0 x < 6
        · rw [if_pos (.inl x6)] at hr
          rw [if_pos x6, if_pos (by decide)]
          exact hr
        · rw [if_neg x6, if_neg (fun e => e rfl), ldI_n r2.1 (by omega), r2.2.1, Mo_six (by omega), cG_I]
          by_cases y6 : q2.2.1 0 y < 6
          · rw [if_pos (.inr y6)] at hr
            rw [if_pos y6, if_neg (by decide)]
            exact hr
          · rw [if_neg (fun e => e.elim x6 y6)] at hr
            rw [if_neg y6, if_pos rfl, ldI_n r2.1 (by omega), r2.2.1]
            simp only [eE _ _ k1.1 k2.1]
            exact hr
      by_cases x6 : q1.2.1 0 x < 6
      · have ek : kAi q1 q2 x y = true ↔ kSix (q1.2.1 0 x) (q2.2.1 0 y) := by
          unfold kAi
          simp only [decide_eq_true_eq, if_pos x6]
        by_cases hs : kSix (q1.2.1 0 x) (q2.2.1 0 y)
        · rw [if_pos (ek.mpr hs), if_neg (by omega), if_neg (by omega), if_neg (by omega)]
          refine go0 _ ?_
          rw [if_pos (.inl x6), e66, if_pos ⟨x6, hs⟩]
          rfl
        · rw [if_neg (fun e => hs (ek.mp e))]
          refine ⟨L, go0 _ ?_, hp⟩
          rw [if_pos (.inl x6), e66, if_neg (fun e => hs e.2)]
          rfl
      · have ek : kAi q1 q2 x y = true ↔ (q1.2.1 0 x = q2.2.1 0 y ∧ (q1.2.1 0 x = 9 → q1.2.1 8 x = q2.2.1 8 y) ∧ (8 ≤ q1.2.1 0 x → kSnm q1 (q1.2.1 9 x) q2 (q2.2.1 9 y) = true)) := by
          unfold kAi
          simp only [decide_eq_true_eq, if_neg x6]
        by_cases y6 : q2.2.1 0 y < 6
        · rw [if_neg (fun e => by have := (ek.mp e).1; omega)]
          refine ⟨L, go0 _ ?_, hp⟩
          rw [if_pos (.inr y6), e66, if_neg (fun e => x6 e.1)]
          rfl
        · have n6 : ¬ (q1.2.1 0 x < 6 ∨ q2.2.1 0 y < 6) := fun e => e.elim x6 y6
          simp only [if_neg n6] at go0
          by_cases he : q1.2.1 0 x = q2.2.1 0 y
          · simp only [if_pos he] at go0
            by_cases hr : q1.2.1 0 x = 6 ∨ q1.2.1 0 x = 7
            · have hr2 : q2.2.1 0 y = 6 ∨ q2.2.1 0 y = 7 := by omega
              have i1 := mW_item w1 hx hr
              have i2 := mW_item w2 hy hr2
              rw [if_pos (ek.mpr ⟨he, fun e => by omega, fun e => by omega⟩), if_pos hr]
              have e100 : fMo_may_100 (d + 19) c1 (nI x) c2 (nI y) (mAk L t) = rI 1 (mAk (kAs L (kPx q1 x 0, kPx q2 y 0)) t) := by
                refine eMo_may_100 (d + 18) _ _ _ _ _ h1.1 h2.1 _ ?_
                rw [ldI_n r1.1 (by omega), i1.1, ldI_n i1.2.1 (by omega), i1.2.2.1, ldI_n r2.1 (by omega), i2.1, ldI_n i2.2.1 (by omega), i2.2.2.1, mBo_ask h hp (d + 18) i1.2.2.2 i2.2.2.2, cG_V]
                rfl
              refine go0 _ ?_
              rcases hr with hr | hr
              · rw [hr, if_pos (by decide), e100]; rfl
              · rw [hr, if_neg (by decide), if_neg (fun e => e rfl), e100]; rfl
            · have hm := Mo_mt w1 w2 (d + 1) 16 x y (h1.2.2.2.2.2.2.2 x hx) hx hy
              rw [show 16 + (d + 1) + 1 = d + 18 by omega] at hm
              have ekm : kMs q1 q2 (16 + 1) x y = kAi q1 q2 x y := by
                unfold kMs
                rw [if_neg (by omega), if_neg hr]
                by_cases ha : kAi q1 q2 x y = true
                · rw [if_pos ha, ha]
                · rw [if_neg ha]; exact (Bool.not_eq_true _ ▸ ha : kAi q1 q2 x y = false).symm
              rw [ekm] at hm
              have n67 : ¬ nI (q1.2.1 0 x) = 6 ∧ ¬ nI (q1.2.1 0 x) = 7 := by
                rw [show (6 : Int32) = nI 6 from rfl, show (7 : Int32) = nI 7 from rfl, eE _ _ k1.1 (by omega), eE _ _ k1.1 (by omega)]
                omega
              rw [hm, cG_I] at go0
              rw [if_neg n67.1, if_pos n67.2] at go0
              by_cases ha : kAi q1 q2 x y = true
              · rw [if_pos ha, if_neg hr]
                rw [if_pos ha, if_pos (by decide)] at go0
                by_cases x10 : q1.2.1 0 x = 10
                · rw [if_pos x10]
                  have hs := Mo_p136 w1 w2 (d + 17) hx hy x10 (by omega) (q1.2.1 4 x) 0 true (by omega)
                  have go1 : ∀ r, fMo_may_136 (d + 19) c1 c2 (nI y) (uF true) (zI (kKd q1 x 0)) (mAk L t) = some r → fMo_may (d + 19) c1 (nI x) c2 (nI y) (mAk L t) = some r := by
                    intro r hr2
                    refine go0 r ?_
                    rw [x10, if_neg (fun e => e rfl), ldI_n r1.1 (by omega), (r1.2.2 (k1.2.mp (by omega))).2.1]
                    exact hr2
                  by_cases hc : q2.2.1 8 y ≠ 0 ∨ kSy q1 q2 x y (q1.2.1 4 x) 0 = true
                  · rw [if_pos hc]
                    refine go1 _ ?_
                    rw [hs, if_pos (hc.imp id (fun e => ⟨rfl, e⟩))]
                    rfl
                  · rw [if_neg hc]
                    refine ⟨L, go1 _ ?_, hp⟩
                    rw [hs, if_neg (fun e => hc (e.imp id (fun g => g.2)))]
                    rfl
                · rw [if_neg x10]
                  have n10 : ¬ nI (q1.2.1 0 x) = 10 := by rw [show (10 : Int32) = nI 10 from rfl, eE _ _ k1.1 (by omega)]; exact x10
                  rw [if_pos n10, ldI_n r2.1 (by omega), (r2.2.2 (k2.2.mp (by omega))).2.1] at go0
                  by_cases x11 : q1.2.1 0 x = 11
                  · rw [if_pos x11]
                    rw [x11] at go0
                    exact mPz_go (Mo_p177 h (d + 17) hx hy x11 (by omega) (q2.2.1 4 y) 0 L hp (by omega)) go0
                  · rw [if_neg x11]
                    refine go0 _ (eMo_may_177 (d + 18) _ _ _ _ _ _ _ h1.1 h2.1 _ ?_)
                    by_cases hz : zI (kKd q2 y 0) < 0
                    · rw [if_pos hz]; rfl
                    · rw [if_neg hz, if_pos (show ¬ nI (q1.2.1 0 x) = 11 by rw [show (11 : Int32) = nI 11 from rfl, eE _ _ k1.1 (by omega)]; exact x11)]
                      rfl
              · rw [if_neg ha]
                rw [if_neg ha, if_neg (fun e => e rfl)] at go0
                exact ⟨L, go0 _ rfl, hp⟩
          · rw [if_neg (fun e => he (ek.mp e).1)]
            simp only [if_neg he] at go0
            exact ⟨L, go0 _ rfl, hp⟩
/-- all pairs, in the reference -/
theorem Mo_fit25 (h : mBo c1 q1 T1 N1 m1 l1 n1 c2 q2 T2 N2 m2 l2 n2 t) (d : Nat) : ∀ f z L, kPr2 (q1.1 1) (q2.1 1) L → z ≤ L.length → f + z = 17957 → ∃ L', fMo_fitsAll_25 (d + 20) c1 c2 1 (nI z) (mAk L t) = rI (if kFa q1 q2 f z L = true then 1 else 0) (mAk L' t) := by
  have e1 := h.1.2.2.2.2.1.1
  have e2 := h.2.1.2.2.2.2.1.1
  intro f
  induction f with
  | zero =>
    intro z L hp hz hf
    have hl := kPr2_len hp (K := 134) (by omega)
    have : q1.1 1 * 134 ≤ 17956 := by omega
    omega
  | succ f ih =>
    intro z L hp hz hf
    have hl := kPr2_len hp (K := 134) (by omega)
    have hmul : q1.1 1 * 134 ≤ 17956 := by omega
    unfold kFa
    by_cases hlz : L.length ≤ z
    · rw [if_pos hlz]
      refine ⟨L, eMo_fitsAll_25 (d + 19) _ _ _ _ _ h.1.1 h.2.1.1 _ ?_⟩
      rw [mAk_n, if_pos (show nI L.length ≤ nI z by rw [nI_leE (by omega) (by omega)]; exact hlz)]
      rfl
    · rw [if_neg hlz]
      have hzl : z < L.length := by omega
      have hmem : L.getD z (0, 0) ∈ L := by
        rw [List.getD_eq_getElem?_getD, List.getElem?_eq_getElem hzl]
        exact List.getElem_mem hzl
      have e51 : gI (mAk L t) 146 z = nI (cd140 (L.getD z (0, 0))) := mAk_146 hzl
      generalize L.getD z (0, 0) = pr at hmem e51 ⊢
      have hin := hp.2 pr hmem
      obtain ⟨u, v⟩ := pr
      have hin : u < q1.1 1 ∧ v < q2.1 1 := hin
      have ecd : cd140 (u, v) = 140 * u + v := rfl
      have ed : (140 * u + v) / 140 = u := by omega
      have c140 : (140 : Int32) = nI 140 := rfl
      have hpa := Mo_may h hp d hin.1 hin.2
      have go : ∀ r, cG (fMo_may (d + 19) c1 (nI u) c2 (nI v) (mAk L t)) (kI fun v4 s3 => fMo_fitsAll_25 (d + 20) c1 c2 v4 (nI (z + 1)) s3) = some r → fMo_fitsAll_25 (d + 20) c1 c2 1 (nI z) (mAk L t) = some r := by
        intro r hr
        refine eMo_fitsAll_25 (d + 19) _ _ _ _ _ h.1.1 h.2.1.1 _ ?_
        rw [mAk_n, if_neg (show ¬ nI L.length ≤ nI z by rw [nI_leE (by omega) (by omega)]; exact hlz), if_neg (by decide), ldI_n (by omega) (by omega), e51, ldI_n (by omega) (by omega), e51, ecd, c140, nI_divE (by omega) (by omega), ed, nI_mulE, nI_sub (by omega), show 140 * u + v - u * 140 = v by omega, nI_add1]
        exact hr
      cases hk : kPq q1 q2 u v with
      | none =>
        rw [hk] at hpa
        obtain ⟨L', hpa, hp'⟩ := hpa
        have hl' := kPr2_len hp' (K := 134) (by omega)
        refine ⟨L', go _ ?_⟩
        rw [hpa, cG_I]
        refine eMo_fitsAll_25 (d + 19) _ _ _ _ _ h.1.1 h.2.1.1 _ ?_
        by_cases hz2 : gI (mAk L' t) 67 30 ≤ nI (z + 1)
        · rw [if_pos hz2]; rfl
        · rw [if_neg hz2, if_pos rfl]; rfl
      | some M =>
        rw [hk] at hpa
        have hpa : fMo_may (d + 19) c1 (nI u) c2 (nI v) (mAk L t) = rI 1 (mAk (kAsl L M) t) := hpa
        have hpr := kAsl_pr M L hp (kPq_in h.1.2.2.2.2.1 h.1.2.2.2.2.2.1 h.2.1.2.2.2.2.1 h.2.1.2.2.2.2.2.1 hin.1 hin.2 hk)
        obtain ⟨L', hL⟩ := ih (z + 1) (kAsl L M) hpr (by have := kAsl_len M L; omega) (by omega)
        refine ⟨L', go _ ?_⟩
        rw [hpa, cG_I, hL]
        rfl
/-- the marks are wiped -/
def mCl (i : Nat) (t : aT) : aT := (fun k j => if k = 145 ∧ j < i then 0 else t.1 k j, t.2)
theorem mCl_I {i k j : Nat} : gI (mCl i t) k j = if k = 145 ∧ j < i then 0 else gI t k j := rfl
theorem mCl_o {i k j : Nat} (h : k ≠ 145) : gI (mCl i t) k j = gI t k j := by rw [mCl_I, if_neg (fun e => h e.1)]
theorem mCl_w {i : Nat} : pI (mCl i t) 145 i 0 = mCl (i + 1) t := by
  refine aT_ext (fun k j => ?_) (fun _ _ => rfl) rfl
  rw [gI_pI, mCl_I, mCl_I]
  by_cases h : k = 145 ∧ j = i
  · rw [if_pos h, if_pos ⟨h.1, by omega⟩]
  · rw [if_neg h]
    by_cases h2 : k = 145 ∧ j < i
    · rw [if_pos h2, if_pos ⟨h2.1, by omega⟩]
    · rw [if_neg h2, if_neg (by omega)]
theorem Mo_fit2 (hc1 : isT c1) (hc2 : isT c2) (d : Nat) : ∀ k i, i + k = 19600 → ∀ r, fMo_fitsAll_2 (d + 1) c1 c2 (nI 19600) (mCl 19600 t) = some r → fMo_fitsAll_2 (d + 1) c1 c2 (nI i) (mCl i t) = some r := by
  intro k
  induction k with
  | zero =>
    intro i hi r hr
    rw [show i = 19600 by omega]
    exact hr
  | succ k ih =>
    intro i hi r hr
    refine eMo_fitsAll_2 d _ _ _ _ hc1 hc2 _ ?_
    rw [if_neg (show ¬ (19600 : Int32) ≤ nI i by rw [show (19600 : Int32) = nI 19600 from rfl, nI_leE (by omega) (by omega)]; omega), stI_n (by omega) (by omega), show vp_nar .boolean 0 = (0 : Int32) by decide, mCl_w, nI_add1]
    exact ih (i + 1) (by omega) r hr
/-- fitting, in the reference -/
theorem Mo_fit {s : aT} (h1 : mW c1 q1 T1 N1 m1 l1 n1 s) (h2 : mW c2 q2 T2 N2 m2 l2 n2 s) (d : Nat) {x y : Nat} (hx : x < q1.1 1) (hy : y < q2.1 1) (r1 : gI s c1 31 = nI x) (r2 : gI s c2 31 = nI y) : ∃ L', fMo_fitsAll (d + 20) c1 c2 s = rI (if kFits q1 q2 x y = true then 1 else 0) (mAk L' (mCl 19600 s)) := by
  have ec1 := isT_r h1.1
  have ec2 := isT_r h2.1
  have hbo : mBo c1 q1 T1 N1 m1 l1 n1 c2 q2 T2 N2 m2 l2 n2 (mCl 19600 s) := ⟨mW_fr (fun k i g1 g2 => mCl_o (by omega)) (fun _ _ => rfl) h1, mW_fr (fun k i g1 g2 => mCl_o (by omega)) (fun _ _ => rfl) h2, fun i hi => by rw [mCl_I, if_pos ⟨rfl, hi⟩]⟩
  have e0 : pI (mCl 19600 s) 67 30 0 = mAk [] (mCl 19600 s) := by
    refine aT_ext (fun k i => ?_) (fun _ _ => rfl) rfl
    rw [gI_pI]
    by_cases h : k = 67 ∧ i = 30
    · rw [if_pos h, h.1, h.2, mAk_n]; rfl
    · rw [if_neg h, mAk_I, if_neg h, if_neg (fun e => by cases e.2), if_neg (fun e => Nat.not_lt_zero _ e.2)]
  have hp0 : kPr2 (q1.1 1) (q2.1 1) [] := ⟨List.nodup_nil, fun p hp => by cases hp⟩
  have hak := mBo_ask hbo hp0 (d + 19) hx hy
  have ek : kAs [] (x, y) = [(x, y)] := by unfold kAs; rw [if_neg (by intro e; cases e)]; rfl
  have hp1 := kAs_pr (p := (x, y)) hp0 hx hy
  rw [ek] at hak hp1
  obtain ⟨L', hL⟩ := Mo_fit25 hbo d 17957 0 [(x, y)] hp1 (Nat.zero_le _) rfl
  refine ⟨L', eMo_fitsAll (d + 19) _ _ _ h1.1 h2.1 _ ?_⟩
  have ecl : s = mCl 0 s := aT_ext (fun k i => by rw [mCl_I, if_neg (by omega)]) (fun _ _ => rfl) rfl
  have g : ∀ r, fMo_fitsAll_2 (d + 19 + 1) c1 c2 (nI 19600) (mCl 19600 s) = some r → fMo_fitsAll_2 (d + 19 + 1) c1 c2 0 s = some r := by
    intro r hr
    have := Mo_fit2 (t := s) h1.1 h2.1 (d + 19) 19600 0 rfl r hr
    rw [← ecl] at this
    exact this
  refine g _ (eMo_fitsAll_2 (d + 19) _ _ _ _ h1.1 h2.1 _ ?_)
  have f1 : gI (mAk [] (mCl 19600 s)) c1 31 = nI x := by rw [mAk_o (by omega), mCl_o (by omega)]; exact r1
  have f2 : gI (mAk [] (mCl 19600 s)) c2 31 = nI y := by rw [mAk_o (by omega), mCl_o (by omega)]; exact r2
  rw [if_pos (by decide), wI_eq, e0, f1, f2, hak, cG_V, show (0 : Int32) = nI 0 from rfl, hL]
  rfl
end
