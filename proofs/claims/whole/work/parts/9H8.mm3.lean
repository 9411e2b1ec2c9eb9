/-! the reference: a pair, and all pairs -/
def mPz (n1 n2 : Nat) (t : aT) (F : aRs) (L : List (Nat × Nat)) (o : Option (List (Nat × Nat))) : Prop := match o with
  | some M => F = rI 1 (mAk (kAsl L M) t)
  | none => ∃ L', F = rI 0 (mAk L' t) ∧ kPr2 n1 n2 L'
section
variable {c c1 c2 m l n m1 l1 n1 m2 l2 n2 : Nat} {q q1 q2 : kP} {T T1 T2 : Nat → Nat → Nat} {N N1 N2 : Nat → Int} {t : aT} {L : List (Nat × Nat)}
theorem mW_fr {s : aT} (h : ∀ k i, 69 ≤ k → k ≤ 140 → gI s k i = gI t k i) (hL : ∀ k i, gL s k i = gL t k i) (hw : mW c q T N m l n t) : mW c q T N m l n s := by
  obtain ⟨hc, ⟨v1, v2, v3, v4⟩, ⟨t1, t2⟩, hr⟩ := hw
  have hcr := isT_r hc
  refine ⟨hc, ⟨by rw [h _ _ (by omega) (by omega)]; exact v1, fun x hx => ?_, fun x h6 hx => ?_, fun i hi => ?_⟩, ⟨fun i hi => ?_, fun i hi => by rw [h _ _ (by omega) (by omega)]; exact t2 i hi⟩, hr⟩
  · rw [h _ _ (by omega) (by omega), h _ _ (by omega) (by omega), h _ _ (by omega) (by omega)]; exact v2 x hx
  · rw [h _ _ (by omega) (by omega), h _ _ (by omega) (by omega), h _ _ (by omega) (by omega)]; exact v3 x h6 hx
  · rw [h _ _ (by omega) (by omega), h _ _ (by omega) (by omega), h _ _ (by omega) (by omega), h _ _ (by omega) (by omega)]; exact v4 i hi
  · rw [h _ _ (by omega) (by omega), h _ _ (by omega) (by omega), h _ _ (by omega) (by omega), h _ _ (by omega) (by omega), h _ _ (by omega) (by omega), hL]; exact t1 i hi
theorem mAk_W (h : mW c q T N m l n t) : mW c q T N m l n (mAk L t) := mW_fr (fun k i g1 g2 => mAk_o (by omega)) (fun _ _ => rfl) h
/-- two texts, and where pairs are asked -/
def mBo (c1 : Nat) (q1 : kP) (T1 : Nat → Nat → Nat) (N1 : Nat → Int) (m1 l1 n1 c2 : Nat) (q2 : kP) (T2 : Nat → Nat → Nat) (N2 : Nat → Int) (m2 l2 n2 : Nat) (t : aT) : Prop := mW c1 q1 T1 N1 m1 l1 n1 t ∧ mW c2 q2 T2 N2 m2 l2 n2 t ∧ ∀ i, i < 19600 → gI t 145 i = 0
theorem mBo_ask (h : mBo c1 q1 T1 N1 m1 l1 n1 c2 q2 T2 N2 m2 l2 n2 t) (hp : kPr2 (q1.1 1) (q2.1 1) L) (d : Nat) {x y : Nat} (hx : x < q1.1 1) (hy : y < q2.1 1) : fMo_ask d (nI x) (nI y) (mAk L t) = rV (mAk (kAs L (x, y)) t) := by
  have e1 := h.1.2.2.2.2.1.1
  have e2 := h.2.1.2.2.2.2.1.1
  exact Mo_ask h.2.2 hp (by omega) (by omega) d hx hy
theorem nI_n0 {a : Nat} (h : a < 2147483648) : ¬ nI a < 0 := by rw [show (0 : Int32) = nI 0 from rfl, nI_ltE h (by omega)]; omega
/-- a writer's union -/
theorem Mo_p13 (h : mBo c1 q1 T1 N1 m1 l1 n1 c2 q2 T2 N2 m2 l2 n2 t) (d : Nat) {x y : Nat} (hx : x < q1.1 1) (hy : y < q2.1 1) (h8 : q1.2.1 0 x = 8) : ∀ k i L, kPr2 (q1.1 1) (q2.1 1) L → i + k = q1.2.1 4 x → fMo_may_13 (d + 1) c1 (nI y) (zI (kKd q1 x i)) (mAk L t) = rI 1 (mAk (kAsl L (kUa q1 x y k i)) t) := by
  have h1 := h.1
  have h6 := (kKi h1.2.2.2.2.1 hx).2.mp (by omega)
  intro k
  induction k with
  | zero =>
    intro i L hp hi
    rw [show i = q1.2.1 4 x by omega, kKd_e]
    refine eMo_may_13 d _ _ _ _ h1.1 _ ?_
    rw [if_pos (by decide)]
    rfl
  | succ k ih =>
    intro i L hp hi
    obtain ⟨p1, p2⟩ := kPx_lt h1.2.2.2.2.1 h1.2.2.2.2.2.1 h6 hx (by omega) (by omega) (i := i) (by omega)
    have hk := mW_k (mAk_W (L := L) h1) h6 hx (i := i) (by omega)
    have hk2 := mW_k (mAk_W (L := kAs L (kPx q1 x i, y)) h1) h6 hx (i := i) (by omega)
    refine eMo_may_13 d _ _ _ _ h1.1 _ ?_
    rw [hk.2.1, zI_S, if_neg (nI_n0 (by omega)), ldI_n hk.1 (by omega), hk.2.2.1, zI_pos (by omega), mBo_ask h hp d p2 hy, cG_V, ldI_n hk.1 (by omega), hk2.2.2.2.2.2, ih (i + 1) _ (kAs_pr hp p2 hy) (by omega)]
    rfl
/-- symbols -/
theorem Mo_p136 (h1 : mW c1 q1 T1 N1 m1 l1 n1 t) (h2 : mW c2 q2 T2 N2 m2 l2 n2 t) (d : Nat) {x y : Nat} (hx : x < q1.1 1) (hy : y < q2.1 1) (x10 : q1.2.1 0 x = 10) (y10 : q2.2.1 0 y = 10) : ∀ k i (z : Bool), i + k = q1.2.1 4 x → fMo_may_136 (d + 2) c1 c2 (nI y) (uF z) (zI (kKd q1 x i)) t = rI (if q2.2.1 8 y ≠ 0 ∨ (z = true ∧ kSy q1 q2 x y k i = true) then 1 else 0) t := by
  have h6 := (kKi h1.2.2.2.2.1 hx).2.mp (by omega)
  have y6 := (kKi h2.2.2.2.2.1 hy).2.mp (by omega)
  have r2 := mW_r h2 hy
  have b8 := (h2.2.2.2.2.1.2.2.1 y y6 hy).2.2.2.2.2.2.1
  have g14 : gI t (c2 + 14) y = zI (q2.2.1 8 y) := by rw [(r2.2.2 y6).2.2.2, if_pos y10]
  intro k
  induction k with
  | zero =>
    intro i z hi
    rw [show i = q1.2.1 4 x by omega, kKd_e]
    refine eMo_may_136 (d + 1) _ _ _ _ _ _ h1.1 h2.1 _ ?_
    rw [if_pos (by decide), ldI_n r2.1 (by omega), g14]
    simp only [zI_ge0 (show q2.2.1 8 y < 2147483648 by omega)]
    by_cases h8 : q2.2.1 8 y ≠ 0
    · rw [if_pos h8, if_pos (.inl h8)]; rfl
    · rw [if_neg h8]
      cases z with
      | true => rw [if_neg (by decide), if_pos (.inr ⟨rfl, rfl⟩)]; rfl
      | false => rw [if_pos (by decide), if_neg (fun e => e.elim h8 (fun g => by cases g.1))]; rfl
  | succ k ih =>
    intro i z hi
    have hil : i < q1.2.1 4 x := by omega
    have hk := mW_k h1 h6 hx hil
    have w1 := mW_pn h1 hx (by omega) hil
    have hsy := Mo_sy h2 h1 d hy hx (by omega) (by omega) hil
    have hpk := kPk_le (q1 := q2) (q2 := q1) (x := y) (y := x) (j := i)
    have h4y : q2.2.1 4 y ≤ 32 := by
      have a := (h2.2.2.2.2.2.1 y y6 hy).1.2.2.2.2 (by omega) (by omega)
      have c := (h2.2.2.2.2.1.2.2.1 y y6 hy).2.2.2.2.2.2.2
      omega
    have e152 : ∀ z' : Bool, fMo_may_152 (d + 2) c1 c2 (nI y) (nI (q1.2.2 0 x i)) (uF z') t = rI (if q2.2.1 8 y ≠ 0 ∨ (z' = true ∧ kSy q1 q2 x y k (i + 1) = true) then 1 else 0) t := by
      intro z'
      refine eMo_may_152 (d + 1) _ _ _ _ _ _ h1.1 h2.1 _ ?_
      rw [ldI_n hk.1 (by omega), hk.2.2.2.2.2, ih (i + 1) z' (by omega)]
      rfl
    have e151 : fMo_may_151 (d + 2) c1 c2 (nI y) (nI (q1.2.2 0 x i)) t = rI (if q2.2.1 8 y ≠ 0 ∨ (false = true ∧ kSy q1 q2 x y k (i + 1) = true) then 1 else 0) t := eMo_may_151 (d + 1) _ _ _ _ _ h1.1 h2.1 _ (e152 false)
    refine eMo_may_136 (d + 1) _ _ _ _ _ _ h1.1 h2.1 _ ?_
    rw [hk.2.1, zI_S, if_neg (nI_n0 (by omega))]
    have nf : ¬ (false = true ∧ kSy q1 q2 x y k (i + 1) = true) := fun e => by cases e.1
    cases z with
    | false =>
      have nf2 : ¬ (false = true ∧ kSy q1 q2 x y (k + 1) i = true) := fun e => by cases e.1
      rw [if_pos (by decide), e151]
      by_cases h8 : q2.2.1 8 y ≠ 0
      · rw [if_pos (.inl h8), if_pos (.inl h8)]; rfl
      · rw [if_neg (fun e => e.elim h8 nf), if_neg (fun e => e.elim h8 nf2)]; rfl
    | true =>
      rw [if_neg (by decide), ldI_n hk.1 (by omega), hk.2.2.2.1, zI_pos w1.2.1, hsy, cN_I]
      simp only [zI_lt0 (show kPk q2 q1 y x i < 2147483648 by omega)]
      unfold kSy
      by_cases h0 : kPk q2 q1 y x i = 0
      · rw [if_pos h0, e151]
        simp only [if_pos h0]
        by_cases h8 : q2.2.1 8 y ≠ 0
        · rw [if_pos (.inl h8), if_pos (.inl h8)]; rfl
        · rw [if_neg (fun e => e.elim h8 nf), if_neg (fun e => e.elim h8 (fun g => by cases g.2))]; rfl
      · rw [if_neg h0, show (1 : Int32) = uF true from rfl, e152 true]
        simp only [if_neg h0]
        rfl
theorem kKo_lt {x k : Nat} (h6 : 6 ≤ x) (hx : x < q.1 1) (hI : kIv T m q) (h22 : q.1 2 ≤ 2200) (hk : k ≤ q.2.1 4 x) : kKo q x k ≤ 2200 ∧ (kKo q x k = 0 ↔ k = 0) := by
  unfold kKo
  by_cases h0 : k = 0
  · rw [if_pos h0]; omega
  · rw [if_neg h0]
    have := (hI.2.2.2.1 x (k - 1) h6 hx (by omega)).1.1
    omega
/-- the reader's fields, once one is missing -/
theorem Mo_p177f (h : mBo c1 q1 T1 N1 m1 l1 n1 c2 q2 T2 N2 m2 l2 n2 t) (d : Nat) {x y : Nat} (hx : x < q1.1 1) (hy : y < q2.1 1) (x11 : q1.2.1 0 x = 11) (y11 : q2.2.1 0 y = 11) : ∀ k j L, kPr2 (q1.1 1) (q2.1 1) L → j + k = q2.2.1 4 y → ∃ L', fMo_may_177 (d + 2) c1 (nI x) c2 (nI 11) 0 (zI (kKd q2 y j)) (mAk L t) = rI 0 (mAk L' t) ∧ kPr2 (q1.1 1) (q2.1 1) L' := by
  have h1 := h.1
  have h2 := h.2.1
  have x6 := (kKi h1.2.2.2.2.1 hx).2.mp (by omega)
  have y6 := (kKi h2.2.2.2.2.1 hy).2.mp (by omega)
  intro k
  induction k with
  | zero =>
    intro j L hp hj
    rw [show j = q2.2.1 4 y by omega, kKd_e]
    refine ⟨L, eMo_may_177 (d + 1) _ _ _ _ _ _ _ h1.1 h2.1 _ ?_, hp⟩
    rw [if_pos (by decide)]
    rfl
  | succ k ih =>
    intro j L hp hj
    have hjl : j < q2.2.1 4 y := by omega
    have hk := mW_k (mAk_W (L := L) h2) y6 hy hjl
    have hfl := Mo_fl (mAk_W (L := L) h1) (mAk_W h2) d hx hy (by omega) (by omega) hjl
    have hpk := kPk_le (q1 := q1) (q2 := q2) (x := x) (y := y) (j := j)
    have hko := kKo_lt (q := q1) x6 hx h1.2.2.2.2.1 h1.2.2.2.2.2.2.1 hpk
    have e200 : ∀ z8 L1, kPr2 (q1.1 1) (q2.1 1) L1 → ∃ L', fMo_may_200 (d + 2) c1 (nI x) c2 (nI 11) 0 (nI (q2.2.2 0 y j)) z8 (mAk L1 t) = rI 0 (mAk L' t) ∧ kPr2 (q1.1 1) (q2.1 1) L' := by
      intro z8 L1 hp1
      obtain ⟨L', i1, i2⟩ := ih (j + 1) L1 hp1 (by omega)
      have hk2 := mW_k (mAk_W (L := L1) h2) y6 hy hjl
      refine ⟨L', eMo_may_200 (d + 1) _ _ _ _ _ _ _ _ h1.1 h2.1 _ ?_, i2⟩
      rw [if_pos rfl]
      refine eMo_may_211 (d + 1) _ _ _ _ _ _ h1.1 h2.1 _ (eMo_may_212 (d + 1) _ _ _ _ _ _ _ h1.1 h2.1 _ ?_)
      rw [ldI_n hk.1 (by omega), hk2.2.2.2.2.2]
      exact i1
    have go : ∀ r, (if kPk q1 q2 x y j = 0 then fMo_may_200 (d + 2) c1 (nI x) c2 (nI 11) 0 (nI (q2.2.2 0 y j)) (zI (kKo q1 x (kPk q1 q2 x y j))) (mAk L t) else ldI 2200 (mAk L t) (c1 + 15) (zI (kKo q1 x (kPk q1 q2 x y j))) (fun v3 => ldI 2200 (mAk L t) (c2 + 15) (nI (q2.2.2 0 y j)) (fun v4 => cG (fMo_ask (d + 1) v3 v4 (mAk L t)) (kV fun s5 => fMo_may_200 (d + 2) c1 (nI x) c2 (nI 11) 0 (nI (q2.2.2 0 y j)) (zI (kKo q1 x (kPk q1 q2 x y j))) s5)))) = some r → fMo_may_177 (d + 2) c1 (nI x) c2 (nI 11) 0 (zI (kKd q2 y j)) (mAk L t) = some r := by
      intro r hr
      refine eMo_may_177 (d + 1) _ _ _ _ _ _ _ h1.1 h2.1 _ ?_
      rw [hk.2.1, zI_S, if_neg (nI_n0 (by omega)), if_neg (fun e => e rfl), hfl, cG_I]
      simp only [zI_lt0 (show kKo q1 x (kPk q1 q2 x y j) < 2147483648 by omega), hko.2]
      exact hr
    by_cases h0 : kPk q1 q2 x y j = 0
    · obtain ⟨L', i1, i2⟩ := e200 (zI (kKo q1 x (kPk q1 q2 x y j))) L hp
      refine ⟨L', go _ ?_, i2⟩
      rw [if_pos h0]
      exact i1
    · obtain ⟨p1, p2⟩ := kPx_lt h1.2.2.2.2.1 h1.2.2.2.2.2.1 x6 hx (by omega) (by omega) (i := kPk q1 q2 x y j - 1) (by omega)
      obtain ⟨r1, r2⟩ := kPx_lt h2.2.2.2.2.1 h2.2.2.2.2.2.1 y6 hy (by omega) (by omega) (i := j) hjl
      have hk1 := mW_k (mAk_W (L := L) h1) x6 hx (i := kPk q1 q2 x y j - 1) (by omega)
      have eko : zI (kKo q1 x (kPk q1 q2 x y j)) = nI (q1.2.2 0 x (kPk q1 q2 x y j - 1)) := by
        unfold kKo
        rw [if_neg h0, zI_S]
      obtain ⟨L', i1, i2⟩ := e200 (zI (kKo q1 x (kPk q1 q2 x y j))) _ (kAs_pr (p := (kPx q1 x (kPk q1 q2 x y j - 1), kPx q2 y j)) hp p2 r2)
      refine ⟨L', go _ ?_, i2⟩
      rw [if_neg h0]
      rw [eko] at i1 ⊢
      rw [ldI_n hk1.1 (by omega), hk1.2.2.1, zI_pos (by omega), ldI_n hk.1 (by omega), hk.2.2.1, zI_pos (by omega), mBo_ask h hp (d + 1) p2 r2, cG_V]
      exact i1
end
