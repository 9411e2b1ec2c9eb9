/-! the lake: telling, with the places of fields -/
/-- nothing but places of fields, from z on -/
def lQ (z : Nat) (t t' : aT) : Prop := (∀ k i, k ≠ 53 ∨ i < z → gI t' k i = gI t k i) ∧ t'.2 = t.2
theorem lQ_r {z : Nat} {t : aT} : lQ z t t := ⟨fun _ _ _ => rfl, rfl⟩
theorem lQ_m {z z' : Nat} {t t' : aT} (hz : z' ≤ z) (h : lQ z t t') : lQ z' t t' := ⟨fun k i hi => h.1 k i (by omega), h.2⟩
theorem lQ_t {z : Nat} {t t' t2 : aT} (h : lQ z t t') (h2 : lQ z t' t2) : lQ z t t2 := ⟨fun k i hi => by rw [h2.1 k i hi, h.1 k i hi], by rw [h2.2, h.2]⟩
section
variable {A n b1 pb1 qb1 b2 pb2 qb2 m1 m2 c : Nat} {B : Nat → Nat} {q1 q2 : kP} {T1 T2 : Nat → Nat → Nat} {t t' : aT} {L : List Nat} {z : Nat}
theorem lQ_c (h : lQ z t t') (hc : lTc A B n c t) : lTc A B n c t' := by
  obtain ⟨⟨⟨h1, h2⟩, h3, h4, h5, h6⟩, g1, g2, g3, g4, g5⟩ := hc
  have h53 : A ≠ 53 := by
    rintro rfl
    have : aSh0 53 = some (.inl (1, 1024)) := rfl
    rw [this] at g5
    cases g5
  refine ⟨⟨⟨?_, h2⟩, by rw [h.1 52 1 (by omega)]; exact h3, h4, fun i hi => by rw [h.1 A i (by omega)]; exact h5 i hi, h6⟩, ?_, g2, g3, g4, g5⟩
  · rw [← h1]; unfold gM2; rw [h.2]
  · rw [← g1]; unfold gM3; rw [h.2]
theorem lQ_W {b pb qb m : Nat} {q : kP} {T : Nat → Nat → Nat} (h : lQ z t t') (hw : lW b pb qb q T m t) : lW b pb qb q T m t' := lW_fr (fun k i h1 h2 => h.1 k i (by omega)) hw
theorem oTB_53 {a i : Nat} {v : Int32} (hc : c = 5 ∨ c = 7) : pI (oT a (oB c L t)) 53 i v = oT a (oB c L (pI t 53 i v)) := by
  refine aT_ext (fun k j => ?_) (fun _ _ => rfl) rfl
  by_cases h52 : k = 52 ∧ j = 0
  · obtain ⟨rfl, rfl⟩ := h52
    rw [gI_pI, if_neg (by omega), oT_at, oT_at]
  · rw [gI_pI]
    by_cases h : k = 53 ∧ j = i
    · rw [if_pos h, oT_o (by omega), oB_o (by omega) (by omega), gI_pI, if_pos h]
    · rw [if_neg h, oT_o (by omega), oT_o (by omega)]
      by_cases hk : k = c ∨ k = c + 1
      · rw [oB_I, oB_I, gI_pI, if_neg h]
      · rw [oB_o (by omega) (by omega), oB_o (by omega) (by omega), gI_pI, if_neg h]
/-- what telling leaves: letters told, or an error; places of fields from z on -/
def lTy (z c : Nat) (t : aT) (F : aRs) (L M : List Nat) (b : Bool) (e : Nat) : Prop := if L.length + M.length ≤ alen (c + 1) then (if b = true then ∃ t', lQ z t t' ∧ F = rI 0 (oT e (oB c (L ++ M) t')) else ∃ t' a' L', lQ 0 t t' ∧ F = rI (-20) (oT a' (oB c L' t'))) else ∃ t' a' L', lQ 0 t t' ∧ F = rI (-31) (oT a' (oB c L' t'))
theorem lTy_of {F : aRs} {M : List Nat} {b : Bool} {e : Nat} (h : lTl c t F L M b e) : lTy z c t F L M b e := by
  unfold lTl at h
  unfold lTy
  by_cases hq : L.length + M.length ≤ alen (c + 1)
  · rw [if_pos hq] at h ⊢
    cases b with
    | true => rw [if_pos rfl] at h ⊢; exact ⟨t, lQ_r, h⟩
    | false =>
      rw [if_neg (by decide)] at h ⊢
      obtain ⟨a', L', h⟩ := h
      exact ⟨t, a', L', lQ_r, h⟩
  · rw [if_neg hq] at h ⊢
    obtain ⟨a', L', h⟩ := h
    exact ⟨t, a', L', lQ_r, h⟩
theorem lTy_go {F G : aRs} {M : List Nat} {b : Bool} {e : Nat} (h : lTy z c t F L M b e) (go : ∀ r, F = some r → G = some r) : lTy z c t G L M b e := by
  unfold lTy at h ⊢
  by_cases hq : L.length + M.length ≤ alen (c + 1)
  · rw [if_pos hq] at h ⊢
    cases b with
    | true => rw [if_pos rfl] at h ⊢; obtain ⟨t', h1, h2⟩ := h; exact ⟨t', h1, go _ h2⟩
    | false =>
      rw [if_neg (by decide)] at h ⊢
      obtain ⟨t', a', L', h1, h⟩ := h
      exact ⟨t', a', L', h1, go _ h⟩
  · rw [if_neg hq] at h ⊢
    obtain ⟨t', a', L', h1, h⟩ := h
    exact ⟨t', a', L', h1, go _ h⟩
theorem lTy_m {F : aRs} {M : List Nat} {b : Bool} {e z' : Nat} (hz : z' ≤ z) (h : lTy z c t F L M b e) : lTy z' c t F L M b e := by
  unfold lTy at h ⊢
  by_cases hq : L.length + M.length ≤ alen (c + 1)
  · rw [if_pos hq] at h ⊢
    cases b with
    | true => rw [if_pos rfl] at h ⊢; obtain ⟨t', h1, h2⟩ := h; exact ⟨t', lQ_m hz h1, h2⟩
    | false => rw [if_neg (by decide)] at h ⊢; exact h
  · rw [if_neg hq] at h ⊢
    exact h
/-- from a state that differs in places of fields alone -/
theorem lTy_b {F : aRs} {M : List Nat} {b : Bool} {e : Nat} (hq : lQ z t t') (h : lTy z c t' F L M b e) : lTy z c t F L M b e := by
  unfold lTy at h ⊢
  by_cases hq2 : L.length + M.length ≤ alen (c + 1)
  · rw [if_pos hq2] at h ⊢
    cases b with
    | true => rw [if_pos rfl] at h ⊢; obtain ⟨t2, h1, h2⟩ := h; exact ⟨t2, lQ_t hq h1, h2⟩
    | false =>
      rw [if_neg (by decide)] at h ⊢
      obtain ⟨t2, a', L', h1, h⟩ := h
      exact ⟨t2, a', L', lQ_t (lQ_m (Nat.zero_le _) hq) h1, h⟩
  · rw [if_neg hq2] at h ⊢
    obtain ⟨t2, a', L', h1, h⟩ := h
    exact ⟨t2, a', L', lQ_t (lQ_m (Nat.zero_le _) hq) h1, h⟩
/-- one after the other -/
theorem lTy_s {F : aRs} {G : Int32 → aT → aRs} {M M1 : List Nat} {b b1 : Bool} {e e1 z1 : Nat} (hz : z ≤ z1) (h : lTy z1 c t F L M1 b1 e1) (hG : ∀ v s, ¬ v = 0 → G v s = rI v s) (hM : if b1 = true then ∃ M2, M = M1 ++ M2 ∧ ∀ t', lQ z1 t t' → (L ++ M1).length ≤ alen (c + 1) → lTy z c t' (G 0 (oT e1 (oB c (L ++ M1) t'))) (L ++ M1) M2 b e else M = M1 ∧ b = false) : lTy z c t (cG F (kI fun v s => G v s)) L M b e := by
  cases b1 with
  | false =>
    rw [if_neg (by decide)] at hM
    obtain ⟨rfl, rfl⟩ := hM
    unfold lTy at h ⊢
    by_cases hq : L.length + M.length ≤ alen (c + 1)
    · rw [if_pos hq, if_neg (by decide)] at h ⊢
      obtain ⟨t', a', L', h1, h⟩ := h
      exact ⟨t', a', L', h1, by rw [h, cG_I, hG _ _ (by decide)]⟩
    · rw [if_neg hq] at h ⊢
      obtain ⟨t', a', L', h1, h⟩ := h
      exact ⟨t', a', L', h1, by rw [h, cG_I, hG _ _ (by decide)]⟩
  | true =>
    rw [if_pos rfl] at hM
    obtain ⟨M2, rfl, hM⟩ := hM
    unfold lTy at h
    by_cases hq : L.length + M1.length ≤ alen (c + 1)
    · rw [if_pos hq, if_pos rfl] at h
      obtain ⟨t', h1, h⟩ := h
      have hm := lTy_b (lQ_m hz h1) (hM t' h1 (by rw [List.length_append]; exact hq))
      rw [h, cG_I]
      unfold lTy at hm ⊢
      rw [List.length_append] at hm ⊢
      rw [List.append_assoc, Nat.add_assoc] at hm
      exact hm
    · rw [if_neg hq] at h
      obtain ⟨t', a', L', h1, h⟩ := h
      unfold lTy
      rw [List.length_append, if_neg (by omega)]
      exact ⟨t', a', L', h1, by rw [h, cG_I, hG _ _ (by decide)]⟩
/-- a number, and what comes behind it -/
theorem Te_pvK (h : lTc A B n c t) (hl : L.length ≤ alen (c + 1)) {d : Nat} (hd : 1 ≤ d) {v : Int64} {a e : Nat} {K : aT → aRs} {M : List Nat} {b : Bool} (hK : (L ++ kVb v).length ≤ alen (c + 1) → lTy z c t (K (oT a (oB c (L ++ kVb v) t))) (L ++ kVb v) M b e) : lTy z c t (cG (fBy_putVarint d c v (oT a (oB c L t))) (kI fun v5 s4 => if ¬ v5 = 0 then K s4 else rI (-31) s4)) L (kVb v ++ M) b e := by
  have hc := h.2.2.2.1
  by_cases hq : L.length + (kVb v).length ≤ alen (c + 1)
  · have hm := hK (by rw [List.length_append]; exact hq)
    rw [oT_oB (by omega), Ob_vi hd h.2.2.1 hq, cG_I, if_pos (by decide), ← oT_oB (by omega)]
    unfold lTy at hm ⊢
    rw [List.length_append] at hm ⊢
    rw [List.append_assoc, Nat.add_assoc] at hm
    exact hm
  · unfold lTy
    rw [List.length_append, if_neg (by omega)]
    obtain ⟨L', hv⟩ := Ob_viF (t := oT a t) hd h.2.2.1 hl (Nat.lt_of_not_le hq)
    refine ⟨t, a, L', lQ_r, ?_⟩
    rw [oT_oB (by omega), hv, cG_I, if_neg (fun e => e rfl), oT_oB (by omega)]
theorem kWq_5 {q : kP} {T : Nat → Nat → Nat} {m a e : Nat} (hB : ∀ i, B i < 256) (hI : kIv T m q) (h : kSs2 B n a e) : kWq q B n 1 5 a e := by
  have h5 := (hI.2.1 5 (by omega)).1
  have hle := kSs2_le hB h
  unfold kWq
  refine ⟨⟨by omega, hle.2⟩, fun e => by omega, fun e => by omega, fun e => by omega, fun _ => h, fun e => by omega, fun e => by omega, fun e => by omega, fun e => by omega, fun e => by omega⟩
/-- what is known of the data inside -/
def lDa (A : Nat) (B : Nat → Nat) (n c b1 pb1 qb1 m1 b2 pb2 qb2 m2 : Nat) (q1 q2 : kP) (T1 T2 : Nat → Nat → Nat) (dW : Nat → Nat → List Nat) (D F : Nat) : Prop := ∀ d x y x3 a e L M b t, lTc A B n c t → lW b1 pb1 qb1 q1 T1 m1 t → lW b2 pb2 qb2 q2 T2 m2 t → L.length ≤ alen (c + 1) → x < q1.1 1 → y < q2.1 1 → x3 + D ≤ 32 → kWq q1 B n D x a e → kTr q1 q2 dW B n D x y a e M b → lTy (x3 * 32) c t (fTe_datum (F + d) (nI (lo b1 x)) (nI (lo b2 y)) (nI x3) (oT a (oB c L t))) L M b e
theorem Te_i57 {d : Nat} {x1 x2 x3 z6 v : Int32} {l4 : Int64} {s : aT} (h : ¬ v = 0) : fTe_items_57 (d + 1) x1 x2 x3 l4 z6 v s = rI v s := by
  refine eTe_items_57 d _ _ _ _ _ _ _ _ ?_
  rw [if_neg h]
  rfl
/-- items -/
theorem Te_i18 {D F : Nat} {dW : Nat → Nat → List Nat} (hrec : lDa A B n c b1 pb1 qb1 m1 b2 pb2 qb2 m2 q1 q2 T1 T2 dW D F) (hF : 12 ≤ F) (d : Nat) {x y x3 : Nat} (hx : x < q1.1 1) (hy : y < q2.1 1) (hk : q1.2.1 0 x = q2.2.1 0 y) (h67 : q1.2.1 0 x = 6 ∨ q1.2.1 0 x = 7) (h32 : x3 + 1 + D ≤ 32) {k0 e : Nat} (hc : k0 ≤ 2000) {f g : Nat → Nat} (he : kNu B n (f k0) 0 e) (hf : ∀ i, i < k0 → (if q1.2.1 0 x = 7 then kSs2 B n (f i) (g i) else g i = f i) ∧ kWq q1 B n D (kPx q1 x 0) (g i) (f (i + 1))) : ∀ k i L M b t, i + k = k0 → lTc A B n c t → lW b1 pb1 qb1 q1 T1 m1 t → lW b2 pb2 qb2 q2 T2 m2 t → L.length ≤ alen (c + 1) → kTi q1 q2 B (kTr q1 q2 dW B n D) x y f g k i M b → lTy (x3 * 32) c t (fTe_items_18 (F + d + 1) (nI (lo b1 x)) (nI (lo b2 y)) (nI x3) (Int64.ofNat k0) (nI i) (oT (f i) (oB c L t))) L M b e := by
  have ecmp : ∀ i, i ≤ k0 → (0 ≤ aLcmp (nI i).toInt64 (Int64.ofNat k0)) = (k0 ≤ i) := fun i h => by
    rw [nI_long (by omega), aLcmp_ge, ofN_t (by omega), ofN_t (by omega)]
    exact propext ⟨fun h => by omega, fun h => by omega⟩
  intro k
  induction k with
  | zero =>
    intro i L M b t hi ht w1 w2 hl hM
    obtain ⟨rfl, rfl⟩ := hM
    have hpv := Te_pv (d := F + d) (v := 0) (e := e) ht hl (by omega)
    rw [show kVb 0 = [0] from rfl] at hpv
    refine lTy_of (lTl_go hpv (fun r hr => eTe_items_18 (F + d) _ _ _ _ _ _ _ ?_))
    rw [if_pos (by rw [ecmp i (by omega)]; omega)]
    refine eTe_items_63 (F + d) _ _ ?_
    have g3 : gM3 (oT e (oB c L t)) = c := ht.2.1
    rw [show i = k0 by omega, Te_vi (lTc_i ht) _ he.1, cG_L, g3, gC_B ht.2.2.1]
    exact hr
  | succ k ih =>
    intro i L M b t hi ht w1 w2 hl hM
    have hlx := lV_lo w1.1 hx
    have hly := lV_lo w2.1 hy
    have x6 := (kKi w1.2.1 hx).2.mp (by omega)
    have y6 := (kKi w2.2.1 hy).2.mp (by omega)
    have itx := lW_item w1 hx h67
    have ity := lW_item w2 hy (by omega)
    have hpx := (kPx_lt w1.2.1 w1.2.2.1 x6 hx (by omega) (by omega) (i := 0) (by omega)).2
    have hpy := (kPx_lt w2.2.1 w2.2.2.1 y6 hy (by omega) (by omega) (i := 0) (by omega)).2
    have hB := ht.1.2.2.2.2
    obtain ⟨f1, f2⟩ := hf i (by omega)
    obtain ⟨M1, b1', r1, r2⟩ := hM
    have e38 : ∀ L t M, lTc A B n c t → lW b1 pb1 qb1 q1 T1 m1 t → lW b2 pb2 qb2 q2 T2 m2 t → L.length ≤ alen (c + 1) → (if b1' = true then ∃ M2, M = M1 ++ M2 ∧ kTi q1 q2 B (kTr q1 q2 dW B n D) x y f g k (i + 1) M2 b else M = M1 ∧ b = false) → lTy (x3 * 32) c t (fTe_items_38 (F + d + 1) (nI (lo b1 x)) (nI (lo b2 y)) (nI x3) (Int64.ofNat k0) (nI i) 0 (oT (g i) (oB c L t))) L M b e := by
      intro L t M ht w1 w2 hl hM
      have hd := hrec d (kPx q1 x 0) (kPx q2 y 0) (x3 + 1) (g i) (f (i + 1)) L M1 b1' t ht w1 w2 hl hpx hpy (by omega) f2 r1
      have hs := lTy_s (e := e) (M := M) (b := b) (G := fun v s => fTe_items_57 (F + d + 1) (nI (lo b1 x)) (nI (lo b2 y)) (nI x3) (Int64.ofNat k0) (nI i) v s) (show x3 * 32 ≤ (x3 + 1) * 32 by omega) hd (fun v s hv => Te_i57 hv) (by
        cases b1' with
        | false => rw [if_neg (by decide)] at hM ⊢; exact hM
        | true =>
          rw [if_pos rfl] at hM ⊢
          obtain ⟨M2, rfl, hM⟩ := hM
          refine ⟨M2, rfl, fun t' hq hl' => lTy_go (ih (i + 1) (L ++ M1) M2 b t' (by omega) (lQ_c hq ht) (lQ_W hq w1) (lQ_W hq w2) hl' hM) (fun r hr => eTe_items_57 (F + d) _ _ _ _ _ _ _ _ ?_)⟩
          rw [if_pos rfl, nI_add1]
          exact hr)
      refine lTy_go hs (fun r hr => eTe_items_38 (F + d) _ _ _ _ _ _ _ _ ?_)
      rw [if_neg (fun e => e rfl), ldI_n hlx (by omega), (lW_item (oT_W (lTc_W ht w1)) hx h67).1, ldI_n hly (by omega), (lW_item (oT_W (lTc_W ht w2)) hy (by omega)).1, nI_add1 x3]
      exact hr
    by_cases h7 : q1.2.1 0 x = 7
    · rw [if_pos h7] at f1
      have g5 := kSs2_le hB f1
      obtain ⟨d', hd'⟩ : ∃ d', F + d = 2 * 1 + d' + 10 := ⟨F + d - 12, by omega⟩
      have has := Te_as ht w1 hl d' (D := 1) (x := 5) (by omega) (by have := w1.2.1.1.1; omega) (kWq_5 hB w1.2.1 f1)
      rw [← hd', show lo b1 5 = 5 from rfl] at has
      have hs := lTy_s (e := e) (M := M) (b := b) (G := fun v s => fTe_items_38 (F + d + 1) (nI (lo b1 x)) (nI (lo b2 y)) (nI x3) (Int64.ofNat k0) (nI i) v s) (Nat.le_refl (x3 * 32)) (lTy_of has) (fun v s hv => by
        refine eTe_items_38 (F + d) _ _ _ _ _ _ _ _ ?_
        rw [if_pos hv, Te_i57 hv]
        rfl) (by
        rw [if_pos rfl]
        cases b1' with
        | false =>
          rw [if_neg (by decide)] at r2
          exact ⟨M1, r2.1, fun t' hq hl' => e38 _ t' M1 (lQ_c hq ht) (lQ_W hq w1) (lQ_W hq w2) hl' (by rw [if_neg (by decide)]; exact ⟨rfl, r2.2⟩)⟩
        | true =>
          rw [if_pos rfl] at r2
          obtain ⟨M2, r3, r4⟩ := r2
          exact ⟨M1 ++ M2, r3, fun t' hq hl' => e38 _ t' _ (lQ_c hq ht) (lQ_W hq w1) (lQ_W hq w2) hl' (by rw [if_pos rfl]; exact ⟨M2, rfl, r4⟩)⟩)
      refine lTy_go hs (fun r hr => eTe_items_18 (F + d) _ _ _ _ _ _ _ ?_)
      rw [if_neg (by rw [ecmp i (by omega)]; omega), if_neg (show ¬ (2000 : Int32) ≤ nI i by rw [show (2000 : Int32) = nI 2000 from rfl, nI_leE (by omega) (by omega)]; omega), ldI_n hlx (by omega), lV_kind (oT_W (lTc_W ht w1)).1 w1.2.1 hx, h7, if_neg (fun e => e rfl)]
      exact hr
    · rw [if_neg h7] at f1
      have e0 : kTp B (f i) (g i - f i) = [] := by rw [f1, Nat.sub_self]; rfl
      rw [e0] at r2
      have h38 := e38 L t M ht w1 w2 hl (by
        cases b1' with
        | false => rw [if_neg (by decide)] at r2 ⊢; exact r2
        | true => rw [if_pos rfl] at r2 ⊢; exact r2)
      refine lTy_go h38 (fun r hr => eTe_items_18 (F + d) _ _ _ _ _ _ _ ?_)
      rw [if_neg (by rw [ecmp i (by omega)]; omega), if_neg (show ¬ (2000 : Int32) ≤ nI i by rw [show (2000 : Int32) = nI 2000 from rfl, nI_leE (by omega) (by omega)]; omega), ldI_n hlx (by omega), lV_kind (oT_W (lTc_W ht w1)).1 w1.2.1 hx, if_pos (show ¬ nI (q1.2.1 0 x) = 7 by rw [show (7 : Int32) = nI 7 from rfl, nI_eqE (by omega) (by omega)]; exact h7), ← f1]
      exact hr
/-- a list, a map -/
theorem Te_it {D F : Nat} {dW : Nat → Nat → List Nat} (hrec : lDa A B n c b1 pb1 qb1 m1 b2 pb2 qb2 m2 q1 q2 T1 T2 dW D F) (hF : 12 ≤ F) (d : Nat) {x y x3 : Nat} (hx : x < q1.1 1) (hy : y < q2.1 1) (hk : q1.2.1 0 x = q2.2.1 0 y) (h67 : q1.2.1 0 x = 6 ∨ q1.2.1 0 x = 7) (h32 : x3 + 1 + D ≤ 32) {k a a1 e : Nat} (hc : k ≤ 2000) (hn : kNu B n a (Int64.ofNat k) a1) {M : List Nat} {b : Bool} (h0 : k = 0 → e = a1 ∧ M = [0] ∧ b = true) (h1 : k ≠ 0 → ∃ f g : Nat → Nat, f 0 = a1 ∧ kNu B n (f k) 0 e ∧ (∀ i, i < k → (if q1.2.1 0 x = 7 then kSs2 B n (f i) (g i) else g i = f i) ∧ kWq q1 B n D (kPx q1 x 0) (g i) (f (i + 1))) ∧ ∃ L', M = kVb (Int64.ofNat k) ++ L' ∧ kTi q1 q2 B (kTr q1 q2 dW B n D) x y f g k 0 L' b) (ht : lTc A B n c t) (w1 : lW b1 pb1 qb1 q1 T1 m1 t) (w2 : lW b2 pb2 qb2 q2 T2 m2 t) (hl : L.length ≤ alen (c + 1)) : lTy (x3 * 32) c t (fTe_items (F + d + 1) (nI (lo b1 x)) (nI (lo b2 y)) (nI x3) (oT a (oB c L t))) L M b e := by
  have g3 : gM3 (oT a1 (oB c L t)) = c := ht.2.1
  have e0 : (aLcmp (Int64.ofNat k) 0 = 0) = (k = 0) := by
    rw [aLcmp_eq, ofN_t (by omega), show (0 : Int64).toInt = 0 from rfl]
    exact propext ⟨fun h => by omega, fun h => by omega⟩
  have go : ∀ M b, M.length = M.length → ((L ++ kVb (Int64.ofNat k)).length ≤ alen (c + 1) → lTy (x3 * 32) c t ((fun s4 => if ¬ aLcmp (Int64.ofNat k) 0 = 0 then fTe_items_18 (F + d + 1) (nI (lo b1 x)) (nI (lo b2 y)) (nI x3) (Int64.ofNat k) 0 s4 else rI 0 s4) (oT a1 (oB c (L ++ kVb (Int64.ofNat k)) t))) (L ++ kVb (Int64.ofNat k)) M b e) → lTy (x3 * 32) c t (fTe_items (F + d + 1) (nI (lo b1 x)) (nI (lo b2 y)) (nI x3) (oT a (oB c L t))) L (kVb (Int64.ofNat k) ++ M) b e := by
    intro M b _ hK
    refine lTy_go (Te_pvK (d := F + d) (a := a1) (K := fun s4 => if ¬ aLcmp (Int64.ofNat k) 0 = 0 then fTe_items_18 (F + d + 1) (nI (lo b1 x)) (nI (lo b2 y)) (nI x3) (Int64.ofNat k) 0 s4 else rI 0 s4) ht hl (by omega) hK) (fun r hr => eTe_items (F + d) _ _ _ _ _ ?_)
    rw [Te_vi (lTc_i ht) _ hn.1, cG_L, g3, gC_B ht.2.2.1]
    exact hr
  by_cases k0 : k = 0
  · obtain ⟨rfl, rfl, rfl⟩ := h0 k0
    have := go [] true rfl (fun hl' => by
      show lTy (x3 * 32) c t (if ¬ aLcmp (Int64.ofNat k) 0 = 0 then _ else _) _ _ _ _
      rw [if_neg (fun h => h (by rw [e0]; exact k0))]
      unfold lTy
      rw [if_pos (by exact hl'), if_pos rfl]
      exact ⟨t, lQ_r, by rw [List.append_nil]⟩)
    rw [k0, show kVb (Int64.ofNat 0) ++ [] = [0] from rfl] at this
    exact this
  · obtain ⟨f, g, rfl, f1, f2, M', rfl, f3⟩ := h1 k0
    refine go M' b rfl (fun hl' => ?_)
    show lTy (x3 * 32) c t (if ¬ aLcmp (Int64.ofNat k) 0 = 0 then _ else _) _ _ _ _
    rw [if_pos (fun h => k0 (by rw [e0] at h; exact h))]
    exact Te_i18 hrec hF d hx hy hk h67 h32 hc f1 f2 k 0 _ M' b t (by omega) ht w1 w2 hl' f3
end
