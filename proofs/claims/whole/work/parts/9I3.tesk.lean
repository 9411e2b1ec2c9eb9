/-! the lake: a datum is skipped -/
section
variable {A n b pb qb m : Nat} {B : Nat → Nat} {q : kP} {T : Nat → Nat → Nat} {t : aT}
/-- what is known about the data inside -/
def lSk (B : Nat → Nat) (n b : Nat) (q : kP) (t : aT) (D F : Nat) : Prop := ∀ d x x2 a e, x < q.1 1 → x2 + D ≤ 32 → kWq q B n D x a e → fTe_skip (F + d) (nI (lo b x)) (nI x2) (oT a t) = rV (oT e t)
theorem Te_sk51 {D F : Nat} (hi : lTi A B n t) (hw : lW b pb qb q T m t) (hrec : lSk B n b q t D F) (d : Nat) {x x2 : Nat} (hx : x < q.1 1) (h32 : x2 + 1 + D ≤ 32) (h11 : q.2.1 0 x = 11) {f : Nat → Nat} (hf : ∀ i, i < q.2.1 4 x → kWq q B n D (kPx q x i) (f i) (f (i + 1))) : ∀ k i, i + k = q.2.1 4 x → fTe_skip_51 (F + d + 1) (nI (lo b x)) (nI x2) (nI i) (oT (f i) t) = rV (oT (f (q.2.1 4 x)) t) := by
  have hlx := lV_lo hw.1 hx
  have h6 := (kKi hw.2.1 hx).2.mp (by omega)
  have h47 := (hw.2.2.1 x h6 hx).1.2.2.2.2 (by omega) (by omega)
  have h732 := (hw.2.1.2.2.1 x h6 hx).2.2.2.2.2.2.2
  have e26 : ∀ a, gI (oT a t) 26 (lo b x) = nI (q.2.1 4 x) := fun a => by rw [oT_o (by omega), (hw.1.2.2.2.1 x h6 hx).2.2.2.1, h47]
  intro k
  induction k with
  | zero =>
    intro i hi2
    refine eTe_skip_51 (F + d) _ _ _ _ _ ?_
    rw [ldI_n hlx (by omega), e26, if_pos (show nI (q.2.1 4 x) ≤ nI i by rw [nI_leE (by omega) (by omega)]; omega), show i = q.2.1 4 x by omega]
    rfl
  | succ k ih =>
    intro i hi2
    obtain ⟨p1, p2⟩ := kPx_lt hw.2.1 hw.2.2.1 h6 hx (by omega) (by omega) (i := i) (by omega)
    refine eTe_skip_51 (F + d) _ _ _ _ _ ?_
    rw [ldI_n hlx (by omega), e26, if_neg (show ¬ nI (q.2.1 4 x) ≤ nI i by rw [nI_leE (by omega) (by omega)]; omega), lV_ps (oT_W hw).1 hw.2.1 (F + d) h6 hx (by omega) (by omega) p1, cG_I, nI_add1 x2, hrec d (kPx q x i) (x2 + 1) (f i) (f (i + 1)) p2 (by omega) (hf i (by omega)), cG_V, nI_add1 i, ih (i + 1) (by omega)]
    rfl
theorem Te_sk5i {D F : Nat} (hi : lTi A B n t) (hw : lW b pb qb q T m t) (hrec : lSk B n b q t D F) (hF : 1 ≤ F) (d : Nat) {x x2 : Nat} (hx : x < q.1 1) (h32 : x2 + 1 + D ≤ 32) (h67 : q.2.1 0 x = 6 ∨ q.2.1 0 x = 7) {c e : Nat} (hc : c ≤ 2000) (hc0 : c ≠ 0) {f g : Nat → Nat} (he : kNu B n (f c) 0 e) (hf : ∀ i, i < c → (if q.2.1 0 x = 7 then kSs2 B n (f i) (g i) else g i = f i) ∧ kWq q B n D (kPx q x 0) (g i) (f (i + 1))) : ∀ k i, i + k = c → fTe_skipItems_5 (F + d + 1) (nI (lo b x)) (nI x2) (Int64.ofNat c) (nI i) (oT (f i) t) = rV (oT e t) := by
  have hlx := lV_lo hw.1 hx
  have h6 := (kKi hw.2.1 hx).2.mp (by omega)
  have hit := lW_item hw hx h67
  have hp := (kPx_lt hw.2.1 hw.2.2.1 h6 hx (by omega) (by omega) (i := 0) (by omega)).2
  have ecmp : ∀ i, i ≤ c → (0 ≤ aLcmp (nI i).toInt64 (Int64.ofNat c)) = (c ≤ i) := fun i h => by
    rw [nI_long (by omega), aLcmp_ge, ofN_t (by omega), ofN_t (by omega)]
    exact propext ⟨fun h => by omega, fun h => by omega⟩
  intro k
  induction k with
  | zero =>
    intro i hi2
    have ei : i = c := by omega
    refine eTe_skipItems_5 (F + d) _ _ _ _ _ _ ?_
    rw [if_pos (by rw [ecmp i (by omega)]; omega)]
    refine eTe_skipItems_36 (F + d) _ _ _ ?_
    rw [if_neg (show ¬ aLcmp (Int64.ofNat c) 0 = 0 by rw [aLcmp_eq, ofN_t (by omega), show (0 : Int64).toInt = 0 from rfl]; omega), ei, Te_vi hi _ he.1, cG_L]
    rfl
  | succ k ih =>
    intro i hi2
    obtain ⟨f1, f2⟩ := hf i (by omega)
    have e24 : fTe_skipItems_24 (F + d + 1) (nI (lo b x)) (nI x2) (Int64.ofNat c) (nI i) (oT (g i) t) = rV (oT e t) := by
      refine eTe_skipItems_24 (F + d) _ _ _ _ _ _ ?_
      rw [ldI_n hlx (by omega), oT_o (by omega), hit.1, nI_add1 x2, hrec d (kPx q x 0) (x2 + 1) (g i) (f (i + 1)) hp (by omega) f2, cG_V, nI_add1 i, ih (i + 1) (by omega)]
      rfl
    refine eTe_skipItems_5 (F + d) _ _ _ _ _ _ ?_
    rw [if_neg (by rw [ecmp i (by omega)]; omega), if_neg (show ¬ (2000 : Int32) ≤ nI i by rw [show (2000 : Int32) = nI 2000 from rfl, nI_leE (by omega) (by omega)]; omega), ldI_n hlx (by omega), lV_kind (oT_W hw).1 hw.2.1 hx]
    by_cases h7 : q.2.1 0 x = 7
    · rw [if_pos h7] at f1
      obtain ⟨F', rfl⟩ : ∃ F', F = F' + 1 := ⟨F - 1, by omega⟩
      rw [h7, if_neg (fun e => e rfl), show F' + 1 + d = F' + d + 1 by omega, Te_sk5 hi hw (F' + d) (by omega) f1, cG_V]
      rw [show F' + 1 + d + 1 = F' + d + 1 + 1 by omega] at e24
      rw [e24]
      rfl
    · rw [if_neg h7] at f1
      rw [if_pos (show ¬ nI (q.2.1 0 x) = 7 by rw [show (7 : Int32) = nI 7 from rfl, nI_eqE (by omega) (by omega)]; exact h7), ← f1, e24]
      rfl
/-- a datum, in the lake -/
theorem Te_sk (hi : lTi A B n t) (hw : lW b pb qb q T m t) : ∀ D, lSk B n b q t D (2 * D + 3) := by
  have hn := hi.2.2.1
  have hB := hi.2.2.2.2
  intro D
  induction D with
  | zero => intro d x x2 a e _ _ h; exact h.elim
  | succ D ih =>
    intro d x x2 a e hx h32 h
    have hlx := lV_lo hw.1 hx
    have hk := kKi hw.2.1 hx
    have g23 : ∀ a, gI (oT a t) 23 (lo b x) = nI (q.2.1 0 x) := fun a => lV_kind (oT_W hw).1 hw.2.1 hx
    have e32 : nI x2 < 32 := by rw [show (32 : Int32) = nI 32 from rfl, nI_ltE (by omega) (by omega)]; omega
    obtain ⟨hle, w0, w1, w2, w4, w8, w9, w10, w11, w6⟩ := h
    rw [show 2 * (D + 1) + 3 + d = 2 * D + d + 4 + 1 by omega]
    refine eTe_skip (2 * D + d + 4) _ _ _ _ ?_
    rw [if_pos e32, ldI_n hlx (by omega), g23]
    have hcase : q.2.1 0 x = 0 ∨ q.2.1 0 x = 1 ∨ q.2.1 0 x = 2 ∨ q.2.1 0 x = 3 ∨ q.2.1 0 x = 4 ∨ q.2.1 0 x = 5 ∨ q.2.1 0 x = 6 ∨ q.2.1 0 x = 7 ∨ q.2.1 0 x = 8 ∨ q.2.1 0 x = 9 ∨ q.2.1 0 x = 10 ∨ q.2.1 0 x = 11 := by omega
    have hits : q.2.1 0 x = 6 ∨ q.2.1 0 x = 7 → fTe_skipItems (2 * D + d + 4) (nI (lo b x)) (nI x2) (oT a t) = rV (oT e t) := by
      intro h67
      obtain ⟨k, a1, k1, k2, k3, k4⟩ := w6 h67
      refine eTe_skipItems (2 * D + d + 3) _ _ _ _ ?_
      rw [Te_vi hi _ k2.1, cG_L]
      by_cases k0 : k = 0
      · rw [k3 k0]
        refine eTe_skipItems_5 (2 * D + d + 3) _ _ _ _ _ _ ?_
        rw [k0, if_pos (by decide)]
        refine eTe_skipItems_36 (2 * D + d + 3) _ _ _ ?_
        rw [if_pos (by decide)]
        rfl
      · obtain ⟨f, g, f0, f1, f2⟩ := k4 k0
        have := Te_sk5i (e := e) (x2 := x2) hi hw ih (by omega) d hx (by omega) h67 k1 k0 f1 f2 k 0 (by omega)
        rw [show 2 * D + 3 + d + 1 = 2 * D + d + 3 + 1 by omega, f0] at this
        exact this
    rcases hcase with h | h | h | h | h | h | h | h | h | h | h | h
    · rw [h, if_pos (by decide), w0 h]; rfl
    · rw [h, if_neg (by decide), if_pos (by decide), wI_eq, oT_at, nI_add1, oT_w, w1 h]; rfl
    · obtain ⟨v, hv⟩ := w2 (.inl h)
      rw [h, if_neg (by decide), if_neg (by decide), if_pos (by decide), Te_vi hi _ hv.1, cG_L]; rfl
    · obtain ⟨v, hv⟩ := w2 (.inr h)
      rw [h, if_neg (by decide), if_neg (by decide), if_neg (by decide), if_pos (by decide), Te_vi hi _ hv.1, cG_L]; rfl
    · rw [h, if_neg (by decide), if_neg (by decide), if_neg (by decide), if_neg (by decide), if_pos (by decide), Te_skS hi _ (w4 (.inl h))]; rfl
    · rw [h, if_neg (by decide), if_neg (by decide), if_neg (by decide), if_neg (by decide), if_neg (by decide), if_pos (by decide), Te_skS hi _ (w4 (.inr h))]; rfl
    · rw [h, if_neg (by decide), if_neg (by decide), if_neg (by decide), if_neg (by decide), if_neg (by decide), if_neg (by decide), if_pos (by decide), hits (.inl h), cG_V]; rfl
    · rw [h, if_neg (by decide), if_neg (by decide), if_neg (by decide), if_neg (by decide), if_neg (by decide), if_neg (by decide), if_neg (by decide), if_pos (by decide), hits (.inr h), cG_V]; rfl
    · obtain ⟨i, a1, i1, i2, i3⟩ := w8 h
      have h6 := hk.2.mp (by omega)
      have h47 := (hw.2.2.1 x h6 hx).1.2.2.2.2 (by omega) (by omega)
      have h732 := (hw.2.1.2.2.1 x h6 hx).2.2.2.2.2.2.2
      obtain ⟨p1, p2⟩ := kPx_lt hw.2.1 hw.2.2.1 h6 hx (by omega) (by omega) (i := i) i1
      have e26 : gI (oT a1 t) 26 (lo b x) = nI (q.2.1 4 x) := by rw [oT_o (by omega), (hw.1.2.2.2.1 x h6 hx).2.2.2.1, h47]
      have hbt : fTe_branchTold (2 * D + d + 4) (nI (lo b x)) (oT a t) = rI (nI (lo b (kPx q x i))) (oT a1 t) := by
        refine eTe_branchTold (2 * D + d + 3) _ _ _ ?_
        rw [Te_vi hi _ i2.1, cG_L, if_neg (show ¬ aLcmp (Int64.ofNat i) 0 < 0 by rw [aLcmp_lt, ofN_t (by omega), show (0 : Int64).toInt = 0 from rfl]; omega), ldI_n hlx (by omega), e26, nI_long (by omega), if_neg (show ¬ 0 ≤ aLcmp (Int64.ofNat i) (Int64.ofNat (q.2.1 4 x)) by rw [aLcmp_ge, ofN_t (by omega), ofN_t (by omega)]; omega)]
        refine eTe_branchTold_19 (2 * D + d + 3) _ _ _ _ _ ?_
        rw [if_neg (by decide), ofN_i (by omega), lV_ps (oT_W hw).1 hw.2.1 _ h6 hx (by omega) i1 p1, cG_I]
        rfl
      rw [h, if_neg (by decide), if_neg (by decide), if_neg (by decide), if_neg (by decide), if_neg (by decide), if_neg (by decide), if_neg (by decide), if_neg (by decide), if_pos (by decide), hbt, cG_I, nI_add1, show 2 * D + d + 4 = 2 * D + 3 + (d + 1) by omega, ih (d + 1) (kPx q x i) (x2 + 1) a1 e p2 (by omega) i3, cG_V]
      rfl
    · have h6 := hk.2.mp (by omega)
      have h8 := (hw.2.2.1 x h6 hx).1.1 h
      have g27 : gI (oT a t) 27 (lo b x) = nI (q.2.1 8 x - 1) := by rw [oT_o (by omega), (hw.1.2.2.2.1 x h6 hx).2.2.2.2, if_neg (by omega), zI_pos h8]
      rw [h, if_neg (by decide), if_neg (by decide), if_neg (by decide), if_neg (by decide), if_neg (by decide), if_neg (by decide), if_neg (by decide), if_neg (by decide), if_neg (by decide), if_pos (by decide), ldI_n hlx (by omega), g27, wI_eq, oT_at, nI_addE, oT_w, w9 h]
      rfl
    · obtain ⟨i, i1, i2⟩ := w10 h
      rw [h, if_neg (by decide), if_neg (by decide), if_neg (by decide), if_neg (by decide), if_neg (by decide), if_neg (by decide), if_neg (by decide), if_neg (by decide), if_neg (by decide), if_neg (by decide), if_pos (by decide), Te_vi hi _ i2.1, cG_L]
      rfl
    · obtain ⟨f, f0, f1, f2⟩ := w11 h
      have := Te_sk51 (x2 := x2) hi hw ih (d + 1) hx (by omega) h f2 (q.2.1 4 x) 0 (by omega)
      rw [show 2 * D + 3 + (d + 1) + 1 = 2 * D + d + 4 + 1 by omega, f0, f1] at this
      rw [h, if_neg (by decide), if_neg (by decide), if_neg (by decide), if_neg (by decide), if_neg (by decide), if_neg (by decide), if_neg (by decide), if_neg (by decide), if_neg (by decide), if_neg (by decide), if_neg (by decide), if_pos (by decide)]
      exact this
end
