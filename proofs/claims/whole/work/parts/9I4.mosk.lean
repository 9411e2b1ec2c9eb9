/-! the reference: a datum is skipped -/
section
variable {c n m l n0 : Nat} {B : Nat → Nat} {q : kP} {T : Nat → Nat → Nat} {N : Nat → Int} {t : aT}
theorem oNn_W {a : Nat} (h : mW c q T N m l n0 t) : mW c q T N m l n0 (oNn a t) := mW_fr (fun k i h1 h2 => oNn_o (by omega)) (fun _ _ => rfl) h
theorem oNn_i {a : Nat} (h : mTi B n t) : mTi B n (oNn a t) := ⟨h.1, fun i hi => by rw [oNn_o (by omega)]; exact h.2.1 i hi, h.2.2⟩
theorem ofN_1 (i : Nat) : Int64.ofNat i + 1 = Int64.ofNat (i + 1) := (Int64.ofNat_add i 1).symm
theorem Mw_kid7 (h : mW c q T N m l n0 t) (d : Nat) {x i : Nat} (h6 : 6 ≤ x) (hx : x < q.1 1) (hi : i < q.2.1 4 x) (h32 : q.2.1 4 x ≤ 100) : ∀ k j, j + k = i → fMt_kid_7 d c (nI i) (zI (kKd q x j)) (nI j) t = rI (zI (kKd q x i)) t := by
  intro k
  induction k with
  | zero =>
    intro j hj
    refine eMt_kid_7 d c _ _ _ _ h.1 _ ?_
    simp (disch := omega) only [nI_leE]
    rw [if_pos (by omega), show j = i by omega]
    rfl
  | succ k ih =>
    intro j hj
    have hk := mW_k h h6 hx (show j < q.2.1 4 x by omega)
    refine eMt_kid_7 d c _ _ _ _ h.1 _ ?_
    simp (disch := omega) only [nI_leE]
    rw [if_neg (by omega), hk.2.1, zI_S, ldI_n hk.1 (by omega), hk.2.2.2.2.2, nI_add1, ih (j + 1) (by omega)]
    rfl
theorem Mw_kid (h : mW c q T N m l n0 t) (d : Nat) {x i : Nat} (hx : x < q.1 1) (h8 : 8 ≤ q.2.1 0 x) (h9 : q.2.1 0 x ≠ 9) (hi : i < q.2.1 4 x) : fMt_kid d c (nI x) (nI i) t = rI (nI (q.2.2 0 x i)) t := by
  have h6 := (kKi h.2.2.2.2.1 hx).2.mp (by omega)
  have h47 := (h.2.2.2.2.2.1 x h6 hx).1.2.2.2.2 h8 h9
  have h732 := (h.2.2.2.2.1.2.2.1 x h6 hx).2.2.2.2.2.2.2
  have r := mW_r h hx
  refine eMt_kid d c _ _ _ h.1 _ ?_
  rw [ldI_n r.1 (by omega), (r.2.2 h6).2.1, show (0 : Int32) = nI 0 from rfl, Mw_kid7 h d h6 hx hi (by omega) i 0 (by omega), (mW_k h h6 hx hi).2.1, zI_S]
  rfl
theorem Mo_cb2 (d : Nat) {y : Int64} {k0 : Nat} (hy : y.toInt = (k0 : Int)) (hk : k0 < 100000) {a : Nat} : ∀ k i, i + k = k0 → fMo_copyBytes_2 (d + 1) y 0 (Int64.ofNat i) (oNn (a + i) t) = rV (oNn (a + k0) t) := by
  intro k
  induction k with
  | zero =>
    intro i hi
    refine eMo_copyBytes_2 d _ _ _ _ _ ?_
    rw [if_pos (show 0 ≤ aLcmp (Int64.ofNat i) y by rw [aLcmp_ge, hy, ofN_t (by omega)]; omega), show i = k0 by omega]
    rfl
  | succ k ih =>
    intro i hi
    refine eMo_copyBytes_2 d _ _ _ _ _ ?_
    rw [if_neg (show ¬ 0 ≤ aLcmp (Int64.ofNat i) y by rw [aLcmp_ge, hy, ofN_t (by omega)]; omega), if_pos rfl]
    refine eMo_copyBytes_15 d _ _ _ _ _ ?_
    rw [wI_eq, oNn_at, nI_add1, oNn_w, ofN_1, show a + i + 1 = a + (i + 1) by omega, ih (i + 1) (by omega)]
    rfl
theorem Mo_cb (d : Nat) {y : Int64} {k0 : Nat} (hy : y.toInt = (k0 : Int)) (hk : k0 < 100000) {a : Nat} : fMo_copyBytes (d + 1) y 0 (oNn a t) = rV (oNn (a + k0) t) :=
  eMo_copyBytes d _ _ _ _ (Mo_cb2 d hy hk k0 0 (by omega))
theorem Mo_skS (hi : mTi B n t) (d : Nat) {a e : Nat} (h : kSs2 B n a e) {K : aT → aRs} : cG (fMo_readVarint (d + 1) (oNn a t)) (kL fun v13 s12 => cG (fMo_copyBytes (d + 1) v13 0 s12) (kV fun s14 => K s14)) = K (oNn e t) := by
  obtain ⟨v, b, h1, h2, h3, h4⟩ := h
  have hn := hi.1
  rw [Mo_rv hi _ h1.1, cG_L, Mo_cb d (k0 := v.toInt.toNat) (by omega) (by omega), cG_V, ← h3]
def mSk (B : Nat → Nat) (n c : Nat) (q : kP) (t : aT) (D F : Nat) : Prop := ∀ d x a e, x < q.1 1 → kWq q B n D x a e → fMo_skip (F + d) c (nI x) (oNn a t) = rV (oNn e t)
theorem Mo_sk50 {D F : Nat} (hw : mW c q T N m l n0 t) (hrec : mSk B n c q t D F) (d : Nat) {x : Nat} (hx : x < q.1 1) (h11 : q.2.1 0 x = 11) {f : Nat → Nat} (hf : ∀ i, i < q.2.1 4 x → kWq q B n D (kPx q x i) (f i) (f (i + 1))) : ∀ k i, i + k = q.2.1 4 x → fMo_skip_50 (F + d + 1) c (zI (kKd q x i)) (oNn (f i) t) = rV (oNn (f (q.2.1 4 x)) t) := by
  have h6 := (kKi hw.2.2.2.2.1 hx).2.mp (by omega)
  intro k
  induction k with
  | zero =>
    intro i hi2
    refine eMo_skip_50 (F + d) _ _ _ hw.1 _ ?_
    rw [show i = q.2.1 4 x by omega, kKd_e, if_pos (by decide)]
    rfl
  | succ k ih =>
    intro i hi2
    obtain ⟨p1, p2⟩ := kPx_lt hw.2.2.2.2.1 hw.2.2.2.2.2.1 h6 hx (by omega) (by omega) (i := i) (by omega)
    have hk := fun a => mW_k (oNn_W (a := a) hw) h6 hx (show i < q.2.1 4 x by omega)
    refine eMo_skip_50 (F + d) _ _ _ hw.1 _ ?_
    rw [(hk 0).2.1, zI_S, if_neg (nI_n0 (by have := (hk 0).1; omega)), ldI_n (hk 0).1 (by omega), (hk _).2.2.1, zI_pos (by omega), hrec d (kPx q x i) (f i) (f (i + 1)) p2 (hf i (by omega)), cG_V, ldI_n (hk 0).1 (by omega), (hk _).2.2.2.2.2, ih (i + 1) (by omega)]
    rfl
theorem Mo_sk71 {D F : Nat} (hi : mTi B n t) (hw : mW c q T N m l n0 t) (hrec : mSk B n c q t D F) (hF : 1 ≤ F) (d : Nat) {x : Nat} (hx : x < q.1 1) (h67 : q.2.1 0 x = 6 ∨ q.2.1 0 x = 7) {k0 e : Nat} (hc : k0 ≤ 2000) (hc0 : k0 ≠ 0) {f g : Nat → Nat} (he : kNu B n (f k0) 0 e) (hf : ∀ i, i < k0 → (if q.2.1 0 x = 7 then kSs2 B n (f i) (g i) else g i = f i) ∧ kWq q B n D (kPx q x 0) (g i) (f (i + 1))) : ∀ k i, i + k = k0 → fMo_skip_71 (F + d + 1) c (nI x) (Int64.ofNat k0) (Int64.ofNat i) (oNn (f i) t) = rV (oNn e t) := by
  have ecmp : ∀ i, i ≤ k0 → (0 ≤ aLcmp (Int64.ofNat i) (Int64.ofNat k0)) = (k0 ≤ i) := fun i h => by
    rw [aLcmp_ge, ofN_t (by omega), ofN_t (by omega)]
    exact propext ⟨fun h => by omega, fun h => by omega⟩
  have hit := fun a => mW_item (oNn_W (a := a) hw) hx h67
  have r := fun a => mW_r (oNn_W (a := a) hw) hx
  intro k
  induction k with
  | zero =>
    intro i hi2
    refine eMo_skip_71 (F + d) _ _ _ _ _ hw.1 _ ?_
    rw [if_pos (by rw [ecmp i (by omega)]; omega), if_neg (show ¬ aLcmp (Int64.ofNat k0) 0 ≤ 0 by rw [aLcmp_le, ofN_t (by omega), show (0 : Int64).toInt = 0 from rfl]; omega), show i = k0 by omega, Mo_rv hi _ he.1, cG_L]
    rfl
  | succ k ih =>
    intro i hi2
    obtain ⟨f1, f2⟩ := hf i (by omega)
    have e86 : fMo_skip_86 (F + d + 1) c (nI x) (Int64.ofNat k0) (Int64.ofNat i) (oNn (g i) t) = rV (oNn e t) := by
      refine eMo_skip_86 (F + d) _ _ _ _ _ hw.1 _ ?_
      rw [ldI_n (r 0).1 (by omega), (hit _).1, ldI_n (hit 0).2.1 (by omega), (hit _).2.2.1, hrec d (kPx q x 0) (g i) (f (i + 1)) (hit 0).2.2.2 f2, cG_V, ofN_1, ih (i + 1) (by omega)]
      rfl
    refine eMo_skip_71 (F + d) _ _ _ _ _ hw.1 _ ?_
    rw [if_neg (by rw [ecmp i (by omega)]; omega), ldI_n (r 0).1 (by omega), (r _).2.1]
    by_cases h7 : q.2.1 0 x = 7
    · rw [if_pos h7] at f1
      obtain ⟨F', rfl⟩ : ∃ F', F = F' + 1 := ⟨F - 1, by omega⟩
      rw [h7, if_neg (fun e => e rfl), show F' + 1 + d = F' + d + 1 by omega, Mo_skS hi (F' + d) f1]
      rw [show F' + 1 + d + 1 = F' + d + 1 + 1 by omega] at e86
      rw [e86]
      rfl
    · rw [if_neg h7] at f1
      rw [if_pos (show ¬ nI (q.2.1 0 x) = 7 by rw [show (7 : Int32) = nI 7 from rfl, nI_eqE (by omega) (by omega)]; exact h7), ← f1, e86]
      rfl
/-- a datum, in the reference -/
theorem Mo_sk (hi : mTi B n t) (hw : mW c q T N m l n0 t) : ∀ D, mSk B n c q t D (D + 1) := by
  have hn := hi.1
  intro D
  induction D with
  | zero => intro d x a e _ h; exact h.elim
  | succ D ih =>
    intro d x a e hx h
    have hk := kKi hw.2.2.2.2.1 hx
    have r := fun a => mW_r (oNn_W (a := a) hw) hx
    obtain ⟨hle, w0, w1, w2, w4, w8, w9, w10, w11, w6⟩ := h
    rw [show D + 1 + 1 + d = D + d + 1 + 1 by omega]
    refine eMo_skip (D + d + 1) _ _ _ hw.1 _ ?_
    rw [ldI_n (r 0).1 (by omega), (r _).2.1]
    have hcase : q.2.1 0 x = 0 ∨ q.2.1 0 x = 1 ∨ q.2.1 0 x = 2 ∨ q.2.1 0 x = 3 ∨ q.2.1 0 x = 4 ∨ q.2.1 0 x = 5 ∨ q.2.1 0 x = 6 ∨ q.2.1 0 x = 7 ∨ q.2.1 0 x = 8 ∨ q.2.1 0 x = 9 ∨ q.2.1 0 x = 10 ∨ q.2.1 0 x = 11 := by omega
    have hits : q.2.1 0 x = 6 ∨ q.2.1 0 x = 7 → cG (fMo_readVarint (D + d + 1) (oNn a t)) (kL fun v21 s20 => fMo_skip_71 (D + d + 1 + 1) c (nI x) v21 0 s20) = rV (oNn e t) := by
      intro h67
      obtain ⟨k, a1, k1, k2, k3, k4⟩ := w6 h67
      rw [Mo_rv hi _ k2.1, cG_L]
      by_cases k0 : k = 0
      · rw [k3 k0]
        refine eMo_skip_71 (D + d + 1) _ _ _ _ _ hw.1 _ ?_
        rw [k0, if_pos (by decide), if_pos (by decide)]
        rfl
      · obtain ⟨f, g, f0, f1, f2⟩ := k4 k0
        have := Mo_sk71 (e := e) hi hw ih (by omega) d hx h67 k1 k0 f1 f2 k 0 (by omega)
        rw [show D + 1 + d + 1 = D + d + 1 + 1 by omega, f0] at this
        exact this
    rcases hcase with h | h | h | h | h | h | h | h | h | h | h | h
    · rw [h, if_pos (by decide), w0 h]; rfl
    · rw [h, if_neg (by decide), if_pos (by decide), wI_eq, oNn_at, nI_add1, oNn_w, w1 h]; rfl
    · obtain ⟨v, hv⟩ := w2 (.inl h)
      rw [h, if_neg (by decide), if_neg (by decide), if_pos (by decide), Mo_rv hi _ hv.1, cG_L]; rfl
    · obtain ⟨v, hv⟩ := w2 (.inr h)
      rw [h, if_neg (by decide), if_neg (by decide), if_neg (by decide), if_pos (by decide), Mo_rv hi _ hv.1, cG_L]; rfl
    · rw [h, if_neg (by decide), if_neg (by decide), if_neg (by decide), if_neg (by decide), if_pos (by decide), Mo_skS hi _ (w4 (.inl h))]; rfl
    · rw [h, if_neg (by decide), if_neg (by decide), if_neg (by decide), if_neg (by decide), if_neg (by decide), if_pos (by decide), Mo_skS hi _ (w4 (.inr h))]; rfl
    · rw [h, if_neg (by decide), if_neg (by decide), if_neg (by decide), if_neg (by decide), if_neg (by decide), if_neg (by decide), if_pos (by decide), hits (.inl h)]; rfl
    · rw [h, if_neg (by decide), if_neg (by decide), if_neg (by decide), if_neg (by decide), if_neg (by decide), if_neg (by decide), if_neg (by decide), if_pos (by decide), hits (.inr h)]; rfl
    · obtain ⟨i, a1, i1, i2, i3⟩ := w8 h
      have h6 := hk.2.mp (by omega)
      have h47 := (hw.2.2.2.2.2.1 x h6 hx).1.2.2.2.2 (by omega) (by omega)
      have h732 := (hw.2.2.2.2.1.2.2.1 x h6 hx).2.2.2.2.2.2.2
      obtain ⟨p1, p2⟩ := kPx_lt hw.2.2.2.2.1 hw.2.2.2.2.2.1 h6 hx (by omega) (by omega) (i := i) i1
      have hk2 := mW_k (oNn_W (a := a1) hw) h6 hx i1
      rw [h, if_neg (by decide), if_neg (by decide), if_neg (by decide), if_neg (by decide), if_neg (by decide), if_neg (by decide), if_neg (by decide), if_neg (by decide), if_pos (by decide), Mo_rv hi _ i2.1, cG_L, ofN_i (by omega), Mw_kid (oNn_W hw) _ hx (by omega) (by omega) i1, cN_I, ldI_n hk2.1 (by omega), hk2.2.2.1, zI_pos (by omega), show D + d + 1 = D + 1 + d by omega, ih d (kPx q x i) a1 e p2 i3, cG_V]
      rfl
    · have h6 := hk.2.mp (by omega)
      have h8 := (hw.2.2.2.2.2.1 x h6 hx).1.1 h
      have b8 := (hw.2.2.2.2.1.2.2.1 x h6 hx).2.2.2.2.2.2.1
      rw [h, if_neg (by decide), if_neg (by decide), if_neg (by decide), if_neg (by decide), if_neg (by decide), if_neg (by decide), if_neg (by decide), if_neg (by decide), if_neg (by decide), if_pos (by decide), ldI_n (r 0).1 (by omega), ((r _).2.2 h6).2.2.1, if_pos h, nI_long (by omega), Mo_cb (D + d) (k0 := q.2.1 8 x - 1) (ofN_t (by omega)) (by omega), cG_V, w9 h]
      rfl
    · obtain ⟨i, i1, i2⟩ := w10 h
      rw [h, if_neg (by decide), if_neg (by decide), if_neg (by decide), if_neg (by decide), if_neg (by decide), if_neg (by decide), if_neg (by decide), if_neg (by decide), if_neg (by decide), if_neg (by decide), if_pos (by decide), Mo_rv hi _ i2.1, cG_L]
      rfl
    · obtain ⟨f, f0, f1, f2⟩ := w11 h
      have h6 := hk.2.mp (by omega)
      have := Mo_sk50 hw ih d hx h f2 (q.2.1 4 x) 0 (by omega)
      rw [show D + 1 + d + 1 = D + d + 1 + 1 by omega, f0, f1] at this
      rw [h, if_neg (by decide), if_neg (by decide), if_neg (by decide), if_neg (by decide), if_neg (by decide), if_neg (by decide), if_neg (by decide), if_neg (by decide), if_neg (by decide), if_neg (by decide), if_neg (by decide), if_pos (by decide), ldI_n (r 0).1 (by omega), ((r _).2.2 h6).2.1]
      exact this
end
