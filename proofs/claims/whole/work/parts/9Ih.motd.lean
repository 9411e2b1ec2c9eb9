/-! the reference: a default, told -/
theorem jTl_ln {T : Nat → Nat → Nat} {P : Nat → Nat → Prop} (hP : ∀ a b, P a b → a < b) : ∀ k lo e cur, jTl T P k lo e cur → k + lo ≤ e
  | 0, _, _, _, h => by have := h.2; omega
  | k + 1, lo, e, cur, h => by
    obtain ⟨_, e1, h1, h2⟩ := h
    have a1 := hP _ _ h1
    have a2 := jTl_ln hP k e1 e _ h2
    omega
theorem jTm_ln {T : Nat → Nat → Nat} {P : Nat → Nat → Prop} (hP : ∀ a b, P a b → a < b) : ∀ k lo e cur, jTm T P k lo e cur → 2 * k + lo ≤ e
  | 0, _, _, _, h => by have := h.2; omega
  | k + 1, lo, e, cur, h => by
    obtain ⟨_, _, _, e1, h1, h2⟩ := h
    have a1 := hP _ _ h1
    have a2 := jTm_ln hP k e1 e _ h2
    omega
section
variable {c m l n R : Nat} {T : Nat → Nat → Nat} {N : Nat → Int} {q : kP} {t : aT} {D F : Nat} {fit : Nat → Nat → Nat} {W : Nat → Nat → List Nat}
/-- what is known of the values inside -/
def mDy (R c : Nat) (q : kP) (t : aT) (T : Nat → Nat → Nat) (N : Nat → Int) (m D F : Nat) (fit : Nat → Nat → Nat) (W : Nat → Nat → List Nat) : Prop := ∀ d v x a L, jVd T N m D v → x < q.1 1 → fit v x = 0 → L.length ≤ R → mTl R t (fMo_tellDefault (F + d) c (nI v) (nI x) (oNn a (oU L t))) L (W v x) true a
theorem Mo_dA (hR : mTo R t) (hw : mW c q T N m l n t) (hrec : mDy R c q t T N m D F fit W) (hF : 2 ≤ F) (d : Nat) {y e a : Nat} (hy : y < q.1 1) (h67 : q.2.1 0 y = 6 ∨ q.2.1 0 y = 7) (he : e ≤ m) : ∀ k lo cur L, jTl T (jVf T N m D) k lo e cur → kFiA T (fun w => fit w (kPx q y 0)) k cur = 0 → L.length ≤ R → mTl R t (fMo_tellDefault_111 (F + d + 1) c (nI y) (zI cur) (oNn a (oU L t))) L (kWtA T (fun w => W w (kPx q y 0)) k cur ++ kVb 0) true a := by
  have hm := hw.2.2.2.1.1
  have ww : ∀ L, mW c q T N m l n (oNn a (oU L t)) := fun L => oNn_W (oU_W hw)
  have it := fun L => mW_item (ww L) hy h67
  have r := fun L => mW_r (ww L) hy
  intro k
  induction k with
  | zero =>
    intro lo cur L h _ hl
    have : cur = 0 := h.1
    subst this
    refine mTl_go (mTl_l (Mo_tv hR hl (d := F + d) (by omega) (v := 0) (a := a))) (fun r hr => eMo_tellDefault_111 (F + d) c _ _ _ hw.1 _ ?_)
    rw [if_pos (by decide)]
    exact hr
  | succ k ih =>
    intro lo cur L h hf hl
    obtain ⟨hcur, e1, hP, hch⟩ := h
    subst hcur
    have hlt := jVd_lt hP.1
    rw [← hP.2] at hlt
    have hle := jTl_lt jVf_lt _ _ _ _ hch
    have hf : (if fit lo (kPx q y 0) = 0 then kFiA T (fun w => fit w (kPx q y 0)) k (T 4 lo) else fit lo (kPx q y 0)) = 0 := hf
    have hf0 : fit lo (kPx q y 0) = 0 := by
      by_cases h : fit lo (kPx q y 0) = 0
      · exact h
      · rw [if_neg h] at hf; exact hf
    rw [if_pos hf0] at hf
    have hd := hrec d lo (kPx q y 0) a L hP.1 (it L).2.2.2 hf0 hl
    show mTl R t _ L ((W lo (kPx q y 0) ++ kWtA T (fun w => W w (kPx q y 0)) k (T 4 lo)) ++ kVb 0) true a
    rw [List.append_assoc]
    refine mTl_go (mTl_s (G := fun s4 => ldI 4200 s4 (c + 7) (nI lo) (fun v5 => fMo_tellDefault_111 (F + d + 1) c (nI y) v5 s4)) hd (by
      rw [if_pos rfl]
      refine ⟨_, rfl, fun hl' => ?_⟩
      show mTl R t (ldI 4200 _ (c + 7) (nI lo) _) _ _ _ _
      rw [ldI_n (by omega) (by omega), ((ww _).2.2.1.1 lo (by omega)).2.2.2.2.1]
      exact ih e1 _ _ hch hf hl')) (fun r' hr => eMo_tellDefault_111 (F + d) c _ _ _ hw.1 _ ?_)
    rw [zI_S, if_neg (nI_pos (by omega)), ldI_n (r L).1 (by omega), (it L).1, ldI_n (it L).2.1 (by omega), (it L).2.2.1]
    exact hr
theorem Mo_dM (hR : mTo R t) (hw : mW c q T N m l n t) (hrec : mDy R c q t T N m D F fit W) (hF : 2 ≤ F) (d : Nat) {y e a : Nat} (hy : y < q.1 1) (h67 : q.2.1 0 y = 6 ∨ q.2.1 0 y = 7) (he : e ≤ m) : ∀ k lo cur L, jTm T (jVf T N m D) k lo e cur → kFiM T (fun w => fit w (kPx q y 0)) k cur = 0 → L.length ≤ R → mTl R t (fMo_tellDefault_164 (F + d + 1) c (nI y) (zI cur) (oNn a (oU L t))) L (kWtM T (fun w => W w (kPx q y 0)) k cur ++ kVb 0) true a := by
  have hG := hw.2.2.2.1
  have hm := hG.1
  have hll := hG.2.1
  have ww : ∀ L, mW c q T N m l n (oNn a (oU L t)) := fun L => oNn_W (oU_W hw)
  have it := fun L => mW_item (ww L) hy h67
  have r := fun L => mW_r (ww L) hy
  intro k
  induction k with
  | zero =>
    intro lo cur L h _ hl
    have : cur = 0 := h.1
    subst this
    refine mTl_go (mTl_l (Mo_tv hR hl (d := F + d) (by omega) (v := 0) (a := a))) (fun r hr => eMo_tellDefault_164 (F + d) c _ _ _ hw.1 _ ?_)
    rw [if_pos (by decide)]
    exact hr
  | succ k ih =>
    intro lo cur L h hf hl
    obtain ⟨hcur, hk0, hk4, e1, hP, hch⟩ := h
    subst hcur
    have hlt := jVd_lt hP.1
    rw [← hP.2] at hlt
    have hle := jTm_lt jVf_lt _ _ _ _ hch
    have h2l := hG.2.2.2.1 lo (by omega) hk0
    have hf : (if fit (T 4 lo - 1) (kPx q y 0) = 0 then kFiM T (fun w => fit w (kPx q y 0)) k (T 4 (T 4 lo - 1)) else fit (T 4 lo - 1) (kPx q y 0)) = 0 := hf
    rw [hk4, show lo + 2 - 1 = lo + 1 from rfl] at hf
    have hf0 : fit (lo + 1) (kPx q y 0) = 0 := by
      by_cases h : fit (lo + 1) (kPx q y 0) = 0
      · exact h
      · rw [if_neg h] at hf; exact hf
    rw [if_pos hf0] at hf
    have e4 : ∀ L, gI (oNn a (oU L t)) (c + 7) lo = nI (lo + 1) := fun L => by rw [((ww L).2.2.1.1 lo (by omega)).2.2.2.2.1, hk4, zI_S]
    have eM : kWtM T (fun w => W w (kPx q y 0)) (k + 1) (lo + 1) ++ kVb 0 = kVb (Int64.ofNat (T 2 lo)) ++ (kLe T lo ++ (W (lo + 1) (kPx q y 0) ++ (kWtM T (fun w => W w (kPx q y 0)) k (T 4 (lo + 1)) ++ kVb 0))) := by
      show ((kVb (Int64.ofNat (T 2 lo)) ++ kLe T lo) ++ (W (T 4 lo - 1) (kPx q y 0) ++ kWtM T (fun w => W w (kPx q y 0)) k (T 4 (T 4 lo - 1)))) ++ kVb 0 = _
      rw [hk4, show lo + 2 - 1 = lo + 1 from rfl]
      simp only [List.append_assoc]
    rw [eM]
    refine mTl_go (mTl_s (e := a) (b := true) (M := kVb (Int64.ofNat (T 2 lo)) ++ (kLe T lo ++ (W (lo + 1) (kPx q y 0) ++ (kWtM T (fun w => W w (kPx q y 0)) k (T 4 (lo + 1)) ++ kVb 0)))) (G := fun s3 => cG (fMo_tellString (F + d) c (nI lo) s3) (kV fun s4 => ldI 4200 s4 (c + 7) (nI lo) (fun v5 => ldI 140 s4 (c + 12) (nI y) (fun v6 => ldI 2200 s4 (c + 15) v6 (fun v7 => cG (fMo_tellDefault (F + d) c v5 v7 s4) (kV fun s8 => ldI 4200 s8 (c + 7) (nI lo) (fun v9 => ldI 4200 s8 (c + 7) v9 (fun v10 => fMo_tellDefault_164 (F + d + 1) c (nI y) v10 s8)))))))) (Mo_tv hR hl (d := F + d) (by omega) (v := Int64.ofNat (T 2 lo)) (a := a)) (by
      rw [if_pos rfl]
      refine ⟨_, rfl, fun hl1 => ?_⟩
      refine mTl_s (e := a) (b := true) (G := fun s4 => ldI 4200 s4 (c + 7) (nI lo) (fun v5 => ldI 140 s4 (c + 12) (nI y) (fun v6 => ldI 2200 s4 (c + 15) v6 (fun v7 => cG (fMo_tellDefault (F + d) c v5 v7 s4) (kV fun s8 => ldI 4200 s8 (c + 7) (nI lo) (fun v9 => ldI 4200 s8 (c + 7) v9 (fun v10 => fMo_tellDefault_164 (F + d + 1) c (nI y) v10 s8))))))) (Mo_ts hR hw hl1 (d := F + d) (by omega) (a := a) (v := lo) (by omega) hk0) ?_
      rw [if_pos rfl]
      refine ⟨_, rfl, fun hl2 => ?_⟩
      show mTl R t (ldI 4200 _ (c + 7) (nI lo) _) _ _ _ _
      rw [ldI_n (by omega) (by omega), e4, ldI_n (r L).1 (by omega), (it _).1, ldI_n (it L).2.1 (by omega), (it _).2.2.1]
      refine mTl_s (e := a) (b := true) (G := fun s8 => ldI 4200 s8 (c + 7) (nI lo) (fun v9 => ldI 4200 s8 (c + 7) v9 (fun v10 => fMo_tellDefault_164 (F + d + 1) c (nI y) v10 s8))) (hrec d (lo + 1) (kPx q y 0) a _ hP.1 (it L).2.2.2 hf0 hl2) ?_
      rw [if_pos rfl]
      refine ⟨_, rfl, fun hl3 => ?_⟩
      show mTl R t (ldI 4200 _ (c + 7) (nI lo) _) _ _ _ _
      rw [ldI_n (by omega) (by omega), e4, ldI_n (by omega) (by omega), ((ww _).2.2.1.1 (lo + 1) (by omega)).2.2.2.2.1]
      exact ih e1 _ _ hch hf hl3)) (fun r' hr => eMo_tellDefault_164 (F + d) c _ _ _ hw.1 _ ?_)
    rw [zI_S, if_neg (nI_pos (by omega)), ldI_n (by omega) (by omega), mT_Z (ww L).2.2.1 (by omega) (by omega), nI_long (by omega)]
    exact hr
/-- how many entries -/
theorem Mo_dC (hw : mW c q T N m l n t) (d : Nat) {y v e : Nat} {s : aT} (hs : mW c q T N m l n s) (he : e ≤ m) {r : _} : ∀ k z lo cur, z + k ≤ 4200 → jTm T (jVf T N m D) k lo e cur → fMo_tellDefault_141 (d + 1) c (nI v) (nI y) (nI (z + k)) (zI 0) s = some r → fMo_tellDefault_141 (d + 1) c (nI v) (nI y) (nI z) (zI cur) s = some r := by
  have hm := hw.2.2.2.1.1
  intro k
  induction k with
  | zero =>
    intro z lo cur hz h hr
    have : cur = 0 := h.1
    subst this
    exact hr
  | succ k ih =>
    intro z lo cur hz h hr
    obtain ⟨hcur, hk0, hk4, e1, hP, hch⟩ := h
    subst hcur
    have hlt := jVd_lt hP.1
    rw [← hP.2] at hlt
    have hle := jTm_lt jVf_lt _ _ _ _ hch
    refine eMo_tellDefault_141 d c _ _ _ _ _ hw.1 _ ?_
    rw [zI_S, if_neg (nI_pos (by omega)), ldI_n (by omega) (by omega), (hs.2.2.1.1 lo (by omega)).2.2.2.2.1, hk4, zI_S, ldI_n (by omega) (by omega), (hs.2.2.1.1 (lo + 1) (by omega)).2.2.2.2.1, nI_add1]
    exact ih (z + 1) e1 _ (by omega) hch (by rw [show z + 1 + k = z + (k + 1) by omega]; exact hr)
theorem Mo_dF (hR : mTo R t) (hw : mW c q T N m l n t) (hrec : mDy R c q t T N m D F fit W) (hF : 2 ≤ F) (d : Nat) {y v a : Nat} (hv : jVd T N m (D + 1) v) (h0 : T 0 v = 0) (hy : y < q.1 1) (h11 : q.2.1 0 y = 11) : ∀ k i L, i + k = q.2.1 4 y → kFiF T q fit v y k i = 0 → L.length ≤ R → mTl R t (fMo_tellDefault_71 (F + d + 1) c (nI v) (zI (kKd q y i)) (oNn a (oU L t))) L (kWtF T q W v y k i) true a := by
  have hG := hw.2.2.2.1
  have hm := hG.1
  have hI := hw.2.2.2.2.1
  have h6 := (kKi hI hy).2.mp (by omega)
  have hlt := jVd_lt hv
  have ww : ∀ L, mW c q T N m l n (oNn a (oU L t)) := fun L => oNn_W (oU_W hw)
  intro k
  induction k with
  | zero =>
    intro i L hi _ hl
    refine mTl_go (mTl_0 hl) (fun r hr => eMo_tellDefault_71 (F + d) c _ _ _ hw.1 _ ?_)
    rw [show i = q.2.1 4 y by omega, kKd_e, if_pos (by decide)]
    exact hr
  | succ k ih =>
    intro i L hi hf hl
    have hi4 : i < q.2.1 4 y := by omega
    have hk := fun L => mW_k (ww L) h6 hy hi4
    have hpn := mW_pn hw hy (by omega) hi4
    have hnw := kNam_w hpn.2.2.2.1
    obtain ⟨p1, p2⟩ := kPx_lt hI hw.2.2.2.2.2.1 h6 hy (by omega) (by omega) hi4
    have hml : fMt_memberLike (F + d) c (nI v) (nI (q.2.2 2 y i - 1)) (oNn a (oU L t)) = rI (zI (kMl T v (q.2.2 2 y i - 1))) (oNn a (oU L t)) := by
      have := Mt_memberLike (F + d - 1) hw.1 (ww L).2.2.1 hG (x := q.2.2 2 y i - 1) hpn.2.2.1 hnw.1 (D := D + 1) (v := v) (e := jE T v) ⟨hv.1, hv.2⟩ h0
      rw [show F + d - 1 + 1 = F + d by omega] at this
      exact this
    have hmd : kMl T v (q.2.2 2 y i - 1) ≠ 0 → jVd T N m D (kMl T v (q.2.2 2 y i - 1) - 1) := fun h => kMv_d hv h0 h
    have hf : (if kMl T v (q.2.2 2 y i - 1) = 0 then v + 1 else if fit (kMl T v (q.2.2 2 y i - 1) - 1) (q.2.2 1 y i - 1) = 0 then kFiF T q fit v y k (i + 1) else fit (kMl T v (q.2.2 2 y i - 1) - 1) (q.2.2 1 y i - 1)) = 0 := hf
    show mTl R t _ L ((if kMl T v (q.2.2 2 y i - 1) = 0 then [] else W (kMl T v (q.2.2 2 y i - 1) - 1) (q.2.2 1 y i - 1)) ++ kWtF T q W v y k (i + 1)) true a
    generalize kMl T v (q.2.2 2 y i - 1) = w at *
    by_cases w0 : w = 0
    · rw [if_pos w0] at hf; omega
    · rw [if_neg w0] at hf ⊢
      have hf0 : fit (w - 1) (q.2.2 1 y i - 1) = 0 := by
        by_cases h : fit (w - 1) (q.2.2 1 y i - 1) = 0
        · exact h
        · rw [if_neg h] at hf; exact hf
      rw [if_pos hf0] at hf
      have hltw := jVd_lt (hmd w0)
      refine mTl_go (mTl_s (G := fun s5 => ldI 2200 s5 (c + 18) (nI (q.2.2 0 y i)) (fun v6 => fMo_tellDefault_71 (F + d + 1) c (nI v) v6 s5)) (hrec d (w - 1) (q.2.2 1 y i - 1) a L (hmd w0) p2 hf0 hl) (by
        rw [if_pos rfl]
        refine ⟨_, rfl, fun hl' => ?_⟩
        show mTl R t (ldI 2200 _ (c + 18) (nI (q.2.2 0 y i)) _) _ _ _ _
        rw [ldI_n (hk L).1 (by omega), (hk _).2.2.2.2.2]
        exact ih (i + 1) _ (by omega) hf hl')) (fun r hr => eMo_tellDefault_71 (F + d) c _ _ _ hw.1 _ ?_)
      rw [(hk L).2.1, zI_S, if_neg (nI_n0 (by have := (hk L).1; omega)), ldI_n (hk L).1 (by omega), (hk L).2.2.2.1, zI_pos hpn.2.1, hml, cN_I, ldI_n (hk L).1 (by omega), (hk L).2.2.1, zI_pos (by omega), zI_pos (by omega)]
      exact hr
/-- a symbol of its own text -/
theorem Mo_sy0 {s : aT} (hw : mW c q T N m l n s) (d : Nat) {v y : Nat} (hv : v < m) (h2 : T 0 v = 2) (hy : y < q.1 1) (h10 : q.2.1 0 y = 10) : fMt_symbol (d + 1) c (nI y) c (nI v) s = rI (zI (kPt T q y (q.2.1 4 y) v)) s := by
  have hG := hw.2.2.2.1
  have hm := hG.1
  have hI := hw.2.2.2.2.1
  have h6 := (kKi hI hy).2.mp (by omega)
  have h47 := (hw.2.2.2.2.2.1 y h6 hy).1.2.2.2.2 (by omega) (by omega)
  have h732 := (hI.2.2.1 y h6 hy).2.2.2.2.2.2.2
  have loop : ∀ k i, i + k = q.2.1 4 y → fMt_symbol_7 (d + 1) c c (nI v) (nI i) (zI (kKd q y i)) s = rI (zI (kFr (fun i => jSm T (q.2.2 2 y i - 1) v) k i)) s := by
    intro k
    induction k with
    | zero =>
      intro i hi
      refine eMt_symbol_7 d c c _ _ _ _ hw.1 hw.1 _ ?_
      rw [show i = q.2.1 4 y by omega, kKd_e, if_pos (by decide)]
      rfl
    | succ k ih =>
      intro i hi
      have hil : i < q.2.1 4 y := by omega
      have hk := mW_k hw h6 hy hil
      have hpn := mW_pn hw hy (by omega) hil
      have hnm := kNam_w hpn.2.2.2.1
      have hsame := Mt_sm d hw.1 hw.2.2.1 hG (x := q.2.2 2 y i - 1) (y := v) hpn.2.2.1 hv hnm.1 h2
      have ek : kFr (fun i => jSm T (q.2.2 2 y i - 1) v) (k + 1) i = if jSm T (q.2.2 2 y i - 1) v = true then i + 1 else kFr (fun i => jSm T (q.2.2 2 y i - 1) v) k (i + 1) := rfl
      refine eMt_symbol_7 d c c _ _ _ _ hw.1 hw.1 _ ?_
      rw [ek, hk.2.1, zI_S, if_neg (nI_n0 (by have := hk.1; omega)), ldI_n hk.1 (by omega), hk.2.2.2.1, zI_pos hpn.2.1, hsame, cG_I]
      by_cases hb : jSm T (q.2.2 2 y i - 1) v = true
      · rw [if_neg (by rw [hb]; decide), if_pos hb, zI_S]
        rfl
      · rw [if_pos (by rw [if_neg hb]), if_neg hb, ldI_n hk.1 (by omega), hk.2.2.2.2.2, nI_add1]
        exact ih (i + 1) (by omega)
  have r := mW_r hw hy
  refine eMt_symbol d c _ c _ _ hw.1 hw.1 _ ?_
  rw [ldI_n r.1 (by omega), (r.2.2 h6).2.1]
  exact loop (q.2.1 4 y) 0 (by omega)
/-- no union -/
theorem Mo_dB (hR : mTo R t) (hw : mW c q T N m l n t) (hF : 2 ≤ F) (d : Nat) {y v a : Nat} {L : List Nat} (hb : jVb T N m v) (hy : y < q.1 1) (h8 : q.2.1 0 y ≠ 8) (hf : kFtB T N q fit v y = 0) (hz : 2 ≤ T 0 v ∨ ∃ D, jVd T N m (D + 1) v ∧ mDy R c q t T N m D F fit W) (hl : L.length ≤ R) : mTl R t (fMo_tellDefault (F + d + 1) c (nI v) (nI y) (oNn a (oU L t))) L (kWtB T N q W v y) true a := by
  have hG := hw.2.2.2.1
  have hm := hG.1
  have hll := hG.2.1
  have hlt := jVb_lt hb
  have hkv := jVb_k hb
  have hI := hw.2.2.2.2.1
  have hK := kKi hI hy
  have ww : ∀ L, mW c q T N m l n (oNn a (oU L t)) := fun L => oNn_W (oU_W hw)
  have r := fun L => mW_r (ww L) hy
  have fv := fun L => (ww L).2.2.1.1 v (show v < m by omega)
  have hin := kFtB_in hf
  have hcase : q.2.1 0 y = 0 ∨ q.2.1 0 y = 1 ∨ (q.2.1 0 y = 2 ∨ q.2.1 0 y = 3) ∨ (q.2.1 0 y = 4 ∨ q.2.1 0 y = 5) ∨ q.2.1 0 y = 6 ∨ q.2.1 0 y = 7 ∨ q.2.1 0 y = 9 ∨ q.2.1 0 y = 10 ∨ q.2.1 0 y = 11 := by omega
  have go : ∀ {G : aRs} {M : List Nat}, mTl R t G L M true a → (∀ r, G = some r → (fun v1 : Int32 => if v1 = 0 then rV (oNn a (oU L t)) else if v1 = 1 then ldI 4200 (oNn a (oU L t)) (c + 2) (nI v) (fun v4 => if ¬ v4 = 4 then fMo_tellDefault_16 (F + d + 1) 0 (oNn a (oU L t)) else fMo_tellDefault_16 (F + d + 1) 1 (oNn a (oU L t))) else if v1 = 2 then ldL 4200 (oNn a (oU L t)) (c + 4) (nI v) (fun v6 => cG (fMo_tellVarint (F + d) v6 (oNn a (oU L t))) (kV fun s7 => rV s7)) else if v1 = 3 then ldL 4200 (oNn a (oU L t)) (c + 4) (nI v) (fun v9 => cG (fMo_tellVarint (F + d) v9 (oNn a (oU L t))) (kV fun s10 => rV s10)) else if v1 = 4 then ldI 4200 (oNn a (oU L t)) (c + 5) (nI v) (fun v12 => cG (fMo_tellVarint (F + d) v12.toInt64 (oNn a (oU L t))) (kV fun s13 => cG (fMo_tellString (F + d) c (nI v) s13) (kV fun s14 => rV s14))) else if v1 = 5 then ldI 4200 (oNn a (oU L t)) (c + 5) (nI v) (fun v16 => cG (fMo_tellVarint (F + d) v16.toInt64 (oNn a (oU L t))) (kV fun s17 => cG (fMo_tellString (F + d) c (nI v) s17) (kV fun s18 => rV s18))) else if v1 = 6 then ldI 4200 (oNn a (oU L t)) (c + 6) (nI v) (fun v20 => if v20 < 0 then fMo_tellDefault_106 (F + d + 1) c (nI v) (nI y) (oNn a (oU L t)) else ldI 4200 (oNn a (oU L t)) (c + 5) (nI v) (fun v21 => cG (fMo_tellVarint (F + d) v21.toInt64 (oNn a (oU L t))) (kV fun s22 => fMo_tellDefault_106 (F + d + 1) c (nI v) (nI y) s22))) else if v1 = 7 then ldI 4200 (oNn a (oU L t)) (c + 6) (nI v) (fun v24 => fMo_tellDefault_141 (F + d + 1) c (nI v) (nI y) 0 v24 (oNn a (oU L t))) else if v1 = 8 then cG (fMo_tellVarint (F + d) 0 (oNn a (oU L t))) (kV fun s26 => ldI 140 s26 (c + 12) (nI y) (fun v27 => ldI 2200 s26 (c + 15) v27 (fun v28 => cG (fMo_tellDefault (F + d) c (nI v) v28 s26) (kV fun s29 => rV s29)))) else if v1 = 9 then cG (fMo_tellString (F + d) c (nI v) (oNn a (oU L t))) (kV fun s31 => rV s31) else if v1 = 10 then cN (fMt_symbol (F + d) c (nI y) c (nI v) (oNn a (oU L t))) (kI fun v34 s33 => cG (fMo_tellVarint (F + d) v34.toInt64 s33) (kV fun s35 => rV s35)) else if v1 = 11 then ldI 140 (oNn a (oU L t)) (c + 12) (nI y) (fun v37 => fMo_tellDefault_71 (F + d + 1) c (nI v) v37 (oNn a (oU L t))) else ldI 4200 (oNn a (oU L t)) (c + 6) (nI v) (fun v38 => fMo_tellDefault_141 (F + d + 1) c (nI v) (nI y) 0 v38 (oNn a (oU L t)))) (nI (q.2.1 0 y)) = some r) → mTl R t (fMo_tellDefault (F + d + 1) c (nI v) (nI y) (oNn a (oU L t))) L M true a := by
    intro G M h hg
    refine mTl_go h (fun r' hr => eMo_tellDefault (F + d) c _ _ _ hw.1 _ ?_)
    rw [ldI_n (r L).1 (by omega), (r L).2.1]
    exact hg r' hr
  unfold kWtB
  rcases hcase with h | h | h | h | h | h | h | h | h
  · rw [if_pos h]
    refine go (mTl_0 hl) (fun r' hr => ?_)
    rw [h]
    dsimp only
    rw [if_pos (by decide)]
    exact hr
  · rw [if_neg (by omega), if_pos h]
    have hk4 : (nI (T 0 v) = 4) = (T 0 v = 4) := by rw [show (4 : Int32) = nI 4 from rfl, nI_eqE (by omega) (by omega)]
    by_cases h4 : T 0 v = 4
    · rw [if_pos h4]
      refine go (mTl_l (Mo_tc hR hl (F + d - 1) (a := a) (x := 1) (k := 1) (by decide))) (fun r' hr => ?_)
      rw [h]
      dsimp only
      rw [if_neg (by decide), if_pos (by decide)]
      rw [ldI_n (by omega) (by omega), (fv L).1, if_neg (fun e => e (by rw [hk4]; exact h4))]
      refine eMo_tellDefault_16 (F + d) _ _ _ ?_
      rw [show F + d - 1 + 1 = F + d by omega] at hr
      exact hr
    · rw [if_neg h4]
      refine go (mTl_l (Mo_tc hR hl (F + d - 1) (a := a) (x := 0) (k := 0) (by decide))) (fun r' hr => ?_)
      rw [h]
      dsimp only
      rw [if_neg (by decide), if_pos (by decide)]
      rw [ldI_n (by omega) (by omega), (fv L).1, if_pos (by rw [hk4]; exact h4)]
      refine eMo_tellDefault_16 (F + d) _ _ _ ?_
      rw [show F + d - 1 + 1 = F + d by omega] at hr
      exact hr
  · have hok := (kFtB_ok hf (by omega) (by omega) (by omega)).1 h
    rw [if_neg (by omega), if_neg (by omega), if_pos h]
    refine go (mTl_l (Mo_tv hR hl (d := F + d) (by omega) (v := Int64.ofInt (N v)) (a := a))) (fun r' hr => ?_)
    rcases h with h | h
    · rw [h]
      dsimp only
      rw [if_neg (by decide), if_neg (by decide), if_pos (by decide)]
      rw [ldL_n (by omega) (by omega), mT_N (ww L).2.2.1 (by omega) (by omega)]
      exact hr
    · rw [h]
      dsimp only
      rw [if_neg (by decide), if_neg (by decide), if_neg (by decide), if_pos (by decide)]
      rw [ldL_n (by omega) (by omega), mT_N (ww L).2.2.1 (by omega) (by omega)]
      exact hr
  · have hok := (kFtB_ok hf (by omega) (by omega) (by omega)).2.1 (by omega)
    have h2l := hG.2.2.2.1 v (by omega) hok
    rw [if_neg (by omega), if_neg (by omega), if_neg (by omega), if_pos h]
    refine go (mTl_s (e := a) (b := true) (G := fun s13 => cG (fMo_tellString (F + d) c (nI v) s13) (kV fun s14 => rV s14)) (Mo_tv hR hl (d := F + d) (by omega) (v := Int64.ofNat (T 2 v)) (a := a)) (by
      rw [if_pos rfl]
      exact ⟨_, rfl, fun hl' => mTl_l (Mo_ts hR hw hl' (d := F + d) (by omega) (a := a) (v := v) (by omega) hok)⟩)) (fun r' hr => ?_)
    rcases h with h | h
    · rw [h]
      dsimp only
      rw [if_neg (by decide), if_neg (by decide), if_neg (by decide), if_neg (by decide), if_pos (by decide)]
      rw [ldI_n (by omega) (by omega), mT_Z (ww L).2.2.1 (by omega) (by omega), nI_long (by omega)]
      exact hr
    · rw [h]
      dsimp only
      rw [if_neg (by decide), if_neg (by decide), if_neg (by decide), if_neg (by decide), if_neg (by decide), if_pos (by decide)]
      rw [ldI_n (by omega) (by omega), mT_Z (ww L).2.2.1 (by omega) (by omega), nI_long (by omega)]
      exact hr
  · obtain ⟨h1, hfi⟩ := hin.1 h
    rcases hz with hz | ⟨D, hvd, hrec⟩
    · omega
    have hch := jVd_l hvd h1
    have h2l : T 2 v ≤ 4096 := by have := jTl_ln jVf_lt _ _ _ _ hch; omega
    rw [if_neg (by omega), if_neg (by omega), if_neg (by omega), if_neg (by omega), if_pos h]
    have e106 : ∀ L, L.length ≤ R → mTl R t (fMo_tellDefault_106 (F + d + 1) c (nI v) (nI y) (oNn a (oU L t))) L (kWtA T (fun w => W w (q.2.2 1 y 0 - 1)) (T 2 v) (T 3 v) ++ kVb 0) true a := by
      intro L hl
      refine mTl_go (Mo_dA hR hw hrec hF d hy (.inl h) hlt.2 (T 2 v) (v + 1) (T 3 v) L hch hfi hl) (fun r' hr => eMo_tellDefault_106 (F + d) c _ _ _ hw.1 _ ?_)
      rw [ldI_n (by omega) (by omega), (fv L).2.2.2.1]
      exact hr
    by_cases k0 : T 2 v = 0
    · rw [if_pos k0, List.nil_append]
      refine go (e106 L hl) (fun r' hr => ?_)
      rw [h]
      dsimp only
      rw [if_neg (by decide), if_neg (by decide), if_neg (by decide), if_neg (by decide), if_neg (by decide), if_neg (by decide), if_pos (by decide)]
      have h30 : T 3 v = 0 := by rw [k0] at hch; exact hch.1
      rw [ldI_n (by omega) (by omega), (fv L).2.2.2.1, h30, if_pos (by decide)]
      exact hr
    · rw [if_neg k0]
      refine go (mTl_s (e := a) (b := true) (G := fun s22 => fMo_tellDefault_106 (F + d + 1) c (nI v) (nI y) s22) (Mo_tv hR hl (d := F + d) (by omega) (v := Int64.ofNat (T 2 v)) (a := a)) (by
        rw [if_pos rfl]
        exact ⟨_, rfl, fun hl' => e106 _ hl'⟩)) (fun r' hr => ?_)
      rw [h]
      dsimp only
      rw [if_neg (by decide), if_neg (by decide), if_neg (by decide), if_neg (by decide), if_neg (by decide), if_neg (by decide), if_pos (by decide)]
      have h3 : T 3 v = v + 1 + 1 := by
        obtain ⟨k, hk⟩ : ∃ k, T 2 v = k + 1 := ⟨T 2 v - 1, by omega⟩
        rw [hk] at hch
        exact hch.1
      rw [ldI_n (by omega) (by omega), (fv L).2.2.2.1, h3, zI_S, if_neg (nI_pos (by omega)), ldI_n (by omega) (by omega), mT_Z (ww L).2.2.1 (by omega) (by omega), nI_long (by omega)]
      exact hr
  · obtain ⟨h1, hfi⟩ := hin.2.1 h
    rcases hz with hz | ⟨D, hvd, hrec⟩
    · omega
    obtain ⟨k, hk, hch⟩ := jVd_o hvd h1
    have hk2 : T 2 v / 2 = k := by omega
    have hkl : k ≤ 4096 := by have := jTm_ln jVf_lt _ _ _ _ hch; omega
    rw [hk2] at hfi
    rw [if_neg (by omega), if_neg (by omega), if_neg (by omega), if_neg (by omega), if_neg (by omega), if_pos h, hk2]
    have e159 : ∀ L, L.length ≤ R → mTl R t (fMo_tellDefault_159 (F + d + 1) c (nI v) (nI y) (oNn a (oU L t))) L (kWtM T (fun w => W w (q.2.2 1 y 0 - 1)) k (T 3 v) ++ kVb 0) true a := by
      intro L hl
      refine mTl_go (Mo_dM hR hw hrec hF d hy (.inr h) hlt.2 k (v + 1) (T 3 v) L hch hfi hl) (fun r' hr => eMo_tellDefault_159 (F + d) c _ _ _ hw.1 _ ?_)
      rw [ldI_n (by omega) (by omega), (fv L).2.2.2.1]
      exact hr
    have ent : ∀ r', (if k = 0 then fMo_tellDefault_159 (F + d + 1) c (nI v) (nI y) (oNn a (oU L t)) else cG (fMo_tellVarint (F + d) (Int64.ofNat k) (oNn a (oU L t))) (kV fun s1 => fMo_tellDefault_159 (F + d + 1) c (nI v) (nI y) s1)) = some r' → fMo_tellDefault_141 (F + d + 1) c (nI v) (nI y) 0 (zI (T 3 v)) (oNn a (oU L t)) = some r' := by
      intro r' hr
      refine Mo_dC hw (F + d) (ww L) hlt.2 k 0 (v + 1) (T 3 v) (by omega) hch ?_
      refine eMo_tellDefault_141 (F + d) c _ _ _ _ _ hw.1 _ ?_
      have ek : (nI (0 + k) ≤ 0) = (k = 0) := by
        rw [show (0 : Int32) = nI 0 from rfl, nI_leE (by omega) (by omega)]
        exact propext ⟨fun h => by omega, fun h => by omega⟩
      rw [if_pos (by decide)]
      simp only [ek]
      rw [Nat.zero_add, nI_long (by omega)]
      exact hr
    by_cases k0 : k = 0
    · rw [if_pos k0, List.nil_append]
      simp only [if_pos k0] at ent
      refine go (e159 L hl) (fun r' hr => ?_)
      rw [h]
      dsimp only
      rw [if_neg (by decide), if_neg (by decide), if_neg (by decide), if_neg (by decide), if_neg (by decide), if_neg (by decide), if_neg (by decide), if_pos (by decide)]
      rw [ldI_n (by omega) (by omega), (fv L).2.2.2.1]
      exact ent _ hr
    · rw [if_neg k0]
      simp only [if_neg k0] at ent
      refine go (mTl_s (e := a) (b := true) (G := fun s1 => fMo_tellDefault_159 (F + d + 1) c (nI v) (nI y) s1) (Mo_tv hR hl (d := F + d) (by omega) (v := Int64.ofNat k) (a := a)) (by
        rw [if_pos rfl]
        exact ⟨_, rfl, fun hl' => e159 _ hl'⟩)) (fun r' hr => ?_)
      rw [h]
      dsimp only
      rw [if_neg (by decide), if_neg (by decide), if_neg (by decide), if_neg (by decide), if_neg (by decide), if_neg (by decide), if_neg (by decide), if_pos (by decide)]
      rw [ldI_n (by omega) (by omega), (fv L).2.2.2.1]
      exact ent _ hr
  · have hok := (kFtB_ok hf (by omega) (by omega) (by omega)).2.1 (by omega)
    rw [if_neg (by omega), if_neg (by omega), if_neg (by omega), if_neg (by omega), if_neg (by omega), if_neg (by omega), if_pos h]
    refine go (mTl_l (Mo_ts hR hw hl (d := F + d) (by omega) (a := a) (v := v) (by omega) hok)) (fun r' hr => ?_)
    rw [h]
    dsimp only
    rw [if_neg (by decide), if_neg (by decide), if_neg (by decide), if_neg (by decide), if_neg (by decide), if_neg (by decide), if_neg (by decide), if_neg (by decide), if_neg (by decide), if_pos (by decide)]
    exact hr
  · have hok := kFtB_ok hf (by omega) (by omega) (by omega)
    have h2 := hok.2.1 (by omega)
    have hsy := Mo_sy0 (ww L) (F + d - 1) (v := v) (by omega) h2 hy h
    rw [show F + d - 1 + 1 = F + d by omega] at hsy
    have h6 := hK.2.mp (by omega)
    have h47 := (hw.2.2.2.2.2.1 y h6 hy).1.2.2.2.2 (by omega) (by omega)
    have h732 := (hI.2.2.1 y h6 hy).2.2.2.2.2.2.2
    have hp0 := hok.2.2.2 h
    have hpl : kPt T q y (q.2.1 4 y) v ≤ 32 := by
      have := kFr_1 _ _ hp0
      unfold kPt
      omega
    rw [if_neg (by omega), if_neg (by omega), if_neg (by omega), if_neg (by omega), if_neg (by omega), if_neg (by omega), if_neg (by omega), if_pos h]
    refine go (mTl_l (Mo_tv hR hl (d := F + d) (by omega) (v := Int64.ofNat (kPt T q y (q.2.1 4 y) v - 1)) (a := a))) (fun r' hr => ?_)
    rw [h]
    dsimp only
    rw [if_neg (by decide), if_neg (by decide), if_neg (by decide), if_neg (by decide), if_neg (by decide), if_neg (by decide), if_neg (by decide), if_neg (by decide), if_neg (by decide), if_neg (by decide), if_pos (by decide)]
    rw [hsy, cN_I, zI_pos (by omega), nI_long (by omega)]
    exact hr
  · obtain ⟨h1, hfi⟩ := hin.2.2 h
    rcases hz with hz | ⟨D, hvd, hrec⟩
    · omega
    have h6 := hK.2.mp (by omega)
    rw [if_neg (by omega), if_neg (by omega), if_neg (by omega), if_neg (by omega), if_neg (by omega), if_neg (by omega), if_neg (by omega), if_neg (by omega)]
    refine go (Mo_dF hR hw hrec hF d hvd h1 hy h (q.2.1 4 y) 0 L (by omega) hfi hl) (fun r' hr => ?_)
    rw [h]
    dsimp only
    rw [if_neg (by decide), if_neg (by decide), if_neg (by decide), if_neg (by decide), if_neg (by decide), if_neg (by decide), if_neg (by decide), if_neg (by decide), if_neg (by decide), if_neg (by decide), if_neg (by decide), if_pos (by decide)]
    rw [ldI_n (r L).1 (by omega), ((r L).2.2 h6).2.1]
    exact hr
/-- a default, told by the reference -/
theorem Mo_td (hR : mTo R t) (hw : mW c q T N m l n t) : ∀ D, D ≤ 24 → mDy R c q t T N m D (2 * D + 4) (kFit T N q D) (kWt T N q D) := by
  have hI := hw.2.2.2.2.1
  have hcd := hw.2.2.2.2.2.1
  have un : ∀ (Wf : Nat → List Nat) (ft : Nat → Nat) (F d v x a : Nat) (L : List Nat), 2 ≤ F → x < q.1 1 → ft (kFb q x) = 0 → L.length ≤ R → (∀ d y L, y < q.1 1 → q.2.1 0 y ≠ 8 → ft y = 0 → L.length ≤ R → mTl R t (fMo_tellDefault (F + d + 1) c (nI v) (nI y) (oNn a (oU L t))) L (Wf y) true a) → mTl R t (fMo_tellDefault (F + d + 2) c (nI v) (nI x) (oNn a (oU L t))) L ((if q.2.1 0 x = 8 then kVb 0 else []) ++ Wf (kFb q x)) true a := by
    intro Wf ft F d v x a L hF hx hft hl hB
    have ww : ∀ L, mW c q T N m l n (oNn a (oU L t)) := fun L => oNn_W (oU_W hw)
    have r := fun L => mW_r (ww L) hx
    unfold kFb at hft ⊢
    by_cases h8 : q.2.1 0 x = 8
    · rw [if_pos h8] at hft ⊢
      rw [if_pos h8]
      have h6 := (kKi hI hx).2.mp (by omega)
      have hnd := hcd x h6 hx
      have h48 := hnd.1.2.2.2.1 h8
      obtain ⟨p1, p2⟩ := kPx_lt hI hcd h6 hx (by omega) (by omega) (i := 0) h48.1
      have hk := fun L => mW_k (ww L) h6 hx h48.1
      refine mTl_go (mTl_s (e := a) (b := true) (G := fun s26 => ldI 140 s26 (c + 12) (nI x) (fun v27 => ldI 2200 s26 (c + 15) v27 (fun v28 => cG (fMo_tellDefault (F + d + 1) c (nI v) v28 s26) (kV fun s29 => rV s29)))) (Mo_tv hR hl (d := F + d + 1) (by omega) (v := 0) (a := a)) (by
        rw [if_pos rfl]
        refine ⟨_, rfl, fun hl' => ?_⟩
        show mTl R t (ldI 140 _ (c + 12) (nI x) _) _ _ _ _
        rw [ldI_n (r L).1 (by omega), ((r _).2.2 h6).2.1, (hk L).2.1, zI_S, ldI_n (hk L).1 (by omega), (hk _).2.2.1, zI_pos (by omega)]
        exact mTl_l (hB d _ _ p2 (h48.2 0 h48.1) hft hl'))) (fun r' hr => eMo_tellDefault (F + d + 1) c _ _ _ hw.1 _ ?_)
      rw [ldI_n (r L).1 (by omega), (r L).2.1, h8]
      exact hr
    · rw [if_neg h8] at hft ⊢
      rw [if_neg h8, List.nil_append]
      exact hB (d + 1) x L hx h8 hft hl
  intro D
  induction D with
  | zero =>
    intro _ d v x a L hv hx hf hl
    rw [show 2 * 0 + 4 + d = 2 + d + 2 by omega]
    exact un (fun y => kWtB T N q (fun _ _ => []) v y) (fun y => kFtB T N q (fun _ _ => 0) v y) 2 d v x a L (by omega) hx hf hl (fun d y L hy h8 hf hl => Mo_dB hR hw (by omega) d (jVd_b (by omega) hv) hy h8 hf (.inl (jVd_0 hv)) hl)
  | succ D ih =>
    intro hD d v x a L hv hx hf hl
    rw [show 2 * (D + 1) + 4 + d = (2 * D + 4) + d + 2 by omega]
    exact un (fun y => kWtB T N q (kWt T N q D) v y) (fun y => kFtB T N q (kFit T N q D) v y) (2 * D + 4) d v x a L (by omega) hx hf hl (fun d y L hy h8 hf hl => Mo_dB hR hw (by omega) d (jVd_b hD hv) hy h8 hf (.inr ⟨D, hv, ih (by omega)⟩) hl)
end
