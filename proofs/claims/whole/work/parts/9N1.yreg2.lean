section
variable {c : Nat} {S : yS} {s : aT} {L : List yFi}
theorem lBy_oB {cc : Nat} {P : List Nat} (hb : kBt P) (hl : P.length ≤ alen (cc + 1)) : lBy cc P (oB cc P s) := ⟨oB_n, fun _ hi => oB_r hi, hb, hl⟩
/-- the tape is empty -/
theorem lBy_e {cc : Nat} : lBy cc [] (pI s cc 1 0) := ⟨by rw [gI_pI, if_pos ⟨rfl, rfl⟩]; rfl, fun i hi => absurd hi (Nat.not_lt_zero _), kBt_nil, Nat.zero_le _⟩
theorem yLC_fr {s' : aT} (hx : ∀ k i, k < 7 ∨ 56 ≤ k ∧ k ≤ 63 → gI s' k i = gI s k i) (hl : yLC c S s) : yLC c S s' := by
  obtain ⟨⟨a1, a2⟩, ⟨b1, b2, b3⟩, d1, ⟨tn, e1, e2, e3⟩, f1, i1⟩ := hl
  exact ⟨⟨by rw [hx 0 15 (by omega)]; exact a1, by rw [hx 0 16 (by omega)]; exact a2⟩, ⟨lBy_fr (fun k i hk => hx k i (by omega)) b1, lBy_fr (fun k i hk => hx k i (by omega)) b2, lBy_fr (fun k i hk => hx k i (by omega)) b3⟩, by rw [hx 56 1 (by omega)]; exact d1, ⟨tn, by omega, lDl_fr (fun i _ => hx 57 i (by omega)) e2, fun hd => by rw [hx 58 6 (by omega)]; exact e3 hd⟩, lFi_fr (fun k i h1 h2 => hx k i (by omega)) f1, fun i hi j hj => by rw [hx 57 _ (by omega)]; exact i1 i hi j hj⟩
theorem yLC_e (h : yLC c S s) : yLC c (S.stp []) (pI s 1 1 0) := yLC_ch (fun k i hk => by rw [gI_pI, if_neg (by omega)]) lBy_e (lBy_fr (fun k i hk => by rw [gI_pI, if_neg (by omega)]) h.2.1.2.1) (lBy_fr (fun k i hk => by rw [gI_pI, if_neg (by omega)]) h.2.1.2.2) (by rw [gI_pI, if_neg (by omega)]; exact h.1.1) h
theorem yLI_e (h : yLI c S s) : yLI c (S.stp []) (pI s 1 1 0) := yLI_of (yLC_e (yLC_of h)) (by
  have e : yUp (S.stp []) = yUp S := rfl
  rw [e]
  exact lSc_fr (fun k i a b => by rw [gI_pI, if_neg (by omega)]) h.2.2.2.2.2.1) (lMk_fr (by rw [gI_pI, if_neg (by omega)]) (fun i _ => by rw [gI_pI, if_neg (by omega)]) (Nat.le_refl _) h.2.2.2.2.2.2.2)
theorem yTr_dn : (yTr S).2.dn = S.dn ∧ (yTr S).2.pw = S.pw ∧ (yTr S).2.fs = S.fs ∧ (yTr S).2.tp = S.tp ∧ (yTr S).2.ou = S.ou := by rw [yTr_e]; exact ⟨rfl, rfl, rfl, rfl, rfl⟩
/-- a refusal: the tables are dropped -/
theorem Lk_rdr (hL : yLw L) (hsc : lSc L s) {S1 : yS} (hf : yUp S1 = L) {t : aT} (ht : ∀ k i, 22 ≤ k → k ≤ 36 → ¬ xRg (yB0 L L.length) (yP0 L L.length) (yQ0 L L.length) k i → gI t k i = gI s k i) (lc : yLC (c + 1) S1 t) (lm : lMb (20 * c + 16) t) (lx : xLk s t) {k : Nat} (hk : 0 < k) (hk2 : k < 32) (d : Nat) : ∃ s2, fLk_register_22 (d + 1) (nEg k) t = rI (nEg k) s2 ∧ yLI (c + 1) S1 s2 ∧ xLk s s2 := by
  obtain ⟨s2, d1, d2, d3⟩ := Sc_dr (s' := t) hL hsc ht d
  have o : ∀ k i, k ≠ 22 → k ≠ 32 → gI s2 k i = gI t k i := fun k i a b => d3 k i (by omega)
  refine ⟨s2, eLk_register_22 d _ _ _ ?_, ?_, fun k i hk => by rw [o k i (by omega) (by omega)]; exact lx k i hk⟩
  · rw [if_neg (nEg_lt hk (by omega)), if_pos (show ¬ nEg k = -32 by rw [show (-32 : Int32) = nEg 32 from rfl, nEg_ne (by omega) (by omega)]; omega), d1, cG_V]
    rfl
  · refine yLI_of (yLC_fr (fun k i hk => o k i (by omega) (by omega)) lc) (by rw [hf]; exact d2) (lMb_k (lMb_fr (o 49 4 (by omega) (by omega)) (fun i _ => o 50 i (by omega) (by omega)) lm) (by omega))
/-- a text that fits is stored and kept -/
theorem Lk_kst (hL : yLw L) (hsc : lSc L s) {S1 : yS} (hd : S1.dn = false) (hp : S1.pw ≤ 1001) (hf : S1.fs = L) {t : aT} (ht : ∀ k i, 22 ≤ k → k ≤ 36 → ¬ xRg (yB0 L L.length) (yP0 L L.length) (yQ0 L L.length) k i → gI t k i = gI s k i) (hc : c ≤ 100000) (lc : yLC c S1 t) (lm : lMb (20 * c + 16) t) (lx : xLk s t) {C : List Nat} (hC : yVk C) (h2 : ∀ i, i < C.length → gI t 2 i = mI (C.getD i 0)) (h13 : gI t 13 9 = nI C.length) (y3 : lV (yB0 L L.length) (yP0 L L.length) (yQ0 L L.length) (yQ C) t) (y4 : gI t 22 14 = nI (yB0 L L.length + ((yQ C).1 1 - 6))) (y5 : gI t 22 15 = nI (yP0 L L.length + (yQ C).1 3)) (y6 : gI t 32 1 = nI (yQ0 L L.length + (yQ C).1 6)) {n : Nat} (hn : n < 4) (hv : yVc L n L.length < 16) (d : Nat) : ∃ w t', fLk_keepVersion_8 (d + 20) (nI n) (nI (lo (yB0 L L.length) (yX C))) (nI (yVc L n L.length)) (nI (yVc L n L.length)) t = rI w t' ∧ xLk s t' ∧ ((ySt S1 n (yVc L n L.length) C.length 0 C = (31, S1) ∧ w = nEg 31 ∧ (∀ k i, 22 ≤ k → k ≤ 36 → ¬ xRg (yB0 L L.length) (yP0 L L.length) (yQ0 L L.length) k i → gI t' k i = gI s k i) ∧ yLC (c + 1) S1 t' ∧ lMb (20 * c + 16) t') ∨ ((ySt S1 n (yVc L n L.length) C.length 0 C).1 = 32 ∧ w = nEg 32 ∧ yLI (c + 1) (ySt S1 n (yVc L n L.length) C.length 0 C).2 t') ∨ ((ySt S1 n (yVc L n L.length) C.length 0 C).1 = 0 ∧ w = nI (yVc L n L.length) ∧ yLI (c + 1) (ySt S1 n (yVc L n L.length) C.length 0 C).2 t')) := by
  have hB : isB 11 := by unfold isB; decide
  have h40 := hL.1.1
  have hVc := yVc_le (L := L) n L.length
  have hCl := hC.1.2
  have hcon : fBy_putRow (d + 19) 11 2 0 (nI C.length) (oB 11 [] t) = rI 1 (oB 11 C t) := Ob_row (L := []) (M := C) (t := t) (d + 13) hB (a := 2) (st := 0) (by show 0 + _ ≤ 4096; omega) rfl (by show 0 + _ ≤ 4096; omega) (by decide) (by omega) (fun i hi => by rw [oB_o (by omega) (by omega), Nat.zero_add]; exact h2 i hi) (fun i hi => kBt_gd hC.1.1 i)
  have hP : lBy 11 C (oB 11 C t) := lBy_oB hC.1.1 (by show _ ≤ 4096; omega)
  have oc : ∀ k i, k ≠ 11 → k ≠ 12 → gI (oB 11 C t) k i = gI t k i := fun k i a b => oB_o a (by omega)
  have lcc : yLC c S1 (oB 11 C t) := yLC_fr (fun k i hk => oc k i (by omega) (by omega)) lc
  have hst := Lk_st (S := S1) (s := oB 11 C t) (c := c) (by rw [hf]; exact hL) hd hp lcc (by omega) (fun u hu => by rw [oc 23 u (by omega) (by omega)]; exact y3.2.2.1 u hu) hP (by omega) (x := n) (v := yVc L n L.length) (rw := 0) (C := C) (by omega) hv ⟨by omega, by omega⟩ (by omega) (fun b w => if_pos rfl) (d + 5)
  rw [show d + 5 + 14 = d + 19 by omega] at hst
  have go : ∀ r, cG (fLk_storeFile (d + 19) (nI n) (nI (yVc L n L.length)) (zI 0) (oB 11 C t)) (kI fun v5 s4 => if v5 = 0 then cG (fSc_keep (d + 19) (nI n) (nI (lo (yB0 L L.length) (yX C))) s4) (kV fun s6 => rI (nI (yVc L n L.length)) s6) else rI v5 s4) = some r → fLk_keepVersion_8 (d + 20) (nI n) (nI (lo (yB0 L L.length) (yX C))) (nI (yVc L n L.length)) (nI (yVc L n L.length)) t = some r := fun r hr => by
    refine eLk_keepVersion_8 (d + 19) _ _ _ _ _ _ ?_
    rw [if_pos (show nI (yVc L n L.length) ≤ nI (yVc L n L.length) by rw [nI_leE (by omega) (by omega)]; omega), if_pos (show nI (yVc L n L.length) < 16 by rw [show (16 : Int32) = nI 16 from rfl, nI_ltE (by omega) (by omega)]; omega), wI_eq, oB_nil, oB_o (by omega) (by omega), h13, hcon, cG_I]
    exact hr
  rcases hst with ⟨r1, s2, r2, r3⟩ | ⟨r1, s2, r2, r3, r4, r5⟩ | ⟨r1, ⟨r0, r0'⟩, s2, r2, r3, r4⟩
  · have o2 : ∀ k i, k ≠ 66 → k ≠ 11 → k ≠ 12 → gI s2 k i = gI t k i := fun k i a b e => by rw [r3 k i a, oc k i b e]
    refine ⟨_, s2, go _ (by rw [r2, cG_I, if_neg (by decide)]; rfl), fun k i hk => by rw [o2 k i (by omega) (by omega) (by omega)]; exact lx k i hk, .inl ⟨r1, rfl, fun k i a b e => by rw [o2 k i (by omega) (by omega) (by omega)]; exact ht k i a b e, yLC_c (by omega) (yLC_fr (fun k i hk => o2 k i (by omega) (by omega) (by omega)) lc), lMb_fr (o2 49 4 (by omega) (by omega) (by omega)) (fun i _ => o2 50 i (by omega) (by omega) (by omega)) lm⟩⟩
  · have o2 : ∀ k i, k = 49 ∨ k = 50 ∨ 67 ≤ k → gI s2 k i = gI t k i := fun k i a => by rw [r5 k i (by unfold xSt; omega) (by unfold xLs; omega), oc k i (by omega) (by omega)]
    refine ⟨_, s2, go _ (by rw [r2, cG_I, if_neg (by decide)]; rfl), fun k i hk => by rw [o2 k i (by omega)]; exact lx k i hk, .inr (.inl ⟨by rw [r1], rfl, ?_⟩)⟩
    rw [r1]
    exact yLI_of r3 r4 (lMb_k (c := c + 1) (lMb_fr (s := t) (o2 49 4 (by omega)) (fun i _ => o2 50 i (by omega)) lm) (by omega))
  · have o2 : ∀ k i, k < 56 ∨ 67 ≤ k → k ≠ 11 → k ≠ 12 → gI s2 k i = gI t k i := fun k i a b e => by rw [r4 k i (by unfold xSt; omega), oc k i b e]
    obtain ⟨s3, k1, k2, k3⟩ := Sc_keep (s := s2) (f := (n, yVc L n L.length, yRm S1.fs (yBk C.length) - 1, C.length, 0, C)) hL hsc (fun k i a b e => by rw [o2 k i (by omega) (by omega) (by omega)]; exact ht k i a b e) (lV_fr (fun k i a b => o2 k i (by omega) (by omega) (by omega)) y3) (by rw [o2 22 14 (by omega) (by omega) (by omega)]; exact y4) (by rw [o2 22 15 (by omega) (by omega) (by omega)]; exact y5) (by rw [o2 32 1 (by omega) (by omega) (by omega)]; exact y6) rfl rfl hn hv (d + 18)
    have k1 : fSc_keep (d + 19) (nI n) (nI (lo (yB0 L L.length) (yX C))) s2 = rV s3 := k1
    have o3 : ∀ k i, ¬ (22 ≤ k ∧ k ≤ 36) → gI s3 k i = gI s2 k i := fun k i a => k3 k i (by omega)
    refine ⟨_, s3, go _ (by rw [r2, cG_I, if_pos rfl, k1, cG_V]; rfl), fun k i hk => by rw [o3 k i (by omega), o2 k i (by omega) (by omega) (by omega)]; exact lx k i hk, .inr (.inr ⟨by rw [r1], rfl, ?_⟩)⟩
    rw [r1]
    refine yLI_of (yLC_fr (fun k i hk => o3 k i (by omega)) r3) ?_ (lMb_k (c := c + 1) (lMb_fr (s := t) (by rw [o3 49 4 (by omega), o2 49 4 (by omega) (by omega) (by omega)]) (fun i _ => by rw [o3 50 i (by omega), o2 50 i (by omega) (by omega) (by omega)]) lm) (by omega))
    rw [yUp_f (show ((S1.spw (S1.pw - (yBk C.length + 1))).sfs (S1.fs ++ [(n, yVc L n L.length, yRm S1.fs (yBk C.length) - 1, C.length, 0, C)])).dn = false from hd)]
    show lSc (S1.fs ++ _) s3
    rw [hf]
    rw [hf] at k2
    exact k2
end
