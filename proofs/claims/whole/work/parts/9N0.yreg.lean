/-! register: the lake -/
/-- a version fits a text -/
def yFv (L : List yFi) (n : Nat) (C : List Nat) (v : Nat) : Bool := kFits (yQ (yVd L n v)) (yQ C) (yX (yVd L n v)) (yX C)
def yRr (r : Nat × yS) (v : Nat) : Nat × Int32 × yS := if r.1 = 31 then (0, -31, r.2) else (0, if r.1 = 0 then nI v else nEg r.1, r.2.stp [])
def y_register (x : Int32) (S : yS) : Nat × Int32 × yS := if yNo x 3 then (1, 0, S) else if S.dn = true then (0, -33, S) else match kTx (yB S.tp) S.tp.length with
  | .error (k, _) => (0, nEg k, (yTr S).2)
  | .ok (p, _, _) => if ∀ v, v < yVc S.fs x.toInt.toNat S.fs.length → yFv S.fs x.toInt.toNat (S.tp.take p.1) v = true then (if 16 ≤ yVc S.fs x.toInt.toNat S.fs.length then (0, -31, (yTr S).2) else yRr (ySt (yTr S).2 x.toInt.toNat (yVc S.fs x.toInt.toNat S.fs.length) p.1 0 (S.tp.take p.1)) (yVc S.fs x.toInt.toNat S.fs.length)) else (0, -30, (yTr S).2)
def lMb (B : Nat) (s : aT) : Prop := ∃ S0, S0 ≤ B ∧ gI s 49 4 = nI S0 ∧ ∀ i, i < 17956 → ∃ k, k ≤ S0 ∧ gI s 50 i = nI k
section
variable {c : Nat} {S : yS} {s s1 : aT} {L : List yFi}
theorem lMk_b (h : lMk c s) : lMb (20 * c) s := h
/-- the text that is kept -/
theorem yVk_tp {T : List Nat} (hb : kBt T) (hl : T.length ≤ 4096) {p : jP} {q : kP} {x : Nat} (h : kTx (yB T) T.length = .ok (p, q, x)) : yVk (T.take p.1) ∧ yRd (T.take p.1) = (p, q, x) ∧ p.1 ≤ T.length ∧ (T.take p.1).length = p.1 := by
  have hpe := (kTx_ok hl h).2.1
  have hlen : (T.take p.1).length = p.1 := by rw [List.length_take]; omega
  have hc := kTx_c (B' := yB (T.take p.1)) h hpe (fun a ha => gD_tk ha)
  have hr : yRd (T.take p.1) = (p, q, x) := yRd_ok (by rw [hlen]; exact hc)
  refine ⟨⟨⟨kBt_tke hb, by omega⟩, by rw [hr, hlen]; exact hc, by rw [hr, hlen]⟩, hr, hpe, hlen⟩
/-- versions, when a text has been read behind them -/
def lVs (L : List yFi) (s : aT) : Prop := ∀ i, i < L.length → (L.getD i yF0).2.2.2.2.1 = 0 → gI s 35 (16 * (L.getD i yF0).1 + (L.getD i yF0).2.1) = nI (lo (yB0 L i) (yX (L.getD i yF0).2.2.2.2.2)) ∧ gI s 36 (16 * (L.getD i yF0).1 + (L.getD i yF0).2.1) = nI (yB0 L i) ∧ lV (yB0 L i) (yP0 L i) (yQ0 L i) (yQ (L.getD i yF0).2.2.2.2.2) s
theorem Lk_vr2 (hL : yLw L) (h : lVs L s) {x v : Nat} (hv : yVf L x v ≠ 0) : yVk (yVd L x v) ∧ x < 4 ∧ v < 16 ∧ (∀ d, fSc_rootOf d (nI x) (nI v) s = rI (nI (lo (yVb L x v) (yX (yVd L x v)))) s) ∧ (∀ d, fSc_baseOf d (nI x) (nI v) s = rI (nI (yVb L x v)) s) ∧ lW (yVb L x v) (yP0 L (yVf L x v - 1)) (yQ0 L (yVf L x v - 1)) (yQ (yVd L x v)) (yT (yVd L x v)) (yM (yVd L x v)) s := by
  obtain ⟨h1, h2, h3⟩ := (yVf_iff hL).2 hv
  obtain ⟨a1, a2, a3⟩ := h _ h1 h2.2
  obtain ⟨b1, b2, b3⟩ := hL.2.2.1 _ h1 h2.2
  obtain ⟨c1, c2⟩ := (hL.1.2 _ h1).1
  rw [h2.1] at c1 a1 a2
  rw [h3] at c2 a1 a2
  refine ⟨b1, c1, c2, fun d => eSc_rootOf d _ _ _ _ ?_, fun d => eSc_baseOf d _ _ _ _ ?_, kVe_lw (yVk_g b1).2.1 a3⟩
  · rw [show (16 : Int32) = nI 16 from rfl, nI_mulE, nI_addE, ldI_n (by omega) (by omega), show x * 16 + v = 16 * x + v by omega, a1]
    rfl
  · rw [show (16 : Int32) = nI 16 from rfl, nI_mulE, nI_addE, ldI_n (by omega) (by omega), show x * 16 + v = 16 * x + v by omega, a2]
    rfl
theorem lVs_fr {s' : aT} (h : ∀ k i, 23 ≤ k → k ≤ 36 → gI s' k i = gI s k i) (hv : lVs L s) : lVs L s' := fun i hi h0 => by
  obtain ⟨a1, a2, a3⟩ := hv i hi h0
  rw [h 35 _ (by omega) (by omega), h 36 _ (by omega) (by omega)]
  exact ⟨a1, a2, lV_fr (fun k i a b => h k i a (by omega)) a3⟩
/-- the loop over the versions -/
theorem Lk_kv8 (hL : yLw L) (hvs : lVs L s1) {n : Nat} {C : List Nat} (hC : yVk C) {b pb qb : Nat} (hb : 6 ≤ b ∧ b < 100000) (hv : lV b pb qb (yQ C) s1) (h11 : gI s1 22 11 = nI b) {B : Nat} (hB : B ≤ 10000000) (d : Nat) : ∀ k z t, z + k = yVc L n L.length → (∀ k i, ¬ (49 ≤ k ∧ k ≤ 51) → gI t k i = gI s1 k i) → lMb (B + z) t → if ∀ v, v < yVc L n L.length → z ≤ v → yFv L n C v = true then ∃ t', (∀ k i, ¬ (49 ≤ k ∧ k ≤ 51) → gI t' k i = gI s1 k i) ∧ lMb (B + yVc L n L.length) t' ∧ ∀ r, fLk_keepVersion_8 (d + 23) (nI n) (nI (lo b (yX C))) (nI (yVc L n L.length)) (nI (yVc L n L.length)) t' = some r → fLk_keepVersion_8 (d + 23) (nI n) (nI (lo b (yX C))) (nI (yVc L n L.length)) (nI z) t = some r else ∃ t', (∀ k i, ¬ (49 ≤ k ∧ k ≤ 51) → gI t' k i = gI s1 k i) ∧ lMb (B + yVc L n L.length) t' ∧ fLk_keepVersion_8 (d + 23) (nI n) (nI (lo b (yX C))) (nI (yVc L n L.length)) (nI z) t = rI (-30) t' := by
  have hVc := yVc_le (L := L) n L.length
  have h40 := hL.1.1
  intro k
  induction k with
  | zero =>
    intro z t hz ht hm
    have e : z = yVc L n L.length := by omega
    subst e
    rw [if_pos (fun v a b => by omega)]
    exact ⟨t, ht, hm, fun r hr => hr⟩
  | succ k ih =>
    intro z t hz ht hm
    have hvf : yVf L n z ≠ 0 := (yVf_iff hL).1.mpr (by omega)
    obtain ⟨a1, a2, a3, a4, a5, a6⟩ := Lk_vr2 (s := t) hL (lVs_fr (fun k i _ _ => ht k i (by omega)) hvs) hvf
    obtain ⟨S0, m1, m2, m3⟩ := hm
    have hvt : lV b pb qb (yQ C) t := lV_fr (fun k i _ _ => ht k i (by omega)) hv
    have hb1 : 6 ≤ yVb L n z ∧ yVb L n z < 100000 := by
      have := ((yVf_iff hL).2 hvf).1
      have := yB0_le hL (yVf L n z - 1) (by omega)
      exact ⟨this.1, by show yB0 L (yVf L n z - 1) < 100000; omega⟩
    have hvw : lW b pb qb (yQ C) (yT C) (yM C) t := kVe_lw (yVk_g hC).2.1 hvt
    obtain ⟨L', hf⟩ := Ma_fit (s := t) a6 hvw hb1 hb m2 (by omega) m3 d (yVk_r a1).2.2.2.2 (yVk_r hC).2.2.2.2
    have ho : ∀ k i, ¬ (49 ≤ k ∧ k ≤ 51) → gI (lAk (S0 + 1) L' (pI (pI (pI t 49 5 (nI (yVb L n z))) 49 6 (nI b)) 49 4 (nI (S0 + 1)))) k i = gI s1 k i := fun k i hk => by
      rw [lAk_o (.inl (by omega)), gI_pI, if_neg (by omega), gI_pI, if_neg (by omega), gI_pI, if_neg (by omega)]
      exact ht k i hk
    have h4 : gI (lAk (S0 + 1) L' (pI (pI (pI t 49 5 (nI (yVb L n z))) 49 6 (nI b)) 49 4 (nI (S0 + 1)))) 49 4 = nI (S0 + 1) := by
      rw [lAk_o (.inr ⟨rfl, by omega⟩), gI_pI, if_pos ⟨rfl, rfl⟩]
    have hm' : lMb (B + (z + 1)) (lAk (S0 + 1) L' (pI (pI (pI t 49 5 (nI (yVb L n z))) 49 6 (nI b)) 49 4 (nI (S0 + 1)))) := ⟨S0 + 1, by omega, h4, lAk_M m3⟩
    have go : ∀ r, (if kFits (yQ (yVd L n z)) (yQ C) (yX (yVd L n z)) (yX C) = true then fLk_keepVersion_8 (d + 23) (nI n) (nI (lo b (yX C))) (nI (yVc L n L.length)) (nI (z + 1)) (lAk (S0 + 1) L' (pI (pI (pI t 49 5 (nI (yVb L n z))) 49 6 (nI b)) 49 4 (nI (S0 + 1)))) else rI (-30) (lAk (S0 + 1) L' (pI (pI (pI t 49 5 (nI (yVb L n z))) 49 6 (nI b)) 49 4 (nI (S0 + 1))))) = some r → fLk_keepVersion_8 (d + 23) (nI n) (nI (lo b (yX C))) (nI (yVc L n L.length)) (nI z) t = some r := fun r hr => by
      refine eLk_keepVersion_8 (d + 22) _ _ _ _ _ _ ?_
      rw [if_neg (show ¬ nI (yVc L n L.length) ≤ nI z by rw [nI_leE (by omega) (by omega)]; omega), a4, cG_I, a5, cG_I, ht 22 11 (by omega), h11, hf, cG_I, nI_add1]
      by_cases hk : kFits (yQ (yVd L n z)) (yQ C) (yX (yVd L n z)) (yX C) = true
      · rw [if_pos hk] at hr ⊢
        rw [if_pos (by decide)]
        exact hr
      · rw [if_neg hk] at hr ⊢
        rw [if_neg (fun e => e rfl)]
        exact hr
    by_cases hk : kFits (yQ (yVd L n z)) (yQ C) (yX (yVd L n z)) (yX C) = true
    · rw [if_pos hk] at go
      have ih' := ih (z + 1) _ (by omega) ho hm'
      by_cases hall : ∀ v, v < yVc L n L.length → z ≤ v → yFv L n C v = true
      · rw [if_pos hall]
        rw [if_pos (fun v a b => hall v a (by omega))] at ih'
        obtain ⟨t', t1, t2, t3⟩ := ih'
        exact ⟨t', t1, t2, fun r hr => go r (t3 r hr)⟩
      · rw [if_neg hall]
        rw [if_neg (fun e => hall (fun v a b => by
          by_cases ez : v = z
          · rw [ez]; exact hk
          · exact e v a (by omega)))] at ih'
        obtain ⟨t', t1, t2, t3⟩ := ih'
        exact ⟨t', t1, t2, go _ t3⟩
    · rw [if_neg hk] at go
      rw [if_neg (fun e => hk (e z (by omega) (Nat.le_refl _)))]
      obtain ⟨u1, u2, u3, u4⟩ := hm'
      exact ⟨_, ho, ⟨u1, by omega, u3, u4⟩, go _ rfl⟩
theorem lMb_k {B : Nat} (h : lMb B s) (hB : B ≤ 20 * c) : lMk c s := by
  obtain ⟨S0, a, b⟩ := h
  exact ⟨S0, by omega, b⟩
theorem lMb_fr {B : Nat} {s' : aT} (h4 : gI s' 49 4 = gI s 49 4) (h5 : ∀ i, i < 17956 → gI s' 50 i = gI s 50 i) (h : lMb B s) : lMb B s' := by
  obtain ⟨S0, a1, a2, a3⟩ := h
  exact ⟨S0, a1, by rw [h4]; exact a2, fun i hi => by rw [h5 i hi]; exact a3 i hi⟩
theorem nEg_lt {k : Nat} (h0 : 0 < k) (h : k < 1000) : ¬ (0 : Int32) ≤ nEg k := by
  unfold nEg
  rw [Int32.le_iff_toInt_le, Int32.toInt_neg, nI_ti (by omega)]
  have e0 : (0 : Int32).toInt = 0 := rfl
  rw [e0, Int.bmod_def]
  split <;> omega
theorem nEg_ne {k j : Nat} (hk : k < 1000) (hj : j < 1000) : (nEg k = nEg j) = (k = j) := by
  unfold nEg
  rw [Int32.neg_inj, nI_eqE (by omega) (by omega)]
end
theorem kTx_30 {B : Nat → Nat} {n k e : Nat} (h : kTx B n = .error (k, e)) : 0 < k ∧ k < 30 := by
  unfold kTx at h
  split at h
  · cases h
    omega
  · split at h
    · rename_i x hs
      cases h
      unfold kSr at hs
      split at hs
      · rename_i e1 hso
        cases hs
        have := kSo_er _ _ _ _ _ hso
        exact ⟨by have := this.1; simp at this; omega, by have := this.2; simp at this; omega⟩
      · split at hs
        · cases hs
        · cases hs
          omega
    · cases h
