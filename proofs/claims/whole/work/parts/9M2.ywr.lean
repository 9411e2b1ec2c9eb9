/-! a file is stored: pure, and in the reference -/
/-- 0, 31 or 32, and what is kept then -/
def ySt (S : yS) (x v want rw : Nat) (C : List Nat) : Nat × yS := if 4096 < want ∨ S.fs.length = 40 ∨ yRm S.fs (yBk want) = 0 then (31, S) else if S.pw ≠ 0 ∧ S.pw ≤ yBk want + 1 then (32, (S.spw 0).sdn true) else (0, (S.spw (S.pw - (yBk want + 1))).sfs (S.fs ++ [(x, v, yRm S.fs (yBk want) - 1, want, rw, C)]))
/-- a number of an answer: 31 is told as -31 -/
def nEg (k : Nat) : Int32 := -(nI k)
theorem nEg_0 : nEg 0 = 0 := by decide
/-- what the reference's writing changes -/
def xWr (k i : Nat) : Prop := k = 67 ∧ 11 ≤ i ∧ i ≤ 13 ∨ 137 ≤ k ∧ k ≤ 143
section
variable {S : yS} {s : aT}
theorem Mo_wa (d : Nat) {k n : Nat} (hk : k < 1000000) (hn : n < 1000000) : fMo_wanted (d + 1) (nI k) (nI n) s = rI (nI (yWa k n)) s := by
  refine eMo_wanted d _ _ _ _ ?_
  rw [nI_long (by omega), nI_long (by omega), Mo_vz, cG_I, Mo_vz, cG_I, show (11 : Int32) = nI 11 from rfl, nI_addE, nI_addE, nI_addE, show (8 : Int32) = nI 8 from rfl, nI_addE]
  unfold yWa
  rw [show 11 + (kVb (Int64.ofNat k)).length + (kVb (Int64.ofNat n)).length + n + 8 = 19 + (kVb (Int64.ofNat k)).length + (kVb (Int64.ofNat n)).length + n by omega]
  rfl
/-- power, in the reference -/
theorem Mo_ws (d : Nat) {pw n : Nat} (hp : gI s 67 12 = zI pw) (hp2 : pw ≤ 1001) (hn : n ≤ 1000) : fMo_writes d (nI n) s = if pw ≠ 0 ∧ pw ≤ n then rI 0 (pI (pI s 67 12 (-1)) 67 11 1) else rI 1 (pI s 67 12 (zI (pw - n))) := by
  by_cases h0 : pw = 0
  · rw [if_neg (fun e => e.1 h0)]
    refine eMo_writes d _ _ _ ?_
    rw [hp, h0, zI_0, if_pos (by decide)]
    refine eMo_writes_15 d _ _ _ ?_
    rw [hp, h0, zI_0, if_neg (by decide), wI_eq, Nat.zero_sub]
    rfl
  · have e1 : zI pw = nI (pw - 1) := zI_pos (by omega)
    by_cases h1 : pw ≤ n
    · rw [if_pos ⟨h0, h1⟩]
      refine eMo_writes d _ _ _ ?_
      rw [hp, e1, if_neg (nI_n0 (by omega)), if_neg (show ¬ nI n ≤ nI (pw - 1) by rw [nI_leE (by omega) (by omega)]; omega), wI_eq]
      rfl
    · rw [if_neg (fun e => h1 e.2)]
      refine eMo_writes d _ _ _ ?_
      rw [hp, e1, if_neg (nI_n0 (by omega)), if_pos (show nI n ≤ nI (pw - 1) by rw [nI_leE (by omega) (by omega)]; omega)]
      refine eMo_writes_15 d _ _ _ ?_
      rw [hp, e1, if_pos (show (0 : Int32) ≤ nI (pw - 1) by rw [show (0 : Int32) = nI 0 from rfl, nI_leE (by omega) (by omega)]; omega), wI_eq, nI_sub (by omega), zI_pos (by omega), show pw - n - 1 = pw - 1 - n by omega]
      rfl
/-- the data are written -/
theorem Mo_w31 (d : Nat) {x1 x2 x3 x4 x7 x8 : Int32} {a b : Nat} {C : List Nat} (hC : C.length ≤ 4096) (hb : kBt C) (hb2 : 256 * b + C.length ≤ 32768) (ha : C.length ≤ alen a) (ha2 : alen a < 2147483648) (ha3 : a ≠ 143) : ∀ k j s, j + k = C.length → (∀ i, i < C.length → gI s a i = mI (C.getD i 0)) → ∃ s', s'.2 = s.2 ∧ (∀ k i, k ≠ 143 → gI s' k i = gI s k i) ∧ (∀ i, gI s' 143 i = if 256 * b + j ≤ i ∧ i < 256 * b + C.length then mI (C.getD (i - 256 * b) 0) else gI s 143 i) ∧ ∀ r, (if ¬ x8 = 0 then fMo_write_55 (d + 1) x1 x2 x3 x4 (nI C.length) x7 (nI b) s' else wI s' 67 13 ((gI s' 67 13) + 1) (fun s1 => fMo_write_55 (d + 1) x1 x2 x3 x4 (nI C.length) x7 (nI b) s1)) = some r → fMo_write_31 (d + 1) x1 x2 x3 x4 (nI C.length) a x7 x8 (nI b) (nI j) s = some r := by
  intro k
  induction k with
  | zero =>
    intro j s hj hA
    refine ⟨s, rfl, fun _ _ _ => rfl, fun i => by rw [if_neg (by omega)], fun r hr => eMo_write_31 d _ _ _ _ _ _ _ _ _ _ _ _ ?_⟩
    rw [if_pos (show nI C.length ≤ nI j by rw [nI_leE (by omega) (by omega)]; omega)]
    exact hr
  | succ k ih =>
    intro j s hj hA
    obtain ⟨s', g0, g1, g2, g3⟩ := ih (j + 1) (pI s 143 (256 * b + j) (mI (C.getD j 0))) (by omega) (fun i hi => by rw [gI_pI, if_neg (by omega)]; exact hA i hi)
    refine ⟨s', g0, fun k i hk => by rw [g1 k i hk, gI_pI, if_neg (by omega)], fun i => ?_, fun r hr => eMo_write_31 d _ _ _ _ _ _ _ _ _ _ _ _ ?_⟩
    · rw [g2 i, gI_pI]
      by_cases h1 : 256 * b + (j + 1) ≤ i ∧ i < 256 * b + C.length
      · rw [if_pos h1, if_pos (by omega)]
      · rw [if_neg h1]
        by_cases h2 : i = 256 * b + j
        · rw [if_pos ⟨rfl, h2⟩, if_pos (by omega), h2, show 256 * b + j - 256 * b = j by omega]
        · rw [if_neg (by omega), if_neg (by omega)]
    · rw [if_neg (show ¬ nI C.length ≤ nI j by rw [nI_leE (by omega) (by omega)]; omega), ldI_n (by omega) (by omega), hA j (by omega), mI_nar _ (kBt_gd hb j), show (256 : Int32) = nI 256 from rfl, nI_mulE, nI_addE, stI_n (by omega) (by omega), nI_add1]
      exact g3 r hr
/-- the whole of write, when there is room: what is written at a place of the list -/
theorem Mo_w15 (d : Nat) {x v want rw b a at' : Nat} {C : List Nat} {x8 : Int32} (hC : C.length ≤ 4096) (hb : kBt C) (hb2 : 256 * b + C.length ≤ 32768) (ha : C.length ≤ alen a) (ha2 : alen a < 2147483648) (ha3 : a < 67 ∨ 67 < a ∧ a ≠ 143) (hA : ∀ i, i < C.length → gI s a i = mI (C.getD i 0)) (hwant : want ≤ 4096) (hat : at' < 41) {pw : Nat} (hp : gI s 67 12 = zI pw) (hp2 : pw ≤ 1001) : if pw ≠ 0 ∧ pw ≤ yBk want + 1 then fMo_write_15 (d + 2) (nI x) (nI v) (nI want) (zI rw) (nI C.length) a (nI at') x8 (nI b) s = rI (-32) (pI (pI s 67 12 (-1)) 67 11 1) else ∃ s', fMo_write_15 (d + 2) (nI x) (nI v) (nI want) (zI rw) (nI C.length) a (nI at') x8 (nI b) s = rI 0 s' ∧ (gI s' 137 at' = nI x ∧ gI s' 138 at' = nI v ∧ gI s' 139 at' = nI b ∧ gI s' 140 at' = nI want ∧ gI s' 141 at' = zI rw ∧ gI s' 142 at' = nI C.length) ∧ (∀ k i, 137 ≤ k → k ≤ 142 → i ≠ at' → gI s' k i = gI s k i) ∧ (∀ i, gI s' 143 i = if 256 * b ≤ i ∧ i < 256 * b + C.length then mI (C.getD (i - 256 * b) 0) else gI s 143 i) ∧ gI s' 67 12 = zI (pw - (yBk want + 1)) ∧ gI s' 67 13 = (if x8 = 0 then gI s 67 13 + 1 else gI s 67 13) ∧ gI s' 67 11 = gI s 67 11 ∧ (∀ k i, ¬ xWr k i → gI s' k i = gI s k i) ∧ s'.2 = s.2 := by
  have hk := yBk_16 hwant
  have hws := Mo_ws (s := s) (d + 1) (n := yBk want + 1) hp hp2 (by omega)
  have h0 : (0 : Int32) ≤ nI b := by rw [show (0 : Int32) = nI 0 from rfl, nI_leE (by omega) (by omega)]; omega
  by_cases hl : pw ≠ 0 ∧ pw ≤ yBk want + 1
  · rw [if_pos hl] at hws ⊢
    refine eMo_write_15 (d + 1) _ _ _ _ _ _ _ _ _ _ _ ?_
    rw [if_pos h0, Mo_bk (d + 1) (by omega), cG_I, nI_add1, hws, cG_I, if_neg (fun e => e rfl)]
    rfl
  · rw [if_neg hl] at hws ⊢
    obtain ⟨s1, g0, g1, g2, g3⟩ := Mo_w31 (d + 1) (x1 := nI x) (x2 := nI v) (x3 := nI want) (x4 := zI rw) (x7 := nI at') (x8 := x8) (b := b) hC hb hb2 ha ha2 (by omega) C.length 0 (pI s 67 12 (zI (pw - (yBk want + 1)))) (by omega) (fun i hi => by rw [gI_pI, if_neg (by omega)]; exact hA i hi)
    have o1 : ∀ k i, k ≠ 143 → ¬ (k = 67 ∧ i = 12) → gI s1 k i = gI s k i := fun k i a b => by rw [g1 k i a, gI_pI, if_neg b]
    have key : ∀ t : aT, fMo_write_55 (d + 1 + 1) (nI x) (nI v) (nI want) (zI rw) (nI C.length) (nI at') (nI b) t = rI 0 (pI (pI (pI (pI (pI (pI t 137 at' (nI x)) 138 at' (nI v)) 139 at' (nI b)) 140 at' (nI want)) 141 at' (zI rw)) 142 at' (nI C.length)) := fun t => by
      refine eMo_write_55 (d + 1) _ _ _ _ _ _ _ _ _ ?_
      rw [stI_n (by omega) (by omega), stI_n (by omega) (by omega), stI_n (by omega) (by omega), stI_n (by omega) (by omega), stI_n (by omega) (by omega), stI_n (by omega) (by omega)]
      rfl
    have fin : ∀ t : aT, t.2 = s1.2 → (∀ k i, ¬ (k = 67 ∧ i = 13) → gI t k i = gI s1 k i) → gI t 67 13 = (if x8 = 0 then gI s 67 13 + 1 else gI s 67 13) → (fMo_write_15 (d + 2) (nI x) (nI v) (nI want) (zI rw) (nI C.length) a (nI at') x8 (nI b) s = fMo_write_55 (d + 1 + 1) (nI x) (nI v) (nI want) (zI rw) (nI C.length) (nI at') (nI b) t) → ∃ s', fMo_write_15 (d + 2) (nI x) (nI v) (nI want) (zI rw) (nI C.length) a (nI at') x8 (nI b) s = rI 0 s' ∧ (gI s' 137 at' = nI x ∧ gI s' 138 at' = nI v ∧ gI s' 139 at' = nI b ∧ gI s' 140 at' = nI want ∧ gI s' 141 at' = zI rw ∧ gI s' 142 at' = nI C.length) ∧ (∀ k i, 137 ≤ k → k ≤ 142 → i ≠ at' → gI s' k i = gI s k i) ∧ (∀ i, gI s' 143 i = if 256 * b ≤ i ∧ i < 256 * b + C.length then mI (C.getD (i - 256 * b) 0) else gI s 143 i) ∧ gI s' 67 12 = zI (pw - (yBk want + 1)) ∧ gI s' 67 13 = (if x8 = 0 then gI s 67 13 + 1 else gI s 67 13) ∧ gI s' 67 11 = gI s 67 11 ∧ (∀ k i, ¬ xWr k i → gI s' k i = gI s k i) ∧ s'.2 = s.2 := by
      intro t htc ht h13 he
      have os : ∀ k i, ¬ (137 ≤ k ∧ k ≤ 142 ∧ i = at') → gI (pI (pI (pI (pI (pI (pI t 137 at' (nI x)) 138 at' (nI v)) 139 at' (nI b)) 140 at' (nI want)) 141 at' (zI rw)) 142 at' (nI C.length)) k i = gI t k i := fun k i hk => by
        rw [gI_pI, if_neg (by omega), gI_pI, if_neg (by omega), gI_pI, if_neg (by omega), gI_pI, if_neg (by omega), gI_pI, if_neg (by omega), gI_pI, if_neg (by omega)]
      refine ⟨_, by rw [he, key t], ⟨?_, ?_, ?_, ?_, ?_, ?_⟩, fun k i h1 h2 h3 => ?_, fun i => ?_, ?_, ?_, ?_, fun k i hk => ?_, ?_⟩
      · simp [gI_pI]
      · simp [gI_pI]
      · simp [gI_pI]
      · simp [gI_pI]
      · simp [gI_pI]
      · simp [gI_pI]
      · rw [os k i (by omega), ht k i (by omega), o1 k i (by omega) (by omega)]
      · rw [os 143 i (by omega), ht 143 i (by omega), g2 i, Nat.add_zero, gI_pI, if_neg (by omega : ¬ (143 = 67 ∧ i = 12))]
      · rw [os 67 12 (by omega), ht 67 12 (by omega), g1 67 12 (by omega), gI_pI, if_pos ⟨rfl, rfl⟩]
      · rw [os 67 13 (by omega), h13]
      · rw [os 67 11 (by omega), ht 67 11 (by omega), o1 67 11 (by omega) (by omega)]
      · unfold xWr at hk
        rw [os k i (by omega), ht k i (by omega), o1 k i (by omega) (by omega)]
      · exact htc.trans g0
    have go : ∀ r, fMo_write_31 (d + 1 + 1) (nI x) (nI v) (nI want) (zI rw) (nI C.length) a (nI at') x8 (nI b) (nI 0) (pI s 67 12 (zI (pw - (yBk want + 1)))) = some r → fMo_write_15 (d + 2) (nI x) (nI v) (nI want) (zI rw) (nI C.length) a (nI at') x8 (nI b) s = some r := fun r hr => by
      refine eMo_write_15 (d + 1) _ _ _ _ _ _ _ _ _ _ _ ?_
      rw [if_pos h0, Mo_bk (d + 1) (by omega), cG_I, nI_add1, hws, cG_I, if_pos (by decide)]
      exact hr
    by_cases h8 : x8 = 0
    · refine fin (pI s1 67 13 (gI s1 67 13 + 1)) rfl (fun k i hk => by rw [gI_pI, if_neg hk]) (by rw [gI_pI, if_pos ⟨rfl, rfl⟩, if_pos h8, o1 67 13 (by omega) (by omega)]) ?_
      rw [key]
      exact go _ (g3 _ (by rw [if_neg (fun e => e h8), wI_eq, key]; rfl))
    · refine fin s1 rfl (fun k i hk => rfl) (by rw [if_neg h8, o1 67 13 (by omega) (by omega)]) ?_
      rw [key]
      exact go _ (g3 _ (by rw [if_pos h8, key]; rfl))
/-- a file is stored behind all others -/
theorem Mo_wr (hL : yLw S.fs) (hpk : ∀ i, i < S.fs.length → (S.fs.getD i yF0).2.2.2.2.2.length ≤ (S.fs.getD i yF0).2.2.2.1) (h : yMI S s) (hp2 : S.pw ≤ 1001) (d : Nat) {x v want rw a : Nat} {C : List Nat} (hC : want ≤ 4096 → C.length ≤ want) (hb : kBt C) (ha : want ≤ 4096 → C.length ≤ alen a) (ha2 : alen a < 2147483648) (ha3 : a < 67 ∨ 67 < a ∧ a ≠ 143) (hA : want ≤ 4096 → ∀ i, i < C.length → gI s a i = mI (C.getD i 0)) (hwant : want < 100000) : ∃ s', fMo_write (d + 2) (nI x) (nI v) (nI want) (zI rw) (nI C.length) a (nI S.fs.length) 0 s = rI (nEg (ySt S x v want rw C).1) s' ∧ yMI (ySt S x v want rw C).2 s' ∧ xMk 0 s s' ∧ (∀ k i, ¬ xWr k i → gI s' k i = gI s k i) := by
  have h40 := hL.1.1
  obtain ⟨⟨a1, a2⟩, ⟨b1, b2⟩, ⟨d1, d2⟩, ⟨e1, e2⟩, f1, g1, i1⟩ := h
  by_cases hfull : 4096 < want ∨ S.fs.length = 40 ∨ yRm S.fs (yBk want) = 0
  · have er : ySt S x v want rw C = (31, S) := if_pos hfull
    rw [er]
    refine ⟨s, eMo_write (d + 1) _ _ _ _ _ _ _ _ _ _ ?_, ⟨⟨a1, a2⟩, ⟨b1, b2⟩, ⟨d1, d2⟩, ⟨e1, e2⟩, f1, g1, i1⟩, xMo_r, fun _ _ _ => rfl⟩
    have k9 : fMo_write_9 (d + 1 + 1) (nI x) (nI v) (nI want) (zI rw) (nI C.length) a (nI S.fs.length) 0 s = rI (-31) s := eMo_write_9 (d + 1) _ _ _ _ _ _ _ _ _ _ (eMo_write_15 (d + 1) _ _ _ _ _ _ _ _ _ _ _ (by rw [if_neg (by decide)]; rfl))
    by_cases h1 : 4096 < want
    · rw [if_pos (show (4096 : Int32) < nI want by rw [show (4096 : Int32) = nI 4096 from rfl, nI_ltE (by omega) (by omega)]; omega), k9]
      rfl
    · rw [if_neg (show ¬ (4096 : Int32) < nI want by rw [show (4096 : Int32) = nI 4096 from rfl, nI_ltE (by omega) (by omega)]; omega), g1.1]
      by_cases h2 : S.fs.length = 40
      · rw [if_neg (show ¬ ¬ nI S.fs.length = 40 by rw [h2]; decide), if_neg (by decide), k9]
        rfl
      · have h3 : yRm S.fs (yBk want) = 0 := by omega
        rw [if_pos (show ¬ nI S.fs.length = 40 by rw [show (40 : Int32) = nI 40 from rfl, nI_eqE (by omega) (by omega)]; omega)]
        refine eMo_write_11 (d + 1) _ _ _ _ _ _ _ _ _ _ ?_
        have hk := yBk_16 (n := want) (by omega)
        rw [Mo_bk (d + 1) (by omega), cG_I, Mo_rm g1 hL.1 d (by omega), cG_I, h3, zI_0]
        refine eMo_write_15 (d + 1) _ _ _ _ _ _ _ _ _ _ _ ?_
        rw [if_neg (by decide)]
        rfl
  · have h1 : want ≤ 4096 := by omega
    have h2 : S.fs.length < 40 := by omega
    have h3 : yRm S.fs (yBk want) ≠ 0 := fun e => hfull (.inr (.inr e))
    have hle := yRm_le h3
    have hk := yBk_16 h1
    have hbn := yBk_n want
    have hC1 := hC h1
    have go : ∀ r, fMo_write_15 (d + 2) (nI x) (nI v) (nI want) (zI rw) (nI C.length) a (nI S.fs.length) 0 (nI (yRm S.fs (yBk want) - 1)) s = some r → fMo_write (d + 2) (nI x) (nI v) (nI want) (zI rw) (nI C.length) a (nI S.fs.length) 0 s = some r := fun r hr => by
      refine eMo_write (d + 1) _ _ _ _ _ _ _ _ _ _ ?_
      rw [if_neg (show ¬ (4096 : Int32) < nI want by rw [show (4096 : Int32) = nI 4096 from rfl, nI_ltE (by omega) (by omega)]; omega), g1.1, if_pos (show ¬ nI S.fs.length = 40 by rw [show (40 : Int32) = nI 40 from rfl, nI_eqE (by omega) (by omega)]; omega)]
      refine eMo_write_11 (d + 1) _ _ _ _ _ _ _ _ _ _ ?_
      rw [Mo_bk (d + 1) (by omega), cG_I, Mo_rm g1 hL.1 d (by omega), cG_I, zI_pos (x := yRm S.fs (yBk want)) (by omega)]
      exact hr
    have hw := Mo_w15 (s := s) d (x := x) (v := v) (want := want) (rw := rw) (b := yRm S.fs (yBk want) - 1) (a := a) (at' := S.fs.length) (C := C) (x8 := 0) (by omega) hb (by omega) (ha h1) ha2 ha3 (hA h1) h1 (by omega) f1 hp2
    by_cases hlost : S.pw ≠ 0 ∧ S.pw ≤ yBk want + 1
    · rw [if_pos hlost] at hw
      have er : ySt S x v want rw C = (32, (S.spw 0).sdn true) := by unfold ySt; rw [if_neg hfull, if_pos hlost]
      rw [er]
      have o : ∀ k i, ¬ (k = 67 ∧ (i = 11 ∨ i = 12)) → gI (pI (pI s 67 12 (-1)) 67 11 1) k i = gI s k i := fun k i hk => by rw [gI_pI, if_neg (by omega), gI_pI, if_neg (by omega)]
      refine ⟨_, go _ hw, ⟨⟨by rw [o 67 3 (by omega)]; exact a1, by rw [gI_pI, if_pos ⟨rfl, rfl⟩]; rfl⟩, ⟨by rw [o 67 2 (by omega)]; exact b1, fun i hi => by rw [o 68 i (by omega)]; exact b2 i hi⟩, ⟨by rw [o 67 8 (by omega)]; exact d1, fun i hi => by rw [o 135 i (by omega)]; exact d2 i hi⟩, ⟨by rw [o 67 10 (by omega)]; exact e1, fun i hi => by rw [o 136 i (by omega)]; exact e2 i hi⟩, by rw [gI_pI, if_neg (by omega), gI_pI, if_pos ⟨rfl, rfl⟩]; rfl, mFi_fr (o 67 13 (by omega)) (fun k i h1 h2 => o k i (by omega)) g1, fun i hi j hj => by rw [o 143 _ (by omega)]; exact i1.1 i hi j hj, fun i hi => by rw [o 143 _ (by omega)]; exact i1.2 i hi⟩, ⟨fun k i hk => o k i (by omega), Nat.le_refl _, rfl⟩, fun k i hk => o k i (fun e => hk (by unfold xWr; omega))⟩
    · rw [if_neg hlost] at hw
      obtain ⟨s', w1, ⟨w2, w3, w4, w5, w6, w7⟩, w8, w9, w10, w11, w12, w13, w14⟩ := hw
      have er : ySt S x v want rw C = (0, (S.spw (S.pw - (yBk want + 1))).sfs (S.fs ++ [(x, v, yRm S.fs (yBk want) - 1, want, rw, C)])) := by unfold ySt; rw [if_neg hfull, if_neg hlost]
      rw [er]
      have o : ∀ k i, (k < 137 ∧ ¬ (k = 67 ∧ 11 ≤ i ∧ i ≤ 13)) ∨ 143 < k → gI s' k i = gI s k i := fun k i hk => w13 k i (by unfold xWr; omega)
      have hlen : (S.fs ++ [(x, v, yRm S.fs (yBk want) - 1, want, rw, C)]).length = S.fs.length + 1 := by simp
      refine ⟨s', go _ (by rw [w1]; show rI 0 s' = rI (nEg 0) s'; rw [nEg_0]), ⟨⟨by rw [o 67 3 (by omega)]; exact a1, by rw [w12]; exact a2⟩, ⟨by rw [o 67 2 (by omega)]; exact b1, fun i hi => by rw [o 68 i (by omega)]; exact b2 i hi⟩, ⟨by rw [o 67 8 (by omega)]; exact d1, fun i hi => by rw [o 135 i (by omega)]; exact d2 i hi⟩, ⟨by rw [o 67 10 (by omega)]; exact e1, fun i hi => by rw [o 136 i (by omega)]; exact e2 i hi⟩, w10, ⟨?_, fun i hi => ?_⟩, fun i hi j hj => ?_, fun i hi => ?_⟩, ⟨fun k i hk => o k i (by omega), by rw [w14]; exact Nat.le_refl _, by
        show s'.2.1 149 0 = _
        rw [w14]
        rfl⟩, w13⟩
      · show gI s' 67 13 = nI (S.fs ++ [_]).length
        rw [w11, if_pos rfl, g1.1, hlen, nI_add1]
      · have hi : i < (S.fs ++ [(x, v, yRm S.fs (yBk want) - 1, want, rw, C)]).length := hi
        show gI s' 137 i = nI ((S.fs ++ [(x, v, yRm S.fs (yBk want) - 1, want, rw, C)]).getD i yF0).1 ∧ gI s' 138 i = nI ((S.fs ++ [(x, v, yRm S.fs (yBk want) - 1, want, rw, C)]).getD i yF0).2.1 ∧ gI s' 139 i = nI ((S.fs ++ [(x, v, yRm S.fs (yBk want) - 1, want, rw, C)]).getD i yF0).2.2.1 ∧ gI s' 140 i = nI ((S.fs ++ [(x, v, yRm S.fs (yBk want) - 1, want, rw, C)]).getD i yF0).2.2.2.1 ∧ gI s' 141 i = zI ((S.fs ++ [(x, v, yRm S.fs (yBk want) - 1, want, rw, C)]).getD i yF0).2.2.2.2.1 ∧ gI s' 142 i = nI ((S.fs ++ [(x, v, yRm S.fs (yBk want) - 1, want, rw, C)]).getD i yF0).2.2.2.2.2.length
        by_cases e : i = S.fs.length
        · subst e
          rw [gD_b]
          exact ⟨w2, w3, w4, w5, w6, w7⟩
        · rw [gD_a (by omega), w8 137 i (by omega) (by omega) e, w8 138 i (by omega) (by omega) e, w8 139 i (by omega) (by omega) e, w8 140 i (by omega) (by omega) e, w8 141 i (by omega) (by omega) e, w8 142 i (by omega) (by omega) e]
          exact g1.2 i (by omega)
      · have hi : i < (S.fs ++ [(x, v, yRm S.fs (yBk want) - 1, want, rw, C)]).length := hi
        have hj : j < ((S.fs ++ [(x, v, yRm S.fs (yBk want) - 1, want, rw, C)]).getD i yF0).2.2.2.2.2.length := hj
        show gI s' 143 (256 * ((S.fs ++ [(x, v, yRm S.fs (yBk want) - 1, want, rw, C)]).getD i yF0).2.2.1 + j) = mI (((S.fs ++ [(x, v, yRm S.fs (yBk want) - 1, want, rw, C)]).getD i yF0).2.2.2.2.2.getD j 0)
        by_cases e : i = S.fs.length
        · subst e
          rw [gD_b] at hj ⊢
          have hj : j < C.length := hj
          show gI s' 143 (256 * (yRm S.fs (yBk want) - 1) + j) = mI (C.getD j 0)
          rw [w9, if_pos (by omega), show 256 * (yRm S.fs (yBk want) - 1) + j - 256 * (yRm S.fs (yBk want) - 1) = j by omega]
        · rw [gD_a (by omega)] at hj ⊢
          have hfr := of_decide_eq_true hle.2.2 i (by omega)
          have hp := hpk i (by omega)
          have hbn2 := yBk_n (S.fs.getD i yF0).2.2.2.1
          unfold yAw at hfr
          rw [w9, if_neg (by omega)]
          exact i1.1 i (by omega) j hj
      · rw [w9 i]
        split
        · exact ⟨_, kBt_gd hb _, rfl⟩
        · exact i1.2 i hi
/-- all files' data are within what they want -/
theorem yLw_dl {L : List yFi} (hL : yLw L) {i : Nat} (hi : i < L.length) : (L.getD i yF0).2.2.2.2.2.length ≤ (L.getD i yF0).2.2.2.1 ∧ (yPk (L.getD i yF0)).length = (L.getD i yF0).2.2.2.1 := by
  unfold yPk
  by_cases h0 : (L.getD i yF0).2.2.2.2.1 = 0
  · have h1 := (hL.2.2.1 i hi h0).2.1
    rw [if_pos h0]
    omega
  · have h1 := (hL.2.2.2 i hi h0).2.1
    rw [if_neg h0, h1]
    unfold yWa
    simp only [List.length_append, List.length_replicate]
    omega
end
