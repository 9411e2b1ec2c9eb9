/-! the lake's list: read again from the disk -/
theorem nI_sh8 {a b : Nat} (hb : b < 256) : (nI a <<< ((8 : Int32) &&& 31)) ||| nI b = nI (256 * a + b) := by
  have e : ((8 : Int32) &&& 31) = 8 := by decide
  rw [e]
  apply Int32.toBitVec_inj.mp
  apply BitVec.eq_of_toNat_eq
  rw [Int32.toBitVec_or]
  have e1 : (nI a <<< (8 : Int32)).toBitVec = (nI a).toBitVec <<< 8 := rfl
  rw [e1, BitVec.toNat_or, BitVec.toNat_shiftLeft]
  show (a % 4294967296) <<< 8 % 2 ^ 32 ||| b % 4294967296 = (256 * a + b) % 4294967296
  have h1 : (a % 4294967296) <<< 8 % 2 ^ 32 = (a % 16777216) <<< 8 := by
    rw [Nat.shiftLeft_eq, Nat.shiftLeft_eq]
    omega
  rw [h1, Nat.mod_eq_of_lt (show b < 4294967296 by omega), ← Nat.shiftLeft_add_eq_or_of_lt (show b < 2 ^ 8 by omega), Nat.shiftLeft_eq]
  omega
/-- a number's value -/
def yNv (V : Nat → Nat) : Nat → Nat
  | 0 => 0
  | n + 1 => 256 * yNv V n + V n
section
variable {s : aT}
theorem Fl_nu {f n : Nat} {V : Nat → Nat} (hn : n ≤ 4) (hf : f + n ≤ 32768) (hV : ∀ i, i < n → gI s 57 (f + i) = mI (V i) ∧ V i < 256) (d : Nat) : fFl_number d 57 (nI f) (nI n) s = rI (nI (yNv V n)) s := by
  have ha : alen 57 = 32768 := rfl
  have loop : ∀ k z, z + k = n → fFl_number_4 d 57 (nI f) (nI n) (nI (yNv V z)) (nI z) s = rI (nI (yNv V n)) s := by
    intro k
    induction k with
    | zero =>
      intro z hz
      refine eFl_number_4 d _ _ _ _ _ _ _ ?_
      rw [if_pos (show nI n ≤ nI z by rw [nI_leE (by omega) (by omega)]; omega), show z = n by omega]
      rfl
    | succ k ih =>
      intro z hz
      obtain ⟨h1, h2⟩ := hV z (by omega)
      refine eFl_number_4 d _ _ _ _ _ _ _ ?_
      rw [if_neg (show ¬ nI n ≤ nI z by rw [nI_leE (by omega) (by omega)]; omega), nI_addE, ldI_n (by omega) (by omega), h1, mI_and h2, nI_sh8 h2, nI_add1]
      exact ih (z + 1) (by omega)
  exact eFl_number d _ _ _ _ _ (loop n 0 (by omega))
theorem yNv_e {V W : Nat → Nat} : ∀ n, (∀ i, i < n → V i = W i) → yNv V n = yNv W n
  | 0, _ => rfl
  | n + 1, h => by
    show 256 * yNv V n + V n = 256 * yNv W n + W n
    rw [yNv_e n (fun i hi => h i (by omega)), h n (by omega)]
theorem yNv_4 {u : Nat} (hu : u < 4294967296) : yNv (fun i => (yBe 4 u).getD i 0) 4 = u := by
  show 256 * (256 * (256 * (256 * 0 + u / 256 ^ 3 % 256) + u / 256 ^ 2 % 256) + u / 256 ^ 1 % 256) + u / 256 ^ 0 % 256 = u
  omega
theorem yNv_2 {u : Nat} (hu : u < 65536) : yNv (fun i => (yBe 2 u).getD i 0) 2 = u := by
  show 256 * (256 * 0 + u / 256 ^ 1 % 256) + u / 256 ^ 0 % 256 = u
  omega
/-- where things stand in the list's block -/
theorem yEs_at {L : List yFi} : ∀ k j i n, j + n < j + k → i < 6 → (yEs L k j).getD (6 * n + i) 0 = (yEn (L.getD (j + n) yF0)).getD i 0
  | 0, j, i, n, h, _ => by omega
  | k + 1, j, i, n, h, hi => by
    show (yEn (L.getD j yF0) ++ yEs L k (j + 1)).getD _ 0 = _
    cases n with
    | zero =>
      rw [getD_l (by rw [yEn_len]; omega), Nat.mul_zero, Nat.zero_add]
      rfl
    | succ n =>
      rw [getD_r (by rw [yEn_len]; omega), yEn_len, show 6 * (n + 1) + i - 6 = 6 * n + i by omega, yEs_at k (j + 1) i n (by omega) hi, show j + 1 + n = j + (n + 1) by omega]
theorem yLb_t {tn i : Nat} {L : List yFi} (hi : i < 4) : (yLb tn L).getD i 0 = (yBe 4 tn).getD i 0 := by
  unfold yLb
  rw [getD_l (by rw [yBe_len]; exact hi)]
theorem yLb_n {tn : Nat} {L : List yFi} : (yLb tn L).getD 4 0 = L.length % 256 := by
  unfold yLb
  rw [getD_r (by rw [yBe_len]; omega), yBe_len, getD_l (by show 4 - 4 < 1; omega)]
  rfl
theorem yLb_f {tn j i : Nat} {L : List yFi} (hj : j < L.length) (hi : i < 6) : (yLb tn L).getD (5 + 6 * j + i) 0 = (yEn (L.getD j yF0)).getD i 0 := by
  unfold yLb
  rw [getD_r (by rw [yBe_len]; omega), yBe_len, getD_r (by show 1 ≤ _; omega), show 5 + 6 * j + i - 4 - [L.length % 256].length = 6 * j + i by show 5 + 6 * j + i - 4 - 1 = _; omega, getD_l (by rw [yEs_len]; omega), yEs_at L.length 0 i j (by omega) hi, Nat.zero_add]
theorem yLb_a {tn i : Nat} {L : List yFi} (h : L.length ≤ 40) (hi : i < 4) : (yLb tn L).getD (252 + i) 0 = (yBe 4 tn).getD i 0 := by
  unfold yLb
  rw [getD_r (by rw [yBe_len]; omega), yBe_len, getD_r (by show 1 ≤ _; omega), getD_r (by rw [yEs_len]; show _ ≤ 252 + i - 4 - 1; omega), yEs_len, getD_r (by rw [List.length_replicate]; show _ ≤ 252 + i - 4 - 1 - _; omega), List.length_replicate, show 252 + i - 4 - [L.length % 256].length - 6 * L.length - (247 - 6 * L.length) = i by show 252 + i - 4 - 1 - _ - _ = i; omega]
/-- what adding a file changes -/
abbrev x58 : Nat → Nat → Prop := fun k i => 59 ≤ k ∧ k ≤ 63 ∨ k = 58 ∧ i = 5
theorem gD_a {L : List yFi} {f : yFi} {i : Nat} (h : i < L.length) : (L ++ [f]).getD i yF0 = L.getD i yF0 := by
  rw [List.getD_eq_getElem?_getD, List.getD_eq_getElem?_getD, List.getElem?_append_left h]
theorem gD_b {L : List yFi} {f : yFi} : (L ++ [f]).getD L.length yF0 = f := by
  rw [List.getD_eq_getElem?_getD, List.getElem?_append_right (Nat.le_refl _), Nat.sub_self]
  rfl
theorem Fl_ad {L : List yFi} (hl : lFi L s) (h40 : L.length < 40) (f : yFi) (d : Nat) : ∃ s', xF x58 s s' ∧ lFi (L ++ [f]) s' ∧ fFl_add d (nI f.1) (nI f.2.1) (nI f.2.2.1) (nI f.2.2.2.1) (zI f.2.2.2.2.1) s = rV s' := by
  have e5 := hl.1
  refine ⟨pI (pI (pI (pI (pI (pI s 59 L.length (nI f.1)) 60 L.length (nI f.2.1)) 61 L.length (nI f.2.2.1)) 62 L.length (nI f.2.2.2.1)) 63 L.length (zI f.2.2.2.2.1)) 58 5 (nI (L.length + 1)), ?_, ?_, ?_⟩
  · exact xF_p (xF_p (xF_p (xF_p (xF_p (xF_p xF_r (.inl (by omega))) (.inl (by omega))) (.inl (by omega))) (.inl (by omega))) (.inl (by omega))) (.inr ⟨rfl, rfl⟩)
  · refine ⟨by rw [gI_pI, if_pos ⟨rfl, rfl⟩, List.length_append]; rfl, fun i hi => ?_⟩
    rw [List.length_append] at hi
    have hi : i < L.length + 1 := hi
    simp only [gI_pI]
    by_cases h : i = L.length
    · subst h
      rw [gD_b]
      simp
    · rw [gD_a (by omega)]
      obtain ⟨a1, a2, a3, a4, a5⟩ := hl.2 i (by omega)
      simp [h, a1, a2, a3, a4, a5]
  · refine eFl_add d _ _ _ _ _ _ _ ?_
    have g5 : ∀ k i v, k ≠ 58 → gI (pI s k i v) 58 5 = nI L.length := fun k i v h => by rw [gI_pI, if_neg (by omega)]; exact e5
    rw [e5, if_pos (show nI L.length < 40 by rw [show (40 : Int32) = nI 40 from rfl, nI_ltE (by omega) (by omega)]; exact h40), stI_n h40 (by omega)]
    simp only [gI_pI, show ¬ (58 = 59) from by omega, show ¬ (58 = 60) from by omega, show ¬ (58 = 61) from by omega, show ¬ (58 = 62) from by omega, show ¬ (58 = 63) from by omega, false_and, if_false, e5]
    rw [stI_n h40 (by omega)]
    simp only [gI_pI, show ¬ (58 = 59) from by omega, show ¬ (58 = 60) from by omega, show ¬ (58 = 61) from by omega, show ¬ (58 = 62) from by omega, show ¬ (58 = 63) from by omega, false_and, if_false, e5]
    rw [stI_n h40 (by omega)]
    simp only [gI_pI, show ¬ (58 = 59) from by omega, show ¬ (58 = 60) from by omega, show ¬ (58 = 61) from by omega, show ¬ (58 = 62) from by omega, show ¬ (58 = 63) from by omega, false_and, if_false, e5]
    rw [stI_n h40 (by omega)]
    simp only [gI_pI, show ¬ (58 = 59) from by omega, show ¬ (58 = 60) from by omega, show ¬ (58 = 61) from by omega, show ¬ (58 = 62) from by omega, show ¬ (58 = 63) from by omega, false_and, if_false, e5]
    rw [stI_n h40 (by omega), wI_eq]
    simp only [gI_pI, show ¬ (58 = 59) from by omega, show ¬ (58 = 60) from by omega, show ¬ (58 = 61) from by omega, show ¬ (58 = 62) from by omega, show ¬ (58 = 63) from by omega, false_and, if_false, e5]
    rw [nI_add1]
    rfl
/-- what the disk holds of lists: list tn, and an older one or none -/
def lDl (tn : Nat) (L : List yFi) (s : aT) : Prop := ∃ V : Nat → Nat, (∀ i, i < 32768 → gI s 57 i = mI (V i) ∧ V i < 256) ∧ (0 < tn → ∀ i, i < 256 → V (256 * (tn % 2) + i) = (yLb tn L).getD i 0) ∧ (tn = 0 → L = [] ∧ yNv (fun i => V (252 + i)) 4 = 0) ∧ yNv (fun i => V (256 * ((tn + 1) % 2) + 252 + i)) 4 ≤ tn - 1
theorem nI_ti {k : Nat} (h : k < 2147483648) : (nI k).toInt = (k : Int) := Int32.toInt_ofNat_of_lt (by omega)
theorem Fl_tu {V : Nat → Nat} {b : Nat} (hb : b < 2) (hV : ∀ i, i < 512 → gI s 57 i = mI (V i) ∧ V i < 256) (d : Nat) : fFl_turnOf (d + 1) (nI b) s = rI (if ¬ nI (yNv (fun i => V (256 * b + i)) 4) = nI (yNv (fun i => V (256 * b + 252 + i)) 4) then -1 else nI (yNv (fun i => V (256 * b + i)) 4)) s := by
  have h1 := Fl_nu (s := s) (f := b * 256) (n := 4) (V := fun i => V (256 * b + i)) (by omega) (by omega) (fun i hi => by rw [show b * 256 + i = 256 * b + i by omega]; exact hV _ (by omega)) d
  have h2 := Fl_nu (s := s) (f := b * 256 + 252) (n := 4) (V := fun i => V (256 * b + 252 + i)) (by omega) (by omega) (fun i hi => by rw [show b * 256 + 252 + i = 256 * b + 252 + i by omega]; exact hV _ (by omega)) d
  refine eFl_turnOf d _ _ _ ?_
  rw [show (256 : Int32) = nI 256 from rfl, show (252 : Int32) = nI 252 from rfl, show (4 : Int32) = nI 4 from rfl, nI_mulE, nI_addE, h1, cG_I, h2, cG_I]
  by_cases h : ¬ nI (yNv (fun i => V (256 * b + i)) 4) = nI (yNv (fun i => V (256 * b + 252 + i)) 4)
  · rw [if_pos h, if_pos h]
    rfl
  · rw [if_neg h, if_neg h]
    rfl
/-- the rows of the list -/
theorem Fl_rl {L : List yFi} (hs : yLs L) {tn p : Nat} (hp : p < 2) {V : Nat → Nat} (hV : ∀ i, i < 512 → gI s 57 i = mI (V i) ∧ V i < 256) (hL : ∀ i, i < 256 → V (256 * p + i) = (yLb tn L).getD i 0) (d : Nat) : ∀ k j s1, j + k = L.length → xF x58 s s1 → lFi (L.take j) s1 → ∃ s', xF x58 s s' ∧ lFi L s' ∧ fFl_readFiles_9 (d + 1) 57 (nI (256 * p)) (nI L.length) (nI j) s1 = rV s' := by
  have h40 := hs.1
  intro k
  induction k with
  | zero =>
    intro j s1 hj hx hl
    refine ⟨s1, hx, ?_, eFl_readFiles_9 d _ _ _ _ _ _ ?_⟩
    · rw [show j = L.length by omega, List.take_length] at hl
      exact hl
    · rw [if_pos (show nI L.length ≤ nI j by rw [nI_leE (by omega) (by omega)]; omega)]
      rfl
  | succ k ih =>
    intro j s1 hj hx hl
    have hj2 : j < L.length := by omega
    obtain ⟨b1, b2, b3, b4, b5⟩ := hs.2 j hj2
    have hbk := yBk_1 (L.getD j yF0).2.2.2.1
    have g57 : ∀ i, gI s1 57 i = gI s 57 i := fun i => hx.1 57 i (by show ¬ (59 ≤ 57 ∧ 57 ≤ 63 ∨ 57 = 58 ∧ i = 5); omega)
    have num : ∀ o n, n ≤ 4 → o + n ≤ 6 → fFl_number d 57 (nI (256 * p + 5 + j * 6 + o)) (nI n) s1 = rI (nI (yNv (fun i => (yEn (L.getD j yF0)).getD (o + i) 0) n)) s1 := by
      intro o n hn ho
      refine Fl_nu hn (by omega) (fun i hi => ?_) d
      have := hV (256 * p + 5 + j * 6 + o + i) (by omega)
      have e := hL (5 + 6 * j + (o + i)) (by omega)
      rw [yLb_f hj2 (by omega)] at e
      rw [show 256 * p + (5 + 6 * j + (o + i)) = 256 * p + 5 + j * 6 + o + i by omega] at e
      rw [e] at this
      rw [g57]
      exact this
    have n0 : yNv (fun i => (yEn (L.getD j yF0)).getD (0 + i) 0) 1 = (L.getD j yF0).1 * 16 + (L.getD j yF0).2.1 := by
      show 256 * 0 + ((L.getD j yF0).1 * 16 + (L.getD j yF0).2.1) % 256 = _
      omega
    have n1 : yNv (fun i => (yEn (L.getD j yF0)).getD (1 + i) 0) 1 = (L.getD j yF0).2.2.1 := by
      show 256 * 0 + (L.getD j yF0).2.2.1 % 256 = _
      omega
    have n2 : yNv (fun i => (yEn (L.getD j yF0)).getD (2 + i) 0) 2 = (L.getD j yF0).2.2.2.1 := by
      show 256 * (256 * 0 + (L.getD j yF0).2.2.2.1 / 256 ^ 1 % 256) + (L.getD j yF0).2.2.2.1 / 256 ^ 0 % 256 = _
      omega
    have n4 : yNv (fun i => (yEn (L.getD j yF0)).getD (4 + i) 0) 2 = (L.getD j yF0).2.2.2.2.1 - 1 := by
      show 256 * (256 * 0 + ((L.getD j yF0).2.2.2.2.1 - 1) / 256 ^ 1 % 256) + ((L.getD j yF0).2.2.2.2.1 - 1) / 256 ^ 0 % 256 = _
      omega
    have hlt : (L.take j).length = j := by rw [List.length_take]; omega
    obtain ⟨s2, p1, p2, p3⟩ := Fl_ad hl (by omega) (L.getD j yF0) d
    have etk : L.take j ++ [L.getD j yF0] = L.take (j + 1) := by
      rw [List.take_succ, List.getD_eq_getElem?_getD, List.getElem?_eq_getElem hj2]
      rfl
    rw [etk] at p2
    obtain ⟨s3, r1, r2, r3⟩ := ih (j + 1) s2 (by omega) (xF_t hx p1) p2
    refine ⟨s3, r1, r2, eFl_readFiles_9 d _ _ _ _ _ _ ?_⟩
    have c0 := num 0 1 (by omega) (by omega)
    have c4 := num 4 2 (by omega) (by omega)
    have c1 := num 1 1 (by omega) (by omega)
    have c2 := num 2 2 (by omega) (by omega)
    rw [Nat.add_zero, n0] at c0
    rw [n4] at c4
    rw [n1] at c1
    rw [n2] at c2
    have ediv : nI ((L.getD j yF0).1 * 16 + (L.getD j yF0).2.1) / nI 16 = nI (L.getD j yF0).1 := by
      rw [nI_divE (by omega) (by omega)]
      congr 1
      omega
    have emod : nI ((L.getD j yF0).1 * 16 + (L.getD j yF0).2.1) - nI (L.getD j yF0).1 * nI 16 = nI (L.getD j yF0).2.1 := by
      rw [nI_mulE, nI_sub (by omega)]
      congr 1
      omega
    have go : ∀ r, fFl_readFiles_59 (d + 1) 57 (nI (256 * p)) (nI L.length) (nI j) (zI (L.getD j yF0).2.2.2.2.1) (nI (L.getD j yF0).2.2.2.1) (nI (L.getD j yF0).2.2.1) (nI (L.getD j yF0).2.1) (nI (L.getD j yF0).1) s1 = some r → (if nI L.length ≤ nI j then rV s1 else if 40 ≤ nI j then rV s1 else cG (fFl_number d 57 ((nI (256 * p) + 5) + (nI j * 6)) 1 s1) (kI fun v2 s1 => cG (fFl_number d 57 (((nI (256 * p) + 5) + (nI j * 6)) + 4) 2 s1) (kI fun v4 s3 => cG (fFl_number d 57 (((nI (256 * p) + 5) + (nI j * 6)) + 1) 1 s3) (kI fun v6 s5 => cG (fFl_number d 57 (((nI (256 * p) + 5) + (nI j * 6)) + 2) 2 s5) (kI fun v8 s7 => if ¬ v4 = 0 then fFl_readFiles_59 (d + 1) 57 (nI (256 * p)) (nI L.length) (nI j) v4 v8 v6 (v2 - v2 / 16 * 16) (v2 / 16) s7 else fFl_readFiles_59 (d + 1) 57 (nI (256 * p)) (nI L.length) (nI j) (-1) v8 v6 (v2 - v2 / 16 * 16) (v2 / 16) s7))))) = some r := by
      intro r hr
      rw [if_neg (show ¬ nI L.length ≤ nI j by rw [nI_leE (by omega) (by omega)]; omega), if_neg (show ¬ (40 : Int32) ≤ nI j by rw [show (40 : Int32) = nI 40 from rfl, nI_leE (by omega) (by omega)]; omega), show (5 : Int32) = nI 5 from rfl, show (6 : Int32) = nI 6 from rfl, nI_mulE, nI_addE, nI_addE, show (4 : Int32) = nI 4 from rfl, show (1 : Int32) = nI 1 from rfl, show (2 : Int32) = nI 2 from rfl, nI_addE, nI_addE, nI_addE, c0, cG_I, c4, cG_I, c1, cG_I, c2, cG_I, show (16 : Int32) = nI 16 from rfl, ediv, emod]
      by_cases h : (L.getD j yF0).2.2.2.2.1 = 0
      · rw [if_neg (fun e => e (by rw [h]; rfl))]
        rw [h] at hr
        exact hr
      · rw [if_pos (show ¬ nI ((L.getD j yF0).2.2.2.2.1 - 1) = 0 by rw [show (0 : Int32) = nI 0 from rfl, nI_eqE (by omega) (by omega)]; omega)]
        rw [zI_pos (Nat.pos_of_ne_zero h)] at hr
        exact hr
    refine go _ ?_
    refine eFl_readFiles_59 d _ _ _ _ _ _ _ _ _ _ _ ?_
    rw [p3, cG_V, nI_add1, r3]
    rfl
/-- what reading the list changes -/
abbrev x5 : Nat → Nat → Prop := fun k i => 59 ≤ k ∧ k ≤ 63 ∨ k = 58 ∧ (i = 5 ∨ i = 6)
theorem Fl_rf {L : List yFi} {tn : Nat} (hs : yLs L) (htn : tn < 1000000) (hd : lDl tn L s) (d : Nat) : ∃ s', xF x5 s s' ∧ lFi L s' ∧ gI s' 58 6 = nI tn ∧ fFl_readFrom (d + 7) s = rV s' := by
  obtain ⟨V, hV0, h1, h2, h3⟩ := hd
  have hV : ∀ i, i < 512 → gI s 57 i = mI (V i) ∧ V i < 256 := fun i hi => hV0 i (by omega)
  have h40 := hs.1
  have t0 := Fl_tu (s := s) (b := 0) (by omega) hV (d + 5)
  have t1 := Fl_tu (s := s) (b := 1) (by omega) hV (d + 5)
  have old : ∀ b, yNv (fun i => V (256 * b + 252 + i)) 4 ≤ tn - 1 → ∃ a, a ≤ tn - 1 ∧ ((if ¬ nI (yNv (fun i => V (256 * b + i)) 4) = nI (yNv (fun i => V (256 * b + 252 + i)) 4) then -1 else nI (yNv (fun i => V (256 * b + i)) 4)) = nI a ∨ (if ¬ nI (yNv (fun i => V (256 * b + i)) 4) = nI (yNv (fun i => V (256 * b + 252 + i)) 4) then -1 else nI (yNv (fun i => V (256 * b + i)) 4)) = -1) := by
    intro b hb
    refine ⟨_, hb, ?_⟩
    by_cases h : ¬ nI (yNv (fun i => V (256 * b + i)) 4) = nI (yNv (fun i => V (256 * b + 252 + i)) 4)
    · rw [if_pos h]; exact .inr rfl
    · rw [if_neg h]
      exact .inl (Classical.not_not.mp h)
  have new : 0 < tn → (if ¬ nI (yNv (fun i => V (256 * (tn % 2) + i)) 4) = nI (yNv (fun i => V (256 * (tn % 2) + 252 + i)) 4) then -1 else nI (yNv (fun i => V (256 * (tn % 2) + i)) 4)) = nI tn := by
    intro h0
    have e1 : yNv (fun i => V (256 * (tn % 2) + i)) 4 = tn := by
      rw [yNv_e (W := fun i => (yBe 4 tn).getD i 0) 4 (fun i hi => by rw [h1 h0 i (by omega), yLb_t hi]), yNv_4 (by omega)]
    have e2 : yNv (fun i => V (256 * (tn % 2) + 252 + i)) 4 = tn := by
      rw [yNv_e (W := fun i => (yBe 4 tn).getD i 0) 4 (fun i hi => by rw [show 256 * (tn % 2) + 252 + i = 256 * (tn % 2) + (252 + i) by omega, h1 h0 _ (by omega), yLb_a h40 hi]), yNv_4 (by omega)]
    rw [e1, e2, if_neg (fun h => h rfl)]
  have mx : ∀ x : Int32, ∀ a, a ≤ tn → (x = nI a ∨ x = -1) → (if nI tn < x then x else nI tn) = nI tn ∧ (if x < nI tn then nI tn else x) = nI tn := by
    intro x a ha hx
    rcases hx with rfl | rfl
    · simp (disch := omega) only [nI_ltE]
      refine ⟨by rw [if_neg (by omega)], ?_⟩
      by_cases h : a < tn
      · rw [if_pos h]
      · rw [if_neg h, show a = tn by omega]
    · have hneg : (-1 : Int32).toInt < (nI tn).toInt := by
        rw [nI_ti (by omega), show (-1 : Int32).toInt = -1 from rfl]
        omega
      refine ⟨if_neg (fun h => ?_), if_pos (Int32.lt_iff_toInt_lt.mpr hneg)⟩
      have := Int32.lt_iff_toInt_lt.mp h
      omega
  generalize hT0 : (if ¬ nI (yNv (fun i => V (256 * 0 + i)) 4) = nI (yNv (fun i => V (256 * 0 + 252 + i)) 4) then (-1 : Int32) else nI (yNv (fun i => V (256 * 0 + i)) 4)) = T0 at t0
  generalize hT1 : (if ¬ nI (yNv (fun i => V (256 * 1 + i)) 4) = nI (yNv (fun i => V (256 * 1 + 252 + i)) 4) then (-1 : Int32) else nI (yNv (fun i => V (256 * 1 + i)) 4)) = T1 at t1
  have hM : (if (0 : Int32) < (if T0 < T1 then T1 else T0) then (if T0 < T1 then T1 else T0) else 0) = nI tn := by
    by_cases h0 : tn = 0
    · obtain ⟨a0, b0, c0⟩ := old 0 (by
        have := (h2 h0).2
        have e : (fun i => V (256 * 0 + 252 + i)) = (fun i => V (252 + i)) := rfl
        rw [e]
        omega)
      obtain ⟨a1, b1, c1⟩ := old 1 (by rw [h0] at h3 ⊢; exact h3)
      rw [hT0] at c0
      rw [hT1] at c1
      rw [show a0 = 0 by omega] at c0
      rw [show a1 = 0 by omega] at c1
      rw [h0]
      rcases c0 with c0 | c0 <;> rcases c1 with c1 | c1 <;> rw [c0, c1] <;> decide
    · have hp : (if (0 : Int32) < nI tn then nI tn else 0) = nI tn := if_pos (by rw [show (0 : Int32) = nI 0 from rfl, nI_ltE (by omega) (by omega)]; omega)
      rcases (show tn % 2 = 0 ∨ tn % 2 = 1 by omega) with h | h
      · have hn := new (by omega)
        rw [h, hT0] at hn
        rw [show (tn + 1) % 2 = 1 by omega] at h3
        obtain ⟨a1, b1, c1⟩ := old 1 h3
        rw [hT1] at c1
        rw [hn, (mx T1 a1 (by omega) c1).1, hp]
      · have hn := new (by omega)
        rw [h, hT1] at hn
        rw [show (tn + 1) % 2 = 0 by omega] at h3
        obtain ⟨a1, b1, c1⟩ := old 0 h3
        rw [hT0] at c1
        rw [hn, (mx T0 a1 (by omega) c1).2, hp]
  have hx1 : xF x5 s (pI (pI s 58 6 (nI tn)) 58 5 0) := xF_p (xF_p xF_r (.inr ⟨rfl, .inr rfl⟩)) (.inr ⟨rfl, .inl rfl⟩)
  have g6 : gI (pI (pI s 58 6 (nI tn)) 58 5 0) 58 6 = nI tn := by rw [gI_pI, if_neg (by omega), gI_pI, if_pos ⟨rfl, rfl⟩]
  have hl0 : lFi [] (pI (pI s 58 6 (nI tn)) 58 5 0) := ⟨by rw [gI_pI, if_pos ⟨rfl, rfl⟩]; rfl, fun i hi => absurd hi (Nat.not_lt_zero _)⟩
  have go : ∀ r, (if nI tn ≤ 0 then rV (pI (pI s 58 6 (nI tn)) 58 5 0) else cG (fFl_readFiles (d + 6) 57 (nI (256 * (tn % 2))) (pI (pI s 58 6 (nI tn)) 58 5 0)) (kV fun s9 => rV s9)) = some r → fFl_readFrom (d + 7) s = some r := by
    intro r hr
    refine eFl_readFrom (d + 1) _ _ ?_
    have emod : (nI tn - nI tn / 2 * 2) * 256 = nI (256 * (tn % 2)) := by
      rw [show (2 : Int32) = nI 2 from rfl, nI_divE (by omega) (by omega), nI_mulE, nI_sub (by omega), show (256 : Int32) = nI 256 from rfl, nI_mulE]
      congr 1
      omega
    rw [show (d + 1 + 5) = d + 5 + 1 from rfl, show (0 : Int32) = nI 0 from rfl, t0, cG_I, show (1 : Int32) = nI 1 from rfl, t1, cG_I, cP_911, cP_911]
    rw [show nI 0 = (0 : Int32) from rfl, hM, wI_eq, wI_eq, g6, emod]
    exact hr
  by_cases h0 : tn = 0
  · refine ⟨pI (pI s 58 6 (nI tn)) 58 5 0, hx1, ?_, g6, go _ ?_⟩
    · rw [(h2 h0).1]; exact hl0
    · rw [h0, if_pos (by decide)]
      rfl
  · have hVx : ∀ i, i < 512 → gI (pI (pI s 58 6 (nI tn)) 58 5 0) 57 i = mI (V i) ∧ V i < 256 := fun i hi => by
      rw [gI_pI, if_neg (by omega), gI_pI, if_neg (by omega)]
      exact hV i hi
    obtain ⟨s', r1, r2, r3⟩ := Fl_rl hs (tn := tn) (p := tn % 2) (by omega) hVx (h1 (by omega)) (d + 5) L.length 0 _ (by omega) xF_r hl0
    refine ⟨s', xF_t hx1 (xF_m (fun k i h => ?_) r1), r2, ?_, go _ ?_⟩
    · rcases h with h | h
      · exact .inl h
      · exact .inr ⟨h.1, .inl h.2⟩
    · rw [r1.1 58 6 (by show ¬ (59 ≤ 58 ∧ 58 ≤ 63 ∨ 58 = 58 ∧ 6 = 5); omega)]
      exact g6
    · rw [if_neg (show ¬ nI tn ≤ 0 by rw [show (0 : Int32) = nI 0 from rfl, nI_leE (by omega) (by omega)]; omega)]
      have hn : fFl_number (d + 5) 57 (nI (256 * (tn % 2) + 4)) (nI 1) (pI (pI s 58 6 (nI tn)) 58 5 0) = rI (nI L.length) (pI (pI s 58 6 (nI tn)) 58 5 0) := by
        have := Fl_nu (s := pI (pI s 58 6 (nI tn)) 58 5 0) (f := 256 * (tn % 2) + 4) (n := 1) (V := fun i => V (256 * (tn % 2) + 4 + i)) (by omega) (by omega) (fun i hi => hVx _ (by omega)) (d + 5)
        have e : yNv (fun i => V (256 * (tn % 2) + 4 + i)) 1 = L.length := by
          show 256 * 0 + V (256 * (tn % 2) + 4 + 0) = L.length
          rw [Nat.add_zero, h1 (by omega) 4 (by omega), yLb_n]
          omega
        rw [e] at this
        exact this
      have hrf : fFl_readFiles (d + 6) 57 (nI (256 * (tn % 2))) (pI (pI s 58 6 (nI tn)) 58 5 0) = rV s' := by
        refine eFl_readFiles (d + 5) _ _ _ _ ?_
        rw [show (4 : Int32) = nI 4 from rfl, nI_addE, show (1 : Int32) = nI 1 from rfl, hn, cG_I]
        exact r3
      rw [hrf, cG_V]
      rfl
end
