/-! compact: PURE -/
/-- two files of rows can be one -/
abbrev yPok (L : List yFi) (n a b : Nat) : Prop := yPf (yVd L n (L.getD a yF0).2.1) = yPf (yVd L n (L.getD b yF0).2.1) ∧ yWa (((L.getD a yF0).2.2.2.2.1 - 1) + ((L.getD b yF0).2.2.2.2.1 - 1)) ((L.getD a yF0).2.2.2.2.2.length + (L.getD b yF0).2.2.2.2.2.length) ≤ 4096
/-- the first such two: as the reference goes -/
def yCm (L : List yFi) (n : Nat) : Nat → Nat → Nat → Option (Nat × Nat)
  | 0, _, _ => none
  | j + 1, f, l => if yIs (L.getD f yF0) n then (if l ≠ 0 ∧ yPok L n (l - 1) f then some (l - 1, f) else yCm L n j (f + 1) (f + 1)) else yCm L n j (f + 1) l
/-- .. and as the lake goes -/
def yCk (L : List yFi) (n : Nat) : Nat → Nat → Option (Nat × Nat)
  | 0, _ => none
  | j + 1, k => if yIs (L.getD k yF0) n ∧ yNx L n (k + 1) ≠ 0 ∧ yPok L n k (yNx L n (k + 1) - 1) then some (k, yNx L n (k + 1) - 1) else yCk L n j (k + 1)
/-- how many bytes the new file has -/
def yJw (L : List yFi) (a b : Nat) : Nat := yWa (((L.getD a yF0).2.2.2.2.1 - 1) + ((L.getD b yF0).2.2.2.2.1 - 1)) ((L.getD a yF0).2.2.2.2.2.length + (L.getD b yF0).2.2.2.2.2.length)
/-- the new file -/
def yJf (L : List yFi) (a b : Nat) : yFi := ((L.getD a yF0).1, (L.getD a yF0).2.1, yRm L (yBk (yJw L a b)) - 1, yJw L a b, ((L.getD a yF0).2.2.2.2.1 - 1) + ((L.getD b yF0).2.2.2.2.1 - 1) + 1, (L.getD a yF0).2.2.2.2.2 ++ (L.getD b yF0).2.2.2.2.2)
def yJn (S : yS) (a b : Nat) : Nat × yS := if yRm S.fs (yBk (yJw S.fs a b)) = 0 then (31, S) else if S.pw ≠ 0 ∧ S.pw ≤ yBk (yJw S.fs a b) + 1 then (32, (S.spw 0).sdn true) else (0, (S.spw (S.pw - (yBk (yJw S.fs a b) + 1))).sfs ((S.fs.set a (yJf S.fs a b)).eraseIdx b))
def yJr (S : yS) (p : Option (Nat × Nat)) : Nat × Int32 × yS := match p with
  | none => (0, 0, S)
  | some p => (0, if (yJn S p.1 p.2).1 = 0 then 1 else nEg (yJn S p.1 p.2).1, (yJn S p.1 p.2).2)
def y_compact (x : Int32) (S : yS) : Nat × Int32 × yS := if yNo x 3 then (1, 0, S) else if S.dn = true then (0, -33, S) else yJr S (yCk S.fs x.toInt.toNat S.fs.length 0)
section
variable {L : List yFi} {n : Nat}
theorem yNx_0 {f : Nat} (h : L.length ≤ f) : yNx L n f = 0 := by
  unfold yNx
  rw [show L.length - f = 0 by omega]
  rfl
theorem yNx_S {f : Nat} (h : f < L.length) : yNx L n f = if yIs (L.getD f yF0) n then f + 1 else yNx L n (f + 1) := by
  unfold yNx
  rw [show L.length - f = L.length - (f + 1) + 1 by omega]
  show (if decide (yIs (L.getD f yF0) n) = true then f + 1 else kFr _ (L.length - (f + 1)) (f + 1)) = _
  by_cases hi : yIs (L.getD f yF0) n
  · rw [if_pos (decide_eq_true hi), if_pos hi]
  · rw [if_neg (fun e => hi (of_decide_eq_true e)), if_neg hi]
theorem yCm_ck : ∀ j f l, f + j = L.length → yCm L n j f l = if l ≠ 0 ∧ yNx L n f ≠ 0 ∧ yPok L n (l - 1) (yNx L n f - 1) then some (l - 1, yNx L n f - 1) else yCk L n j f
  | 0, f, l, h => by
    rw [yNx_0 (by omega), if_neg (fun e => e.2.1 rfl)]
    rfl
  | j + 1, f, l, h => by
    have ih := yCm_ck j (f + 1)
    rw [yNx_S (by omega)]
    have ec : yCk L n (j + 1) f = if yIs (L.getD f yF0) n ∧ yNx L n (f + 1) ≠ 0 ∧ yPok L n f (yNx L n (f + 1) - 1) then some (f, yNx L n (f + 1) - 1) else yCk L n j (f + 1) := rfl
    have em : yCm L n (j + 1) f l = if yIs (L.getD f yF0) n then (if l ≠ 0 ∧ yPok L n (l - 1) f then some (l - 1, f) else yCm L n j (f + 1) (f + 1)) else yCm L n j (f + 1) l := rfl
    rw [ec, em]
    by_cases hi : yIs (L.getD f yF0) n
    · rw [if_pos hi, if_pos hi, Nat.add_sub_cancel]
      by_cases hl : l ≠ 0 ∧ yPok L n (l - 1) f
      · rw [if_pos hl, if_pos ⟨hl.1, by omega, hl.2⟩]
      · rw [if_neg hl, if_neg (fun e => hl ⟨e.1, e.2.2⟩), ih (f + 1) (by omega), Nat.add_sub_cancel]
        by_cases hp : yNx L n (f + 1) ≠ 0 ∧ yPok L n f (yNx L n (f + 1) - 1)
        · rw [if_pos ⟨by omega, hp⟩, if_pos ⟨hi, hp⟩]
        · rw [if_neg (fun e => hp e.2), if_neg (fun e => hp e.2)]
    · rw [if_neg hi, if_neg hi, if_neg (show ¬ (yIs (L.getD f yF0) n ∧ yNx L n (f + 1) ≠ 0 ∧ yPok L n f (yNx L n (f + 1) - 1)) from fun e => hi e.1)]
      exact ih l (by omega)
theorem yCk_ok : ∀ j k a b, k + j = L.length → yCk L n j k = some (a, b) → a < b ∧ b < L.length ∧ yIs (L.getD a yF0) n ∧ yIs (L.getD b yF0) n ∧ yPok L n a b
  | 0, _, _, _, _, h => by cases h
  | j + 1, k, a, b, hk, h => by
    have ec : yCk L n (j + 1) k = if yIs (L.getD k yF0) n ∧ yNx L n (k + 1) ≠ 0 ∧ yPok L n k (yNx L n (k + 1) - 1) then some (k, yNx L n (k + 1) - 1) else yCk L n j (k + 1) := rfl
    rw [ec] at h
    by_cases c : yIs (L.getD k yF0) n ∧ yNx L n (k + 1) ≠ 0 ∧ yPok L n k (yNx L n (k + 1) - 1)
    · rw [if_pos c] at h
      cases h
      have h1 := kFr_1 _ _ c.2.1
      have h3 : yIs (L.getD (yNx L n (k + 1) - 1) yF0) n := of_decide_eq_true h1.2.2
      have h4 : k + 1 < yNx L n (k + 1) := h1.1
      have h5 : yNx L n (k + 1) ≤ k + 1 + (L.length - (k + 1)) := h1.2.1
      exact ⟨by omega, by omega, c.1, h3, c.2.2⟩
    · rw [if_neg c] at h
      exact yCk_ok j (k + 1) a b (by omega) h
theorem gD_set {a i : Nat} {f : yFi} (ha : a < L.length) : (L.set a f).getD i yF0 = if i = a then f else L.getD i yF0 := by
  rw [List.getD_eq_getElem?_getD, List.getElem?_set]
  by_cases e : i = a
  · rw [if_pos e.symm, if_pos ha, if_pos e]
    rfl
  · rw [if_neg (fun x => e x.symm), if_neg e, List.getD_eq_getElem?_getD]
theorem gD_sl {a : Nat} {f : yFi} : (L.set a f).length = L.length := List.length_set
variable {a : Nat} {f : yFi} {s : aT}
theorem yAg_set (ha : a < L.length) (h0 : (L.getD a yF0).2.2.2.2.1 ≠ 0) (f0 : f.2.2.2.2.1 ≠ 0) : ∀ m, yB0 (L.set a f) m = yB0 L m ∧ yP0 (L.set a f) m = yP0 L m ∧ yQ0 (L.set a f) m = yQ0 L m ∧ ∀ x, yVc (L.set a f) x m = yVc L x m
  | 0 => ⟨rfl, rfl, rfl, fun _ => rfl⟩
  | m + 1 => by
    obtain ⟨i1, i2, i3, i4⟩ := yAg_set ha h0 f0 m
    unfold yB0 yP0 yQ0 yVc
    rw [gD_set ha, i1, i2, i3]
    by_cases e : m = a
    · subst e
      rw [if_pos rfl, if_neg f0, if_neg h0, if_neg f0, if_neg h0, if_neg f0, if_neg h0]
      refine ⟨rfl, rfl, rfl, fun x => ?_⟩
      rw [i4 x, if_neg (fun h => f0 h.2), if_neg (fun h => h0 h.2)]
    · rw [if_neg e]
      exact ⟨rfl, rfl, rfl, fun x => by rw [i4 x]⟩
theorem yRow_j (hL : yLw L) {i : Nat} (hi : i < L.length) (h : yIs (L.getD i yF0) n) : ∃ j, j < i ∧ yIv (L.getD j yF0) n ∧ (L.getD j yF0).2.1 = (L.getD i yF0).2.1 ∧ yVd L n (L.getD i yF0).2.1 = (L.getD j yF0).2.2.2.2.2 := by
  obtain ⟨h1, h2, j, j1, j2, j3, j4⟩ := hL.2.2.2 i hi h.2
  rw [h.1] at j2
  have hjl : j < L.length := by omega
  have hv := (hL.2.2.1 j hjl j2.2).2.2
  rw [j2.1] at hv
  obtain ⟨r1, _⟩ := yRow hL hi h
  obtain ⟨a1, a2, a3⟩ := (yVf_iff hL).2 r1
  have hv2 := (hL.2.2.1 _ a1 a2.2).2.2
  rw [a2.1] at hv2
  have ej : yVf L n (L.getD i yF0).2.1 - 1 = j := yVc_un a2 j2 (by rw [← hv2, ← hv, a3, j3])
  refine ⟨j, j1, j2, j3, ?_⟩
  show (L.getD (yVf L n (L.getD i yF0).2.1 - 1) yF0).2.2.2.2.2 = _
  rw [ej]
theorem yLw_set (hL : yLw L) (ha : a < L.length) (h0 : yIs (L.getD a yF0) n) (f0 : f.2.2.2.2.1 ≠ 0) (fx : f.1 = (L.getD a yF0).1) (fv : f.2.1 = (L.getD a yF0).2.1) (hf : yOk f) (haw : ∀ i, i < L.length → yAw (L.getD i yF0) f.2.2.1 (yBk f.2.2.2.1)) (hb : kBt f.2.2.2.2.2) (hwa : f.2.2.2.1 = yWa (f.2.2.2.2.1 - 1) f.2.2.2.2.2.length) (hr : yRw f.2.2.2.2.2 (yQ (yVd L n f.2.1)) (yX (yVd L n f.2.1)) (f.2.2.2.2.1 - 1)) : yLw (L.set a f) := by
  have hl := gD_sl (L := L) (a := a) (f := f)
  refine ⟨⟨by rw [hl]; exact hL.1.1, fun i hi => ?_⟩, fun i j hi hj hij => ?_, fun i hi hz => ?_, fun i hi hz => ?_⟩
  · rw [gD_set ha]
    split
    · exact hf
    · exact hL.1.2 i (by omega)
  · rw [gD_set ha, gD_set ha]
    by_cases e : i = a
    · rw [if_pos e, if_neg (by omega)]
      have := haw j (by omega)
      unfold yAw at this ⊢
      omega
    · rw [if_neg e]
      by_cases e2 : j = a
      · rw [if_pos e2]
        exact haw i (by omega)
      · rw [if_neg e2]
        exact hL.2.1 i j (by omega) (by omega) hij
  · rw [gD_set ha] at hz ⊢
    by_cases e : i = a
    · rw [if_pos e] at hz
      exact absurd hz f0
    · rw [if_neg e] at hz ⊢
      obtain ⟨b1, b2, b3⟩ := hL.2.2.1 i (by omega) hz
      exact ⟨b1, b2, by rw [(yAg_set ha h0.2 f0 i).2.2.2]; exact b3⟩
  · rw [gD_set ha] at hz ⊢
    by_cases e : i = a
    · rw [if_pos e] at hz ⊢
      obtain ⟨j, j1, j2, j3, j4⟩ := yRow_j hL ha h0
      refine ⟨hb, hwa, j, by omega, ?_⟩
      rw [gD_set ha, if_neg (by omega)]
      rw [fv, j4] at hr
      exact ⟨by rw [fx, h0.1]; exact j2, by rw [fv]; exact j3, hr⟩
    · rw [if_neg e] at hz ⊢
      obtain ⟨b1, b2, j, j1, j2, j3⟩ := hL.2.2.2 i (by omega) hz
      have hja : j ≠ a := fun e => h0.2 (by rw [← e]; exact j2.2)
      refine ⟨b1, b2, j, j1, ?_⟩
      rw [gD_set ha, if_neg hja]
      exact ⟨j2, j3⟩
theorem lSc_set (h : lSc L s) (ha : a < L.length) (h0 : (L.getD a yF0).2.2.2.2.1 ≠ 0) (f0 : f.2.2.2.2.1 ≠ 0) : lSc (L.set a f) s := by
  have hl := gD_sl (L := L) (a := a) (f := f)
  obtain ⟨b1, b2, b3, b4⟩ := yAg_set ha h0 f0 L.length
  obtain ⟨h1, h2, h3, h4⟩ := h
  refine ⟨by rw [hl, b1, b2, b3]; exact h1, h2, fun x hx => by rw [hl, b4]; exact h3 x hx, fun i hi hz => ?_⟩
  obtain ⟨c1, c2, c3, _⟩ := yAg_set ha h0 f0 i
  rw [gD_set ha] at hz ⊢
  by_cases e : i = a
  · rw [if_pos e] at hz
    exact absurd hz f0
  · rw [if_neg e] at hz ⊢
    rw [c1, c2, c3]
    exact h4 i (by omega) hz
theorem lDf_set (h : lDf L s) (ha : a < L.length) (hf : ∀ j, j < (yPk f).length → gI s 57 (256 * f.2.2.1 + j) = mI ((yPk f).getD j 0)) : lDf (L.set a f) s := fun i hi j hj => by
  rw [gD_sl] at hi
  rw [gD_set ha] at hj ⊢
  by_cases e : i = a
  · rw [if_pos e] at hj ⊢
    exact hf j hj
  · rw [if_neg e] at hj ⊢
    exact h i hi j hj
theorem mDf_set (h : mDf L s) (ha : a < L.length) (hf : ∀ j, j < f.2.2.2.2.2.length → gI s 143 (256 * f.2.2.1 + j) = mI (f.2.2.2.2.2.getD j 0)) : mDf (L.set a f) s := fun i hi j hj => by
  rw [gD_sl] at hi
  rw [gD_set ha] at hj ⊢
  by_cases e : i = a
  · rw [if_pos e] at hj ⊢
    exact hf j hj
  · rw [if_neg e] at hj ⊢
    exact h i hi j hj
end
/-- rows of two files, one behind the other -/
theorem yRw_app {C1 C2 : List Nat} {q : kP} {x k1 k2 : Nat} (h1 : yRw C1 q x k1) (h2 : yRw C2 q x k2) : yRw (C1 ++ C2) q x (k1 + k2) := by
  obtain ⟨l1, g1, a1, a2, a3⟩ := h1
  obtain ⟨l2, g2, b1, b2, b3⟩ := h2
  have hl : (C1 ++ C2).length = C1.length + C2.length := List.length_append
  have hg : ∀ i, k1 ≤ i → (if i ≤ k1 then g1 i else C1.length + g2 (i - k1)) = C1.length + g2 (i - k1) := fun i hi => by
    by_cases e : i ≤ k1
    · rw [if_pos e, show i = k1 by omega, a2, Nat.sub_self, b1, Nat.add_zero]
    · rw [if_neg e]
  refine ⟨by omega, fun i => if i ≤ k1 then g1 i else C1.length + g2 (i - k1), by show (if 0 ≤ k1 then g1 0 else _) = 0; rw [if_pos (Nat.zero_le _)]; exact a1, ?_, fun i hi B n off hb hn => ?_⟩
  · show (if k1 + k2 ≤ k1 then _ else _) = _
    rw [hg (k1 + k2) (by omega), Nat.add_sub_cancel_left, b2, hl]
  · show kWq q B n 32 x (off + (if i ≤ k1 then g1 i else C1.length + g2 (i - k1))) (off + (if i + 1 ≤ k1 then g1 (i + 1) else C1.length + g2 (i + 1 - k1)))
    by_cases c : i < k1
    · rw [if_pos (by omega), if_pos (by omega)]
      exact a3 i c B n off (fun j hj => by rw [hb j (by omega), getD_l hj]) (by omega)
    · rw [hg i (by omega), hg (i + 1) (by omega), ← Nat.add_assoc, ← Nat.add_assoc, show i + 1 - k1 = i - k1 + 1 by omega]
      refine b3 (i - k1) (by omega) B n (off + C1.length) (fun j hj => ?_) (by omega)
      rw [Nat.add_assoc, hb (C1.length + j) (by omega), getD_r (by omega), Nat.add_sub_cancel_left]
/-- all of the two that become one -/
theorem yJ_ok {L : List yFi} {n a b : Nat} (hL : yLw L) (hab : a < b) (hbl : b < L.length) (ha : yIs (L.getD a yF0) n) (hb : yIs (L.getD b yF0) n) (hp : yPok L n a b) (hr : yRm L (yBk (yJw L a b)) ≠ 0) : yOk (yJf L a b) ∧ yLw (L.set a (yJf L a b)) := by
  have hal : a < L.length := by omega
  obtain ⟨a1, a2, a3, a4⟩ := yRow hL hal ha
  obtain ⟨b1, b2, b3, b4⟩ := yRow hL hbl hb
  obtain ⟨c1, c2, c3, c4, c5⟩ := hL.1.2 a hal
  obtain ⟨d1, d2, d3, d4, d5⟩ := hL.1.2 b hbl
  have va := (hL.2.2.1 _ ((yVf_iff hL).2 a1).1 ((yVf_iff hL).2 a1).2.1.2).1
  have vb := (hL.2.2.1 _ ((yVf_iff hL).2 b1).1 ((yVf_iff hL).2 b1).2.1.2).1
  have b4' := yRw_pf vb va hp.1.symm b4
  have hrw := yRw_app a4 b4'
  have hle := yRm_le hr
  have hw := hp.2
  have hwl : (L.getD a yF0).2.2.2.2.2.length + (L.getD b yF0).2.2.2.2.2.length ≤ 4096 := by
    unfold yWa at hw
    omega
  have hlen : ((L.getD a yF0).2.2.2.2.2 ++ (L.getD b yF0).2.2.2.2.2).length = (L.getD a yF0).2.2.2.2.2.length + (L.getD b yF0).2.2.2.2.2.length := List.length_append
  have hk := hrw.1
  rw [hlen] at hk
  have ra := ha.2
  have rb := hb.2
  have hok : yOk (yJf L a b) := ⟨c1, ⟨by show 2 ≤ yRm L (yBk (yJw L a b)) - 1; omega, by show yRm L (yBk (yJw L a b)) - 1 + yBk (yJw L a b) ≤ 128; omega⟩, hw, ⟨by show _ + _ + 1 ≤ 4097; omega, by show ¬ _ + _ + 1 = 1; omega⟩, by show ((L.getD a yF0).2.2.2.2.2 ++ (L.getD b yF0).2.2.2.2.2).length ≤ 4096; omega⟩
  refine ⟨hok, yLw_set hL hal ha (by show ¬ _ + 1 = 0; omega) rfl rfl hok (fun i hi => ?_) (kBt_a a2 b2) ?_ hrw⟩
  · exact of_decide_eq_true hle.2.2 i hi
  · show yJw L a b = yWa _ ((L.getD a yF0).2.2.2.2.2 ++ (L.getD b yF0).2.2.2.2.2).length
    rw [hlen]
    rfl
