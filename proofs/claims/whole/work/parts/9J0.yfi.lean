/-! PURE: files, and a place for one -/
/-- subject, version, block, bytes wanted, rows + 1 (0: a version's text), data -/
abbrev yFi : Type := Nat × Nat × Nat × Nat × Nat × List Nat
def yF0 : yFi := (0, 0, 0, 0, 0, [])
/-- how many blocks -/
def yBk (n : Nat) : Nat := if n < 1 then 1 else (n + 255) / 256
theorem yBk_1 (n : Nat) : 1 ≤ yBk n := by unfold yBk; split <;> omega
theorem yBk_16 {n : Nat} (h : n ≤ 4096) : yBk n ≤ 16 := by unfold yBk; split <;> omega
theorem yBk_n (n : Nat) : n ≤ 256 * yBk n := by unfold yBk; split <;> omega
/-- a file does not lie there -/
abbrev yAw (f : yFi) (b n : Nat) : Prop := b + n ≤ f.2.2.1 ∨ f.2.2.1 + yBk f.2.2.2.1 ≤ b
def yFe (L : List yFi) (b n : Nat) : Bool := decide (∀ i, i < L.length → yAw (L.getD i yF0) b n)
/-- the first place for n blocks, + 1; 0: none -/
def yRm (L : List yFi) (n : Nat) : Nat := kFr (fun b => yFe L b n) (127 - n) 2
/-- a block that is used -/
def yUj (L : List yFi) (n b : Nat) : Prop := b < 2 ∨ ∃ i, i < n ∧ (L.getD i yF0).2.2.1 ≤ b ∧ b < (L.getD i yF0).2.2.1 + yBk (L.getD i yF0).2.2.2.1
def yUs (L : List yFi) (b : Nat) : Prop := yUj L L.length b
theorem kFr_first {t : Nat → Bool} : ∀ k i b, i ≤ b → b < i + k → (∀ j, i ≤ j → j < b → t j = false) → t b = true → kFr t k i = b + 1
  | 0, i, b, h1, h2, _, _ => by omega
  | k + 1, i, b, h1, h2, h3, h4 => by
    show (if t i then i + 1 else kFr t k (i + 1)) = b + 1
    by_cases e : i = b
    · subst e
      rw [if_pos h4]
    · rw [if_neg (by rw [h3 i (by omega) (by omega)]; decide)]
      exact kFr_first k (i + 1) b (by omega) (by omega) (fun j a c => h3 j (by omega) c) h4
section
variable {L : List yFi}
theorem yFe_us {b n : Nat} (hb : 2 ≤ b) (hn : 1 ≤ n) : yFe L b n = true ↔ ∀ j, b ≤ j → j < b + n → ¬ yUs L j := by
  unfold yFe
  rw [decide_eq_true_iff]
  constructor
  · intro h j h1 h2 hu
    rcases hu with hu | ⟨i, hi, a1, a2⟩
    · omega
    · have := h i hi
      unfold yAw at this
      omega
  · intro h i hi
    unfold yAw
    have hk := yBk_1 (L.getD i yF0).2.2.2.1
    by_cases h1 : b + n ≤ (L.getD i yF0).2.2.1
    · exact .inl h1
    · by_cases h2 : (L.getD i yF0).2.2.1 + yBk (L.getD i yF0).2.2.2.1 ≤ b
      · exact .inr h2
      · exfalso
        by_cases h3 : b ≤ (L.getD i yF0).2.2.1
        · exact h (L.getD i yF0).2.2.1 h3 (by omega) (.inr ⟨i, hi, by omega, by omega⟩)
        · exact h b (by omega) (by omega) (.inr ⟨i, hi, by omega, by omega⟩)
theorem yRm_le {n : Nat} (h : yRm L n ≠ 0) : 2 < yRm L n ∧ yRm L n - 1 + n ≤ 128 ∧ yFe L (yRm L n - 1) n = true := by
  have := kFr_1 _ _ h
  unfold yRm at h ⊢
  refine ⟨by omega, by omega, this.2.2⟩
/-- there is no place -/
theorem yRm_0 {n : Nat} (hn : 1 ≤ n) (h : ∀ b, b + n ≤ 128 → ∃ j, b ≤ j ∧ j < b + n ∧ yUs L j) : yRm L n = 0 := by
  unfold yRm
  rw [kFr_0]
  intro b h1 h2
  obtain ⟨j, j1, j2, j3⟩ := h b (by omega)
  cases hf : yFe L b n with
  | false => rfl
  | true => exact absurd j3 ((yFe_us h1 hn).mp hf j j1 j2)
theorem yRm_at {n b : Nat} (hn : 1 ≤ n) (hb : 2 ≤ b) (hb2 : b + n ≤ 128) (h0 : ∀ j, b ≤ j → j < b + n → ¬ yUs L j) (h : ∀ b', b' < b → ∃ j, b' ≤ j ∧ j < b' + n ∧ yUs L j) : yRm L n = b + 1 := by
  unfold yRm
  refine kFr_first _ _ b hb (by omega) (fun j h1 h2 => ?_) ((yFe_us hb hn).mpr h0)
  obtain ⟨i, j1, j2, j3⟩ := h j h2
  cases hf : yFe L j n with
  | false => rfl
  | true => exact absurd j3 ((yFe_us h1 hn).mp hf i j1 j2)
end
/-! what does not change -/
def xF (P : Nat → Nat → Prop) (s s' : aT) : Prop := (∀ k i, ¬ P k i → gI s' k i = gI s k i) ∧ s'.2 = s.2
theorem xF_r {P : Nat → Nat → Prop} {s : aT} : xF P s s := ⟨fun _ _ _ => rfl, rfl⟩
theorem xF_t {P : Nat → Nat → Prop} {s s1 s2 : aT} (h1 : xF P s s1) (h2 : xF P s1 s2) : xF P s s2 := ⟨fun k i h => by rw [h2.1 k i h, h1.1 k i h], by rw [h2.2, h1.2]⟩
theorem xF_m {P Q : Nat → Nat → Prop} {s s1 : aT} (hm : ∀ k i, P k i → Q k i) (h : xF P s s1) : xF Q s s1 := ⟨fun k i hk => h.1 k i (fun e => hk (hm k i e)), h.2⟩
theorem xF_p {P : Nat → Nat → Prop} {s s1 : aT} (h : xF P s s1) {k i : Nat} {v : Int32} (hk : P k i) : xF P s (pI s1 k i v) := ⟨fun k' i' h' => by
  rw [gI_pI, if_neg (fun e => h' (by rw [e.1, e.2]; exact hk))]
  exact h.1 k' i' h', h.2⟩
/-! files in the lake and in the reference -/
/-- the lake's list -/
def lFi (L : List yFi) (s : aT) : Prop := gI s 58 5 = nI L.length ∧ ∀ i, i < L.length → gI s 59 i = nI (L.getD i yF0).1 ∧ gI s 60 i = nI (L.getD i yF0).2.1 ∧ gI s 61 i = nI (L.getD i yF0).2.2.1 ∧ gI s 62 i = nI (L.getD i yF0).2.2.2.1 ∧ gI s 63 i = zI (L.getD i yF0).2.2.2.2.1
/-- the reference's list -/
def mFi (L : List yFi) (s : aT) : Prop := gI s 67 13 = nI L.length ∧ ∀ i, i < L.length → gI s 137 i = nI (L.getD i yF0).1 ∧ gI s 138 i = nI (L.getD i yF0).2.1 ∧ gI s 139 i = nI (L.getD i yF0).2.2.1 ∧ gI s 140 i = nI (L.getD i yF0).2.2.2.1 ∧ gI s 141 i = zI (L.getD i yF0).2.2.2.2.1 ∧ gI s 142 i = nI (L.getD i yF0).2.2.2.2.2.length
/-- bounds -/
def yOk (f : yFi) : Prop := (f.1 < 4 ∧ f.2.1 < 16) ∧ (2 ≤ f.2.2.1 ∧ f.2.2.1 + yBk f.2.2.2.1 ≤ 128) ∧ f.2.2.2.1 ≤ 4096 ∧ (f.2.2.2.2.1 ≤ 4097 ∧ f.2.2.2.2.1 ≠ 1) ∧ f.2.2.2.2.2.length ≤ 4096
def yLs (L : List yFi) : Prop := L.length ≤ 40 ∧ ∀ i, i < L.length → yOk (L.getD i yF0)
section
variable {L : List yFi} {s s' : aT}
theorem lFi_fr (h : ∀ k i, 58 ≤ k → k ≤ 63 → gI s' k i = gI s k i) (hl : lFi L s) : lFi L s' := by
  refine ⟨by rw [h 58 _ (by omega) (by omega)]; exact hl.1, fun i hi => ?_⟩
  rw [h 59 _ (by omega) (by omega), h 60 _ (by omega) (by omega), h 61 _ (by omega) (by omega), h 62 _ (by omega) (by omega), h 63 _ (by omega) (by omega)]
  exact hl.2 i hi
theorem mFi_fr (h13 : gI s' 67 13 = gI s 67 13) (h : ∀ k i, 137 ≤ k → k ≤ 142 → gI s' k i = gI s k i) (hl : mFi L s) : mFi L s' := by
  refine ⟨by rw [h13]; exact hl.1, fun i hi => ?_⟩
  rw [h 137 _ (by omega) (by omega), h 138 _ (by omega) (by omega), h 139 _ (by omega) (by omega), h 140 _ (by omega) (by omega), h 141 _ (by omega) (by omega), h 142 _ (by omega) (by omega)]
  exact hl.2 i hi
/-- blocks -/
theorem cP_911 {x y : Int32} {K : Int32 → aRs} : cP 911 [.int x, .int y] K = K (if x < y then y else x) := rfl
theorem cP_910 {x y : Int32} {K : Int32 → aRs} : cP 910 [.int x, .int y] K = K (if y < x then y else x) := rfl
theorem yBk_d {n : Nat} (hn : 1 ≤ n) : yBk n = (n + 255) / 256 := by unfold yBk; rw [if_neg (by omega)]
theorem Di_bk (d : Nat) {n : Nat} (hn : n ≤ 100000) : fDi_blocksOf (d + 6) (nI n) s = rI (nI (yBk n)) s := by
  refine eDi_blocksOf d _ _ _ ?_
  have e : ((nI n + 256) - 1) / 256 = nI ((n + 255) / 256) := by
    rw [show (256 : Int32) = nI 256 from rfl, nI_addE, show (1 : Int32) = nI 1 from rfl, nI_sub (by omega), show n + 256 - 1 = n + 255 by omega, nI_divE (by omega) (by omega)]
  rw [e, cP_911, show (1 : Int32) = nI 1 from rfl]
  simp (disch := omega) only [nI_ltE]
  by_cases h : 1 < (n + 255) / 256
  · rw [if_pos h, yBk_d (by omega)]
    rfl
  · rw [if_neg h, show yBk n = 1 by unfold yBk; split <;> omega]
    rfl
theorem Mo_bk (d : Nat) {n : Nat} (hn : n ≤ 100000) : fMo_blocksOf d (nI n) s = rI (nI (yBk n)) s := by
  refine eMo_blocksOf d _ _ _ ?_
  have e1 : ((1 : Int32) ≤ nI n) = (1 ≤ n) := by rw [show (1 : Int32) = nI 1 from rfl, nI_leE (by omega) (by omega)]
  have e : ((nI n + 256) - 1) / 256 = nI ((n + 255) / 256) := by
    rw [show (256 : Int32) = nI 256 from rfl, nI_addE, show (1 : Int32) = nI 1 from rfl, nI_sub (by omega), show n + 256 - 1 = n + 255 by omega, nI_divE (by omega) (by omega)]
  by_cases h : 1 ≤ n
  · rw [if_pos (by rw [e1]; exact h), e, yBk_d h]
    rfl
  · rw [if_neg (by rw [e1]; exact h), show n = 0 by omega]
    rfl
/-- room, in the reference -/
theorem Mo_r11 (hl : mFi L s) (hs : yLs L) (d : Nat) {n z : Nat} (hn : n ≤ 200) (hz : z ≤ 128) : ∀ k j (w : Bool), j + k = L.length → ∀ r, (if w = true ∧ (∀ i, i < L.length → j ≤ i → yAw (L.getD i yF0) z n) then rI (nI z) s else fMo_room_2 (d + 1) (nI n) (nI (z + 1)) s) = some r → fMo_room_11 (d + 1) (nI n) (nI z) (uF w) (nI j) s = some r := by
  have h40 := hs.1
  intro k
  induction k with
  | zero =>
    intro j w hj r hr
    refine eMo_room_11 d _ _ _ _ _ _ ?_
    rw [hl.1, if_pos (show nI L.length ≤ nI j by rw [nI_leE (by omega) (by omega)]; omega)]
    cases w with
    | true =>
      rw [if_pos ⟨rfl, fun i h1 h2 => by omega⟩] at hr
      rw [if_neg (by decide)]
      exact hr
    | false =>
      rw [if_neg (fun e => by cases e.1)] at hr
      rw [if_pos (by decide), nI_add1]
      exact hr
  | succ k ih =>
    intro j w hj r hr
    have hj2 : j < L.length := by omega
    obtain ⟨a1, a2, a3, a4, a5, a6⟩ := hl.2 j hj2
    obtain ⟨b1, b2, b3, b4, b5⟩ := hs.2 j hj2
    refine eMo_room_11 d _ _ _ _ _ _ ?_
    rw [hl.1, if_neg (show ¬ nI L.length ≤ nI j by rw [nI_leE (by omega) (by omega)]; omega)]
    have g0 : ∀ r, (if false = true ∧ (∀ i, i < L.length → j + 1 ≤ i → yAw (L.getD i yF0) z n) then rI (nI z) s else fMo_room_2 (d + 1) (nI n) (nI (z + 1)) s) = some r → fMo_room_39 (d + 1) (nI n) (nI z) (nI j) s = some r := fun r hr => by
      refine eMo_room_39 d _ _ _ _ _ (eMo_room_40 d _ _ _ _ _ _ ?_)
      rw [nI_add1]
      exact ih (j + 1) false (by omega) r hr
    have g1 : ∀ r, (if true = true ∧ (∀ i, i < L.length → j + 1 ≤ i → yAw (L.getD i yF0) z n) then rI (nI z) s else fMo_room_2 (d + 1) (nI n) (nI (z + 1)) s) = some r → fMo_room_37 (d + 1) (nI n) (nI z) (nI j) s = some r := fun r hr => by
      refine eMo_room_37 d _ _ _ _ _ (eMo_room_40 d _ _ _ _ _ _ ?_)
      rw [nI_add1]
      exact ih (j + 1) true (by omega) r hr
    cases w with
    | false =>
      rw [if_neg (fun e => by cases e.1)] at hr
      rw [if_pos (by decide)]
      exact g0 r (by rw [if_neg (fun e => by cases e.1)]; exact hr)
    | true =>
      rw [if_neg (by decide), ldI_n (by omega) (by omega), a3, nI_addE]
      have hk := yBk_16 b3
      by_cases h1 : z + n ≤ (L.getD j yF0).2.2.1
      · rw [if_pos (by rw [nI_leE (by omega) (by omega)]; exact h1)]
        refine g1 r ?_
        by_cases h : ∀ i, i < L.length → j + 1 ≤ i → yAw (L.getD i yF0) z n
        · rw [if_pos ⟨rfl, fun i i1 i2 => by
            by_cases e : i = j
            · rw [e]; exact .inl h1
            · exact h i i1 (by omega)⟩] at hr
          rw [if_pos ⟨rfl, h⟩]
          exact hr
        · rw [if_neg (fun e => h (fun i i1 i2 => e.2 i i1 (by omega)))] at hr
          rw [if_neg (fun e => h e.2)]
          exact hr
      · rw [if_neg (by rw [nI_leE (by omega) (by omega)]; exact h1), ldI_n (by omega) (by omega), a3, ldI_n (by omega) (by omega), a4, Mo_bk d (by omega), cG_I, nI_addE]
        simp (disch := omega) only [nI_ltE]
        by_cases h2 : z < (L.getD j yF0).2.2.1 + yBk (L.getD j yF0).2.2.2.1
        · rw [if_pos h2]
          refine g0 r ?_
          rw [if_neg (fun e => by cases e.1)]
          rw [if_neg (fun e => by
            have := e.2 j hj2 (Nat.le_refl _)
            unfold yAw at this
            omega)] at hr
          exact hr
        · rw [if_neg h2]
          refine g1 r ?_
          by_cases h : ∀ i, i < L.length → j + 1 ≤ i → yAw (L.getD i yF0) z n
          · rw [if_pos ⟨rfl, fun i i1 i2 => by
              by_cases e : i = j
              · rw [e]; exact .inr (by omega)
              · exact h i i1 (by omega)⟩] at hr
            rw [if_pos ⟨rfl, h⟩]
            exact hr
          · rw [if_neg (fun e => h (fun i i1 i2 => e.2 i i1 (by omega)))] at hr
            rw [if_neg (fun e => h e.2)]
            exact hr
theorem Mo_rm (hl : mFi L s) (hs : yLs L) (d : Nat) {n : Nat} (hn : n ≤ 100) : fMo_room (d + 1) (nI n) s = rI (zI (yRm L n)) s := by
  have loop : ∀ k z, z + k = 129 - n → fMo_room_2 (d + 1) (nI n) (nI z) s = rI (zI (kFr (fun b => yFe L b n) k z)) s := by
    intro k
    induction k with
    | zero =>
      intro z hz
      refine eMo_room_2 d _ _ _ _ ?_
      rw [nI_addE, if_pos (show (128 : Int32) < nI (z + n) by rw [show (128 : Int32) = nI 128 from rfl, nI_ltE (by omega) (by omega)]; omega)]
      rfl
    | succ k ih =>
      intro z hz
      refine eMo_room_2 d _ _ _ _ ?_
      rw [nI_addE, if_neg (show ¬ (128 : Int32) < nI (z + n) by rw [show (128 : Int32) = nI 128 from rfl, nI_ltE (by omega) (by omega)]; omega)]
      refine Mo_r11 hl hs d (by omega) (by omega) L.length 0 true (by omega) _ ?_
      show _ = some _
      by_cases h : ∀ i, i < L.length → yAw (L.getD i yF0) z n
      · rw [if_pos ⟨rfl, fun i i1 _ => h i i1⟩]
        have e : kFr (fun b => yFe L b n) (k + 1) z = z + 1 := by
          show (if yFe L z n then z + 1 else _) = z + 1
          rw [if_pos (show yFe L z n = true from decide_eq_true h)]
        rw [e, zI_S]
        rfl
      · rw [if_neg (fun e => h (fun i i1 => e.2 i i1 (Nat.zero_le _)))]
        have e : kFr (fun b => yFe L b n) (k + 1) z = kFr (fun b => yFe L b n) k (z + 1) := by
          show (if yFe L z n then z + 1 else _) = _
          rw [if_neg (show ¬ yFe L z n = true from fun e => h (of_decide_eq_true e))]
        rw [e]
        exact ih (z + 1) (by omega)
  exact eMo_room d _ _ _ (loop (127 - n) 2 (by omega))
end
/-! room, in the lake -/
section
variable {L : List yFi}
abbrev x66 : Nat → Nat → Prop := fun k _ => k = 66
theorem Fl_r2 (d : Nat) {x : Int32} : ∀ k z s, z + k = 128 → (∀ b, b < z → gI s 66 b = if b < 2 then 1 else 0) → ∃ s', xF x66 s s' ∧ (∀ b, b < 128 → gI s' 66 b = if b < 2 then 1 else 0) ∧ ∀ r, fFl_room_19 (d + 6) x 0 s' = some r → fFl_room_2 (d + 6) x (nI z) s = some r := by
  intro k
  induction k with
  | zero =>
    intro z s hz h
    refine ⟨s, xF_r, fun b hb => h b (by omega), fun r hr => eFl_room_2 d _ _ _ _ ?_⟩
    rw [if_pos (show (128 : Int32) ≤ nI z by rw [show (128 : Int32) = nI 128 from rfl, nI_leE (by omega) (by omega)]; omega)]
    exact hr
  | succ k ih =>
    intro z s hz h
    obtain ⟨s', g1, g2, g3⟩ := ih (z + 1) (pI s 66 z (if z < 2 then 1 else 0)) (by omega) (fun b hb => by
      rw [gI_pI]
      by_cases e : b = z
      · rw [if_pos ⟨rfl, e⟩, e]
      · rw [if_neg (by omega), h b (by omega)])
    refine ⟨s', xF_t (xF_p xF_r rfl) g1, g2, fun r hr => eFl_room_2 d _ _ _ _ ?_⟩
    rw [if_neg (show ¬ (128 : Int32) ≤ nI z by rw [show (128 : Int32) = nI 128 from rfl, nI_leE (by omega) (by omega)]; omega)]
    by_cases h2 : z < 2
    · rw [if_neg (show ¬ (2 : Int32) ≤ nI z by rw [show (2 : Int32) = nI 2 from rfl, nI_leE (by omega) (by omega)]; omega)]
      refine eFl_room_14 d _ _ _ _ _ _ ?_
      rw [if_pos h2] at g3
      rw [stI_n (by omega) (by omega), show vp_nar .boolean 1 = (1 : Int32) from by decide, nI_add1]
      exact g3 r hr
    · rw [if_pos (show (2 : Int32) ≤ nI z by rw [show (2 : Int32) = nI 2 from rfl, nI_leE (by omega) (by omega)]; omega)]
      refine eFl_room_14 d _ _ _ _ _ _ ?_
      rw [if_neg h2] at g3
      rw [stI_n (by omega) (by omega), show vp_nar .boolean 0 = (0 : Int32) from by decide, nI_add1]
      exact g3 r hr
theorem Fl_r41 (d : Nat) {x : Int32} {j e : Nat} (he : e ≤ 128) : ∀ k z s, z + k = e → ∃ s', xF x66 s s' ∧ (∀ b, gI s' 66 b = if z ≤ b ∧ b < e then 1 else gI s 66 b) ∧ ∀ r, fFl_room_19 (d + 6) x (nI (j + 1)) s' = some r → fFl_room_41 (d + 6) x (nI j) (nI e) (nI z) s = some r := by
  intro k
  induction k with
  | zero =>
    intro z s hz
    refine ⟨s, xF_r, fun b => by rw [if_neg (by omega)], fun r hr => eFl_room_41 d _ _ _ _ _ _ ?_⟩
    rw [if_pos (show nI e ≤ nI z by rw [nI_leE (by omega) (by omega)]; omega), nI_add1]
    exact hr
  | succ k ih =>
    intro z s hz
    obtain ⟨s', g1, g2, g3⟩ := ih (z + 1) (pI s 66 z 1) (by omega)
    refine ⟨s', xF_t (xF_p xF_r rfl) g1, fun b => ?_, fun r hr => eFl_room_41 d _ _ _ _ _ _ ?_⟩
    · rw [g2 b, gI_pI]
      by_cases h1 : z + 1 ≤ b ∧ b < e
      · rw [if_pos h1, if_pos (by omega)]
      · rw [if_neg h1]
        by_cases h2 : b = z
        · rw [if_pos ⟨rfl, h2⟩, if_pos (by omega)]
        · rw [if_neg (by omega), if_neg (by omega)]
    · rw [if_neg (show ¬ nI e ≤ nI z by rw [nI_leE (by omega) (by omega)]; omega), stI_n (by omega) (by omega), show vp_nar .boolean 1 = (1 : Int32) from by decide, nI_add1]
      exact g3 r hr
/-- the blocks that are used -/
def lUs (L : List yFi) (n : Nat) (s : aT) : Prop := ∀ b, b < 128 → (yUj L n b ∧ gI s 66 b = 1) ∨ (¬ yUj L n b ∧ gI s 66 b = 0)
theorem Fl_r19 (hs : yLs L) (d : Nat) {x : Int32} : ∀ k j s, j + k = L.length → lFi L s → lUs L j s → ∃ s', xF x66 s s' ∧ lUs L L.length s' ∧ ∀ r, fFl_room_57 (d + 1 + 6) x 0 0 s' = some r → fFl_room_19 (d + 1 + 6) x (nI j) s = some r := by
  have h40 := hs.1
  intro k
  induction k with
  | zero =>
    intro j s hj hl hu
    have e : j = L.length := by omega
    subst e
    refine ⟨s, xF_r, hu, fun r hr => eFl_room_19 (d + 1) _ _ _ _ ?_⟩
    rw [hl.1, if_pos (show nI L.length ≤ nI L.length by rw [nI_leE (by omega) (by omega)]; omega)]
    exact hr
  | succ k ih =>
    intro j s hj hl hu
    have hj2 : j < L.length := by omega
    obtain ⟨a1, a2, a3, a4, a5⟩ := hl.2 j hj2
    obtain ⟨b1, b2, b3, b4, b5⟩ := hs.2 j hj2
    have hk := yBk_16 b3
    have hk1 := yBk_1 (L.getD j yF0).2.2.2.1
    obtain ⟨s1, g1, g2, g3⟩ := Fl_r41 (d + 1) (x := x) (j := j) b2.2 (yBk (L.getD j yF0).2.2.2.1) (L.getD j yF0).2.2.1 s rfl
    have hl1 : lFi L s1 := lFi_fr (fun k i h1 h2 => g1.1 k i (by show ¬ k = 66; omega)) hl
    have hu1 : lUs L (j + 1) s1 := by
      intro b hb
      rw [g2 b]
      by_cases h : (L.getD j yF0).2.2.1 ≤ b ∧ b < (L.getD j yF0).2.2.1 + yBk (L.getD j yF0).2.2.2.1
      · rw [if_pos h]
        exact .inl ⟨.inr ⟨j, by omega, h.1, h.2⟩, rfl⟩
      · rw [if_neg h]
        rcases hu b hb with ⟨u1, u2⟩ | ⟨u1, u2⟩
        · refine .inl ⟨?_, u2⟩
          rcases u1 with u1 | ⟨i, i1, i2, i3⟩
          · exact .inl u1
          · exact .inr ⟨i, by omega, i2, i3⟩
        · refine .inr ⟨fun e => ?_, u2⟩
          rcases e with e | ⟨i, i1, i2, i3⟩
          · exact u1 (.inl e)
          · by_cases e : i = j
            · subst e
              exact h ⟨i2, i3⟩
            · exact u1 (.inr ⟨i, by omega, i2, i3⟩)
    obtain ⟨s2, p1, p2, p3⟩ := ih (j + 1) s1 (by omega) hl1 hu1
    have emin : (if nI ((L.getD j yF0).2.2.1 + yBk (L.getD j yF0).2.2.2.1) < (128 : Int32) then nI ((L.getD j yF0).2.2.1 + yBk (L.getD j yF0).2.2.2.1) else 128) = nI ((L.getD j yF0).2.2.1 + yBk (L.getD j yF0).2.2.2.1) := by
      by_cases h : (L.getD j yF0).2.2.1 + yBk (L.getD j yF0).2.2.2.1 < 128
      · rw [if_pos (by rw [show (128 : Int32) = nI 128 from rfl, nI_ltE (by omega) (by omega)]; exact h)]
      · rw [if_neg (by rw [show (128 : Int32) = nI 128 from rfl, nI_ltE (by omega) (by omega)]; exact h), show (L.getD j yF0).2.2.1 + yBk (L.getD j yF0).2.2.2.1 = 128 by omega]
        rfl
    refine ⟨s2, xF_t g1 p1, p2, fun r hr => eFl_room_19 (d + 1) _ _ _ _ ?_⟩
    rw [hl.1, if_neg (show ¬ nI L.length ≤ nI j by rw [nI_leE (by omega) (by omega)]; omega), ldI_n (by omega) (by omega), a3, ldI_n (by omega) (by omega), a4, show d + 1 + 5 = d + 6 from rfl, Di_bk d (by omega), cG_I, cP_910, nI_addE, emin, ldI_n (by omega) (by omega), a3]
    exact g3 r (p3 r hr)
/-- the scan -/
theorem Fl_r57 {s : aT} (hu : lUs L L.length s) (d : Nat) {x n : Nat} (hx : x ≤ 100000) (hn : yBk x = n) (hn2 : n ≤ 200) : ∀ k z f, z + k = 128 → f ≤ z → f < n → (∀ j, z - f ≤ j → j < z → ¬ yUs L j) → (z - f = 0 ∨ yUs L (z - f - 1)) → (∀ b, b + n ≤ z → ∃ j, b ≤ j ∧ j < b + n ∧ yUs L j) → fFl_room_57 (d + 1 + 6) (nI x) (nI f) (nI z) s = rI (zI (yRm L n)) s := by
  have hn1 : 1 ≤ n := by rw [← hn]; exact yBk_1 x
  intro k
  induction k with
  | zero =>
    intro z f hz hf hfn h1 h2 h3
    have ez : z = 128 := by omega
    subst ez
    refine eFl_room_57 (d + 1) _ _ _ _ _ ?_
    rw [if_pos (by decide), yRm_0 hn1 h3]
    rfl
  | succ k ih =>
    intro z f hz hf hfn h1 h2 h3
    refine eFl_room_57 (d + 1) _ _ _ _ _ ?_
    rw [if_neg (show ¬ (128 : Int32) ≤ nI z by rw [show (128 : Int32) = nI 128 from rfl, nI_leE (by omega) (by omega)]; omega), ldI_n (by omega) (by omega)]
    rcases hu z (by omega) with ⟨u1, u2⟩ | ⟨u1, u2⟩
    · rw [u2, if_neg (by decide)]
      refine eFl_room_70 (d + 1) _ _ _ _ _ ?_
      rw [show d + 1 + 5 = d + 6 from rfl, Di_bk d hx, cG_I, hn, if_pos (show ¬ (0 : Int32) = nI n by rw [show (0 : Int32) = nI 0 from rfl, nI_eqE (by omega) (by omega)]; omega), nI_add1 z]
      exact ih (z + 1) 0 (by omega) (by omega) (by omega) (fun j a b => by omega) (.inr (by rw [show z + 1 - 0 - 1 = z by omega]; exact u1)) (fun b hb => by
        by_cases e : b + n ≤ z
        · exact h3 b e
        · exact ⟨z, by omega, by omega, u1⟩)
    · rw [u2, if_pos rfl, nI_add1 f]
      refine eFl_room_70 (d + 1) _ _ _ _ _ ?_
      rw [show d + 1 + 5 = d + 6 from rfl, Di_bk d hx, cG_I, hn]
      have hz2 : 2 ≤ z := by
        rcases Nat.lt_or_ge z 2 with h | h
        · exact absurd (.inl h) u1
        · exact h
      have hzf : 2 ≤ z - f := by
        rcases Nat.lt_or_ge (z - f) 2 with h | h
        · exact absurd (.inl (by omega)) (h1 1 (by omega) (by omega))
        · exact h
      have h1' : ∀ j, z + 1 - (f + 1) ≤ j → j < z + 1 → ¬ yUs L j := fun j a b => by
        by_cases e : j = z
        · rw [e]; exact u1
        · exact h1 j (by omega) (by omega)
      by_cases e : f + 1 = n
      · rw [if_neg (fun h => h (by rw [e])), nI_sub (by omega), show (1 : Int32) = nI 1 from rfl, nI_addE]
        have hb2 : 2 ≤ z - (f + 1) + 1 := by
          rcases Nat.lt_or_ge (z - (f + 1) + 1) 2 with h | h
          · exact absurd (.inl h) (h1' (z - (f + 1) + 1) (by omega) (by omega))
          · exact h
        rw [yRm_at (b := z - (f + 1) + 1) hn1 hb2 (by omega) (fun j a b => h1' j (by omega) (by omega)) (fun b' hb' => h3 b' (by omega)), zI_S]
        rfl
      · rw [if_pos (show ¬ nI (f + 1) = nI n by rw [nI_eqE (by omega) (by omega)]; exact e), nI_add1 z]
        exact ih (z + 1) (f + 1) (by omega) (by omega) (by omega) h1' (by rw [show z + 1 - (f + 1) = z - f by omega]; exact h2) (fun b hb => by
          by_cases e2 : b + n ≤ z
          · exact h3 b e2
          · rcases h2 with h2 | h2
            · omega
            · exact ⟨z - f - 1, by omega, by omega, h2⟩)
/-- the lake's room -/
theorem Fl_rm {s : aT} (hl : lFi L s) (hs : yLs L) (d : Nat) {x : Nat} (hx : x ≤ 10000) : ∃ s', xF x66 s s' ∧ fFl_room (d + 7) (nI x) s = rI (zI (yRm L (yBk x))) s' := by
  obtain ⟨s1, g1, g2, g3⟩ := Fl_r2 (d + 1) (x := nI x) 128 0 s (by omega) (fun b hb => by omega)
  have hl1 : lFi L s1 := lFi_fr (fun k i h1 h2 => g1.1 k i (by show ¬ k = 66; omega)) hl
  obtain ⟨s2, p1, p2, p3⟩ := Fl_r19 hs d (x := nI x) L.length 0 s1 (by omega) hl1 (fun b hb => by
    rw [g2 b hb]
    by_cases h : b < 2
    · rw [if_pos h]; exact .inl ⟨.inl h, rfl⟩
    · rw [if_neg h]
      refine .inr ⟨fun e => ?_, rfl⟩
      rcases e with e | ⟨i, i1, _⟩
      · exact h e
      · omega)
  have hk : yBk x ≤ 200 := by unfold yBk; split <;> omega
  have := Fl_r57 p2 d (x := x) (by omega) rfl hk 128 0 0 (by omega) (by omega) (by have := yBk_1 x; omega) (fun j a b => by omega) (.inl rfl) (fun b hb => by have := yBk_1 x; omega)
  exact ⟨s2, xF_t g1 p1, eFl_room (d + 1) _ _ _ (g3 _ (p3 _ this))⟩
end
