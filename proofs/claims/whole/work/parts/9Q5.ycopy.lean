/-! copy: PURE -/
/-- the rows of a table, told -/
def yTs (L : List yFi) (n : Nat) (R : List Nat) (gs : Nat → Nat → Nat) (Ms : Nat → List Nat) (bs : Nat → Bool) : Prop := ∀ k, k < L.length → yIs (L.getD k yF0) n → yRj L n (L.getD k yF0) (gs k) ∧ ∀ r, r < (L.getD k yF0).2.2.2.2.1 - 1 → yTd L n R (L.getD k yF0) (gs k) r (Ms (yRs L n k + r)) (bs (yRs L n k + r))
/-- the first row that can't be told -/
def yGf (Ms : Nat → List Nat) (bs : Nat → Bool) : Nat → Nat → Nat
  | 0, _ => 0
  | k + 1, i => if (Ms i).length ≤ 4096 then (if bs i = true then yGf Ms bs k (i + 1) else 20) else 31
/-- rows can be looked at, and there is room -/
def ySo (q : kP) (y : Nat) (Ms : Nat → List Nat) : Nat → Bool
  | 0 => true
  | k + 1 => ySo q y Ms k && (yLok q y (Ms k) && decide ((yCat Ms (k + 1)).length ≤ 4096))
def yGv (q : kP) (y : Nat) (Ms : Nat → List Nat) (bs : Nat → Bool) (N g : Nat) : Int32 := if yGf Ms bs (N - g) g = 0 then (if (yCat Ms N).length = 0 then -34 else if ySo q y Ms N = true then nI N else -31) else nEg (yGf Ms bs (N - g) g)
def yCs (r : Nat × yS) (N : Nat) : Nat × Int32 × yS := (0, if r.1 = 0 then nI N else nEg r.1, r.2)
def yCo (S : yS) (m v : Nat) (R : List Nat) (Ms : Nat → List Nat) (bs : Nat → Bool) (N : Nat) : Nat × Int32 × yS := if yGf Ms bs N 0 = 0 then (if (yCat Ms N).length = 0 then (0, -34, S) else if ySo (yQ R) (yX R) Ms N = true then yCs (ySt S m v (yWa N (yCat Ms N).length) (N + 1) (yCat Ms N)) N else (0, -31, S)) else (0, nEg (yGf Ms bs N 0), S)
def y_copy (x1 x2 w : Int32) (S : yS) (r : Nat × Int32 × yS) : Prop := if yNo x1 3 then r = (1, 0, S) else if yNo x2 3 then r = (1, 0, S) else if S.dn = true then r = (0, -33, S) else if yVa S.fs x2.toInt.toNat w then ∃ gs Ms bs, yTs S.fs x1.toInt.toNat (yVd S.fs x2.toInt.toNat w.toInt.toNat) gs Ms bs ∧ r = yCo S x2.toInt.toNat w.toInt.toNat (yVd S.fs x2.toInt.toNat w.toInt.toNat) Ms bs (yRs S.fs x1.toInt.toNat S.fs.length) else r = (1, 0, S)
section
variable {S : yS} {L : List yFi} {n : Nat} {R : List Nat} {gs : Nat → Nat → Nat} {Ms : Nat → List Nat} {bs : Nat → Bool}
theorem yFo_un {i k : Nat} (hk : k < L.length) (h1 : yRs L n k ≤ i) (h2 : i < yRs L n (k + 1)) : yFo L n i ≠ 0 ∧ yFo L n i - 1 = k := by
  have hm := yRs_mo (L := L) n (L.length - (k + 1)) (k + 1)
  rw [show k + 1 + (L.length - (k + 1)) = L.length by omega] at hm
  have h0 : yFo L n i ≠ 0 := yFo_0.mpr (by omega)
  obtain ⟨f1, f2, f3, f4⟩ := yFo_at h0
  refine ⟨h0, ?_⟩
  by_cases e : yFo L n i - 1 = k
  · exact e
  · exfalso
    by_cases lt : yFo L n i - 1 < k
    · have := yRs_mo (L := L) n (k - (yFo L n i - 1 + 1)) (yFo L n i - 1 + 1)
      rw [show yFo L n i - 1 + 1 + (k - (yFo L n i - 1 + 1)) = k by omega] at this
      omega
    · have := yRs_mo (L := L) n (yFo L n i - 1 - (k + 1)) (k + 1)
      rw [show k + 1 + (yFo L n i - 1 - (k + 1)) = yFo L n i - 1 by omega] at this
      omega
theorem yRs_S {k : Nat} (h : yIs (L.getD k yF0) n) : yRs L n (k + 1) = yRs L n k + ((L.getD k yF0).2.2.2.2.1 - 1) := by
  have e : yRs L n (k + 1) = yRs L n k + (if yIs (L.getD k yF0) n then (L.getD k yF0).2.2.2.2.1 - 1 else 0) := rfl
  rw [e, if_pos h]
theorem yRs_N {k : Nat} (h : ¬ yIs (L.getD k yF0) n) : yRs L n (k + 1) = yRs L n k := by
  have e : yRs L n (k + 1) = yRs L n k + (if yIs (L.getD k yF0) n then (L.getD k yF0).2.2.2.2.1 - 1 else 0) := rfl
  rw [e, if_neg h, Nat.add_zero]
/-- rows can always be told -/
theorem yTs_ex (hL : yLw L) (n : Nat) (R : List Nat) : ∃ gs Ms bs, yTs L n R gs Ms bs := by
  have hg : ∀ k, ∃ g, k < L.length → yIs (L.getD k yF0) n → yRj L n (L.getD k yF0) g := fun k => by
    by_cases h : k < L.length ∧ yIs (L.getD k yF0) n
    · obtain ⟨g, hg⟩ := yRw_g (yRow hL h.1 h.2).2.2.2
      exact ⟨g, fun _ _ => hg⟩
    · exact ⟨fun _ => 0, fun a b => absurd ⟨a, b⟩ h⟩
  obtain ⟨gs, hg⟩ := Classical.axiomOfChoice hg
  have hm : ∀ i, ∃ Mb : List Nat × Bool, yFo L n i ≠ 0 → yTd L n R (L.getD (yFo L n i - 1) yF0) (gs (yFo L n i - 1)) (i - yRs L n (yFo L n i - 1)) Mb.1 Mb.2 := fun i => by
    by_cases h : yFo L n i ≠ 0
    · obtain ⟨f1, f2, f3, f4⟩ := yFo_at h
      rw [yRs_S f2] at f4
      obtain ⟨M, b, hM⟩ := kTr_ex (q2 := yQ R) (dW := yW R) 32 _ (yX R) _ _ ((hg (yFo L n i - 1) f1 f2).2.2 (i - yRs L n (yFo L n i - 1)) (by omega))
      exact ⟨(M, b), fun _ => hM⟩
    · exact ⟨([], false), fun a => absurd a h⟩
  obtain ⟨F, hm⟩ := Classical.axiomOfChoice hm
  refine ⟨gs, fun i => (F i).1, fun i => (F i).2, fun k hk his => ⟨hg k hk his, fun r hr => ?_⟩⟩
  obtain ⟨u1, u2⟩ := yFo_un (L := L) (n := n) (i := yRs L n k + r) hk (by omega) (by rw [yRs_S his]; omega)
  have := hm (yRs L n k + r) u1
  rw [u2, show yRs L n k + r - yRs L n k = r by omega] at this
  exact this
theorem y_copy_ex (hw : yWf S) (x1 x2 w : Int32) : ∃ r, y_copy x1 x2 w S r := by
  have hL := hw.2.2.2.2
  unfold y_copy
  by_cases hx : yNo x1 3
  · exact ⟨(1, 0, S), by rw [if_pos hx]⟩
  · by_cases hx2 : yNo x2 3
    · exact ⟨(1, 0, S), by rw [if_neg hx, if_pos hx2]⟩
    · by_cases hd : S.dn = true
      · exact ⟨(0, -33, S), by rw [if_neg hx, if_neg hx2, if_pos hd]⟩
      · by_cases hv : yVa S.fs x2.toInt.toNat w
        · obtain ⟨gs, Ms, bs, h⟩ := yTs_ex hL x1.toInt.toNat (yVd S.fs x2.toInt.toNat w.toInt.toNat)
          exact ⟨_, by rw [if_neg hx, if_neg hx2, if_neg hd, if_pos hv]; exact ⟨gs, Ms, bs, h, rfl⟩⟩
        · exact ⟨(1, 0, S), by rw [if_neg hx, if_neg hx2, if_neg hd, if_neg hv]⟩
theorem yDz (hR : yVk R) : kDz (yQ R) (yW R) := fun y j hy h11 hj h3 => by
  obtain ⟨g1, g2, g3, g4, g5⟩ := yVk_g hR
  obtain ⟨m1, m2, m3⟩ := kVe_mdx g2 g3 y j hy h11 hj h3
  have hI : kIv (yT R) (yM R) (yQ R) := kVe_iv g2.1
  have hcd : kCd (yQ R) := kSq_cd (kVe_sq (T := yT R) (N := yN R) (q0 := (yRd R).2.1)) g2.2.1
  have h6 := (kKi hI hy).2.mp (by omega)
  have := kWt_wr (N := yN R) hI hcd g1 24 (Nat.le_refl _) ((yQ R).2.2 3 y j - 1) (kPx (yQ R) y j) (kPx_lt hI hcd h6 hy (by omega) (by omega) hj).2 m1 m2
  have e : yW R y j = kWt (yT R) (yN R) (yQ R) 24 ((yQ R).2.2 3 y j - 1) (kPx (yQ R) y j) := m3
  rw [e]
  exact this
theorem yVk_iv (hR : yVk R) : kIv (yT R) (yM R) (yQ R) ∧ kCd (yQ R) ∧ yX R < (yQ R).1 1 := by
  obtain ⟨g1, g2, g3, g4, g5⟩ := yVk_g hR
  exact ⟨kVe_iv g2.1, kSq_cd (kVe_sq (T := yT R) (N := yN R) (q0 := (yRd R).2.1)) g2.2.1, (yVk_r hR).2.2.2.2⟩
/-- a row that was told -/
theorem yTs_at (hL : yLw L) (hR : yVk R) (h : yTs L n R gs Ms bs) {i : Nat} (hi : i < yRs L n L.length) : kBt (Ms i) ∧ (bs i = true → kWz (yQ R) 114 (yX R) (Ms i)) := by
  obtain ⟨f1, f2, f3, f4⟩ := yFo_at (yFo_0.mpr hi)
  generalize yFo L n i - 1 = k at *
  rw [yRs_S f2] at f4
  obtain ⟨hg, hr⟩ := h k f1 f2
  obtain ⟨r1, r2, r3, r4⟩ := yRow hL f1 f2
  have ht := hr (i - yRs L n k) (by omega)
  rw [show yRs L n k + (i - yRs L n k) = i by omega] at ht
  obtain ⟨hI, hcd, hy⟩ := yVk_iv hR
  refine ⟨yTd_bt hR r2 ht, fun hb => ?_⟩
  rw [hb] at ht
  exact kTr_wz (yB_bt r2) hI hcd (yDz hR) 32 _ _ _ _ _ hy (hg.2.2 (i - yRs L n k) (by omega)) ht
theorem yGf_0 : ∀ k i, yGf Ms bs k i = 0 → ∀ j, i ≤ j → j < i + k → (Ms j).length ≤ 4096 ∧ bs j = true
  | 0, i, _, j, h1, h2 => by omega
  | k + 1, i, h, j, h1, h2 => by
    unfold yGf at h
    by_cases c : (Ms i).length ≤ 4096
    · rw [if_pos c] at h
      by_cases b : bs i = true
      · rw [if_pos b] at h
        by_cases e : j = i
        · rw [e]; exact ⟨c, b⟩
        · exact yGf_0 k (i + 1) h j (by omega) (by omega)
      · rw [if_neg b] at h
        omega
    · rw [if_neg c] at h
      omega
theorem yGf_n : ∀ k i, yGf Ms bs k i = 0 ∨ yGf Ms bs k i = 20 ∨ yGf Ms bs k i = 31
  | 0, i => .inl rfl
  | k + 1, i => by
    unfold yGf
    split
    · split
      · exact yGf_n k (i + 1)
      · exact .inr (.inl rfl)
    · exact .inr (.inr rfl)
theorem ySo_iff {q : kP} {y : Nat} : ∀ N, ySo q y Ms N = true ↔ ((yCat Ms N).length ≤ 4096 ∧ ∀ i, i < N → yLok q y (Ms i) = true)
  | 0 => ⟨fun _ => ⟨Nat.zero_le _, fun i hi => absurd hi (Nat.not_lt_zero _)⟩, fun _ => rfl⟩
  | N + 1 => by
    have ih := ySo_iff (q := q) (y := y) N
    have e : ySo q y Ms (N + 1) = (ySo q y Ms N && (yLok q y (Ms N) && decide ((yCat Ms (N + 1)).length ≤ 4096))) := rfl
    rw [e, Bool.and_eq_true, Bool.and_eq_true, decide_eq_true_iff, ih]
    have hle := yCat_le Ms 1 N
    constructor
    · intro ⟨⟨a1, a2⟩, a3, a4⟩
      refine ⟨a4, fun i hi => ?_⟩
      by_cases ei : i = N
      · rw [ei]; exact a3
      · exact a2 i (by omega)
    · intro ⟨a1, a2⟩
      exact ⟨⟨by omega, fun i hi => a2 i (by omega)⟩, a2 N (by omega), a1⟩
end
