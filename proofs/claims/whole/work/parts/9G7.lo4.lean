/-! the lake's Looker: lists, every datum -/
section
variable {A n b pb qb m D F : Nat} {B : Nat → Nat} {q : kP} {T : Nat → Nat → Nat} {t : aT} {p : kB} {y : Int64} {rec : kDr}
theorem Lo_b73 {d : Nat} (hd : 7 ≤ d) {z cnt : Nat} (hz : z ≤ p.2.2.2.length) (hc : cnt ≤ 2000) (hb : kBt p.2.2.2) (hl : p.2.2.2.length + kHd cnt + 1 ≤ alen 48) : fLo_blocks_73 d (nI z) (nI cnt) (oK p y t) = rI 1 (oK (kFn z cnt p) y t) := by
  obtain ⟨d, rfl⟩ : ∃ d', d = d' + 6 := ⟨d - 6, by omega⟩
  have e0 : (nI cnt ≤ (0 : Int32)) = (cnt ≤ 0) := by rw [show (0 : Int32) = nI 0 from rfl, nI_leE (by omega) (by omega)]
  have h81 : ∀ p : kB, p.2.2.2.length + 1 ≤ alen 48 → fLo_blocks_81 (d + 6) (oK p y t) = rI 1 (oK (p.1, p.2.1, p.2.2.1, p.2.2.2 ++ [0]) y t) := by
    intro p hl
    refine eLo_blocks_81 d _ _ ?_
    rw [show (0 : Int32) = nI 0 from rfl, oK_put (d + 5) (by omega) (by omega), cG_I]
    rfl
  unfold kHd at hl
  unfold kFn
  refine eLo_blocks_73 d _ _ _ _ ?_
  simp only [e0]
  by_cases h : cnt = 0
  · rw [if_pos h] at hl ⊢
    rw [if_pos (by omega), h81 p (by omega), List.nil_append, ← List.append_assoc, List.take_append_drop]
    rfl
  · rw [if_neg h] at hl ⊢
    have hins : fBy_insertVarint (d + 5) 47 (nI z) (nI cnt).toInt64 (oK p y t) = rV (oK (p.1, p.2.1, p.2.2.1, p.2.2.2.take z ++ (kVb (Int64.ofNat cnt) ++ p.2.2.2.drop z)) y t) := by
      obtain ⟨d, rfl⟩ : ∃ d', d = d' + 1 := ⟨d - 1, by omega⟩
      rw [nI_long (by omega)]
      exact Ob_ins d isB_47 hz (by show p.2.2.2.length + (kVb (Int64.ofNat cnt)).length ≤ alen 48; omega) hb
    rw [if_neg (by omega), hins, cG_V, h81 _ (by show (p.2.2.2.take z ++ (kVb (Int64.ofNat cnt) ++ p.2.2.2.drop z)).length + 1 ≤ _; rw [List.length_append, List.length_append, List.length_take, List.length_drop, Nat.min_eq_left hz]; omega)]
    simp only [List.append_assoc]
    rfl
theorem Lo_block (hK : lKc A B n b pb qb q T m t) (hr : kRg n rec) (hrec : lKd B n b q t D F rec) (hF : 8 ≤ F) (d : Nat) {x x2 : Nat} (h6 : 6 ≤ x) (hx : x < q.1 1) (h67 : q.2.1 0 x = 6 ∨ q.2.1 0 x = 7) (h32 : x2 + 1 + D = 32) {v : Int64} (hv0 : v.toInt ≠ 0) (hv1 : v.toInt.natAbs ≤ 2000) (ho : lKo n p) : lKr t (fLo_block (F + d + 1) (nI (lo b x)) v (nI x2) (oK p v t)) (match kTo B n v p.1 with | .error e => .error e | .ok (w, a2) => kBe2 v w a2 p.1 (kIs2 q B n rec x v.toInt.natAbs (a2, p.2))) := by
  have hin := hK.1
  obtain ⟨F0, hF0⟩ : ∃ F0, F + d = F0 + 5 := ⟨F + d - 5, by omega⟩
  have h0 : (0 ≤ aLcmp v 0) = (0 ≤ v.toInt) := by rw [aLcmp_ge]; rfl
  have g12 : ∀ (p2 : kB) (w : Int64), lKo n p2 → p2.2 = p.2 → ∀ r, fLo_block_20 (F + d + 1) (nI (lo b x)) v (nI x2) (nI p.1) w (nI p2.1) (nI 0) (oK p2 w t) = some r → fLo_block_12 (F + d + 1) (nI (lo b x)) v (nI x2) (nI p.1) (oK p2 w t) = some r := by
    intro p2 w _ _ r hr
    rw [hF0] at hr ⊢
    refine eLo_block_12 F0 _ _ _ _ _ _ ?_
    rw [oK_y, oK_at]
    exact hr
  unfold kTo
  by_cases hneg : v.toInt < 0
  · rw [if_pos hneg]
    have hvi := Lo_vi (y := v) (p := p) hin (d := F + d) (by omega) ho.1
    have go : ∀ r, cG (fLo_varint (F + d) (oK p v t)) (kI fun v2 s1 => if ¬ v2 = 0 then fLo_block_12 (F + d + 1) (nI (lo b x)) v (nI x2) (nI p.1) s1 else rI 0 s1) = some r → fLo_block (F + d + 1) (nI (lo b x)) v (nI x2) (oK p v t) = some r := by
      intro r hr
      rw [hF0] at hr ⊢
      refine eLo_block F0 _ _ _ _ _ ?_
      rw [if_neg (by rw [h0]; omega), oK_at]
      exact hr
    cases hk : kVr B n p.1 with
    | error e =>
      rw [hk] at hvi
      exact lKf_cg hvi go (fun _ => rfl)
    | ok wa =>
      obtain ⟨w, a2⟩ := wa
      rw [hk] at hvi
      have hvi : fLo_varint (F + d) (oK p v t) = rI 1 (oK (a2, p.2) w t) := hvi
      have hl := kVr_len hin.2.2.2.2 hk
      have ho2 : lKo n (a2, p.2) := ⟨hl.2.2, by have := ho.2.1; show p.2.2.2.length + n ≤ _ + a2; omega, ho.2.2⟩
      have hb := Lo_b20 (w := w) (a2 := a2) (e := p.1) hK hr hrec hF d h6 hx h67 h32 hv0 hv1 v.toInt.natAbs 0 (a2, p.2) w (by omega) (Nat.le_refl _) ho2
      refine lKr_go hb (fun r hr2 => go r ?_)
      rw [hvi, cG_I, if_pos (by decide)]
      exact g12 (a2, p.2) w ho2 rfl r hr2
  · rw [if_neg hneg]
    have hb := Lo_b20 (w := v) (a2 := p.1) (e := p.1) hK hr hrec hF d h6 hx h67 h32 hv0 hv1 v.toInt.natAbs 0 p v (by omega) (Nat.le_refl _) ho
    refine lKr_go hb (fun r hr2 => ?_)
    have h12 := g12 p v ho rfl r hr2
    rw [hF0] at h12 ⊢
    refine eLo_block F0 _ _ _ _ _ ?_
    rw [if_pos (by rw [h0]; omega), oK_at]
    exact h12
theorem Lo_bl (hK : lKc A B n b pb qb q T m t) (hr : kRg n rec) (hrec : lKd B n b q t D F rec) (hF : 8 ≤ F) (d : Nat) {x x2 z : Nat} (h6 : 6 ≤ x) (hx : x < q.1 1) (h67 : q.2.1 0 x = 6 ∨ q.2.1 0 x = 7) (h32 : x2 + 1 + D = 32) : ∀ f j cnt p y, f + j = 2001 → j ≤ cnt → cnt ≤ p.2.1 → lKo n p → p.2.2.2.length + kHd cnt + n ≤ alen 48 + p.1 → z ≤ p.2.2.2.length → lKr t (fLo_blocks_8 (F + d + 2) (nI (lo b x)) (nI x2) (nI z) (nI cnt) (nI j) (oK p y t)) (kBl q B n rec x z f cnt p) := by
  have hin := hK.1
  have hB := hin.2.2.2.2
  obtain ⟨F0, hF0⟩ : ∃ F0, F + d + 1 = F0 + 5 := ⟨F + d - 4, by omega⟩
  have hF1 : F + d + 2 = F0 + 6 := by omega
  intro f
  induction f with
  | zero =>
    intro j cnt p y hj hjc hc ho _ _
    have := ho.2.2.2.1
    omega
  | succ f ih =>
    intro j cnt p y hj hjc hc ho hroom hz
    obtain ⟨o1, o2, o3, o4, o5⟩ := ho
    have ej : ¬ (2000 : Int32) < nI j := by rw [nI_lit 2000, nI_ltE (by omega) (by omega)]; omega
    have hvi := Lo_vi (y := y) (p := p) hin (d := F + d + 1) (by omega) o1
    unfold kBl
    cases hk : kVr B n p.1 with
    | error e =>
      rw [hk] at hvi
      obtain ⟨t', h1, h2, h3, h4⟩ := hvi
      refine ⟨t', ?_, h2, h3, h4⟩
      rw [hF0] at h1
      rw [hF1]
      refine eLo_blocks_8 F0 _ _ _ _ _ _ _ ?_
      rw [if_neg ej, h1, cG_I]
      rfl
    | ok va =>
      obtain ⟨v, a⟩ := va
      rw [hk] at hvi
      have hvi : fLo_varint (F + d + 1) (oK p y t) = rI 1 (oK (a, p.2) v t) := hvi
      rw [hF0] at hvi
      have hl := kVr_len hB hk
      have h0 : (aLcmp v 0 = 0) = (v.toInt = 0) := by rw [aLcmp_eq]; rfl
      have hlo : (aLcmp v (-2000) < 0) = (v.toInt < -2000) := by rw [aLcmp_lt]; rfl
      have hhi : (0 < aLcmp v 2000) = (2000 < v.toInt) := by rw [aLcmp_gt]; rfl
      simp only
      by_cases hz0 : v.toInt = 0
      · rw [if_pos hz0]
        have h73 := Lo_b73 (d := F0 + 6) (p := (a, p.2)) (y := v) (t := t) (z := z) (cnt := cnt) (by omega) hz (by omega) o3 (by show p.2.2.2.length + _ + 1 ≤ _; omega)
        refine ⟨v, ?_⟩
        rw [hF1]
        refine eLo_blocks_8 F0 _ _ _ _ _ _ _ ?_
        rw [if_neg ej, hvi, cG_I, if_pos (by decide), oK_y, if_neg (by rw [h0]; exact fun e => e hz0), h73]
        rfl
      · rw [if_neg hz0]
        have f44 : ∀ r, cG (fLo_fail (F0 + 5) (nI 6) (nI p.1) (oK (a, p.2) v t)) (kI fun v2 s1 => rZ v2 s1) = some r → fLo_blocks_44 (F0 + 6) (nI p.1) (oK (a, p.2) v t) = some r := fun r hr2 => eLo_blocks_44 F0 _ _ _ hr2
        by_cases hbig : 2000 < p.2.1 + v.toInt.natAbs
        · rw [if_pos hbig]
          refine lKf_cg (K := fun v2 s1 => rZ v2 s1) (Lo_fail (F0 + 5) (p := (a, p.2)) (y := v)) (fun r hr2 => ?_) (fun _ => rfl)
          have h44 := f44 r hr2
          rw [hF1]
          refine eLo_blocks_8 F0 _ _ _ _ _ _ _ ?_
          rw [if_neg ej, hvi, cG_I, if_pos (by decide), oK_y, if_pos (by rw [h0]; exact hz0), oK_at]
          by_cases h1 : v.toInt < -2000
          · rw [if_pos (by rw [hlo]; exact h1)]
            exact h44
          · rw [if_neg (by rw [hlo]; exact h1)]
            by_cases h2 : 2000 < v.toInt
            · rw [if_pos (by rw [hhi]; exact h2)]
              exact h44
            · have habs := v_abs (v := v) (by omega)
              rw [if_neg (by rw [hhi]; exact h2), cQ_abs, show gI (oK (a, p.2) v t) 46 9 = nI p.2.1 from oK_it, if_neg (by
                rw [aLcmp_le, Int64.toInt_add, habs, nI_long (by omega), Int64.toInt_ofNat_of_lt (by omega), Int.bmod_eq_of_le (by omega) (by omega)]
                show ¬ _ ≤ (2000 : Int)
                omega)]
              exact h44
        · rw [if_neg hbig]
          have habs := v_abs (v := v) (by omega)
          have eabs : (if 0 < v then v else -v).toInt32 = nI v.toInt.natAbs := by
            have := v_nat (v := if 0 < v then v else -v) (by omega) (by omega)
            rw [this, habs]
            rfl
          have ho2 : lKo n (a, p.2.1 + v.toInt.natAbs, p.2.2) := ⟨hl.2.2, by show p.2.2.2.length + n ≤ _ + a; omega, o3, by show p.2.1 + v.toInt.natAbs ≤ 2000; omega, o5⟩
          have hblk := Lo_block hK hr hrec hF d h6 hx h67 h32 hz0 (by omega) ho2
          rw [hF0] at hblk
          have go : ∀ r, cG (fLo_block (F0 + 5) (nI (lo b x)) v (nI x2) (oK (a, p.2.1 + v.toInt.natAbs, p.2.2) v t)) (kI fun v8 s7 => if ¬ v8 = 0 then fLo_blocks_8 (F0 + 6) (nI (lo b x)) (nI x2) (nI z) (nI (cnt + v.toInt.natAbs)) (nI (j + 1)) s7 else rI 0 s7) = some r → fLo_blocks_8 (F + d + 2) (nI (lo b x)) (nI x2) (nI z) (nI cnt) (nI j) (oK p y t) = some r := by
            intro r hr2
            rw [hF1]
            refine eLo_blocks_8 F0 _ _ _ _ _ _ _ ?_
            rw [if_neg ej, hvi, cG_I, if_pos (by decide), oK_y, if_pos (by rw [h0]; exact hz0), if_neg (by rw [hlo]; omega), if_neg (by rw [hhi]; omega), cQ_abs, show gI (oK (a, p.2) v t) 46 9 = nI p.2.1 from oK_it, if_pos (by
              rw [aLcmp_le, Int64.toInt_add, habs, nI_long (by omega), Int64.toInt_ofNat_of_lt (by omega), Int.bmod_eq_of_le (by omega) (by omega)]
              show _ ≤ (2000 : Int)
              omega), cQ_abs, cQ_abs, wI_eq, eabs, nI_addE, nI_addE, oK_w9, nI_add1]
            exact hr2
          have hto := fun w a2 (h : kTo B n v a = .ok (w, a2)) => kTo_go hB (v := v) (w := w) hl.2.2 h
          show lKr t _ (match kTo B n v a with | .error e => .error e | .ok (w, a2) => match kIs2 q B n rec x v.toInt.natAbs (a2, p.2.1 + v.toInt.natAbs, p.2.2) with | .error e => .error e | .ok p3 => if v.toInt < 0 ∧ w.toInt ≠ ((p3.1 - a2 : Nat) : Int) then .error (6, a) else kBl q B n rec x z f (cnt + v.toInt.natAbs) p3)
          have hblk : lKr t (fLo_block (F0 + 5) (nI (lo b x)) v (nI x2) (oK (a, p.2.1 + v.toInt.natAbs, p.2.2) v t)) (match kTo B n v a with | .error e => .error e | .ok (w, a2) => kBe2 v w a2 a (kIs2 q B n rec x v.toInt.natAbs (a2, p.2.1 + v.toInt.natAbs, p.2.2))) := hblk
          cases hkt : kTo B n v a with
          | error e =>
            rw [hkt] at hblk
            exact lKf_cg hblk go (fun _ => rfl)
          | ok wa =>
            obtain ⟨w, a2⟩ := wa
            rw [hkt] at hblk
            have hto := hto w a2 hkt
            simp only at hblk ⊢
            cases hks : kIs2 q B n rec x v.toInt.natAbs (a2, p.2.1 + v.toInt.natAbs, p.2.2) with
            | error e =>
              rw [hks] at hblk
              exact lKf_cg hblk go (fun _ => rfl)
            | ok p3 =>
              rw [hks] at hblk
              have hblk : lKr t (fLo_block (F0 + 5) (nI (lo b x)) v (nI x2) (oK (a, p.2.1 + v.toInt.natAbs, p.2.2) v t)) (if v.toInt < 0 ∧ w.toInt ≠ ((p3.1 - a2 : Nat) : Int) then .error (6, a) else .ok p3) := hblk
              simp only
              by_cases hw : v.toInt < 0 ∧ w.toInt ≠ ((p3.1 - a2 : Nat) : Int)
              · rw [if_pos hw] at hblk ⊢
                exact lKf_cg hblk go (fun _ => rfl)
              · rw [if_neg hw] at hblk ⊢
                obtain ⟨y3, hblk⟩ := hblk
                have hg := kIs2_go hB hr _ _ _ (by show a2 ≤ n; omega) (by show p.2.1 + v.toInt.natAbs ≤ 2000; omega) hks
                have ho3 : lKo n p3 := lKo_go (p := (a2, p.2.1 + v.toInt.natAbs, p.2.2)) ⟨hto.2.1, by show p.2.2.2.length + n ≤ _ + a2; omega, o3, by show p.2.1 + v.toInt.natAbs ≤ 2000; omega, o5⟩ hg
                obtain ⟨g1, g2, g3, g4, g5, g6, g7, g8, g9, g10⟩ := hg
                have g1 : a2 ≤ p3.1 := g1
                have g3 : p3.2.2.2.length + a2 ≤ p.2.2.2.length + p3.1 := g3
                have g4 : p.2.2.2.length ≤ p3.2.2.2.length := g4
                have g6 : p.2.1 + v.toInt.natAbs ≤ p3.2.1 := g6
                have hh := kHd_one (a0 := p.1) (cnt := cnt) hl.1 hto.1 hto.2.2 (by omega) hz0
                refine lKr_go (ih (j + 1) (cnt + v.toInt.natAbs) p3 y3 (by omega) (by omega) (by omega) ho3 (by omega) (by omega)) (fun r hr2 => go r ?_)
                rw [hblk, cG_I, if_pos (by decide), ← hF1]
                exact hr2
end
