/-! the reference's looking: lists -/
section
variable {c n m D F : Nat} {B : Nat → Nat} {q : kP} {T : Nat → Nat → Nat} {t : aT} {p : kB} {u : Bool} {rec : kDr}
theorem Mo_fin (hc : isT c) {G : Nat} (hG : 2 ≤ G) {x x3 z5 : Int32} {z cnt : Nat} (hz : z ≤ p.2.2.2.length) (hc2 : cnt ≤ 2000) (hb : kBt p.2.2.2) (hl : p.2.2.2.length + kHd cnt + 1 ≤ 4200) (hz5 : u = true → z5 = nI z) : fMo_blocks_7 (G + 1) c x x3 (uF u) z5 (nI cnt) 0 (oM u p t) = rV (oM u (kFn z cnt p) t) := by
  refine eMo_blocks_7 G c _ _ _ _ _ _ _ hc _ ?_
  rw [if_pos rfl]
  cases u with
  | false =>
    rw [if_pos (by decide)]
    exact congrArg rV (oM_f (p := p) (L := (kFn z cnt p).2.2.2)).symm
  | true =>
    rw [if_neg (by decide), hz5 rfl]
    unfold kHd at hl
    have hp0 : ∀ p : kB, p.2.2.2.length + 1 ≤ 4200 → fMo_putVarint G 0 (oM true p t) = rV (oM true (p.1, p.2.1, p.2.2.1, p.2.2.2 ++ [0]) t) := by
      intro p hl
      have h := Mo_pv (p := p) (t := t) (d := G) (by omega) (v := 0) (by rw [kV0]; exact hl)
      rw [kV0] at h
      exact h
    unfold kFn
    by_cases h : cnt = 0
    · rw [if_pos h] at hl ⊢
      have hi : fMo_insert G (nI z) (nI cnt) (oM true p t) = rV (oM true p t) := by
        obtain ⟨G, rfl⟩ : ∃ G', G = G' + 1 := ⟨G - 1, by omega⟩
        refine eMo_insert G _ _ _ _ ?_
        rw [h, if_neg (by decide)]
        rfl
      rw [hi, cG_V, hp0 p (by omega), cG_V, List.nil_append, ← List.append_assoc, List.take_append_drop]
      rfl
    · rw [if_neg h] at hl ⊢
      rw [Mo_ins hG (by omega) hc2 hz hb (by omega), cG_V, hp0 _ (by show (p.2.2.2.take z ++ (kVb (Int64.ofNat cnt) ++ p.2.2.2.drop z)).length + 1 ≤ _; rw [List.length_append, List.length_append, List.length_take, List.length_drop, Nat.min_eq_left hz]; omega), cG_V]
      simp only [List.append_assoc]
      rfl
theorem v_neg {v : Int64} (h : -9223372036854775807 ≤ v.toInt) : (-v).toInt = -v.toInt := by
  have h2 := Int64.toInt_lt v
  rw [Int64.toInt_neg, Int.bmod_eq_of_le (by omega) (by omega)]
theorem Mo_bl (hK : mKc c B n q T m t) (hr : kRg n rec) (hrec : mKd c n q t u D F rec) (hF : 3 ≤ F) (d : Nat) {x x3 z : Nat} {z5 : Int32} (hz5 : u = true → z5 = nI z) (h6 : 6 ≤ x) (hx : x < q.1 1) (h67 : q.2.1 0 x = 6 ∨ q.2.1 0 x = 7) (h32 : x3 + 1 + D = 32) : ∀ f j cnt p, f + j = 2001 → j ≤ cnt → cnt ≤ p.2.1 → mKo n p → p.2.2.2.length + kHd cnt + n ≤ 4200 + p.1 → z ≤ p.2.2.2.length → mKr u t (fMo_blocks_7 (F + d + 2) c (nI x) (nI x3) (uF u) z5 (nI cnt) 1 (oM u p t)) (kBl q B n rec x z f cnt p) := by
  obtain ⟨hc, hin, hv, hI, hcd, h22⟩ := id hK
  have hB := hin.2.2.2
  have hn := hin.2.1
  intro f
  induction f with
  | zero =>
    intro j cnt p hj hjc hcn ho _ _
    have := ho.2.2.2.1
    omega
  | succ f ih =>
    intro j cnt p hj hjc hcn ho hroom hz
    obtain ⟨o1, o2, o3, o4, o5⟩ := ho
    have hvi := Mo_vi (u := u) (p := p) hin (d := F + d + 1) (by omega) o1
    unfold kBl
    cases hk : kVr B n p.1 with
    | error e =>
      rw [hk] at hvi
      obtain ⟨t', h1, h2, h3, h4⟩ := hvi
      refine ⟨t', eMo_blocks_7 (F + d + 1) c _ _ _ _ _ _ _ hc _ ?_, h2, h3, h4⟩
      rw [if_neg (by decide), h1, cG_T]
      rfl
    | ok va =>
      obtain ⟨v, a⟩ := va
      rw [hk] at hvi
      have hvi : fMo_varint (F + d + 1) (oM u p t) = rL v (oM u (a, p.2) t) := hvi
      have hl := kVr_len hB hk
      have h0 : (aLcmp v 0 = 0) = (v.toInt = 0) := by rw [aLcmp_eq]; rfl
      have hge : (0 ≤ aLcmp v 0) = (0 ≤ v.toInt) := by rw [aLcmp_ge]; rfl
      have hmin : (aLcmp v (-9223372036854775808) = 0) = (v.toInt = -9223372036854775808) := by rw [aLcmp_eq]; rfl
      have hlo := Int64.le_toInt v
      have hhi := Int64.toInt_lt v
      have go1 : ∀ r, (if v.toInt = 0 then fMo_blocks_22 (F + d + 2) c (nI x) (nI x3) (uF u) z5 (nI cnt) (nI p.1) v 0 (oM u (a, p.2) t) else fMo_blocks_22 (F + d + 2) c (nI x) (nI x3) (uF u) z5 (nI cnt) (nI p.1) v 1 (oM u (a, p.2) t)) = some r → fMo_blocks_7 (F + d + 2) c (nI x) (nI x3) (uF u) z5 (nI cnt) 1 (oM u p t) = some r := by
        intro r hr2
        refine eMo_blocks_7 (F + d + 1) c _ _ _ _ _ _ _ hc _ ?_
        rw [if_neg (by decide), hvi, cG_L, oM_at]
        simp only [h0]
        exact hr2
      simp only
      by_cases hz0 : v.toInt = 0
      · rw [if_pos hz0] at go1 ⊢
        have hfin := Mo_fin (u := u) (t := t) (p := (a, p.2)) hc (G := F + d + 1) (by omega) (x := nI x) (x3 := nI x3) (z5 := z5) (z := z) (cnt := cnt) hz (by omega) o3 (by show p.2.2.2.length + _ + 1 ≤ _; omega) hz5
        refine go1 _ (eMo_blocks_22 (F + d + 1) c _ _ _ _ _ _ _ _ _ hc _ ?_)
        rw [if_pos rfl]
        refine eMo_blocks_123 (F + d + 1) c _ _ _ _ _ _ _ hc _ ?_
        exact hfin
      · rw [if_neg hz0] at go1 ⊢
        have f44 : ∀ r, cG (fMo_failBytes (F + d + 1) (nI 6) (nI p.1) (oM u (a, p.2) t)) (kV fun s1 => fMo_blocks_54 (F + d + 2) c (nI x) (nI x3) (uF u) z5 (nI cnt) 1 v s1) = some r → fMo_blocks_44 (F + d + 2) c (nI x) (nI x3) (uF u) z5 (nI cnt) 1 (nI p.1) v (oM u (a, p.2) t) = some r := by
          intro r hr2
          refine eMo_blocks_44 (F + d + 1) c _ _ _ _ _ _ _ _ _ hc _ ?_
          refine eMo_blocks_47 (F + d + 1) c _ _ _ _ _ _ _ _ _ _ hc _ ?_
          rw [if_neg (by decide)]
          exact hr2
        have e37 : ∀ n0 : Int64, (aLcmp n0 (2000 - ((gI (oM u (a, p.2) t) 67 26).toInt64)) ≤ 0) = (n0.toInt ≤ 2000 - (p.2.1 : Int)) := fun n0 => by
          rw [aLcmp_le, show gI (oM u (a, p.2) t) 67 26 = nI p.2.1 from oM_it, nI_long (by omega), Int64.toInt_sub, Int64.toInt_ofNat_of_lt (by omega), Int.bmod_eq_of_le (by show _ ≤ (2000 : Int) - _; omega) (by show (2000 : Int) - _ < _; omega)]
          rfl
        by_cases hbig : 2000 < p.2.1 + v.toInt.natAbs
        · rw [if_pos hbig]
          refine mKf_cg (K := kV fun s1 => fMo_blocks_54 (F + d + 2) c (nI x) (nI x3) (uF u) z5 (nI cnt) 1 v s1) (Mo_fail (F + d + 1) (p := (a, p.2)) (u := u) (k := 6) (e := p.1)) (fun r hr2 => go1 r ?_)
          have h44 := f44 r hr2
          refine eMo_blocks_22 (F + d + 1) c _ _ _ _ _ _ _ _ _ hc _ ?_
          rw [if_neg (by decide)]
          by_cases hm : v.toInt = -9223372036854775808
          · rw [if_pos (by rw [hmin]; exact hm)]
            exact h44
          · rw [if_neg (by rw [hmin]; exact hm)]
            by_cases hp : 0 ≤ v.toInt
            · rw [if_pos (by rw [hge]; exact hp)]
              refine eMo_blocks_37 (F + d + 1) c _ _ _ _ _ _ _ _ _ _ hc _ ?_
              rw [if_neg (by rw [e37]; omega)]
              exact h44
            · rw [if_neg (by rw [hge]; exact hp)]
              refine eMo_blocks_37 (F + d + 1) c _ _ _ _ _ _ _ _ _ _ hc _ ?_
              rw [if_neg (by rw [e37, v_neg (by omega)]; omega)]
              exact h44
        · rw [if_neg hbig]
          have hneg := v_neg (v := v) (by omega)
          have go2 : ∀ r, (if 0 ≤ v.toInt then fMo_blocks_61 (F + d + 2) c (nI x) (nI x3) (uF u) z5 (nI cnt) 1 v 0 (oM u (a, p.2) t) else fMo_blocks_61 (F + d + 2) c (nI x) (nI x3) (uF u) z5 (nI cnt) 1 v 1 (oM u (a, p.2) t)) = some r → fMo_blocks_7 (F + d + 2) c (nI x) (nI x3) (uF u) z5 (nI cnt) 1 (oM u p t) = some r := by
            intro r hr2
            have h54 : fMo_blocks_47 (F + d + 2) c (nI x) (nI x3) (uF u) z5 (nI cnt) 1 (nI p.1) v 0 (oM u (a, p.2) t) = some r := by
              refine eMo_blocks_47 (F + d + 1) c _ _ _ _ _ _ _ _ _ _ hc _ ?_
              rw [if_pos rfl]
              refine eMo_blocks_54 (F + d + 1) c _ _ _ _ _ _ _ _ hc _ ?_
              simp only [hge]
              exact hr2
            refine go1 r (eMo_blocks_22 (F + d + 1) c _ _ _ _ _ _ _ _ _ hc _ ?_)
            rw [if_neg (by decide), if_neg (by rw [hmin]; omega)]
            by_cases hp : 0 ≤ v.toInt
            · rw [if_pos (by rw [hge]; exact hp)]
              refine eMo_blocks_37 (F + d + 1) c _ _ _ _ _ _ _ _ _ _ hc _ ?_
              rw [if_pos (by rw [e37]; omega)]
              exact h54
            · rw [if_neg (by rw [hge]; exact hp)]
              refine eMo_blocks_37 (F + d + 1) c _ _ _ _ _ _ _ _ _ _ hc _ ?_
              rw [if_pos (by rw [e37, hneg]; omega)]
              exact h54
          -- behind what is told
          have rest : ∀ (w l9 : Int64) (z12 : Int32) (a2 : Nat), l9.toInt = v.toInt.natAbs → (z12 = 0) = (0 ≤ v.toInt) → a ≤ a2 → a2 ≤ n → (v.toInt < 0 → a < a2) → (z12 = 0 ∨ z12 = 1) → (∀ r, fMo_blocks_78 (F + d + 2) c (nI x) (nI x3) (uF u) z5 (nI cnt) 1 z12 (nI a) w l9 (oM u (a2, p.2) t) = some r → fMo_blocks_7 (F + d + 2) c (nI x) (nI x3) (uF u) z5 (nI cnt) 1 (oM u p t) = some r) → mKr u t (fMo_blocks_7 (F + d + 2) c (nI x) (nI x3) (uF u) z5 (nI cnt) 1 (oM u p t)) (match kBe2 v w a2 a (kIs2 q B n rec x v.toInt.natAbs (a2, p.2.1 + v.toInt.natAbs, p.2.2)) with | .error e => .error e | .ok p3 => kBl q B n rec x z f (cnt + v.toInt.natAbs) p3) := by
            intro w l9 z12 a2 hl9 hz12 ha2 ha2n hlt2 hz01 go78
            have e32 : l9.toInt32 = nI v.toInt.natAbs := by
              rw [v_nat (by omega) (by omega), hl9]
              rfl
            have ho2 : mKo n (a2, p.2.1 + v.toInt.natAbs, p.2.2) := ⟨ha2n, by show p.2.2.2.length + n ≤ _ + a2; omega, o3, by show p.2.1 + v.toInt.natAbs ≤ 2000; omega, o5⟩
            have h91 := Mo_b91 (u := u) (v := v) (w := w) (l9 := l9) (a2 := a2) (e := a) (N0 := v.toInt.natAbs) (z5 := z5) (z6 := nI cnt) (z7 := 1) (z12 := z12) hK hr hrec hF d h6 hx h67 h32 hl9 (by omega) hz12 v.toInt.natAbs 0 (a2, p.2.1 + v.toInt.natAbs, p.2.2) (by omega) (Nat.le_refl _) ho2
            have go3 : ∀ r, fMo_blocks_91 (F + d + 2) c (nI x) (nI x3) (uF u) z5 (nI cnt) 1 l9 z12 (nI a) w (nI a2) (nI 0) (oM u (a2, p.2.1 + v.toInt.natAbs, p.2.2) t) = some r → fMo_blocks_7 (F + d + 2) c (nI x) (nI x3) (uF u) z5 (nI cnt) 1 (oM u p t) = some r := by
              intro r hr2
              refine go78 r (eMo_blocks_78 (F + d + 1) c _ _ _ _ _ _ _ _ _ _ _ hc _ ?_)
              rw [wI_eq, show gI (oM u (a2, p.2) t) 67 26 = nI p.2.1 from oM_it, e32, nI_addE, oM_w26, show gI (oM u (a2, p.2.1 + v.toInt.natAbs, p.2.2) t) 67 23 = nI a2 from oM_at]
              exact hr2
            cases hks : kBe2 v w a2 a (kIs2 q B n rec x v.toInt.natAbs (a2, p.2.1 + v.toInt.natAbs, p.2.2)) with
            | error er =>
              rw [hks] at h91
              exact mKf_go h91 go3
            | ok p3 =>
              rw [hks] at h91
              have his : kIs2 q B n rec x v.toInt.natAbs (a2, p.2.1 + v.toInt.natAbs, p.2.2) = .ok p3 := by
                unfold kBe2 at hks
                split at hks
                · cases hks
                · split at hks
                  · cases hks
                  · cases hks
                    assumption
              have hg := kIs2_go hB hr _ _ _ (by show a2 ≤ n; omega) (by show p.2.1 + v.toInt.natAbs ≤ 2000; omega) his
              have ho3 := mKo_go ho2 hg
              obtain ⟨g1, g2, g3, g4, g5, g6, g7, g8, g9, g10⟩ := hg
              have g1 : a2 ≤ p3.1 := g1
              have g3 : p3.2.2.2.length + a2 ≤ p.2.2.2.length + p3.1 := g3
              have g4 : p.2.2.2.length ≤ p3.2.2.2.length := g4
              have g6 : p.2.1 + v.toInt.natAbs ≤ p3.2.1 := g6
              have hh := kHd_one (a0 := p.1) (cnt := cnt) hl.1 ha2 hlt2 (by omega) hz0
              refine mKr_go (ih (j + 1) (cnt + v.toInt.natAbs) p3 (by omega) (by omega) (by omega) ho3 (by omega) (by omega)) (fun r hr2 => go3 r (h91 r ?_))
              refine eMo_blocks_118 (F + d + 1) c _ _ _ _ _ _ _ _ hc _ ?_
              refine eMo_blocks_123 (F + d + 1) c _ _ _ _ _ _ _ hc _ ?_
              rw [e32, nI_addE]
              exact hr2
          have shape : ∀ (w : Int64) (a2 : Nat), ((match kIs2 q B n rec x v.toInt.natAbs (a2, p.2.1 + v.toInt.natAbs, p.2.2) with | .error e => .error e | .ok p3 => if v.toInt < 0 ∧ w.toInt ≠ ((p3.1 - a2 : Nat) : Int) then .error (6, a) else kBl q B n rec x z f (cnt + v.toInt.natAbs) p3) : kBe) = (match kBe2 v w a2 a (kIs2 q B n rec x v.toInt.natAbs (a2, p.2.1 + v.toInt.natAbs, p.2.2)) with | .error e => .error e | .ok p3 => kBl q B n rec x z f (cnt + v.toInt.natAbs) p3) := by
            intro w a2
            unfold kBe2
            cases kIs2 q B n rec x v.toInt.natAbs (a2, p.2.1 + v.toInt.natAbs, p.2.2) with
            | error e => rfl
            | ok p3 =>
              simp only
              by_cases hw : v.toInt < 0 ∧ w.toInt ≠ ((p3.1 - a2 : Nat) : Int)
              · rw [if_pos hw, if_pos hw]
              · rw [if_neg hw, if_neg hw]
          show mKr u t _ (match kTo B n v a with | .error e => .error e | .ok (w, a2) => match kIs2 q B n rec x v.toInt.natAbs (a2, p.2.1 + v.toInt.natAbs, p.2.2) with | .error e => .error e | .ok p3 => if v.toInt < 0 ∧ w.toInt ≠ ((p3.1 - a2 : Nat) : Int) then .error (6, a) else kBl q B n rec x z f (cnt + v.toInt.natAbs) p3)
          unfold kTo
          by_cases hp : 0 ≤ v.toInt
          · rw [if_pos hp] at go2
            rw [if_neg (by omega)]
            simp only
            rw [shape v a]
            have e2 : kBe2 v v a a (kIs2 q B n rec x v.toInt.natAbs (a, p.2.1 + v.toInt.natAbs, p.2.2)) = kBe2 v 0 a a (kIs2 q B n rec x v.toInt.natAbs (a, p.2.1 + v.toInt.natAbs, p.2.2)) := by
              unfold kBe2
              cases kIs2 q B n rec x v.toInt.natAbs (a, p.2.1 + v.toInt.natAbs, p.2.2) with
              | error e => rfl
              | ok p3 =>
                simp only
                rw [if_neg (by omega), if_neg (by omega)]
            rw [e2]
            refine rest 0 v 0 a (by omega) (by apply propext; exact ⟨fun _ => hp, fun _ => rfl⟩) (Nat.le_refl _) hl.2.2 (by omega) (.inl rfl) (fun r hr2 => go2 r ?_)
            refine eMo_blocks_61 (F + d + 1) c _ _ _ _ _ _ _ _ _ hc _ ?_
            rw [if_pos rfl, show gI (oM u (a, p.2) t) 67 23 = nI a from oM_at]
            refine eMo_blocks_71 (F + d + 1) c _ _ _ _ _ _ _ _ _ _ _ hc _ ?_
            rw [if_pos rfl]
            exact hr2
          · rw [if_neg hp] at go2
            rw [if_pos (by omega)]
            have hvi2 := Mo_vi (u := u) (p := (a, p.2)) hin (d := F + d + 1) (by omega) hl.2.2
            cases hk2 : kVr B n a with
            | error e =>
              have hvi2 : mKv u t (a, p.2) (fMo_varint (F + d + 1) (oM u (a, p.2) t)) (kVr B n a) := hvi2
              rw [hk2] at hvi2
              obtain ⟨t', h1, h2, h3, h4⟩ := hvi2
              refine ⟨t', go2 _ (eMo_blocks_61 (F + d + 1) c _ _ _ _ _ _ _ _ _ hc _ ?_), h2, h3, h4⟩
              rw [if_neg (by decide), h1, cG_T]
              rfl
            | ok wa =>
              obtain ⟨w, a2⟩ := wa
              have hvi2 : mKv u t (a, p.2) (fMo_varint (F + d + 1) (oM u (a, p.2) t)) (kVr B n a) := hvi2
              rw [hk2] at hvi2
              have hvi2 : fMo_varint (F + d + 1) (oM u (a, p.2) t) = rL w (oM u (a2, p.2) t) := hvi2
              have hl2 := kVr_len hB hk2
              simp only
              rw [shape w a2]
              refine rest w (-v) 1 a2 (by rw [hneg]; omega) (by apply propext; exact ⟨fun h => absurd h (by decide), fun h => absurd h hp⟩) (by omega) hl2.2.2 (by omega) (.inr rfl) (fun r hr2 => go2 r ?_)
              refine eMo_blocks_61 (F + d + 1) c _ _ _ _ _ _ _ _ _ hc _ ?_
              rw [if_neg (by decide), hvi2, cG_L, show gI (oM u (a, p.2) t) 67 23 = nI a from oM_at]
              refine eMo_blocks_71 (F + d + 1) c _ _ _ _ _ _ _ _ _ _ _ hc _ ?_
              rw [if_neg (by decide)]
              exact hr2
end
