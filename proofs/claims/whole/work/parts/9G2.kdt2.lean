/-! PURE: looking at a row: lists; every datum -/
section
variable {q : kP} {B : Nat → Nat} {n : Nat}
theorem kFn_len {z cnt : Nat} {p : kB} (hz : z ≤ p.2.2.2.length) : (kFn z cnt p).2.2.2.length = p.2.2.2.length + kHd cnt + 1 := by
  show (p.2.2.2.take z ++ ((if cnt = 0 then [] else kVb (Int64.ofNat cnt)) ++ (p.2.2.2.drop z ++ [0]))).length = _
  rw [List.length_append, List.length_append, List.length_append, List.length_take, List.length_drop, Nat.min_eq_left hz]
  have e : (if cnt = 0 then [] else kVb (Int64.ofNat cnt)).length = kHd cnt := by
    unfold kHd
    split <;> rfl
  rw [e]
  show z + (kHd cnt + (p.2.2.2.length - z + 1)) = _
  omega
theorem kBl_go (hB : ∀ i, B i < 256) {rec : kDr} (hr : kRg n rec) {x : Nat} {p0 : kB} : ∀ f cnt p p', p.1 ≤ n → p0.1 ≤ p.1 → cnt ≤ p.2.1 → p.2.1 ≤ 2000 → p0.2.2.2.length ≤ p.2.2.2.length → p.2.2.2.take p0.2.2.2.length = p0.2.2.2 → p0.2.1 ≤ p.2.1 → p0.2.2.1 ≤ p.2.2.1 → (p0.2.2.1 ≤ 4000 → p.2.2.1 ≤ 4000) → (kBt p0.2.2.2 → kBt p.2.2.2) → p.2.2.2.length + kHd cnt + p0.1 ≤ p0.2.2.2.length + p.1 → kBl q B n rec x p0.2.2.2.length f cnt p = .ok p' → kGo n p0 p'
  | 0, cnt, p, p', _, _, _, _, _, _, _, _, _, _, _, he => by cases he
  | f + 1, cnt, p, p', h1, h2, h3, h4, h5, h6, h7, h8, h9, h11, h10, he => by
    unfold kBl at he
    split at he
    · cases he
    · rename_i v a hv
      have hl := kVr_len hB hv
      split at he
      · cases he
        have hp := kVb_pos v
        have hlen := kFn_len (z := p0.2.2.2.length) (cnt := cnt) (p := (a, p.2)) h5
        refine ⟨by show p0.1 ≤ a; omega, by show a ≤ n; omega, ?_, ?_, ?_, h7, h8, fun _ => h4, h9, fun h => kBt_a (kBt_tk (h11 h)) (kBt_a (by split; exact kBt_n; exact kBt_vb _) (kBt_a (kBt_dr (h11 h)) (kBt_1 (by omega))))⟩
        · rw [hlen]
          show p.2.2.2.length + kHd cnt + 1 + p0.1 ≤ p0.2.2.2.length + a
          omega
        · rw [hlen]
          show p0.2.2.2.length ≤ p.2.2.2.length + kHd cnt + 1
          omega
        · show (p.2.2.2.take p0.2.2.2.length ++ _).take p0.2.2.2.length = _
          rw [h6, List.take_left]
      · rename_i h0
        split at he
        · cases he
        · rename_i h2000
          split at he
          · cases he
          · rename_i w a2 hto
            have hto := kTo_go hB (by omega) hto
            split at he
            · cases he
            · rename_i p3 his
              have hg := kIs2_go hB hr _ _ _ (by show a2 ≤ n; omega) (by show p.2.1 + v.toInt.natAbs ≤ 2000; omega) his
              obtain ⟨g1, g2, g3, g4, g5, g6, g7, g8, g9, g10⟩ := hg
              have g1 : a2 ≤ p3.1 := g1
              have g3 : p3.2.2.2.length + a2 ≤ p.2.2.2.length + p3.1 := g3
              have g4 : p.2.2.2.length ≤ p3.2.2.2.length := g4
              have g5 : p3.2.2.2.take p.2.2.2.length = p.2.2.2 := g5
              have g6 : p.2.1 + v.toInt.natAbs ≤ p3.2.1 := g6
              have g7 : p.2.2.1 ≤ p3.2.2.1 := g7
              have g8 : p.2.1 + v.toInt.natAbs ≤ 2000 → p3.2.1 ≤ 2000 := g8
              have g9 : p.2.2.1 ≤ 4000 → p3.2.2.1 ≤ 4000 := g9
              split at he
              · cases he
              · have hh := kHd_one (a0 := p.1) (cnt := cnt) hl.1 hto.1 hto.2.2 (by omega) h0
                refine kBl_go hB hr f (cnt + v.toInt.natAbs) p3 p' g2 (by omega) (by omega) (g8 (by omega)) (by omega) ?_ (by omega) (by omega) (fun h => g9 (h9 h)) (fun h => g10 (h11 h)) (by omega) he
                have : p3.2.2.2.take p0.2.2.2.length = (p3.2.2.2.take p.2.2.2.length).take p0.2.2.2.length := by rw [List.take_take, Nat.min_eq_left h5]
                rw [this, g5, h6]
theorem kDb_go (hB : ∀ i, B i < 256) {rec : kDr} (hr : kRg n rec) {x : Nat} {p p' : kB} (h : p.1 ≤ n) (h2 : p.2.1 ≤ 2000) (he : kDb q B n rec x p = .ok p') : kGo n p p' := by
  unfold kDb at he
  split at he
  · cases he; exact kGo_refl h
  · split at he
    · split at he
      · split at he
        · cases he
          exact kGo_app (by omega) (by omega) (by show 1 + p.1 ≤ p.1 + 1; omega) (kBt_1 (hB _))
        · cases he
      · cases he
    · split at he
      · split at he
        · cases he
        · rename_i v a hv
          have hl := kVr_len hB hv
          split at he
          · cases he
          · cases he
            exact kGo_app (by omega) (by omega) (by omega) (kBt_vb v)
      · split at he
        · exact kSt_go hB he
        · split at he
          · split at he
            · cases he
            · rename_i p1 i hc
              have g := (kCh_go hB hc).1
              exact kGo_tr g (hr _ _ _ g.2.1 (g.2.2.2.2.2.2.2.1 h2) he)
          · split at he
            · exact kPs_go hB h he
            · split at he
              · split at he
                · cases he
                · rename_i p1 i hc
                  cases he
                  exact (kCh_go hB hc).1
              · split at he
                · exact kFs_go hr _ _ _ _ h h2 he
                · exact kBl_go hB hr (p0 := p) 2001 0 p p' h (Nat.le_refl _) (Nat.zero_le _) h2 (Nat.le_refl _) List.take_length (Nat.le_refl _) (Nat.le_refl _) (fun h => h) (fun h => h) (by show p.2.2.2.length + 0 + p.1 ≤ _; omega) he
theorem kDt_go (hB : ∀ i, B i < 256) : ∀ D, kRg n (kDt q B n D) := by
  intro D
  induction D with
  | zero => intro x p p' _ _ h; cases h
  | succ D ih =>
    intro x p p' h h2 he
    unfold kDt at he
    split at he
    · rename_i h4
      obtain ⟨a1, a2, a3, a4, a5, a6, a7, a8, a9, a10⟩ := kDb_go hB ih (p := (p.1, p.2.1, p.2.2.1 + 1, p.2.2.2)) h h2 he
      have a7 : p.2.2.1 + 1 ≤ p'.2.2.1 := a7
      exact ⟨a1, a2, a3, a4, a5, a6, by omega, a8, fun _ => a9 (by show p.2.2.1 + 1 ≤ 4000; omega), a10⟩
    · cases he
theorem kV0 : kVb 0 = [0] := by decide +kernel
end
