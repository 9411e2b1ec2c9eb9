/-! PURE: a row that has bytes puts bytes; what is put, row by row -/
section
variable {q : kP} {B : Nat → Nat} {n : Nat}
def kRps (n : Nat) (rec : kDr) : Prop := ∀ x p p', p.1 ≤ n → p.2.1 ≤ 2000 → rec x p = .ok p' → p'.2.2.2.length = p.2.2.2.length → p'.1 = p.1
theorem kFs_ps {rec : kDr} (hr : kRg n rec) (hp : kRps n rec) {x : Nat} : ∀ k i p p', p.1 ≤ n → p.2.1 ≤ 2000 → kFs q rec x k i p = .ok p' → p'.2.2.2.length = p.2.2.2.length → p'.1 = p.1
  | 0, i, p, p', h, _, he, _ => by cases he; rfl
  | k + 1, i, p, p', h, h2, he, hl => by
    unfold kFs at he
    split at he
    · cases he
    · rename_i p1 h1
      have g1 := hr _ _ _ h h2 h1
      have g2 := kFs_go hr k (i + 1) p1 p' g1.2.1 (g1.2.2.2.2.2.2.2.1 h2) he
      have a1 := g1.2.2.2.1
      have a2 := g2.2.2.2.1
      rw [kFs_ps hr hp k (i + 1) p1 p' g1.2.1 (g1.2.2.2.2.2.2.2.1 h2) he (by omega)]
      exact hp _ _ _ h h2 h1 (by omega)
theorem kBl_ps (hB : ∀ i, B i < 256) {rec : kDr} (hr : kRg n rec) {x z : Nat} : ∀ f cnt p p', p.1 ≤ n → p.2.1 ≤ 2000 → z ≤ p.2.2.2.length → kBl q B n rec x z f cnt p = .ok p' → z < p'.2.2.2.length
  | 0, cnt, p, p', _, _, _, he => by cases he
  | f + 1, cnt, p, p', h1, h4, h5, he => by
    unfold kBl at he
    split at he
    · cases he
    · rename_i v a hv
      have hl := kVr_len hB hv
      split at he
      · cases he
        rw [kFn_len (z := z) (cnt := cnt) (p := (a, p.2)) h5]
        show z < p.2.2.2.length + kHd cnt + 1
        omega
      · split at he
        · cases he
        · split at he
          · cases he
          · rename_i w a2 hto
            have hto := kTo_go hB (by omega) hto
            split at he
            · cases he
            · rename_i p3 his
              have hg := kIs2_go hB hr _ _ _ (by show a2 ≤ n; omega) (by show p.2.1 + v.toInt.natAbs ≤ 2000; omega) his
              obtain ⟨g1, g2, g3, g4, g5, g6, g7, g8, g9, g10⟩ := hg
              have g4 : p.2.2.2.length ≤ p3.2.2.2.length := g4
              have g8 : p.2.1 + v.toInt.natAbs ≤ 2000 → p3.2.1 ≤ 2000 := g8
              split at he
              · cases he
              · exact kBl_ps hB hr f _ p3 p' g2 (g8 (by omega)) (by omega) he
theorem kDb_ps (hB : ∀ i, B i < 256) {rec : kDr} (hr : kRg n rec) (hp : kRps n rec) {x : Nat} {p p' : kB} (h : p.1 ≤ n) (h2 : p.2.1 ≤ 2000) (he : kDb q B n rec x p = .ok p') (hl : p'.2.2.2.length = p.2.2.2.length) : p'.1 = p.1 := by
  have app : ∀ (v : Int64) (M : List Nat), (p.2.2.2 ++ (kVb v ++ M)).length ≠ p.2.2.2.length := fun v M e => by
    have := kVb_pos v
    rw [List.length_append, List.length_append] at e
    omega
  unfold kDb at he
  split at he
  · cases he; rfl
  · split at he
    · split at he
      · split at he
        · cases he
          have hl : (p.2.2.2 ++ [B p.1]).length = p.2.2.2.length := hl
          rw [List.length_append] at hl
          have : [B p.1].length = 1 := rfl
          omega
        · cases he
      · cases he
    · split at he
      · split at he
        · cases he
        · rename_i v a hv
          split at he
          · cases he
          · cases he
            exact absurd (by rw [List.append_nil]; exact hl) (app v [])
      · split at he
        · unfold kSt at he
          split at he
          · cases he
          · rename_i v a hv
            split at he
            · cases he
            · split at he
              · cases he
                exact absurd hl (app v _)
              · cases he
        · split at he
          · split at he
            · cases he
            · rename_i p1 i hc
              exfalso
              have g := (kCh_go hB hc).1
              have g2 := hr _ _ _ g.2.1 (g.2.2.2.2.2.2.2.1 h2) he
              have a1 := g2.2.2.2.1
              unfold kCh at hc
              split at hc
              · cases hc
              · rename_i v a hv
                split at hc
                · cases hc
                · cases hc
                  have a1 : (p.2.2.2 ++ kVb v).length ≤ p'.2.2.2.length := a1
                  have := kVb_pos v
                  rw [List.length_append] at a1
                  omega
          · split at he
            · unfold kPs at he
              split at he
              · cases he
                have hl : (p.2.2.2 ++ kTp B p.1 (q.2.1 8 x - 1)).length = p.2.2.2.length := hl
                rw [List.length_append, kTp_len] at hl
                show p.1 + (q.2.1 8 x - 1) = p.1
                omega
              · cases he
            · split at he
              · split at he
                · cases he
                · rename_i p1 i hc
                  cases he
                  exfalso
                  unfold kCh at hc
                  split at hc
                  · cases hc
                  · rename_i v a hv
                    split at hc
                    · cases hc
                    · cases hc
                      exact absurd (by rw [List.append_nil]; exact hl) (app v [])
              · split at he
                · exact kFs_ps hr hp _ _ _ _ h h2 he hl
                · have := kBl_ps hB hr 2001 0 p p' h h2 (Nat.le_refl _) he
                  omega
theorem kDt_ps (hB : ∀ i, B i < 256) : ∀ D, kRps n (kDt q B n D) := by
  intro D
  induction D with
  | zero => intro x p p' _ _ h; cases h
  | succ D ih =>
    intro x p p' h h2 he hl
    unfold kDt at he
    split at he
    · exact kDb_ps hB (kDt_go hB D) ih (p := (p.1, p.2.1, p.2.2.1 + 1, p.2.2.2)) h h2 he hl
    · cases he
/-- rows that were looked at -/
theorem kLw_rw (hB : ∀ i, B i < 256) {x : Nat} : ∀ f z p k p', p.1 ≤ n → kLw q B n x f z p = .ok (some (k, p')) → kGo n (p.1, 0, 0, p.2.2.2) (p'.1, 0, 0, p'.2.2.2) ∧ z < k ∧ k - z ≤ p'.2.2.2.length - p.2.2.2.length ∧ ∃ g : Nat → Nat, g z = p.2.2.2.length ∧ g k = p'.2.2.2.length ∧ (∀ i, z ≤ i → i < k → g i < g (i + 1)) ∧ ∀ i, z ≤ i → i < k → ∀ B' n' off, (∀ j, j < p'.2.2.2.length → B' (off + j) = p'.2.2.2.getD j 0) → off + p'.2.2.2.length ≤ n' → kWq q B' n' 32 x (off + g i) (off + g (i + 1))
  | 0, z, p, k, p', _, he => by cases he
  | f + 1, z, p, k, p', hp, he => by
    unfold kLw at he
    cases hk : kDt q B n 32 x (p.1, 0, 0, p.2.2.2) with
    | error e => rw [hk] at he; cases he
    | ok p1 =>
      rw [hk] at he
      simp only at he
      have hgo := kDt_go hB 32 x (p.1, 0, 0, p.2.2.2) p1 hp (Nat.zero_le _) hk
      have hpu := kDt_pu hB 32 x (p.1, 0, 0, p.2.2.2) p1 hp (Nat.zero_le _) hk
      have hgo2 : kGo n (p.1, 0, 0, p.2.2.2) (p1.1, 0, 0, p1.2.2.2) := ⟨hgo.1, hgo.2.1, hgo.2.2.1, hgo.2.2.2.1, hgo.2.2.2.2.1, Nat.le_refl _, Nat.le_refl _, fun h => h, fun h => h, hgo.2.2.2.2.2.2.2.2.2⟩
      have hle : p.2.2.2.length ≤ p1.2.2.2.length := hgo.2.2.2.1
      by_cases h1 : p1.1 = p.1
      · rw [if_pos h1] at he; cases he
      · rw [if_neg h1] at he
        have hlt : p.2.2.2.length < p1.2.2.2.length := by
          rcases Nat.lt_or_ge p.2.2.2.length p1.2.2.2.length with h | h
          · exact h
          · exact absurd (kDt_ps hB 32 x (p.1, 0, 0, p.2.2.2) p1 hp (Nat.zero_le _) hk (Nat.le_antisymm h hle)) h1
        by_cases h2 : p1.1 < n
        · rw [if_pos h2] at he
          obtain ⟨g1, g2, g3, g, g4, g5, g6, g7⟩ := kLw_rw hB f (z + 1) p1 k p' (by omega) he
          have hle2 : p1.2.2.2.length ≤ p'.2.2.2.length := g1.2.2.2.1
          have htk : p'.2.2.2.take p1.2.2.2.length = p1.2.2.2 := g1.2.2.2.2.1
          refine ⟨kGo_tr hgo2 g1, by omega, by omega, fun i => if i ≤ z then p.2.2.2.length else g i, if_pos (Nat.le_refl z), (if_neg (by omega)).trans g5, fun i a b => ?_, fun i a b B' n' off hb hn => ?_⟩
          · show (if i ≤ z then p.2.2.2.length else g i) < (if i + 1 ≤ z then p.2.2.2.length else g (i + 1))
            by_cases e : i = z
            · subst e
              rw [if_pos (Nat.le_refl _), if_neg (by omega), g4]
              exact hlt
            · rw [if_neg (by omega), if_neg (by omega)]
              exact g6 i (by omega) b
          · show kWq q B' n' 32 x (off + (if i ≤ z then p.2.2.2.length else g i)) (off + (if i + 1 ≤ z then p.2.2.2.length else g (i + 1)))
            by_cases e : i = z
            · subst e
              rw [if_pos (Nat.le_refl _), if_neg (by omega), g4]
              exact hpu B' n' off (by omega) (fun j h1 h2 => by
                rw [hb j (by omega), ← htk, gD_tk h2])
            · rw [if_neg (by omega), if_neg (by omega)]
              exact g7 i (by omega) b B' n' off hb hn
        · rw [if_neg h2] at he
          cases he
          refine ⟨hgo2, by omega, by omega, fun i => if i ≤ z then p.2.2.2.length else p'.2.2.2.length, if_pos (Nat.le_refl z), if_neg (by omega), fun i a b => ?_, fun i a b B' n' off hb hn => ?_⟩
          · have e : i = z := by omega
            subst e
            show (if i ≤ i then p.2.2.2.length else p'.2.2.2.length) < (if i + 1 ≤ i then p.2.2.2.length else p'.2.2.2.length)
            rw [if_pos (Nat.le_refl _), if_neg (by omega)]
            exact hlt
          · have e : i = z := by omega
            subst e
            show kWq q B' n' 32 x (off + (if i ≤ i then p.2.2.2.length else p'.2.2.2.length)) (off + (if i + 1 ≤ i then p.2.2.2.length else p'.2.2.2.length))
            rw [if_pos (Nat.le_refl _), if_neg (by omega)]
            exact hpu B' n' off hn (fun j h1 h2 => hb j h2)
/-- a tape of rows: what is put -/
theorem kLk_rw (hB : ∀ i, B i < 256) {x k : Nat} {p : kB} (he : kLk q B n x = .ok (some (k, p))) : 0 < k ∧ k ≤ p.2.2.2.length ∧ p.2.2.2.length ≤ n ∧ kBt p.2.2.2 ∧ yRw p.2.2.2 q x k := by
  unfold kLk at he
  split at he
  · cases he
  · obtain ⟨g1, g2, g3, g, g4, g5, g6, g7⟩ := kLw_rw hB n 0 (0, 0, 0, []) k p (Nat.zero_le _) he
    have e0 : ([] : List Nat).length = 0 := rfl
    have a3 := g1.2.2.1
    have a2 := g1.2.1
    refine ⟨g2, by show k ≤ _; have : k - 0 ≤ p.2.2.2.length - 0 := g3; omega, ?_, g1.2.2.2.2.2.2.2.2.2 kBt_n, by show k ≤ _; have : k - 0 ≤ p.2.2.2.length - 0 := g3; omega, g, g4, g5, fun i hi B' n' off hb hn => g7 i (Nat.zero_le _) hi B' n' off hb hn⟩
    have a3 : p.2.2.2.length + 0 ≤ 0 + p.1 := a3
    have a2 : p.1 ≤ n := a2
    omega
end
