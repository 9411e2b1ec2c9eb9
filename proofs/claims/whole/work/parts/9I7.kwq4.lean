/-! PURE: what looking puts is stored data: every datum -/
section
variable {q : kP} {B0 : Nat → Nat} {n0 : Nat}
theorem kDb_pu {D : Nat} {rec : kDr} (hB : ∀ i, B0 i < 256) (hr : kRg n0 rec) (hp : kPu q n0 D rec) {x : Nat} {p p' : kB} (h1 : p.1 ≤ n0) (h2 : p.2.1 ≤ 2000) (he : kDb q B0 n0 rec x p = .ok p') {B : Nat → Nat} {n off : Nat} (hn : off + p'.2.2.2.length ≤ n) (hat : kAt B off p.2.2.2.length p'.2.2.2) : kWq q B n (D + 1) x (off + p.2.2.2.length) (off + p'.2.2.2.length) := by
  have hg := kDb_go hB hr h1 h2 he
  have hl := hg.2.2.2.1
  have hle : off + p.2.2.2.length ≤ off + p'.2.2.2.length ∧ off + p'.2.2.2.length ≤ n := ⟨by omega, hn⟩
  unfold kDb at he
  split at he
  · rename_i h
    cases he
    exact ⟨hle, fun _ => rfl, fun e => by omega, fun e => by omega, fun e => by omega, fun e => by omega, fun e => by omega, fun e => by omega, fun e => by omega, fun e => by omega⟩
  split at he
  · rename_i h
    have : p'.2.2.2.length = p.2.2.2.length + 1 := by
      split at he
      · split at he
        · cases he
          rw [List.length_append]; rfl
        · cases he
      · cases he
    exact ⟨hle, fun e => by omega, fun _ => by omega, fun e => by omega, fun e => by omega, fun e => by omega, fun e => by omega, fun e => by omega, fun e => by omega, fun e => by omega⟩
  split at he
  · rename_i h
    have : ∃ v, kNu B n (off + p.2.2.2.length) v (off + p'.2.2.2.length) := by
      split at he
      · cases he
      · rename_i v a hv
        split at he
        · cases he
        · cases he
          have h3 := kAt_app hat
          rw [List.length_append] at hn ⊢
          exact ⟨v, by rw [← Nat.add_assoc]; exact kNu_vb (by omega) h3⟩
    exact ⟨hle, fun e => by omega, fun e => by omega, fun _ => this, fun e => by omega, fun e => by omega, fun e => by omega, fun e => by omega, fun e => by omega, fun e => by omega⟩
  split at he
  · rename_i h
    exact ⟨hle, fun e => by omega, fun e => by omega, fun e => by omega, fun _ => kSt_pu he hn hat, fun e => by omega, fun e => by omega, fun e => by omega, fun e => by omega, fun e => by omega⟩
  split at he
  · rename_i h
    have : ∃ i a1, i < q.2.1 4 x ∧ kNu B n (off + p.2.2.2.length) (Int64.ofNat i) a1 ∧ kWq q B n D (kPx q x i) a1 (off + p'.2.2.2.length) := by
      split at he
      · cases he
      · rename_i p1 i hc
        obtain ⟨gc, hi⟩ := kCh_go hB hc
        have gr := hr _ _ _ gc.2.1 (gc.2.2.2.2.2.2.2.1 h2) he
        have la := gr.2.2.2.1
        have hat1 := kAt_take hat gr.2.2.2.2.1 la
        have hw := hp _ _ _ gc.2.1 (gc.2.2.2.2.2.2.2.1 h2) he B n off hn (kAt_up hat gc.2.2.2.1)
        refine ⟨i, off + p1.2.2.2.length, hi, ?_, hw⟩
        unfold kCh at hc
        split at hc
        · cases hc
        · rename_i v a hv
          split at hc
          · cases hc
          · cases hc
            have h3 := kAt_app hat1
            rw [ofN_of (by omega)]
            show kNu B n _ v (off + (p.2.2.2 ++ kVb v).length)
            have la : (p.2.2.2 ++ kVb v).length ≤ p'.2.2.2.length := la
            rw [List.length_append] at la ⊢
            rw [← Nat.add_assoc]
            exact kNu_vb (by omega) h3
    exact ⟨hle, fun e => by omega, fun e => by omega, fun e => by omega, fun e => by omega, fun _ => this, fun e => by omega, fun e => by omega, fun e => by omega, fun e => by omega⟩
  split at he
  · rename_i h
    have : off + p'.2.2.2.length = off + p.2.2.2.length + (q.2.1 8 x - 1) := by
      unfold kPs at he
      split at he
      · cases he
        rw [List.length_append, kTp_len]; omega
      · cases he
    exact ⟨hle, fun e => by omega, fun e => by omega, fun e => by omega, fun e => by omega, fun e => by omega, fun _ => this, fun e => by omega, fun e => by omega, fun e => by omega⟩
  split at he
  · rename_i h
    have : ∃ i, i < q.2.1 4 x ∧ kNu B n (off + p.2.2.2.length) (Int64.ofNat i) (off + p'.2.2.2.length) := by
      split at he
      · cases he
      · rename_i p1 i hc
        cases he
        have hi := (kCh_go hB hc).2
        refine ⟨i, hi, ?_⟩
        unfold kCh at hc
        split at hc
        · cases hc
        · rename_i v a hv
          split at hc
          · cases hc
          · cases hc
            have h3 := kAt_app hat
            rw [ofN_of (by omega)]
            show kNu B n _ v (off + (p.2.2.2 ++ kVb v).length)
            have hn : off + (p.2.2.2 ++ kVb v).length ≤ n := hn
            rw [List.length_append] at hn ⊢
            rw [← Nat.add_assoc]
            exact kNu_vb (by omega) h3
    exact ⟨hle, fun e => by omega, fun e => by omega, fun e => by omega, fun e => by omega, fun e => by omega, fun e => by omega, fun _ => this, fun e => by omega, fun e => by omega⟩
  split at he
  · rename_i h
    obtain ⟨f, f0, f1, f2⟩ := kFs_pu hr hp _ 0 p p' h1 h2 he
    rw [Nat.zero_add] at f1
    refine ⟨hle, fun e => by omega, fun e => by omega, fun e => by omega, fun e => by omega, fun e => by omega, fun e => by omega, fun e => by omega, fun _ => ⟨fun i => off + f i, ?_, ?_, fun i hi => f2 B n off hn hat i (by omega) (by omega)⟩, fun e => by omega⟩
    · show off + f 0 = _
      rw [f0]
    · show off + f (q.2.1 4 x) = _
      rw [f1]
  · have hl0 : kLi q D x p.2.2.2.length 0 p.2.2.2 := ⟨fun _ => p.2.2.2.length, fun _ => 0, rfl, rfl, fun B n off _ _ i hi => by omega⟩
    have hc := kBl_pu hB hr hp 2001 0 p p' h1 (Nat.zero_le _) h2 (Nat.le_refl _) hl0 he B n off hn hat
    exact ⟨hle, fun e => by omega, fun e => by omega, fun e => by omega, fun e => by omega, fun e => by omega, fun e => by omega, fun e => by omega, fun e => by omega, fun _ => hc⟩
/-- every datum that was looked at is stored whole -/
theorem kDt_pu (hB : ∀ i, B0 i < 256) : ∀ D, kPu q n0 D (kDt q B0 n0 D) := by
  intro D
  induction D with
  | zero => intro x p p' _ _ h; cases h
  | succ D ih =>
    intro x p p' h1 h2 he B n off hn hat
    unfold kDt at he
    split at he
    · exact kDb_pu hB (kDt_go hB D) ih (p := (p.1, p.2.1, p.2.2.1 + 1, p.2.2.2)) h1 h2 he hn hat
    · cases he
end
