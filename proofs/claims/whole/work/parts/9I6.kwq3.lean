/-! PURE: what looking puts is stored data: lists, every datum -/
section
variable {q : kP} {B0 : Nat → Nat} {n0 : Nat}
theorem dropD {L : List Nat} {z i : Nat} : (L.drop z).getD i 0 = L.getD (z + i) 0 := by
  rw [List.getD_eq_getElem?_getD, List.getD_eq_getElem?_getD, List.getElem?_drop]
/-- what a list's clause says -/
def kLc (q : kP) (B : Nat → Nat) (n D x a e : Nat) : Prop := ∃ k a1, k ≤ 2000 ∧ kNu B n a (Int64.ofNat k) a1 ∧ (k = 0 → e = a1) ∧ (k ≠ 0 → ∃ f g : Nat → Nat, f 0 = a1 ∧ kNu B n (f k) 0 e ∧ ∀ i, i < k → (if q.2.1 0 x = 7 then kSs2 B n (f i) (g i) else g i = f i) ∧ kWq q B n D (kPx q x 0) (g i) (f (i + 1)))
theorem kFn_pu {D x z cnt : Nat} {p : kB} (hz : z ≤ p.2.2.2.length) (hc : cnt ≤ 2000) (hl : kLi q D x z cnt p.2.2.2) {B : Nat → Nat} {n off : Nat} (hn : off + (kFn z cnt p).2.2.2.length ≤ n) (hat : kAt B off z (kFn z cnt p).2.2.2) : kLc q B n D x (off + z) (off + (kFn z cnt p).2.2.2.length) := by
  obtain ⟨f, g, f0, f1, f2⟩ := hl
  have hv0 : kVb 0 = [0] := by decide +kernel
  have ht : (p.2.2.2.take z).length = z := by rw [List.length_take]; omega
  have hd : (p.2.2.2.drop z).length = p.2.2.2.length - z := List.length_drop
  by_cases h0 : cnt = 0
  · subst h0
    have hlz : p.2.2.2.length = z := by rw [← f1, ← f0]
    have eo : (kFn z 0 p).2.2.2 = p.2.2.2 ++ [0] := by
      show p.2.2.2.take z ++ ((if (0 : Nat) = 0 then [] else kVb (Int64.ofNat 0)) ++ (p.2.2.2.drop z ++ [0])) = _
      rw [if_pos rfl, ← hlz, List.take_length, List.drop_length]
      rfl
    rw [eo] at hn hat ⊢
    rw [List.length_append] at hn ⊢
    have hb := hat z (Nat.le_refl _) (by rw [List.length_append, hlz]; exact Nat.lt_succ_self _)
    rw [← hlz, getD_r (Nat.le_refl _), Nat.sub_self] at hb
    have hb : B (off + p.2.2.2.length) = 0 := hb
    refine ⟨0, off + z + 1, by omega, ?_, fun _ => ?_, fun e => absurd rfl e⟩
    · have := kNu_vb (B := B) (n := n) (a := off + z) (v := 0) (by rw [hv0]; show off + z + 1 ≤ n; rw [← hlz]; exact hn) (fun i hi => by
        rw [hv0] at hi ⊢
        have : i = 0 := by have : i < 1 := hi; omega
        subst this
        rw [← hlz]; exact hb)
      rw [hv0] at this
      exact this
    · rw [hlz]; rfl
  · have eo : (kFn z cnt p).2.2.2 = p.2.2.2.take z ++ (kVb (Int64.ofNat cnt) ++ (p.2.2.2.drop z ++ [0])) := by
      show p.2.2.2.take z ++ ((if cnt = 0 then [] else kVb (Int64.ofNat cnt)) ++ (p.2.2.2.drop z ++ [0])) = _
      rw [if_neg h0]
    rw [eo] at hn hat ⊢
    generalize hH : kVb (Int64.ofNat cnt) = H at *
    have hlen : (p.2.2.2.take z ++ (H ++ (p.2.2.2.drop z ++ [0]))).length = H.length + p.2.2.2.length + 1 := by
      rw [List.length_append, List.length_append, List.length_append, ht, hd]
      show z + (H.length + (p.2.2.2.length - z + 1)) = _
      omega
    rw [hlen] at hn ⊢
    have c1 : ∀ i, i < H.length → B (off + z + i) = H.getD i 0 := by
      intro i hi
      have := hat (z + i) (by omega) (by rw [hlen]; omega)
      rw [Nat.add_assoc, this, getD_r (by omega), ht, Nat.add_sub_cancel_left, getD_l hi]
    have c2 : kAt B (off + H.length) z p.2.2.2 := by
      intro i h1 h2
      have := hat (H.length + i) (by omega) (by rw [hlen]; omega)
      rw [Nat.add_assoc, this, getD_r (by omega), ht, getD_r (by omega), getD_l (by omega), dropD]
      congr 1
      omega
    have c3 : B (off + H.length + p.2.2.2.length) = 0 := by
      have := hat (H.length + p.2.2.2.length) (by omega) (by rw [hlen]; omega)
      rw [Nat.add_assoc, this, getD_r (by omega), ht, getD_r (by omega), getD_r (by omega), hd, show H.length + p.2.2.2.length - z - H.length - (p.2.2.2.length - z) = 0 by omega]
      rfl
    refine ⟨cnt, off + z + H.length, hc, ?_, fun e => absurd e h0, fun _ => ⟨fun i => off + H.length + f i, fun i => off + H.length + g i, ?_, ?_, fun i hi => ?_⟩⟩
    · have := kNu_vb (B := B) (n := n) (a := off + z) (v := Int64.ofNat cnt) (by rw [hH]; omega) (fun i hi => by rw [hH] at hi ⊢; exact c1 i hi)
      rw [hH] at this
      exact this
    · show off + H.length + f 0 = _
      rw [f0]; omega
    · show kNu B n (off + H.length + f cnt) 0 _
      have := kNu_vb (B := B) (n := n) (a := off + H.length + f cnt) (v := 0) (by rw [hv0, f1]; show off + H.length + p.2.2.2.length + 1 ≤ n; omega) (fun i hi => by
        rw [hv0] at hi ⊢
        have : i = 0 := by have : i < 1 := hi; omega
        subst this
        rw [f1]; exact c3)
      rw [hv0] at this
      rw [show off + (H.length + p.2.2.2.length + 1) = off + H.length + f cnt + [0].length by rw [f1]; show _ = _ + 1; omega]
      exact this
    · have := f2 B n (off + H.length) (by omega) c2 i hi
      refine ⟨?_, this.2⟩
      have h1 := this.1
      by_cases h7 : q.2.1 0 x = 7
      · rw [if_pos h7] at h1 ⊢; exact h1
      · rw [if_neg h7] at h1 ⊢
        show off + H.length + g i = off + H.length + f i
        rw [h1]
theorem kBl_pu {D : Nat} {rec : kDr} (hB : ∀ i, B0 i < 256) (hr : kRg n0 rec) (hp : kPu q n0 D rec) {x z : Nat} : ∀ f cnt p p', p.1 ≤ n0 → cnt ≤ p.2.1 → p.2.1 ≤ 2000 → z ≤ p.2.2.2.length → kLi q D x z cnt p.2.2.2 → kBl q B0 n0 rec x z f cnt p = .ok p' → ∀ B n off, off + p'.2.2.2.length ≤ n → kAt B off z p'.2.2.2 → kLc q B n D x (off + z) (off + p'.2.2.2.length)
  | 0, cnt, p, p', _, _, _, _, _, he => by cases he
  | f + 1, cnt, p, p', h1, h3, h4, h5, hl, he => by
    unfold kBl at he
    split at he
    · cases he
    · rename_i v a hv
      have hlv := kVr_len hB hv
      split at he
      · cases he
        intro B n off hn hat
        exact kFn_pu (p := (a, p.2)) h5 (by omega) hl hn hat
      · split at he
        · cases he
        · rename_i h2000
          split at he
          · cases he
          · rename_i w a2 hto
            have hto := kTo_go hB (by omega) hto
            split at he
            · cases he
            · rename_i p3 his
              have hg := kIs2_go hB hr _ _ _ (by show a2 ≤ n0; omega) (by show p.2.1 + v.toInt.natAbs ≤ 2000; omega) his
              have hli := kIs2_pu hB hr hp (z := z) v.toInt.natAbs cnt (a2, p.2.1 + v.toInt.natAbs, p.2.2) p3 (by show a2 ≤ n0; omega) (by show p.2.1 + v.toInt.natAbs ≤ 2000; omega) h5 hl his
              have g4 : p.2.2.2.length ≤ p3.2.2.2.length := hg.2.2.2.1
              have g6 : p.2.1 + v.toInt.natAbs ≤ p3.2.1 := hg.2.2.2.2.2.1
              have g8 : p.2.1 + v.toInt.natAbs ≤ 2000 → p3.2.1 ≤ 2000 := hg.2.2.2.2.2.2.2.1
              split at he
              · cases he
              · exact kBl_pu hB hr hp f (cnt + v.toInt.natAbs) p3 p' hg.2.1 (by omega) (g8 (by omega)) (by omega) hli he
end
