/-! a row told, on both sides -/
section
variable {A n b1 pb1 qb1 b2 pb2 qb2 m1 m2 c : Nat} {B : Nat → Nat} {q1 q2 : kP} {T1 T2 : Nat → Nat → Nat} {dW : Nat → Nat → List Nat} {s : aT}
/-- the lake's tell -/
theorem Te_tl (hdw : kDx q2 dW) (ht : lTc A B n c (pM3 s c)) (w1 : lW b1 pb1 qb1 q1 T1 m1 s) (w2 : lW b2 pb2 qb2 q2 T2 m2 s) (d : Nat) {D x y a e : Nat} {L M : List Nat} {b : Bool} (hl : L.length ≤ alen (c + 1)) (hx : x < q1.1 1) (hy : y < q2.1 1) (hD : D ≤ 32) (hk : kWq q1 B n D x a e) (hM : kTr q1 q2 dW B n D x y a e M b) : lTy 0 c (pM3 s c) (fTe_tell (2 * D + 22 + d) (nI (lo b1 x)) (nI (lo b2 y)) c (oT a (oB c L s))) L M b e := by
  have w1' : lW b1 pb1 qb1 q1 T1 m1 (pM3 s c) := lW_fr (fun _ _ _ _ => rfl) w1
  have w2' : lW b2 pb2 qb2 q2 T2 m2 (pM3 s c) := lW_fr (fun _ _ _ _ => rfl) w2
  have hd := Te_da hdw D d x y 0 a e L M b (pM3 s c) ht w1' w2' hl hx hy (by omega) hk hM
  have hs := lTy_s (z := 0) (z1 := 0 * 32) (G := fun v s => rI v s) (M := M) (b := b) (e := e) (by omega) hd (fun _ _ _ => rfl) (by
    cases b with
    | false => rw [if_neg (by decide)]; exact ⟨rfl, rfl⟩
    | true =>
      rw [if_pos rfl]
      refine ⟨[], by rw [List.append_nil], fun t' _ hl' => ?_⟩
      unfold lTy
      rw [if_pos (by exact hl'), if_pos rfl]
      exact ⟨t', lQ_r, by rw [List.append_nil]⟩)
  refine lTy_go hs (fun r hr => ?_)
  rw [show 2 * D + 22 + d = 2 * D + 21 + d + 1 by omega]
  exact eTe_tell (2 * D + 21 + d) _ _ c _ ht.2.2.1 _ hr
end
section
variable {m1 l1 n1 m2 l2 n2 n : Nat} {B : Nat → Nat} {q1 q2 : kP} {T1 T2 : Nat → Nat → Nat} {N1 N2 : Nat → Int} {s : aT} {dW : Nat → Nat → List Nat}
theorem mFl_24 {k : Nat} {u : aT} : gI (mFl k u) 67 24 = nI k := by
  show gI (pI (pI u 67 24 (nI k)) 67 25 0) 67 24 = nI k
  rw [gI_pI, if_neg (by omega), gI_pI, if_pos ⟨rfl, rfl⟩]
/-- the reference's tellRow -/
theorem Mo_row (hi : mTi B n s) (h1 : mW 91 q1 T1 N1 m1 l1 n1 s) (h2 : mW 113 q2 T2 N2 m2 l2 n2 s) (hdx : mDx T2 N2 m2 q2 dW) (d : Nat) {D x y a e : Nat} {M : List Nat} {b : Bool} (r1 : gI s 91 31 = nI x) (r2 : gI s 113 31 = nI y) (h22 : gI s 67 22 = 0) (h31 : gI s 67 31 = nI a) (hx : x < q1.1 1) (hy : y < q2.1 1) (hk : kWq q1 B n D x a e) (hM : kTr q1 q2 dW B n D x y a e M b) : if M.length ≤ 4096 then (if b = true then fMo_tellRow (3 * D + 53 + d) 4096 s = rI 0 (oNn e (oU M (pI s 67 32 (nI 4096)))) else ∃ a' L', fMo_tellRow (3 * D + 53 + d) 4096 s = rI (-20) (mFl 20 (oNn a' (oU L' (pI s 67 32 (nI 4096)))))) else ∃ a' L', fMo_tellRow (3 * D + 53 + d) 4096 s = rI (-31) (mFl 31 (oNn a' (oU L' (pI s 67 32 (nI 4096))))) := by
  have hR : mTo 4096 (pI s 67 32 (nI 4096)) := ⟨by rw [gI_pI, if_pos ⟨rfl, rfl⟩], by omega⟩
  have hi' : mTi B n (pI s 67 32 (nI 4096)) := ⟨hi.1, fun i h => by rw [gI_pI, if_neg (by omega)]; exact hi.2.1 i h, hi.2.2⟩
  have g1 : mW 91 q1 T1 N1 m1 l1 n1 (pI s 67 32 (nI 4096)) := mW_fr (fun k i a b => by rw [gI_pI, if_neg (by omega)]) (fun _ _ => rfl) h1
  have g2 : mW 113 q2 T2 N2 m2 l2 n2 (pI s 67 32 (nI 4096)) := mW_fr (fun k i a b => by rw [gI_pI, if_neg (by omega)]) (fun _ _ => rfl) h2
  have hd := Mo_tl hR hi' g1 g2 hdx D d x y a e [] M b hx hy (by show 0 ≤ 4096; omega) hk hM
  have es : oNn a (oU [] (pI s 67 32 (nI 4096))) = pI s 67 32 (nI 4096) := by
    refine aT_ext (fun k i => ?_) (fun _ _ => rfl) rfl
    by_cases h : k = 67 ∧ i = 31
    · obtain ⟨rfl, rfl⟩ := h
      rw [oNn_at, gI_pI, if_neg (by omega), h31]
    · rw [oNn_o (by omega), oU_I]
      by_cases h2 : k = 67 ∧ i = 22
      · obtain ⟨rfl, rfl⟩ := h2
        rw [if_pos ⟨rfl, rfl⟩, gI_pI, if_neg (by omega), h22]
        rfl
      · rw [if_neg h2, if_neg (by show ¬ (k = 144 ∧ i < 0); omega)]
  rw [es] at hd
  have go : ∀ r, cC (fMo_tell (3 * D + 52 + d) 91 (nI x) 113 (nI y) (pI s 67 32 (nI 4096))) (kV fun s2 => rI 0 s2) (fun s2 => rI (-(gI s2 67 24)) s2) = some r → fMo_tellRow (3 * D + 53 + d) 4096 s = some r := by
    intro r hr
    rw [show 3 * D + 53 + d = 3 * D + 52 + d + 1 by omega]
    refine eMo_tellRow (3 * D + 52 + d) _ _ _ ?_
    have e1 : gI (pI s 67 32 (nI 4096)) 91 31 = nI x := by rw [gI_pI, if_neg (by omega), r1]
    have e2 : gI (pI s 67 32 (nI 4096)) 113 31 = nI y := by rw [gI_pI, if_neg (by omega), r2]
    rw [wI_eq, h22, show (0 : Int32) + 4096 = nI 4096 from rfl, e1, e2]
    exact hr
  unfold mTl at hd
  rw [show ([] : List Nat).length + M.length = M.length from Nat.zero_add _] at hd
  by_cases hq : M.length ≤ 4096
  · rw [if_pos hq] at hd ⊢
    cases b with
    | true =>
      rw [if_pos rfl] at hd ⊢
      refine go _ ?_
      rw [hd, cC_V]
      rfl
    | false =>
      rw [if_neg (by decide)] at hd ⊢
      obtain ⟨a', L', hd⟩ := hd
      refine ⟨a', L', go _ ?_⟩
      rw [hd, cC_T, mFl_24]
      rfl
  · rw [if_neg hq] at hd ⊢
    obtain ⟨a', L', hd⟩ := hd
    refine ⟨a', L', go _ ?_⟩
    rw [hd, cC_T, mFl_24]
    rfl
end
