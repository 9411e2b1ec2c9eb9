/-! PURE: what looking puts is stored data -/
theorem ofN_of {v : Int64} (h : 0 ≤ v.toInt) : Int64.ofNat v.toInt.toNat = v := by
  apply Int64.toInt_inj.mp
  have h1 := Int64.toInt_lt v
  rw [Int64.toInt_ofNat_of_lt (by omega)]
  omega
theorem kTp_eq {B : Nat → Nat} {a : Nat} {L : List Nat} (h : ∀ i, i < L.length → B (a + i) = L.getD i 0) : kTp B a L.length = L := by
  apply List.ext_getElem?
  intro i
  unfold kTp
  rw [List.getElem?_map]
  by_cases h2 : i < L.length
  · rw [List.getElem?_range h2, List.getElem?_eq_getElem h2]
    show some (B (a + i)) = _
    rw [h i h2, List.getD_eq_getElem?_getD, List.getElem?_eq_getElem h2]
    rfl
  · rw [List.getElem?_eq_none (by rw [List.length_range]; omega), List.getElem?_eq_none (by omega)]
    rfl
theorem kNu_vb {B : Nat → Nat} {n a : Nat} {v : Int64} (hn : a + (kVb v).length ≤ n) (h : ∀ i, i < (kVb v).length → B (a + i) = (kVb v).getD i 0) : kNu B n a v (a + (kVb v).length) :=
  ⟨kVr_vb hn h, by rw [Nat.add_sub_cancel_left]; exact kTp_eq h⟩
/-- the letters of L from place k on stand at off -/
def kAt (B : Nat → Nat) (off k : Nat) (L : List Nat) : Prop := ∀ i, k ≤ i → i < L.length → B (off + i) = L.getD i 0
theorem kAt_app {B : Nat → Nat} {off : Nat} {L M : List Nat} (h : kAt B off L.length (L ++ M)) : ∀ i, i < M.length → B (off + L.length + i) = M.getD i 0 := by
  intro i hi
  have := h (L.length + i) (by omega) (by rw [List.length_append]; omega)
  rw [Nat.add_assoc, this, List.getD_eq_getElem?_getD, List.getElem?_append_right (by omega), Nat.add_sub_cancel_left, ← List.getD_eq_getElem?_getD]
theorem kAt_take {B : Nat → Nat} {off k : Nat} {L M : List Nat} (h : kAt B off k M) (ht : M.take L.length = L) (hl : L.length ≤ M.length) : kAt B off k L := by
  intro i h1 h2
  rw [h i h1 (by omega)]
  rw [← ht, List.getD_eq_getElem?_getD, List.getD_eq_getElem?_getD, List.getElem?_take, if_pos h2]
theorem kAt_up {B : Nat → Nat} {off k k' : Nat} {L : List Nat} (h : kAt B off k L) (hk : k ≤ k') : kAt B off k' L := fun i h1 h2 => h i (by omega) h2
section
variable {q : kP} {B0 : Nat → Nat} {n0 : Nat}
/-- what a reading puts is a datum -/
def kPu (q : kP) (n0 D : Nat) (rec : kDr) : Prop := ∀ x p p', p.1 ≤ n0 → p.2.1 ≤ 2000 → rec x p = .ok p' → ∀ B n off, off + p'.2.2.2.length ≤ n → kAt B off p.2.2.2.length p'.2.2.2 → kWq q B n D x (off + p.2.2.2.length) (off + p'.2.2.2.length)
theorem kSt_pu {p p' : kB} (he : kSt B0 n0 p = .ok p') {B : Nat → Nat} {n off : Nat} (hn : off + p'.2.2.2.length ≤ n) (h : kAt B off p.2.2.2.length p'.2.2.2) : kSs2 B n (off + p.2.2.2.length) (off + p'.2.2.2.length) := by
  unfold kSt at he
  split at he
  · cases he
  · rename_i v a hv
    split at he
    · cases he
    · split at he
      · cases he
        have h2 := kAt_app h
        rw [List.length_append, List.length_append, kTp_len] at hn
        refine ⟨v, off + p.2.2.2.length + (kVb v).length, kNu_vb (by omega) (fun i hi => ?_), by omega, ?_, ?_⟩
        · rw [h2 i (by rw [List.length_append]; omega), List.getD_eq_getElem?_getD, List.getElem?_append_left hi, ← List.getD_eq_getElem?_getD]
        · rw [List.length_append, List.length_append, kTp_len]; omega
        · rw [List.length_append, List.length_append, kTp_len]; omega
      · cases he
theorem kFs_pu {D : Nat} {rec : kDr} (hr : kRg n0 rec) (hp : kPu q n0 D rec) {x : Nat} : ∀ k i p p', p.1 ≤ n0 → p.2.1 ≤ 2000 → kFs q rec x k i p = .ok p' → ∃ f : Nat → Nat, f i = p.2.2.2.length ∧ f (i + k) = p'.2.2.2.length ∧ ∀ B n off, off + p'.2.2.2.length ≤ n → kAt B off p.2.2.2.length p'.2.2.2 → ∀ j, i ≤ j → j < i + k → kWq q B n D (kPx q x j) (off + f j) (off + f (j + 1))
  | 0, i, p, p', h, _, he => by
    cases he
    exact ⟨fun _ => p.2.2.2.length, rfl, rfl, fun B n off _ _ j h1 h2 => by omega⟩
  | k + 1, i, p, p', h, h2, he => by
    unfold kFs at he
    split at he
    · cases he
    · rename_i p1 h1
      have g1 := hr _ _ _ h h2 h1
      have h2' := g1.2.2.2.2.2.2.2.1 h2
      have g2 := kFs_go hr k (i + 1) p1 p' g1.2.1 h2' he
      obtain ⟨f, f0, f1, f2⟩ := kFs_pu hr hp k (i + 1) p1 p' g1.2.1 h2' he
      have l1 := g1.2.2.2.1
      have l2 := g2.2.2.2.1
      have t2 := g2.2.2.2.2.1
      refine ⟨fun j => if j = i then p.2.2.2.length else f j, if_pos rfl, ?_, fun B n off hn hat j hj1 hj2 => ?_⟩
      · show (if i + (k + 1) = i then _ else f (i + (k + 1))) = _
        rw [if_neg (by omega), show i + (k + 1) = i + 1 + k by omega, f1]
      · by_cases hj : j = i
        · show kWq q B n D (kPx q x j) (off + (if j = i then _ else f j)) (off + (if j + 1 = i then _ else f (j + 1)))
          rw [if_pos hj, if_neg (by omega), hj, f0]
          exact hp _ _ _ h h2 h1 B n off (by omega) (kAt_take hat t2 l2)
        · show kWq q B n D (kPx q x j) (off + (if j = i then _ else f j)) (off + (if j + 1 = i then _ else f (j + 1)))
          rw [if_neg hj, if_neg (by omega)]
          exact f2 B n off hn (kAt_up hat l1) j (by omega) (by omega)
/-- items that stand from place z on -/
def kLi (q : kP) (D x z cnt : Nat) (L : List Nat) : Prop := ∃ f g : Nat → Nat, f 0 = z ∧ f cnt = L.length ∧ ∀ B n off, off + L.length ≤ n → kAt B off z L → ∀ i, i < cnt → (if q.2.1 0 x = 7 then kSs2 B n (off + f i) (off + g i) else g i = f i) ∧ kWq q B n D (kPx q x 0) (off + g i) (off + f (i + 1))
theorem kIm_pu {D : Nat} {rec : kDr} (hB : ∀ i, B0 i < 256) (hr : kRg n0 rec) (hp : kPu q n0 D rec) {x z cnt : Nat} {p p' : kB} (h : p.1 ≤ n0) (h2 : p.2.1 ≤ 2000) (hz : z ≤ p.2.2.2.length) (hl : kLi q D x z cnt p.2.2.2) (he : kIm q B0 n0 rec x p = .ok p') : kLi q D x z (cnt + 1) p'.2.2.2 := by
  have hg := kIm_go hB hr h h2 he
  obtain ⟨f, g, f0, f1, f2⟩ := hl
  have l1 := hg.2.2.2.1
  have t1 := hg.2.2.2.2.1
  unfold kIm at he
  split at he
  · rename_i h7
    split at he
    · cases he
    · rename_i p1 hs
      have gs := kSt_go hB hs
      have gr := hr _ _ _ gs.2.1 (gs.2.2.2.2.2.2.2.1 h2) he
      refine ⟨fun j => if j = cnt + 1 then p'.2.2.2.length else f j, fun j => if j = cnt then p1.2.2.2.length else g j, ?_, if_pos rfl, fun B n off hn hat i hi => ?_⟩
      · show (if 0 = cnt + 1 then _ else f 0) = z
        rw [if_neg (by omega)]; exact f0
      · show (if q.2.1 0 x = 7 then kSs2 B n (off + (if i = cnt + 1 then _ else f i)) (off + (if i = cnt then _ else g i)) else (if i = cnt then _ else g i) = (if i = cnt + 1 then _ else f i)) ∧ kWq q B n D (kPx q x 0) (off + (if i = cnt then _ else g i)) (off + (if i + 1 = cnt + 1 then _ else f (i + 1)))
        have hat1 : kAt B off z p1.2.2.2 := kAt_take hat gr.2.2.2.2.1 gr.2.2.2.1
        have la := gs.2.2.2.1
        have lb := gr.2.2.2.1
        by_cases hc : i = cnt
        · rw [if_pos hc, if_neg (show ¬ i = cnt + 1 by omega), if_pos (show i + 1 = cnt + 1 by omega), if_pos h7, hc, f1]
          exact ⟨kSt_pu hs (by omega) (kAt_up hat1 hz), hp _ _ _ gs.2.1 (gs.2.2.2.2.2.2.2.1 h2) he B n off hn (kAt_up hat (by omega))⟩
        · rw [if_neg hc, if_neg (show ¬ i = cnt + 1 by omega), if_neg (show ¬ i + 1 = cnt + 1 by omega)]
          exact f2 B n off (by omega) (kAt_take hat t1 l1) i (by omega)
  · rename_i h7
    refine ⟨fun j => if j = cnt + 1 then p'.2.2.2.length else f j, fun j => if j = cnt then p.2.2.2.length else g j, ?_, if_pos rfl, fun B n off hn hat i hi => ?_⟩
    · show (if 0 = cnt + 1 then _ else f 0) = z
      rw [if_neg (by omega)]; exact f0
    · show (if q.2.1 0 x = 7 then kSs2 B n (off + (if i = cnt + 1 then _ else f i)) (off + (if i = cnt then _ else g i)) else (if i = cnt then _ else g i) = (if i = cnt + 1 then _ else f i)) ∧ kWq q B n D (kPx q x 0) (off + (if i = cnt then _ else g i)) (off + (if i + 1 = cnt + 1 then _ else f (i + 1)))
      by_cases hc : i = cnt
      · rw [if_pos hc, if_neg (show ¬ i = cnt + 1 by omega), if_pos (show i + 1 = cnt + 1 by omega), if_neg h7, hc, f1]
        exact ⟨rfl, hp _ _ _ h h2 he B n off hn (kAt_up hat hz)⟩
      · rw [if_neg hc, if_neg (show ¬ i = cnt + 1 by omega), if_neg (show ¬ i + 1 = cnt + 1 by omega)]
        exact f2 B n off (by omega) (kAt_take hat t1 l1) i (by omega)
theorem kIs2_pu {D : Nat} {rec : kDr} (hB : ∀ i, B0 i < 256) (hr : kRg n0 rec) (hp : kPu q n0 D rec) {x z : Nat} : ∀ k cnt p p', p.1 ≤ n0 → p.2.1 ≤ 2000 → z ≤ p.2.2.2.length → kLi q D x z cnt p.2.2.2 → kIs2 q B0 n0 rec x k p = .ok p' → kLi q D x z (cnt + k) p'.2.2.2
  | 0, cnt, p, p', _, _, _, hl, he => by cases he; exact hl
  | k + 1, cnt, p, p', h, h2, hz, hl, he => by
    unfold kIs2 at he
    split at he
    · cases he
    · rename_i p1 h1
      have g1 := kIm_go hB hr h h2 h1
      have := kIs2_pu hB hr hp k (cnt + 1) p1 p' g1.2.1 (g1.2.2.2.2.2.2.2.1 h2) (Nat.le_trans hz g1.2.2.2.1) (kIm_pu hB hr hp h h2 hz hl h1) he
      rw [show cnt + (k + 1) = cnt + 1 + k by omega]
      exact this
end
