/-! PURE: looking at a row: data -/
/-- where we are; items; data; what is put -/
abbrev kB : Type := Nat × Nat × Nat × List Nat
abbrev kBe : Type := Except (Nat × Nat) kB
/-- letters of the tape -/
def kTp (B : Nat → Nat) (a k : Nat) : List Nat := (List.range k).map (fun i => B (a + i))
theorem kTp_len {B : Nat → Nat} {a k : Nat} : (kTp B a k).length = k := by unfold kTp; rw [List.length_map, List.length_range]
/-- k letters as they are -/
def kPs (B : Nat → Nat) (n k : Nat) (p : kB) : kBe := if k ≤ n - p.1 then .ok (p.1 + k, p.2.1, p.2.2.1, p.2.2.2 ++ kTp B p.1 k) else .error (1, n)
/-- counted letters -/
def kSt (B : Nat → Nat) (n : Nat) (p : kB) : kBe :=
  match kVr B n p.1 with
  | .error e => .error e
  | .ok (v, a) => if v.toInt < 0 then .error (6, p.1) else if v.toInt ≤ (n - a : Nat) then .ok (a + v.toInt.toNat, p.2.1, p.2.2.1, p.2.2.2 ++ (kVb v ++ kTp B a v.toInt.toNat)) else .error (1, n)
/-- a number among k -/
def kCh (B : Nat → Nat) (n k code : Nat) (p : kB) : Except (Nat × Nat) (kB × Nat) :=
  match kVr B n p.1 with
  | .error e => .error e
  | .ok (v, a) => if v.toInt < 0 ∨ (k : Int) ≤ v.toInt then .error (code, p.1) else .ok ((a, p.2.1, p.2.2.1, p.2.2.2 ++ kVb v), v.toInt.toNat)
abbrev kDr : Type := Nat → kB → kBe
def kFs (q : kP) (rec : kDr) (x : Nat) : Nat → Nat → kB → kBe
  | 0, _, p => .ok p
  | k + 1, i, p => match rec (q.2.2 1 x i - 1) p with
    | .error e => .error e
    | .ok p1 => kFs q rec x k (i + 1) p1
/-- one item -/
def kIm (q : kP) (B : Nat → Nat) (n : Nat) (rec : kDr) (x : Nat) (p : kB) : kBe :=
  if q.2.1 0 x = 7 then (match kSt B n p with
    | .error e => .error e
    | .ok p1 => rec (q.2.2 1 x 0 - 1) p1)
  else rec (q.2.2 1 x 0 - 1) p
def kIs2 (q : kP) (B : Nat → Nat) (n : Nat) (rec : kDr) (x : Nat) : Nat → kB → kBe
  | 0, p => .ok p
  | k + 1, p => match kIm q B n rec x p with
    | .error e => .error e
    | .ok p1 => kIs2 q B n rec x k p1
/-- how many bytes a block is told to have (one of negative count) -/
def kTo (B : Nat → Nat) (n : Nat) (v : Int64) (a : Nat) : Except (Nat × Nat) (Int64 × Nat) := if v.toInt < 0 then kVr B n a else .ok (v, a)
/-- a list's count and end -/
def kFn (z cnt : Nat) (p : kB) : kB := (p.1, p.2.1, p.2.2.1, p.2.2.2.take z ++ ((if cnt = 0 then [] else kVb (Int64.ofNat cnt)) ++ (p.2.2.2.drop z ++ [0])))
def kBl (q : kP) (B : Nat → Nat) (n : Nat) (rec : kDr) (x z : Nat) : Nat → Nat → kB → kBe
  | 0, _, p => .error (6, p.1)
  | f + 1, cnt, p =>
    match kVr B n p.1 with
    | .error e => .error e
    | .ok (v, a) =>
      if v.toInt = 0 then .ok (kFn z cnt (a, p.2))
      else if 2000 < p.2.1 + v.toInt.natAbs then .error (6, p.1)
      else match kTo B n v a with
        | .error e => .error e
        | .ok (w, a2) => match kIs2 q B n rec x v.toInt.natAbs (a2, p.2.1 + v.toInt.natAbs, p.2.2) with
          | .error e => .error e
          | .ok p3 => if v.toInt < 0 ∧ w.toInt ≠ ((p3.1 - a2 : Nat) : Int) then .error (6, a) else kBl q B n rec x z f (cnt + v.toInt.natAbs) p3
def kDb (q : kP) (B : Nat → Nat) (n : Nat) (rec : kDr) (x : Nat) (p : kB) : kBe :=
  if q.2.1 0 x = 0 then .ok p
  else if q.2.1 0 x = 1 then (if p.1 < n then (if B p.1 ≤ 1 then .ok (p.1 + 1, p.2.1, p.2.2.1, p.2.2.2 ++ [B p.1]) else .error (3, p.1)) else .error (1, n))
  else if q.2.1 0 x = 2 ∨ q.2.1 0 x = 3 then (match kVr B n p.1 with
    | .error e => .error e
    | .ok (v, a) => if q.2.1 0 x = 2 ∧ ¬ (-2147483648 ≤ v.toInt ∧ v.toInt ≤ 2147483647) then .error (2, p.1) else .ok (a, p.2.1, p.2.2.1, p.2.2.2 ++ kVb v))
  else if q.2.1 0 x = 4 ∨ q.2.1 0 x = 5 then kSt B n p
  else if q.2.1 0 x = 8 then (match kCh B n (q.2.1 4 x) 4 p with
    | .error e => .error e
    | .ok (p1, i) => rec (q.2.2 1 x i - 1) p1)
  else if q.2.1 0 x = 9 then kPs B n (q.2.1 8 x - 1) p
  else if q.2.1 0 x = 10 then (match kCh B n (q.2.1 4 x) 5 p with
    | .error e => .error e
    | .ok (p1, _) => .ok p1)
  else if q.2.1 0 x = 11 then kFs q rec x (q.2.1 4 x) 0 p
  else kBl q B n rec x p.2.2.2.length 2001 0 p
/-- a datum, at most D deep -/
def kDt (q : kP) (B : Nat → Nat) (n : Nat) : Nat → kDr
  | 0, _, p => .error (7, p.1)
  | D + 1, x, p => if p.2.2.1 < 4000 then kDb q B n (kDt q B n D) x (p.1, p.2.1, p.2.2.1 + 1, p.2.2.2) else .error (8, p.1)
/-- what is put is no longer than what was looked at -/
def kGo (n : Nat) (p p' : kB) : Prop := p.1 ≤ p'.1 ∧ p'.1 ≤ n ∧ p'.2.2.2.length + p.1 ≤ p.2.2.2.length + p'.1 ∧ p.2.2.2.length ≤ p'.2.2.2.length ∧ p'.2.2.2.take p.2.2.2.length = p.2.2.2 ∧ p.2.1 ≤ p'.2.1 ∧ p.2.2.1 ≤ p'.2.2.1 ∧ (p.2.1 ≤ 2000 → p'.2.1 ≤ 2000) ∧ (p.2.2.1 ≤ 4000 → p'.2.2.1 ≤ 4000) ∧ (kBt p.2.2.2 → kBt p'.2.2.2)
theorem kVu_b : ∀ k u, kBt (kVu k u)
  | 0, _ => kBt_n
  | k + 1, u => by
    unfold kVu
    split
    · exact kBt_1 (by omega)
    · exact fun y hy => by
        rcases List.mem_cons.mp hy with e | e
        · omega
        · exact kVu_b k (u / 128) y e
theorem kBt_vb (v : Int64) : kBt (kVb v) := kVu_b 10 _
theorem kBt_tp {B : Nat → Nat} {a k : Nat} (hB : ∀ i, B i < 256) : kBt (kTp B a k) := by
  intro y hy
  unfold kTp at hy
  rcases List.mem_map.mp hy with ⟨i, _, rfl⟩
  exact hB _
theorem kBt_tk {L : List Nat} {z : Nat} (h : kBt L) : kBt (L.take z) := fun y hy => h y (List.mem_of_mem_take hy)
theorem kBt_dr {L : List Nat} {z : Nat} (h : kBt L) : kBt (L.drop z) := fun y hy => h y (List.mem_of_mem_drop hy)
section
variable {q : kP} {B : Nat → Nat} {n : Nat}
theorem kGo_refl {p : kB} (h : p.1 ≤ n) : kGo n p p := ⟨Nat.le_refl _, h, Nat.le_refl _, Nat.le_refl _, List.take_length, Nat.le_refl _, Nat.le_refl _, fun h => h, fun h => h, fun h => h⟩
theorem kGo_tr {p p1 p2 : kB} (h : kGo n p p1) (g : kGo n p1 p2) : kGo n p p2 := by
  obtain ⟨a1, a2, a3, a4, a5, a6, a7, a8, a9, a10⟩ := h
  obtain ⟨b1, b2, b3, b4, b5, b6, b7, b8, b9, b10⟩ := g
  refine ⟨by omega, b2, by omega, by omega, ?_, by omega, by omega, fun h => b8 (a8 h), fun h => b9 (a9 h), fun h => b10 (a10 h)⟩
  have : p2.2.2.2.take p.2.2.2.length = (p2.2.2.2.take p1.2.2.2.length).take p.2.2.2.length := by rw [List.take_take, Nat.min_eq_left a4]
  rw [this, b5, a5]
theorem kGo_app {p : kB} {a : Nat} {L : List Nat} (h1 : p.1 ≤ a) (h2 : a ≤ n) (h3 : L.length + p.1 ≤ a) (hb : kBt L) : kGo n p (a, p.2.1, p.2.2.1, p.2.2.2 ++ L) := by
  refine ⟨h1, h2, ?_, ?_, ?_, Nat.le_refl _, Nat.le_refl _, fun h => h, fun h => h, fun h => kBt_a h hb⟩
  · show (p.2.2.2 ++ L).length + p.1 ≤ p.2.2.2.length + a
    rw [List.length_append]; omega
  · show p.2.2.2.length ≤ (p.2.2.2 ++ L).length
    rw [List.length_append]; omega
  · show (p.2.2.2 ++ L).take p.2.2.2.length = p.2.2.2
    rw [List.take_left]
theorem kPs_go (hB : ∀ i, B i < 256) {k : Nat} {p p' : kB} (h : p.1 ≤ n) (he : kPs B n k p = .ok p') : kGo n p p' := by
  unfold kPs at he
  split at he
  · cases he
    exact kGo_app (by omega) (by omega) (by rw [kTp_len]; omega) (kBt_tp hB)
  · cases he
theorem kSt_go (hB : ∀ i, B i < 256) {p p' : kB} (he : kSt B n p = .ok p') : kGo n p p' := by
  unfold kSt at he
  split at he
  · cases he
  · rename_i v a hv
    have hl := kVr_len hB hv
    split at he
    · cases he
    · split at he
      · cases he
        exact kGo_app (by omega) (by omega) (by rw [List.length_append, kTp_len]; omega) (kBt_a (kBt_vb v) (kBt_tp hB))
      · cases he
theorem kCh_go (hB : ∀ i, B i < 256) {k code i : Nat} {p p' : kB} (he : kCh B n k code p = .ok (p', i)) : kGo n p p' ∧ i < k := by
  unfold kCh at he
  split at he
  · cases he
  · rename_i v a hv
    have hl := kVr_len hB hv
    split at he
    · cases he
    · rename_i hr
      cases he
      exact ⟨kGo_app (by omega) (by omega) (by omega) (kBt_vb v), by omega⟩
def kRg (n : Nat) (rec : kDr) : Prop := ∀ x p p', p.1 ≤ n → p.2.1 ≤ 2000 → rec x p = .ok p' → kGo n p p'
theorem kFs_go {rec : kDr} (hr : kRg n rec) {x : Nat} : ∀ k i p p', p.1 ≤ n → p.2.1 ≤ 2000 → kFs q rec x k i p = .ok p' → kGo n p p'
  | 0, i, p, p', h, _, he => by cases he; exact kGo_refl h
  | k + 1, i, p, p', h, h2, he => by
    unfold kFs at he
    split at he
    · cases he
    · rename_i p1 h1
      have g1 := hr _ _ _ h h2 h1
      exact kGo_tr g1 (kFs_go hr k (i + 1) p1 p' g1.2.1 (g1.2.2.2.2.2.2.2.1 h2) he)
theorem kIm_go (hB : ∀ i, B i < 256) {rec : kDr} (hr : kRg n rec) {x : Nat} {p p' : kB} (h : p.1 ≤ n) (h2 : p.2.1 ≤ 2000) (he : kIm q B n rec x p = .ok p') : kGo n p p' := by
  unfold kIm at he
  split at he
  · split at he
    · cases he
    · rename_i p1 h1
      have g1 := kSt_go hB h1
      exact kGo_tr g1 (hr _ _ _ g1.2.1 (g1.2.2.2.2.2.2.2.1 h2) he)
  · exact hr _ _ _ h h2 he
theorem kIs2_go (hB : ∀ i, B i < 256) {rec : kDr} (hr : kRg n rec) {x : Nat} : ∀ k p p', p.1 ≤ n → p.2.1 ≤ 2000 → kIs2 q B n rec x k p = .ok p' → kGo n p p'
  | 0, p, p', h, _, he => by cases he; exact kGo_refl h
  | k + 1, p, p', h, h2, he => by
    unfold kIs2 at he
    split at he
    · cases he
    · rename_i p1 h1
      have g1 := kIm_go hB hr h h2 h1
      exact kGo_tr g1 (kIs2_go hB hr k p1 p' g1.2.1 (g1.2.2.2.2.2.2.2.1 h2) he)
def kHd (cnt : Nat) : Nat := if cnt = 0 then 0 else (kVb (Int64.ofNat cnt)).length
theorem kHd_2 {cnt : Nat} (h : cnt ≤ 2000) : kHd cnt ≤ 2 ∧ (cnt ≤ 63 → kHd cnt ≤ 1) := by
  unfold kHd
  split
  · omega
  · exact ⟨kVb_n (t := 2) (by omega) (by omega) (by omega), fun h => kVb_n (t := 1) (by omega) (by omega) (by omega)⟩
theorem kVb_pos (v : Int64) : 0 < (kVb v).length := by
  unfold kVb
  show 0 < (kVu (9 + 1) _).length
  unfold kVu
  split
  · exact Nat.zero_lt_one
  · rw [List.length_cons]; omega
theorem kTo_go (hB : ∀ i, B i < 256) {v w : Int64} {a a2 : Nat} (ha : a ≤ n) (h : kTo B n v a = .ok (w, a2)) : a ≤ a2 ∧ a2 ≤ n ∧ (v.toInt < 0 → a < a2) := by
  unfold kTo at h
  split at h
  · have := kVr_len hB h
    omega
  · rename_i hn
    cases h
    exact ⟨Nat.le_refl _, ha, fun h => absurd h hn⟩
theorem kHd_one {v : Int64} {a0 a a2 cnt : Nat} (hv : (kVb v).length + a0 ≤ a) (h2 : a ≤ a2) (h3 : v.toInt < 0 → a < a2) (hc : cnt + v.toInt.natAbs ≤ 2000) (h0 : v.toInt ≠ 0) : kHd (cnt + v.toInt.natAbs) + a0 ≤ kHd cnt + a2 := by
  have hp := kVb_pos v
  by_cases hc0 : cnt = 0
  · subst hc0
    have e0 : kHd 0 = 0 := rfl
    rw [Nat.zero_add, e0]
    have h2' := (kHd_2 (cnt := v.toInt.natAbs) (by omega)).1
    by_cases hn : v.toInt < 0
    · have := h3 hn
      omega
    · have e : Int64.ofNat v.toInt.natAbs = v := by
        apply Int64.toInt_inj.mp
        rw [Int64.toInt_ofNat_of_lt (by omega)]
        omega
      unfold kHd
      rw [if_neg (by omega), e]
      omega
  · have h1 : 1 ≤ kHd cnt := by
      unfold kHd
      rw [if_neg hc0]
      exact kVb_pos _
    have h2' := (kHd_2 (cnt := cnt + v.toInt.natAbs) hc).1
    omega
end
