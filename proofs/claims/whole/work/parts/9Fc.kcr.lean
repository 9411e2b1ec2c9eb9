/-! PURE: a plain form's letters are bytes -/
def kBt (L : List Nat) : Prop := ∀ y, y ∈ L → y < 256
theorem kBt_a {L M : List Nat} (h : kBt L) (g : kBt M) : kBt (L ++ M) := fun y hy => by
  rcases List.mem_append.mp hy with e | e
  · exact h y e
  · exact g y e
theorem kBt_n : kBt [] := fun y hy => by cases hy
theorem kBt_1 {a : Nat} (h : a < 256) : kBt [a] := fun y hy => by
  rw [List.mem_singleton] at hy
  omega
theorem kBt_q {W : List Nat} (h : kBt W) : kBt (kQt W) := fun y hy => by
  unfold kQt at hy
  rcases List.mem_cons.mp hy with e | e
  · omega
  · exact kBt_a h (kBt_1 (by omega)) y e
theorem kBt_w (k : Nat) : kBt (kWs k) := by
  by_cases h : k < 20
  · have : ∀ k, k < 20 → ∀ y ∈ kWs k, y < 256 := by decide
    exact this k h
  · have e : kWs k = [] := by
      unfold kWs
      repeat rw [if_neg (by omega)]
    rw [e]
    exact kBt_n
theorem kBt_p (k : Nat) : kBt (kPw k) := by
  by_cases h : k < 32
  · have : ∀ k, k < 32 → ∀ y ∈ kPw k, y < 256 := by decide
    exact this k h
  · have e : kPw k = [] := by
      unfold kPw
      repeat rw [if_neg (by omega)]
    rw [e]
    exact kBt_n
theorem kBt_c {k : Nat} : kBt (if k = 0 then [] else [44]) := by
  split
  · exact kBt_n
  · exact kBt_1 (by omega)
section
variable {T : Nat → Nat → Nat} {q : kP} {m : Nat}
theorem kPlU_b {rec : Nat → Nat → List Nat × Nat} {x : Nat} {f : Nat → Nat} : ∀ k i, (∀ j, i ≤ j → j < i + k → kBt (rec (q.2.2 1 x j - 1) (f j)).1 ∧ (rec (q.2.2 1 x j - 1) (f j)).2 = f (j + 1)) → kBt (kPlU q rec x k i (f i)).1
  | 0, i, _ => kBt_n
  | k + 1, i, h => by
    obtain ⟨h1, h2⟩ := h i (Nat.le_refl _) (by omega)
    have ih := kPlU_b (rec := rec) (f := f) k (i + 1) (fun j a b => h j (by omega) (by omega))
    unfold kPlU
    rw [h2]
    exact kBt_a h1 (kBt_a kBt_c ih)
theorem kPlY_b {x : Nat} : ∀ k i, (∀ j, i ≤ j → j < i + k → kBt (kLe T (q.2.2 2 x j - 1))) → kBt (kPlY T q x k i)
  | 0, i, _ => kBt_n
  | k + 1, i, h => by
    have h1 := h i (Nat.le_refl _) (by omega)
    have ih := kPlY_b k (i + 1) (fun j a b => h j (by omega) (by omega))
    unfold kPlY
    exact kBt_a (kBt_q h1) (kBt_a kBt_c ih)
theorem kPlF_b {rec : Nat → Nat → List Nat × Nat} {x : Nat} {f : Nat → Nat} : ∀ k i, (∀ j, i ≤ j → j < i + k → kBt (kLe T (q.2.2 2 x j - 1)) ∧ kBt (rec (q.2.2 1 x j - 1) (f j)).1 ∧ (rec (q.2.2 1 x j - 1) (f j)).2 = f (j + 1)) → kBt (kPlF T q rec x k i (f i)).1
  | 0, i, _ => kBt_n
  | k + 1, i, h => by
    obtain ⟨h0, h1, h2⟩ := h i (Nat.le_refl _) (by omega)
    have ih := kPlF_b (rec := rec) (f := f) k (i + 1) (fun j a b => h j (by omega) (by omega))
    unfold kPlF
    rw [h2]
    exact kBt_a (kBt_a (kBt_p 26) (kBt_a (kBt_q h0) (kBt_a (kBt_p 27) (kBt_a h1 (kBt_1 (by omega)))))) (kBt_a kBt_c ih)
theorem kBt_le {v : Nat} (h : ∀ i, i < T 2 v → T 6 (T 5 v + i) < 256) : kBt (kLe T v) := by
  intro y hy
  unfold kLe at hy
  rcases List.mem_map.mp hy with ⟨i, hi, rfl⟩
  exact h i (List.mem_range.mp hi)
theorem kPl_b (hI : kIv T m q) (hT : ∀ v i, v < m → T 0 v = 2 → i < T 2 v → T 6 (T 5 v + i) < 256) : ∀ D x c c', 6 ≤ c → c' ≤ q.1 1 → kOc q (kTt q D) x c c' → kBt (kPl T q D x c).1 := by
  have hN : ∀ x, 6 ≤ x → x < q.1 1 → 9 ≤ q.2.1 0 x → kBt (kLe T (q.2.1 1 x - 1)) := fun x h6 hx h9 => by
    rcases (hI.2.2.1 x h6 hx).2.1 with hs | ⟨_, h1, h2, h3, h4⟩
    · omega
    · exact kBt_le (fun i hi => hT _ i (by omega) (kNam_w h3).1 hi)
  have hM : ∀ x i, 6 ≤ x → x < q.1 1 → 10 ≤ q.2.1 0 x → i < q.2.1 4 x → kBt (kLe T (q.2.2 2 x i - 1)) := fun x i h6 hx h10 hi => by
    rcases (hI.2.2.2.1 x i h6 hx hi).2.2.2.2.2 with hs | ⟨_, h1, h2, h3, h4⟩
    · omega
    · exact kBt_le (fun i hi => hT _ i (by omega) (kNam_w h3).1 hi)
  have old : ∀ D x c, x < c → c ≤ q.1 1 → (x < 6 ∨ 9 ≤ q.2.1 0 x) → kBt (kPl T q D x c).1 := fun D x c h1 h2 h3 => by
    rw [kPl_old h1]
    split
    · exact kBt_q (kBt_w x)
    · exact kBt_q (hN x (by omega) (by omega) (by omega))
  intro D
  induction D with
  | zero =>
    intro x c c' h6 hc h
    rcases h with ⟨g1, g2, g3⟩ | ⟨g1, g2⟩
    · exact old 0 x c g1 (by omega) g3
    · exact g2.elim
  | succ D ih =>
    intro x c c' h6 hc h
    rcases h with ⟨g1, g2, g3⟩ | ⟨g1, g2⟩
    · exact old _ x c g1 (by omega) g3
    · subst g1
      have hlt := kTt_lt _ _ _ g2
      have hnd := g2.1
      have hK := (hI.2.2.1 x h6 (by omega)).1
      rw [kPl_new h6 (by omega)]
      have hpn : ∀ W, 9 ≤ q.2.1 0 x → kBt W → kBt (kPln T q x W) := fun W h9 hW => kBt_a (kBt_p 26) (kBt_a (kBt_q (hN x h6 (by omega) h9)) (kBt_a (kBt_p 27) (kBt_a (kBt_q (kBt_w _)) (kBt_a hW (kBt_1 (by omega))))))
      unfold kPlB
      rcases kTt_b g2 with ⟨hk, he⟩ | ⟨hk, f, f0, f1, f2, f3⟩
      · rw [if_neg (show ¬ (q.2.1 0 x = 6 ∨ q.2.1 0 x = 7) by omega), if_neg (show ¬ q.2.1 0 x = 8 by omega)]
        rcases hk with hk | hk
        · rw [if_pos hk]
          refine hpn _ (by omega) (kBt_a (kBt_p 28) ?_)
          have h865 := (hI.2.2.1 x h6 (by omega)).2.2.2.2.2.2.1
          unfold kDg
          split
          · exact fun y hy => by
              simp at hy
              omega
          · exact kBt_1 (by omega)
        · rw [if_neg (show ¬ q.2.1 0 x = 9 by omega), if_pos hk]
          exact hpn _ (by omega) (kBt_a (kBt_p 29) (kBt_a (kPlY_b _ _ (fun j _ hj => hM x j h6 (by omega) (by omega) (by omega))) (kBt_1 (by omega))))
      · have hr : ∀ j, j < q.2.1 4 x → kBt (kPl T q D (q.2.2 1 x j - 1) (f j)).1 ∧ (kPl T q D (q.2.2 1 x j - 1) (f j)).2 = f (j + 1) := fun j hj => by
          have f3j := f3 j hj
          exact ⟨ih _ _ _ (by omega) (by omega) (f2 j hj).2, kPl_lat D _ _ _ (by omega) (f2 j hj).2⟩
        by_cases h67 : q.2.1 0 x = 6 ∨ q.2.1 0 x = 7
        · have h41 := hnd.2.2.1 h67
          have h0 := (hr 0 (by omega)).1
          rw [f0] at h0
          rw [if_pos h67]
          exact kBt_a (kBt_p 24) (kBt_a (kBt_q (kBt_w _)) (kBt_a (kBt_1 (by omega)) (kBt_a (kBt_p _) (kBt_a h0 (kBt_1 (by omega))))))
        · rw [if_neg h67]
          by_cases h8 : q.2.1 0 x = 8
          · have hu := kPlU_b (q := q) (rec := kPl T q D) (x := x) (f := f) (q.2.1 4 x) 0 (fun j _ hj => hr j (by omega))
            rw [f0] at hu
            rw [if_pos h8]
            exact kBt_a (kBt_1 (by omega)) (kBt_a hu (kBt_1 (by omega)))
          · have h11 : q.2.1 0 x = 11 := by omega
            have hu := kPlF_b (T := T) (q := q) (rec := kPl T q D) (x := x) (f := f) (q.2.1 4 x) 0 (fun j _ hj => ⟨hM x j h6 (by omega) (by omega) (by omega), hr j (by omega)⟩)
            rw [f0] at hu
            rw [if_neg h8, if_neg hk.1, if_neg hk.2]
            exact hpn _ (by omega) (kBt_a (kBt_p 30) (kBt_a hu (kBt_1 (by omega))))
end
/-! PURE: a print -/
def kS1 (l : Int64) : Int64 := (l.toUInt64 >>> ((1 : Int32).toInt64.toUInt64 &&& Int64.toUInt64 63)).toInt64
def kC1 (l : Int64) : Int64 := if aLcmp (l &&& 1) 0 = 0 then kS1 l else kS1 l ^^^ (-4513414715797952619)
def kCk : Nat → Int64 → Int64
  | 0, l => l
  | k + 1, l => kCk k (kC1 l)
/-- a print goes on over letters -/
def kCr (l : Int64) : List Nat → Int64
  | [] => l
  | x :: L => kCr (kCk 8 (l ^^^ Int64.ofNat x)) L
theorem kS1_b (l : Int64) : (kS1 l).toBitVec = l.toBitVec >>> 1 := by
  unfold kS1
  have e : ((1 : Int32).toInt64.toUInt64 &&& Int64.toUInt64 63) = 1 := by decide
  rw [e]
  show (l.toUInt64 >>> 1).toBitVec = _
  rfl
theorem l_and1 (l : Int64) : (l &&& 1).toBitVec = if l.toBitVec.getLsbD 0 then 1#64 else 0#64 := by
  rw [Int64.toBitVec_and]
  apply BitVec.eq_of_getLsbD_eq
  intro i hi
  rw [BitVec.getLsbD_and]
  have h1 : (1 : Int64).toBitVec.getLsbD i = decide (i = 0) := by
    have : ∀ i, i < 64 → (1 : Int64).toBitVec.getLsbD i = decide (i = 0) := by decide +kernel
    exact this i hi
  rw [h1]
  by_cases h : i = 0
  · subst h
    cases l.toBitVec.getLsbD 0 <;> simp
  · cases l.toBitVec.getLsbD 0
    · simp [h]
    · have h2 : (1#64).getLsbD i = decide (i = 0) := by
        have : ∀ i, i < 64 → (1#64).getLsbD i = decide (i = 0) := by decide +kernel
        exact this i hi
      rw [if_pos rfl, h2]
      simp [h]
theorem l_odd (l : Int64) : (aLcmp (l &&& 1) 0 = 0) = (l.toBitVec.getLsbD 0 = false) ∧ (aLcmp (l &&& 1) 1 = 0) = (l.toBitVec.getLsbD 0 = true) := by
  rw [aLcmp_eq, aLcmp_eq]
  have e0 : ((l &&& 1).toInt = (0 : Int64).toInt) = ((l &&& 1).toBitVec = 0#64) := by
    apply propext
    rw [Int64.toInt_inj, ← Int64.toBitVec_inj]
    rfl
  have e1 : ((l &&& 1).toInt = (1 : Int64).toInt) = ((l &&& 1).toBitVec = 1#64) := by
    apply propext
    rw [Int64.toInt_inj, ← Int64.toBitVec_inj]
    rfl
  rw [e0, e1, l_and1]
  cases l.toBitVec.getLsbD 0
  · constructor
    · simp
    · simp
  · constructor
    · simp
    · simp
def bC1 (x : BitVec 64) : BitVec 64 := if x.getLsbD 0 then (x >>> 1) ^^^ (-4513414715797952619 : Int64).toBitVec else x >>> 1
def bCk : Nat → BitVec 64 → BitVec 64
  | 0, x => x
  | k + 1, x => bCk k (bC1 x)
theorem kC1_b (l : Int64) : (kC1 l).toBitVec = bC1 l.toBitVec := by
  unfold kC1 bC1
  have h := (l_odd l).1
  by_cases hb : l.toBitVec.getLsbD 0 = false
  · rw [if_pos (by rw [h]; exact hb), hb]
    exact kS1_b l
  · have hb' : l.toBitVec.getLsbD 0 = true := by simpa using hb
    rw [if_neg (by rw [h]; exact hb), if_pos hb', Int64.toBitVec_xor, kS1_b]
theorem kCk_b : ∀ k l, (kCk k l).toBitVec = bCk k l.toBitVec
  | 0, _ => rfl
  | k + 1, l => by
    show (kCk k (kC1 l)).toBitVec = bCk k (bC1 l.toBitVec)
    rw [kCk_b k, kC1_b]
theorem bC1_x {h x : BitVec 64} (h0 : h.getLsbD 0 = false) : bC1 (h ^^^ x) = (h >>> 1) ^^^ bC1 x := by
  unfold bC1
  have e : (h ^^^ x).getLsbD 0 = x.getLsbD 0 := by rw [BitVec.getLsbD_xor, h0, Bool.false_xor]
  rw [e, BitVec.ushiftRight_xor_distrib]
  split
  · rw [BitVec.xor_assoc]
  · rfl
theorem bCk_x : ∀ k (h x : BitVec 64), (∀ i, i < k → h.getLsbD i = false) → bCk k (h ^^^ x) = (h >>> k) ^^^ bCk k x
  | 0, h, x, _ => by
    show h ^^^ x = (h >>> 0) ^^^ x
    rw [BitVec.ushiftRight_zero]
  | k + 1, h, x, h0 => by
    show bCk k (bC1 (h ^^^ x)) = (h >>> (k + 1)) ^^^ bCk k (bC1 x)
    rw [bC1_x (h0 0 (by omega)), bCk_x k _ _ (fun i hi => by
      rw [BitVec.getLsbD_ushiftRight, Nat.add_comm]
      exact h0 (i + 1) (by omega)), ← BitVec.shiftRight_add, Nat.add_comm 1 k]
