/-! the reference's Text: a string, a number -/
theorem nI_long {x : Nat} (h : x < 2147483648) : (nI x).toInt64 = Int64.ofNat x := by
  rw [← Int64.toInt_inj, Int32.toInt_toInt64, nI_toInt (by omega), Int64.toInt_ofNat_of_lt (by omega)]
theorem aLcmp_gt {x y : Int64} : (0 < aLcmp x y) = (y.toInt < x.toInt) := by
  apply propext
  unfold aLcmp
  simp only [← Int64.toInt_inj]
  have h1 := Int64.lt_iff_toInt_lt (x := x) (y := y)
  by_cases a : x < y
  · rw [if_pos a]
    have := h1.mp a
    constructor
    · intro h; exact absurd h (by decide)
    · intro h; omega
  · rw [if_neg a]
    have : ¬ x.toInt < y.toInt := fun h => a (h1.mpr h)
    by_cases b : x.toInt = y.toInt
    · rw [if_pos b]
      constructor
      · intro h; exact absurd h (by decide)
      · intro h; omega
    · rw [if_neg b]
      constructor
      · intro _; omega
      · intro _; decide
theorem aLcmp_eq {x y : Int64} : (aLcmp x y = 0) = (x.toInt = y.toInt) := by
  apply propext
  unfold aLcmp
  simp only [← Int64.toInt_inj]
  have h1 := Int64.lt_iff_toInt_lt (x := x) (y := y)
  by_cases a : x < y
  · rw [if_pos a]
    have := h1.mp a
    constructor
    · intro h; exact absurd h (by decide)
    · intro h; omega
  · rw [if_neg a]
    by_cases b : x.toInt = y.toInt
    · rw [if_pos b]; simp [b]
    · rw [if_neg b]
      constructor
      · intro h; exact absurd h (by decide)
      · intro h; exact absurd h b
theorem ofInt_neg_toInt {m : Nat} (h : m ≤ 9223372036854775808) : (Int64.ofInt (-(m : Int))).toInt = -(m : Int) := by
  exact Int64.toInt_ofInt_of_le (by omega) (by omega)
section
variable {c : Nat} {p : jP} {s : aT} {B : Nat → Nat} {n : Nat}
theorem mJ_setS {i x : Nat} (hi : i < p.2.1) (h2 : p.2.2.2.1 0 i = 2) : pL (mJ c p s) (c + 4) i (Int64.ofNat x) = mJ c (jSe p 5 i x) s := by
  refine aT_ext (fun k j => ?_) (fun k j => ?_) rfl
  · simp [gI, mJ, jSe, pL, a2_ite]
  · rw [gL_pL]
    simp only [gL, mJ, jSe, a2_ite]
    by_cases hk : k = c + 4
    · subst hk
      by_cases hj : j = i
      · subst hj; simp [hi, h2]
      · simp [hj]
    · simp [hk]
theorem mJ_setN {i a m l : Nat} {T : Nat → Nat → Nat} {N : Nat → Int} {x : Int} (hi : i < m) (h2 : T 0 i ≠ 2) : pL (mJ c (a, m, l, T, N) s) (c + 4) i (Int64.ofInt x) = mJ c (a, m, l, T, fun j => if j = i then x else N j) s := by
  refine aT_ext (fun k j => ?_) (fun k j => ?_) rfl
  · simp [gI, mJ, pL]
  · rw [gL_pL]
    simp only [gL, mJ]
    by_cases hk : k = c + 4
    · subst hk
      by_cases hj : j = i
      · subst hj; simp [hi, h2]
      · simp [hj]
    · simp [hk]
theorem Mt_str (hc : isT c) (hB : mB0 c s B n) (d : Nat) (ho : jOk n p) (hp : p.1 < n) : match jStr B n p with
    | .ok (p1, v) => fMt_string (d + 7) c (mJ c p s) = rI (nI v) (mJ c p1 s)
    | .error e => ∃ p1, fMt_string (d + 7) c (mJ c p s) = rT 0 (mX c p1 s e) := by
  have hn := hB.1
  obtain ⟨o1, o2, o3⟩ := ho
  have h17 := Mt_str17 hc hB d (m := p.2.1 + 1) (v := p.2.1) (l0 := p.2.2.1) (N := (jNd 2 p).2.2.2.2) (by omega) (by omega) (n + 1) (p.1 + 1) p.2.2.1 (a2 (jNd 2 p).2.2.2.1 5 p.2.1 p.2.2.1) (by omega) (by omega) (by omega) (by omega) (by rw [a2_ite, if_neg (by omega), jNd_row]; simp)
  have go : ∀ r, fMt_string_17 (d + 7) c (nI p.2.1) (mJ c (p.1 + 1, p.2.1 + 1, p.2.2.1, a2 (a2 (jNd 2 p).2.2.2.1 5 p.2.1 p.2.2.1) 2 p.2.1 (p.2.2.1 - p.2.2.1), (jNd 2 p).2.2.2.2) s) = some r → fMt_string (d + 7) c (mJ c p s) = some r := by
    intro r hr
    refine eMt_string (d + 6) c _ hc _ ?_
    rw [nI_lit 2, Mt_node _ hc 2 (by omega), cG_I, stL_n (by omega) (by omega), mJ_l, nI_long (by show p.2.2.1 < _; omega), mJ_setS (by show p.2.1 < p.2.1 + 1; omega) (by rw [jNd_row]; simp), wI_eq, mJ_at, nI_add1, mJ_to]
    have e : jTo (jSe (jNd 2 p) 5 p.2.1 (jNd 2 p).2.2.1) ((jSe (jNd 2 p) 5 p.2.1 (jNd 2 p).2.2.1).1 + 1) = (p.1 + 1, p.2.1 + 1, p.2.2.1, a2 (a2 (jNd 2 p).2.2.2.1 5 p.2.1 p.2.2.1) 2 p.2.1 (p.2.2.1 - p.2.2.1), (jNd 2 p).2.2.2.2) := by
      rw [a2_self (a2 (jNd 2 p).2.2.2.1 5 p.2.1 p.2.2.1) 2 p.2.1 (by rw [a2_ite, if_neg (by omega), jNd_row]; simp)]
      rfl
    rw [e]
    exact hr
  unfold jStr
  revert h17
  cases jSl B n (n + 1) (p.1 + 1) p.2.2.1 (a2 (jNd 2 p).2.2.2.1 5 p.2.1 p.2.2.1) with
  | error e => rintro ⟨p1, h⟩; exact ⟨p1, go _ h⟩
  | ok q =>
    obtain ⟨a1, l1, T1⟩ := q
    simp only
    intro h
    exact go _ h
/-- a number's end -/
theorem Mt_num128 (hc : isT c) (d : Nat) {a m l v : Nat} {T : Nat → Nat → Nat} {N : Nat → Int} (hv : v < m) (hm : m ≤ 4200) (h2 : T 0 v ≠ 2) {bw : Nat} (hbw : bw = 0 ∨ bw = 1) {M : Nat} :
    fMt_number_128 (d + 2) c (nI v) (nI bw) 1 (Int64.ofInt (-(M : Int))) (mJ c (a, m, l, T, N) s) = rI (nI v) (mJ c (a, m, l, T, fun j => if j = v then (if bw = 1 then -(M : Int) else (M : Int)) else N j) s) := by
  refine eMt_number_128 (d + 1) c _ _ _ _ _ hc _ ?_
  rw [ldI_n (by omega) (by omega), Mt_need1 _ hc, cG_V]
  rcases hbw with h | h
  · subst h
    rw [if_pos nI_0]
    refine eMt_number_145 (d + 1) _ _ _ c _ hc _ ?_
    rw [stL_n (by omega) (by omega)]
    have e : -Int64.ofInt (-(M : Int)) = Int64.ofInt (M : Int) := by rw [← Int64.ofInt_neg, Int.neg_neg]
    rw [e, mJ_setN hv h2]
    rfl
  · subst h
    rw [if_neg (by decide)]
    refine eMt_number_145 (d + 1) _ _ _ c _ hc _ ?_
    rw [stL_n (by omega) (by omega), mJ_setN hv h2]
    rfl
theorem Mt_num128x (hc : isT c) (d : Nat) {a m l v : Nat} {T : Nat → Nat → Nat} {N : Nat → Int} (hv : v < m) (hm : m ≤ 4200) {z : Int32} {x : Int64} :
    fMt_number_128 (d + 2) c (nI v) z 0 x (mJ c (a, m, l, T, N) s) = rT 0 (mX c (a, m, l, T, N) s (T 1 v)) := by
  refine eMt_number_128 (d + 1) c _ _ _ _ _ hc _ ?_
  rw [ldI_n (by omega) (by omega), mJ_F hv, Mt_need0 _ hc, cG_T]
  rfl
theorem mI_sub48 {b : Nat} (h : jDi b) : mI b - 48 = nI (b - 48) := by
  unfold jDi at h
  rw [mI_nI (by omega), nI_lit 48, nI_sub (by omega)]
/-- one digit more -/
theorem Mt_num76 (hc : isT c) (hB : mB0 c s B n) (d : Nat) {a m l v j : Nat} {T : Nat → Nat → Nat} {N : Nat → Int} (hv : v < m) (hm : m ≤ 4200) (h3 : T 0 v = 3) (hz : T 2 v = j) {bw : Nat} (hbw : bw = 0 ∨ bw = 1) (ha : a ≤ n) (hd : jDi (jBt B n a)) {z3 z4 : Int32} {x : Int64} {M lim : Nat} (hlim : lim = if bw = 1 then 9223372036854775808 else 9223372036854775807) (hM : M ≤ lim ∧ z4 = 1 ∧ x = Int64.ofInt (-(M : Int)) ∨ lim < M ∧ z4 = 0) :
    ∃ z4' x', (10 * M + (jBt B n a - 48) ≤ lim ∧ z4' = 1 ∧ x' = Int64.ofInt (-((10 * M + (jBt B n a - 48) : Nat) : Int)) ∨ lim < 10 * M + (jBt B n a - 48) ∧ z4' = 0) ∧ ∀ r, fMt_number_51 (d + 1) c (nI v) (nI bw) z3 z4' x' (mJ c (a + 1, m, l, a2 T 2 v (j + 1), N) s) = some r → fMt_number_76 (d + 1) c (nI v) (nI bw) z3 z4 x (mJ c (a, m, l, T, N) s) = some r := by
  have hd2 := hd
  unfold jDi at hd2
  have e112 : ∀ z4' x' r, fMt_number_51 (d + 1) c (nI v) (nI bw) z3 z4' x' (mJ c (a + 1, m, l, a2 T 2 v (j + 1), N) s) = some r → fMt_number_112 (d + 1) c (nI v) (nI bw) z3 z4' x' (mJ c (a, m, l, T, N) s) = some r := by
    intro z4' x' r hr
    refine eMt_number_112 d c _ _ _ _ _ _ hc _ ?_
    rw [ldI_n (by omega) (by omega), mJ_Z' hv (by show T 0 v ≠ 0; omega), stI_n (by omega) (by omega), nI_add1, mJ_setZ hv (by show T 0 v ≠ 0; omega), wI_eq, mJ_at, nI_add1, mJ_to]
    show fMt_number_51 (d + 1) c (nI v) (nI bw) z3 z4' x' (mJ c (a + 1, m, l, a2 T 2 v (T 2 v + 1), N) s) = some r
    rw [hz]
    exact hr
  have hl : ∀ d, fMt_look d c (mJ c (a, m, l, T, N) s) = rI (mI (jBt B n a)) (mJ c (a, m, l, T, N) s) := fun d => Mt_look d hc hB ha
  have e1 : ∀ r, fMt_number_51 (d + 1) c (nI v) (nI bw) z3 1 (10 * x - (nI (jBt B n a - 48)).toInt64) (mJ c (a + 1, m, l, a2 T 2 v (j + 1), N) s) = some r → fMt_number_98 (d + 1) c (nI v) (nI bw) z3 x (nI (jBt B n a - 48)) (mJ c (a, m, l, T, N) s) = some r := by
    intro r hr
    refine eMt_number_98 d c _ _ _ _ _ _ hc _ ?_
    refine eMt_number_101 d c _ _ _ _ _ _ _ hc _ ?_
    rw [if_neg (by decide)]
    exact e112 _ _ _ hr
  have e0 : ∀ r, fMt_number_51 (d + 1) c (nI v) (nI bw) z3 0 x (mJ c (a + 1, m, l, a2 T 2 v (j + 1), N) s) = some r → fMt_number_100 (d + 1) c (nI v) (nI bw) z3 x (nI (jBt B n a - 48)) (mJ c (a, m, l, T, N) s) = some r := by
    intro r hr
    refine eMt_number_100 d c _ _ _ _ _ _ hc _ ?_
    refine eMt_number_101 d c _ _ _ _ _ _ _ hc _ ?_
    rw [if_pos rfl]
    exact e112 _ _ _ hr
  rcases hM with ⟨hM1, hM2, hM3⟩ | ⟨hM1, hM2⟩
  · subst hM2
    have hx : x.toInt = -(M : Int) := by rw [hM3]; exact ofInt_neg_toInt (by rw [hlim] at hM1; split at hM1 <;> omega)
    have hk : (-922337203685477580 : Int64).toInt = -922337203685477580 := by decide
    have hnew : 10 * x - (nI (jBt B n a - 48)).toInt64 = Int64.ofInt (-((10 * M + (jBt B n a - 48) : Nat) : Int)) := by
      rw [hM3, nI_long (by omega)]
      have t10 : (10 : Int64) = Int64.ofInt 10 := by decide
      have tn : Int64.ofNat (jBt B n a - 48) = Int64.ofInt ((jBt B n a - 48 : Nat) : Int) := rfl
      rw [t10, tn, ← Int64.ofInt_mul, ← Int64.ofInt_sub]
      congr 1
      omega
    by_cases hgt : M < 922337203685477580
    · refine ⟨1, _, .inl ⟨by rw [hlim]; split <;> omega, rfl, rfl⟩, fun r hr => ?_⟩
      refine eMt_number_76 d c _ _ _ _ _ _ hc _ ?_
      rw [hl, cG_I, if_neg (by decide), mI_sub48 hd]
      simp only [aLcmp_gt, aLcmp_eq, hx, hk]
      rw [if_pos (by omega)]
      exact e1 _ (by rw [hnew]; exact hr)
    · by_cases heq : M = 922337203685477580
      · by_cases hdd : 10 * M + (jBt B n a - 48) ≤ lim
        · refine ⟨1, _, .inl ⟨hdd, rfl, rfl⟩, fun r hr => ?_⟩
          refine eMt_number_76 d c _ _ _ _ _ _ hc _ ?_
          rw [hl, cG_I, if_neg (by decide), mI_sub48 hd]
          simp only [aLcmp_gt, aLcmp_eq, hx, hk]
          rw [if_neg (by omega), if_neg (by omega)]
          rcases hbw with h | h
          · subst h
            simp at hlim
            rw [if_pos nI_0]
            refine eMt_number_97 d c _ _ _ _ _ _ _ _ hc _ ?_
            simp (disch := omega) only [nI_lit 7, nI_ltE]
            rw [if_neg (by omega)]
            exact e1 _ (by rw [hnew]; exact hr)
          · subst h
            simp at hlim
            rw [if_neg (by decide)]
            refine eMt_number_97 d c _ _ _ _ _ _ _ _ hc _ ?_
            simp (disch := omega) only [nI_lit 8, nI_ltE]
            rw [if_neg (by omega)]
            exact e1 _ (by rw [hnew]; exact hr)
        · refine ⟨0, x, .inr ⟨by omega, rfl⟩, fun r hr => ?_⟩
          refine eMt_number_76 d c _ _ _ _ _ _ hc _ ?_
          rw [hl, cG_I, if_neg (by decide), mI_sub48 hd]
          simp only [aLcmp_gt, aLcmp_eq, hx, hk]
          rw [if_neg (by omega), if_neg (by omega)]
          rcases hbw with h | h
          · subst h
            simp at hlim
            rw [if_pos nI_0]
            refine eMt_number_97 d c _ _ _ _ _ _ _ _ hc _ ?_
            simp (disch := omega) only [nI_lit 7, nI_ltE]
            rw [if_pos (by omega)]
            exact e0 _ hr
          · subst h
            simp at hlim
            rw [if_neg (by decide)]
            refine eMt_number_97 d c _ _ _ _ _ _ _ _ hc _ ?_
            simp (disch := omega) only [nI_lit 8, nI_ltE]
            rw [if_pos (by omega)]
            exact e0 _ hr
      · refine ⟨0, x, .inr ⟨by rw [hlim]; split <;> omega, rfl⟩, fun r hr => ?_⟩
        refine eMt_number_76 d c _ _ _ _ _ _ hc _ ?_
        rw [hl, cG_I, if_neg (by decide), mI_sub48 hd]
        simp only [aLcmp_gt, aLcmp_eq, hx, hk]
        rw [if_neg (by omega), if_pos (by omega)]
        exact e0 _ hr
  · subst hM2
    refine ⟨0, x, .inr ⟨by omega, rfl⟩, fun r hr => ?_⟩
    refine eMt_number_76 d c _ _ _ _ _ _ hc _ ?_
    rw [hl, cG_I, if_pos rfl, mI_sub48 hd]
    exact e0 _ hr
end
