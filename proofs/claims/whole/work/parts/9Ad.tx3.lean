/-! the lake's Text: numbers -/
theorem lim10 : ∀ k : Nat, k < 10 → ((-9223372036854775808 + (nI k).toInt64) / 10 : Int64).toInt = if k = 9 then -922337203685477579 else -922337203685477580 := by decide +kernel
theorem aLcmp_lt {x y : Int64} : (aLcmp x y < 0) = (x.toInt < y.toInt) := by
  apply propext
  unfold aLcmp
  simp only [← Int64.toInt_inj]
  have h1 := Int64.lt_iff_toInt_lt (x := x) (y := y)
  by_cases a : x < y
  · rw [if_pos a]
    have := h1.mp a
    exact ⟨fun _ => this, fun _ => by decide⟩
  · rw [if_neg a]
    have h2 : ¬ x.toInt < y.toInt := fun h => a (h1.mpr h)
    by_cases b : x.toInt = y.toInt
    · rw [if_pos b]
      exact ⟨fun h => absurd h (by decide), fun h => absurd h h2⟩
    · rw [if_neg b]
      exact ⟨fun h => absurd h (by decide), fun h => absurd h h2⟩
section
variable {p : jP} {s : aT} {B : Nat → Nat} {n fr : Nat}
theorem lJ_setN {i a m l : Nat} {T : Nat → Nat → Nat} {N : Nat → Int} {x : Int} (hi : i < m) (h2 : T 0 i = 3) : pL (lJ (a, m, l, T, N) s) 19 i (Int64.ofInt x) = lJ (a, m, l, T, fun j => if j = i then x else N j) s := by
  refine aT_ext (fun k j => ?_) (fun k j => ?_) rfl
  · rfl
  · rw [gL_pL]
    simp only [gL, lJ]
    by_cases hk : k = 19
    · subst hk
      by_cases hj : j = i
      · subst hj; simp [hi, h2]
      · simp [hj]
    · simp [hk]
/-- what a number's loop knows: the exact number M, whether it is within, the long -/
def lM (M : Nat) (z : Int32) (x : Int64) : Prop := M ≤ 9223372036854775808 ∧ z = 1 ∧ x = Int64.ofInt (-(M : Int)) ∨ 9223372036854775808 < M ∧ z = 0
theorem Tx_n83 (d : Nat) {a m l v : Nat} {T : Nat → Nat → Nat} {N : Nat → Int} (hv : v < m) (hm : m ≤ 4096) (h3 : T 0 v = 3) {bw : Nat} (hbw : bw = 0 ∨ bw = 1) {M : Nat} {z : Int32} {x : Int64} (hM : lM M z x) {lim : Nat} (hlim : lim = if bw = 1 then 9223372036854775808 else 9223372036854775807) :
    (M ≤ lim → fTx_numberOfDigits_83 (d + 1) (nI v) (nI bw) x z (lJ (a, m, l, T, N) s) = rI (nI v) (lJ (a, m, l, T, fun j => if j = v then (if bw = 1 then -(M : Int) else (M : Int)) else N j) s)) ∧
    (lim < M → fTx_numberOfDigits_83 (d + 1) (nI v) (nI bw) x z (lJ (a, m, l, T, N) s) = rI (-1) (lJ (a, m, l, T, N) (pI s 13 10 (nI (T 1 v))))) := by
  have f91 : fTx_numberOfDigits_91 (d + 1) (nI v) (lJ (a, m, l, T, N) s) = rI (-1) (lJ (a, m, l, T, N) (pI s 13 10 (nI (T 1 v)))) := by
    refine eTx_numberOfDigits_91 d _ _ _ ?_
    rw [ldI_n (by omega) (by omega), lJ_F hv, Tx_failAt, cG_I]
    rfl
  have f98 : x = Int64.ofInt (-(M : Int)) → fTx_numberOfDigits_98 (d + 1) (nI v) (nI bw) x (lJ (a, m, l, T, N) s) = rI (nI v) (lJ (a, m, l, T, fun j => if j = v then (if bw = 1 then -(M : Int) else (M : Int)) else N j) s) := by
    intro hx
    refine eTx_numberOfDigits_98 d _ _ _ _ _ ?_
    rcases hbw with h | h
    · subst h
      rw [if_pos nI_0]
      refine eTx_numberOfDigits_107 d _ _ _ _ _ ?_
      have e : -x = Int64.ofInt (M : Int) := by rw [hx, ← Int64.ofInt_neg, Int.neg_neg]
      rw [stL_n (by omega) (by omega), e, lJ_setN hv h3]
      rfl
    · subst h
      rw [if_neg (by decide)]
      refine eTx_numberOfDigits_107 d _ _ _ _ _ ?_
      rw [stL_n (by omega) (by omega), hx, lJ_setN hv h3]
      rfl
  have hk : (-9223372036854775808 : Int64).toInt = -9223372036854775808 := by decide
  constructor
  · intro hle
    rcases hM with ⟨h1, h2, hx⟩ | ⟨h1, h2⟩
    · subst h2
      have hxi : x.toInt = -(M : Int) := by rw [hx]; exact ofInt_neg_toInt h1
      refine eTx_numberOfDigits_83 d _ _ _ _ _ _ ?_
      rw [if_neg (by decide), f98 hx]
      simp only [aLcmp_eq, hxi, hk]
      rcases hbw with h | h
      · subst h
        simp at hlim
        rw [if_neg (by decide), if_pos (by omega)]
        rfl
      · subst h
        rw [if_pos (by decide)]
        rfl
    · exfalso
      rw [hlim] at hle
      split at hle <;> omega
  · intro hlt
    refine eTx_numberOfDigits_83 d _ _ _ _ _ _ ?_
    rcases hM with ⟨h1, h2, hx⟩ | ⟨h1, h2⟩
    · subst h2
      have hxi : x.toInt = -(M : Int) := by rw [hx]; exact ofInt_neg_toInt h1
      rw [if_neg (by decide), f91]
      simp only [aLcmp_eq, hxi, hk]
      rcases hbw with h | h
      · subst h
        simp at hlim
        rw [if_neg (by decide), if_neg (by omega)]
        rfl
      · subst h
        simp at hlim
        omega
    · subst h2
      rw [if_pos rfl, f91]
      rfl
theorem Tx_n41 (hB : lB0 s B n fr) (d : Nat) {a m l v j : Nat} {T : Nat → Nat → Nat} {N : Nat → Int} {bw most : Nat} (ha : a ≤ n) {z : Int32} {x : Int64} {M : Nat} (hM : lM M z x) (hmost : most ≤ 4096) (hj : j ≤ 4096) :
    (jDi (jBt B n a) ∧ j < most → ∃ z' x', lM (10 * M + (jBt B n a - 48)) z' x' ∧ ∀ r, fTx_numberOfDigits_41 (d + 1) (nI v) (nI bw) (nI most) x' z' (nI (j + 1)) (lJ (a + 1, m, l, T, N) s) = some r → fTx_numberOfDigits_41 (d + 1) (nI v) (nI bw) (nI most) x z (nI j) (lJ (a, m, l, T, N) s) = some r) ∧
    (¬ (jDi (jBt B n a) ∧ j < most) → ∀ r, fTx_numberOfDigits_83 (d + 1) (nI v) (nI bw) x z (lJ (a, m, l, T, N) s) = some r → fTx_numberOfDigits_41 (d + 1) (nI v) (nI bw) (nI most) x z (nI j) (lJ (a, m, l, T, N) s) = some r) := by
  have hb := jBt_le (n := n) (a := a) hB.2.2.2.2.2.2
  have hpk : ∀ d, fTx_peek d (lJ (a, m, l, T, N) s) = rI (uI (jBt B n a)) (lJ (a, m, l, T, N) s) := fun d => Tx_peek (p := (a, m, l, T, N)) d hB ha
  constructor
  · rintro ⟨hd, hjm⟩
    have hd2 := hd
    unfold jDi at hd2
    have eu : uI (jBt B n a) - 48 = nI (jBt B n a - 48) := by
      unfold uI
      rw [if_pos (by omega), nI_lit 48, nI_sub (by omega)]
    have e67 : ∀ u r, fTx_numberOfDigits_41 (d + 1) (nI v) (nI bw) (nI most) (x * 10 - (nI (jBt B n a - 48)).toInt64) u (nI (j + 1)) (lJ (a + 1, m, l, T, N) s) = some r → fTx_numberOfDigits_67 (d + 1) (nI v) (nI bw) (nI most) x (nI j) (nI (jBt B n a - 48)) u (lJ (a, m, l, T, N) s) = some r := by
      intro u r hr
      refine eTx_numberOfDigits_67 d _ _ _ _ _ _ _ _ _ ?_
      rw [wI_eq, lJ_at]
      simp only [nI_add1, lJ_to]
      exact hr
    have e66 : ∀ r, fTx_numberOfDigits_67 (d + 1) (nI v) (nI bw) (nI most) x (nI j) (nI (jBt B n a - 48)) 0 (lJ (a, m, l, T, N) s) = some r → fTx_numberOfDigits_66 (d + 1) (nI v) (nI bw) (nI most) x (nI j) (nI (jBt B n a - 48)) (lJ (a, m, l, T, N) s) = some r := by
      intro r hr
      refine eTx_numberOfDigits_66 d _ _ _ _ _ _ _ _ ?_
      exact hr
    have go : ∀ r, (if z = 0 then fTx_numberOfDigits_66 (d + 1) (nI v) (nI bw) (nI most) x (nI j) (nI (jBt B n a - 48)) (lJ (a, m, l, T, N) s) else if x.toInt < (if jBt B n a - 48 = 9 then -922337203685477579 else -922337203685477580) then fTx_numberOfDigits_66 (d + 1) (nI v) (nI bw) (nI most) x (nI j) (nI (jBt B n a - 48)) (lJ (a, m, l, T, N) s) else fTx_numberOfDigits_67 (d + 1) (nI v) (nI bw) (nI most) x (nI j) (nI (jBt B n a - 48)) 1 (lJ (a, m, l, T, N) s)) = some r → fTx_numberOfDigits_41 (d + 1) (nI v) (nI bw) (nI most) x z (nI j) (lJ (a, m, l, T, N) s) = some r := by
      intro r hr
      refine eTx_numberOfDigits_41 d _ _ _ _ _ _ _ _ ?_
      simp (disch := omega) only [nI_leE]
      rw [if_neg (by omega), hpk, cG_I, Tx_isDigit d hb, cG_I, if_pos hd, if_neg (by decide), hpk, cG_I, eu]
      simp only [aLcmp_lt, lim10 (jBt B n a - 48) (by omega)]
      exact hr
    rcases hM with ⟨h1, h2, hx⟩ | ⟨h1, h2⟩
    · subst h2
      have hxi : x.toInt = -(M : Int) := by rw [hx]; exact ofInt_neg_toInt h1
      rw [if_neg (by decide), hxi] at go
      have hnew : x * 10 - (nI (jBt B n a - 48)).toInt64 = Int64.ofInt (-((10 * M + (jBt B n a - 48) : Nat) : Int)) := by
        rw [hx, nI_long (by omega)]
        have t10 : (10 : Int64) = Int64.ofInt 10 := by decide
        have tn : Int64.ofNat (jBt B n a - 48) = Int64.ofInt ((jBt B n a - 48 : Nat) : Int) := rfl
        rw [t10, tn, ← Int64.ofInt_mul, ← Int64.ofInt_sub]
        congr 1
        omega
      by_cases hw : 10 * M + (jBt B n a - 48) ≤ 9223372036854775808
      · refine ⟨1, _, .inl ⟨hw, rfl, rfl⟩, fun r hr => go r ?_⟩
        rw [if_neg (by split <;> omega)]
        refine e67 _ _ ?_
        rw [hnew]
        exact hr
      · refine ⟨0, x * 10 - (nI (jBt B n a - 48)).toInt64, .inr ⟨by omega, rfl⟩, fun r hr => go r ?_⟩
        rw [if_pos (by split <;> omega)]
        exact e66 _ (e67 _ _ hr)
    · subst h2
      rw [if_pos rfl] at go
      exact ⟨0, x * 10 - (nI (jBt B n a - 48)).toInt64, .inr ⟨by omega, rfl⟩, fun r hr => go r (e66 _ (e67 _ _ hr))⟩
  · intro hno r hr
    refine eTx_numberOfDigits_41 d _ _ _ _ _ _ _ _ ?_
    simp (disch := omega) only [nI_leE]
    by_cases hjm : most ≤ j
    · rw [if_pos hjm]; exact hr
    · rw [if_neg hjm, hpk, cG_I, Tx_isDigit d hb, cG_I, if_neg (fun h => hno ⟨h, by omega⟩), if_pos rfl]
      exact hr
theorem Tx_nloop (hB : lB0 s B n fr) (d : Nat) {m l v : Nat} {T : Nat → Nat → Nat} {N : Nat → Int} (hv : v < m) (hm : m ≤ 4096) (h3 : T 0 v = 3) {bw : Nat} (hbw : bw = 0 ∨ bw = 1) {lim : Nat} (hlim : lim = if bw = 1 then 9223372036854775808 else 9223372036854775807) : ∀ f a M (z : Int32) (x : Int64) j, n ≤ a + f → a ≤ n → j ≤ a → lM M z x →
    ((jDg B n f M a).1 ≤ lim → fTx_numberOfDigits_41 (d + 1) (nI v) (nI bw) (nI 4096) x z (nI j) (lJ (a, m, l, T, N) s) = rI (nI v) (lJ ((jDg B n f M a).2, m, l, T, fun i => if i = v then (if bw = 1 then -((jDg B n f M a).1 : Int) else ((jDg B n f M a).1 : Int)) else N i) s)) ∧
    (lim < (jDg B n f M a).1 → lX s (T 1 v) (fTx_numberOfDigits_41 (d + 1) (nI v) (nI bw) (nI 4096) x z (nI j) (lJ (a, m, l, T, N) s))) := by
  have hn := hB.1
  have stop : ∀ a M (z : Int32) (x : Int64) j, a ≤ n → j ≤ a → ¬ jDi (jBt B n a) → lM M z x →
    (M ≤ lim → fTx_numberOfDigits_41 (d + 1) (nI v) (nI bw) (nI 4096) x z (nI j) (lJ (a, m, l, T, N) s) = rI (nI v) (lJ (a, m, l, T, fun i => if i = v then (if bw = 1 then -(M : Int) else (M : Int)) else N i) s)) ∧
    (lim < M → lX s (T 1 v) (fTx_numberOfDigits_41 (d + 1) (nI v) (nI bw) (nI 4096) x z (nI j) (lJ (a, m, l, T, N) s))) := by
    intro a M z x j ha hj hd hM
    have h41 := (Tx_n41 (s := s) (l := l) (m := m) (T := T) (N := N) (v := v) (bw := bw) (most := 4096) hB d ha hM (by omega) (j := j) (by omega)).2 (fun h => hd h.1)
    have h83 := Tx_n83 (s := s) d (a := a) (l := l) (N := N) hv hm h3 hbw hM hlim
    exact ⟨fun h => h41 _ (h83.1 h), fun h => ⟨(a, m, l, T, N), by show a ≤ 4096; omega, h41 _ (h83.2 h)⟩⟩
  intro f
  induction f with
  | zero =>
    intro a M z x j h1 h2 hj hM
    refine stop a M z x j h2 hj ?_ hM
    unfold jBt
    rw [if_neg (by omega)]
    unfold jDi
    omega
  | succ f ih =>
    intro a M z x j h1 h2 hj hM
    unfold jDg
    by_cases hd : jDi (jBt B n a)
    · rw [if_pos hd]
      have hlt := jBt_lt (B := B) (n := n) (a := a) rfl (by unfold jDi at hd; omega)
      obtain ⟨z', x', hM', go⟩ := (Tx_n41 (s := s) (l := l) (m := m) (T := T) (N := N) (v := v) (bw := bw) (most := 4096) hB d h2 hM (by omega) (j := j) (by omega)).1 ⟨hd, by omega⟩
      have ih := ih (a + 1) (10 * M + (jBt B n a - 48)) z' x' (j + 1) (by omega) hlt (by omega) hM'
      exact ⟨fun h => go _ (ih.1 h), fun h => by obtain ⟨p1, hq, h⟩ := ih.2 h; exact ⟨p1, hq, go _ h⟩⟩
    · rw [if_neg hd]
      exact stop a M z x j h2 hj hd hM
theorem Tx_num (hB : lB0 s B n fr) (d : Nat) (ho : jOk n p) (hp : p.1 < n) : lRv s (fTx_numberOfDigits (d + 1) (lJ p s)) (jNu B n p) := by
  have hn := hB.1
  obtain ⟨o1, o2, o3⟩ := ho
  have hb := jBt_le (n := n) (a := p.1) hB.2.2.2.2.2.2
  have hna := jNa_le (B := B) (n := n) (a := p.1)
  have hb2 := jBt_le (n := n) (a := jNa B n p.1) hB.2.2.2.2.2.2
  have hK : (jNd 3 p).2.2.2.1 0 p.2.1 = 3 := by rw [jNd_row]; simp
  have hF : (jNd 3 p).2.2.2.1 1 p.2.1 = p.1 := by rw [jNd_row]; simp
  obtain ⟨bw, hbw, hbb⟩ : ∃ bw : Nat, (bw = 0 ∨ bw = 1) ∧ (bw = 1 ↔ jBt B n p.1 = 45) := by
    by_cases h : jBt B n p.1 = 45
    · exact ⟨1, .inr rfl, by simp [h]⟩
    · exact ⟨0, .inl rfl, by simp [h]⟩
  have hlim : jNm B n p.1 = if bw = 1 then 9223372036854775808 else 9223372036854775807 := by
    unfold jNm
    by_cases h : jBt B n p.1 = 45
    · rw [if_pos h, if_pos (hbb.mpr h)]
    · rw [if_neg h, if_neg (fun x => h (hbb.mp x))]
  have hval : ∀ M, jNv B n p.1 M = if bw = 1 then -(M : Int) else (M : Int) := by
    intro M
    unfold jNv
    by_cases h : jBt B n p.1 = 45
    · rw [if_pos h, if_pos (hbb.mpr h)]
    · rw [if_neg h, if_neg (fun x => h (hbb.mp x))]
  generalize hg : (gL s 19 p.2.1).toInt = g
  have hpk : ∀ d a, a ≤ n → fTx_peek d (lJ (jTo (jNg 3 g p) a) s) = rI (uI (jBt B n a)) (lJ (jTo (jNg 3 g p) a) s) := fun d a ha => Tx_peek (p := jTo (jNg 3 g p) a) d hB ha
  have hpk0 : ∀ d, fTx_peek d (lJ (jNg 3 g p) s) = rI (uI (jBt B n p.1)) (lJ (jNg 3 g p) s) := fun d => Tx_peek (p := jNg 3 g p) d hB o1
  have hnan : jNa B n p.1 ≤ n := by omega
  have go20 : ∀ r, fTx_numberOfDigits_20 (d + 1) (nI p.2.1) (nI bw) (lJ (jTo (jNg 3 g p) (jNa B n p.1)) s) = some r → fTx_numberOfDigits (d + 1) (lJ p s) = some r := by
    intro r hr
    refine eTx_numberOfDigits d _ _ ?_
    rw [nI_lit 3, Tx_add _ 3 (by omega) (by omega), hg, cG_I, hpk0, cG_I]
    simp (disch := omega) only [nI_lit 45, uI_eqE]
    by_cases h : jBt B n p.1 = 45
    · rw [if_neg (by omega)]
      have e1 : bw = 1 := hbb.mpr h
      subst e1
      refine eTx_numberOfDigits_11 d _ _ _ _ ?_
      unfold jNa at hr
      rw [if_pos h] at hr
      rw [if_neg (by decide), wI_eq, lJ_at, nI_add1, lJ_to]
      exact hr
    · rw [if_pos h]
      have e1 : bw = 0 := by
        rcases hbw with e | e
        · exact e
        · exact absurd (hbb.mp e) h
      subst e1
      refine eTx_numberOfDigits_11 d _ _ _ _ ?_
      unfold jNa at hr
      rw [if_neg h] at hr
      rw [if_pos rfl]
      exact hr
  have hN : ∀ x : Int, (fun j => if j = p.2.1 then x else (jNg 3 g p).2.2.2.2 j) = (fun j => if j = p.2.1 then x else p.2.2.2.2 j) := by
    intro x
    funext j
    simp only [jNg]
    split <;> rfl
  have fin : ∀ (a M z : Nat), lJ (a, p.2.1 + 1, p.2.2.1, (jNd 3 p).2.2.2.1, fun i => if i = p.2.1 then (if bw = 1 then -(M : Int) else (M : Int)) else (jNg 3 g p).2.2.2.2 i) s = lJ (a, p.2.1 + 1, p.2.2.1, a2 (jNd 3 p).2.2.2.1 2 p.2.1 z, fun i => if i = p.2.1 then jNv B n p.1 M else p.2.2.2.2 i) s := by
    intro a M z
    rw [hval M, hN]
    exact (lJ_setZ3 (p := (a, p.2.1 + 1, p.2.2.1, (jNd 3 p).2.2.2.1, fun i => if i = p.2.1 then (if bw = 1 then -(M : Int) else (M : Int)) else p.2.2.2.2 i)) hK).symm
  unfold jNu
  by_cases hd : jDi (jBt B n (jNa B n p.1))
  · rw [if_pos hd]
    have hlt := jBt_lt (B := B) (n := n) (a := jNa B n p.1) rfl (by unfold jDi at hd; omega)
    have go41 : ∀ r, fTx_numberOfDigits_41 (d + 1) (nI p.2.1) (nI bw) (nI (if jBt B n (jNa B n p.1) = 48 then 1 else 4096)) 0 1 (nI 0) (lJ (jTo (jNg 3 g p) (jNa B n p.1)) s) = some r → fTx_numberOfDigits (d + 1) (lJ p s) = some r := by
      intro r hr
      refine go20 _ ?_
      refine eTx_numberOfDigits_20 d _ _ _ _ ?_
      rw [hpk _ _ hnan, cG_I, Tx_isDigit d hb2, cG_I, if_pos hd, if_pos (by decide), hpk _ _ hnan, cG_I]
      simp (disch := omega) only [nI_lit 48, uI_eqE]
      by_cases h48 : jBt B n (jNa B n p.1) = 48
      · rw [if_neg (by omega)]
        rw [if_pos h48] at hr
        refine eTx_numberOfDigits_34 d _ _ _ _ _ ?_
        exact hr
      · rw [if_pos h48]
        rw [if_neg h48] at hr
        refine eTx_numberOfDigits_34 d _ _ _ _ _ ?_
        exact hr
    have hM0 : lM 0 1 0 := .inl ⟨by omega, rfl, rfl⟩
    by_cases h48 : jBt B n (jNa B n p.1) = 48
    · rw [if_pos h48] at go41
      have er : jNr B n (jNa B n p.1) = (0, jNa B n p.1 + 1) := by unfold jNr; rw [if_pos h48]
      rw [er, if_pos (by show 0 ≤ _; omega)]
      show fTx_numberOfDigits (d + 1) (lJ p s) = _
      obtain ⟨z', x', hM', go⟩ := (Tx_n41 (s := s) (l := p.2.2.1) (m := p.2.1 + 1) (T := (jNd 3 p).2.2.2.1) (N := (jNg 3 g p).2.2.2.2) (v := p.2.1) (bw := bw) (most := 1) hB d hnan hM0 (by omega) (j := 0) (by omega)).1 ⟨hd, by omega⟩
      rw [h48] at hM'
      have stop := (Tx_n41 (s := s) (l := p.2.2.1) (m := p.2.1 + 1) (T := (jNd 3 p).2.2.2.1) (N := (jNg 3 g p).2.2.2.2) (v := p.2.1) (bw := bw) (most := 1) hB d (a := jNa B n p.1 + 1) hlt hM' (by omega) (j := 1) (by omega)).2 (fun h => by have := h.2; omega)
      have h83 := (Tx_n83 (s := s) d (a := jNa B n p.1 + 1) (l := p.2.2.1) (N := (jNg 3 g p).2.2.2.2) (Nat.lt_succ_self p.2.1) (by omega) hK hbw hM' hlim).1 (by rw [hlim]; split <;> omega)
      refine go41 _ (go _ (stop _ ?_))
      rw [h83, fin _ _ (jNa B n p.1 + 1 - jNa B n p.1)]
      rfl
    · rw [if_neg h48] at go41
      have er : jNr B n (jNa B n p.1) = jDg B n n 0 (jNa B n p.1) := by unfold jNr; rw [if_neg h48]
      rw [er]
      have hL := Tx_nloop (s := s) hB d (l := p.2.2.1) (T := (jNd 3 p).2.2.2.1) (N := (jNg 3 g p).2.2.2.2) (Nat.lt_succ_self p.2.1) (by omega) hK hbw hlim n (jNa B n p.1) 0 1 0 0 (by omega) hnan (by omega) hM0
      by_cases hle : (jDg B n n 0 (jNa B n p.1)).1 ≤ jNm B n p.1
      · rw [if_pos hle]
        show fTx_numberOfDigits (d + 1) (lJ p s) = _
        have h := hL.1 hle
        rw [fin _ _ ((jDg B n n 0 (jNa B n p.1)).2 - jNa B n p.1)] at h
        exact go41 _ h
      · rw [if_neg hle]
        obtain ⟨p1, hq, h⟩ := hL.2 (by omega)
        rw [hF] at h
        exact ⟨p1, hq, go41 _ h⟩
  · rw [if_neg hd]
    refine ⟨jTo (jNg 3 g p) (jNa B n p.1), by show jNa B n p.1 ≤ 4096; omega, go20 _ ?_⟩
    refine eTx_numberOfDigits_20 d _ _ _ _ ?_
    rw [hpk _ _ hnan, cG_I, Tx_isDigit d hb2, cG_I, if_neg hd, if_neg (by decide), Tx_failHere, cG_I]
    rfl
end
