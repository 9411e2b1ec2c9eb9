/-! the reference's Text: numbers -/
section
variable {c : Nat} {p : jP} {s : aT} {B : Nat → Nat} {n : Nat}
theorem Mt_n51stop (hc : isT c) (hB : mB0 c s B n) (d : Nat) {q : jP} (ha : q.1 ≤ n) {z1 z2 z3 z4 : Int32} {x : Int64} (h : ¬ jDi (jBt B n q.1)) {r : aOut × aT} (hr : fMt_number_128 (d + 1) c z1 z2 z4 x (mJ c q s) = some r) : fMt_number_51 (d + 1) c z1 z2 z3 z4 x (mJ c q s) = some r := by
  have hb := jBt_le (n := n) (a := q.1) hB.2.2.2
  have hl : ∀ d, fMt_look d c (mJ c q s) = rI (mI (jBt B n q.1)) (mJ c q s) := fun d => Mt_look d hc hB ha
  refine eMt_number_51 d c _ _ _ _ _ _ hc _ ?_
  rw [hl, cG_I]
  simp (disch := omega) only [nI_lit 48, nI_lit 57, mI_ltE]
  unfold jDi at h
  by_cases h1 : jBt B n q.1 < 48 ∨ 128 ≤ jBt B n q.1
  · rw [if_pos h1]; exact hr
  · rw [if_neg h1, hl, cG_I]
    simp (disch := omega) only [mI_gtE]
    rw [if_pos (by omega)]
    exact hr
theorem Mt_n51go (hc : isT c) (hB : mB0 c s B n) (d : Nat) {q : jP} (ha : q.1 ≤ n) {z1 z2 z4 : Int32} {x : Int64} (h : jDi (jBt B n q.1)) {r : aOut × aT} (hr : fMt_number_76 (d + 1) c z1 z2 0 z4 x (mJ c q s) = some r) : fMt_number_51 (d + 1) c z1 z2 0 z4 x (mJ c q s) = some r := by
  have hb := jBt_le (n := n) (a := q.1) hB.2.2.2
  have hl : ∀ d, fMt_look d c (mJ c q s) = rI (mI (jBt B n q.1)) (mJ c q s) := fun d => Mt_look d hc hB ha
  refine eMt_number_51 d c _ _ _ _ _ _ hc _ ?_
  rw [hl, cG_I]
  simp (disch := omega) only [nI_lit 48, nI_lit 57, mI_ltE]
  unfold jDi at h
  rw [if_neg (by omega), hl, cG_I]
  simp (disch := omega) only [mI_gtE]
  rw [if_neg (by omega), if_pos trivial]
  exact hr
theorem Mt_n51loop (hc : isT c) (hB : mB0 c s B n) (d : Nat) {m l v a0 : Nat} {T : Nat → Nat → Nat} {N : Nat → Int} (hv : v < m) (hm : m ≤ 4200) (h3 : T 0 v = 3) {bw : Nat} (hbw : bw = 0 ∨ bw = 1) {lim : Nat} (hlim : lim = if bw = 1 then 9223372036854775808 else 9223372036854775807) : ∀ f a M (z4 : Int32) (x : Int64), n ≤ a + f → a ≤ n → a0 ≤ a → (M ≤ lim ∧ z4 = 1 ∧ x = Int64.ofInt (-(M : Int)) ∨ lim < M ∧ z4 = 0) →
    ((jDg B n f M a).1 ≤ lim → fMt_number_51 (d + 2) c (nI v) (nI bw) 0 z4 x (mJ c (a, m, l, a2 T 2 v (a - a0), N) s) = rI (nI v) (mJ c ((jDg B n f M a).2, m, l, a2 T 2 v ((jDg B n f M a).2 - a0), fun j => if j = v then (if bw = 1 then -((jDg B n f M a).1 : Int) else ((jDg B n f M a).1 : Int)) else N j) s)) ∧
    (lim < (jDg B n f M a).1 → ∃ p1, fMt_number_51 (d + 2) c (nI v) (nI bw) 0 z4 x (mJ c (a, m, l, a2 T 2 v (a - a0), N) s) = rT 0 (mX c p1 s (T 1 v))) := by
  have stop : ∀ a M (z4 : Int32) (x : Int64), a ≤ n → ¬ jDi (jBt B n a) → (M ≤ lim ∧ z4 = 1 ∧ x = Int64.ofInt (-(M : Int)) ∨ lim < M ∧ z4 = 0) →
    (M ≤ lim → fMt_number_51 (d + 2) c (nI v) (nI bw) 0 z4 x (mJ c (a, m, l, a2 T 2 v (a - a0), N) s) = rI (nI v) (mJ c (a, m, l, a2 T 2 v (a - a0), fun j => if j = v then (if bw = 1 then -(M : Int) else (M : Int)) else N j) s)) ∧
    (lim < M → ∃ p1, fMt_number_51 (d + 2) c (nI v) (nI bw) 0 z4 x (mJ c (a, m, l, a2 T 2 v (a - a0), N) s) = rT 0 (mX c p1 s (T 1 v))) := by
    intro a M z4 x ha hd hM
    constructor
    · intro hl
      rcases hM with ⟨_, h2, h3'⟩ | ⟨h1, _⟩
      · subst h2
        subst h3'
        refine Mt_n51stop hc hB (d + 1) ha hd ?_
        exact Mt_num128 hc d hv hm (by rw [a2_ite, if_neg (by omega)]; omega) hbw
      · omega
    · intro hl
      rcases hM with ⟨h1, _⟩ | ⟨_, h2⟩
      · omega
      · subst h2
        refine ⟨(a, m, l, a2 T 2 v (a - a0), N), Mt_n51stop hc hB (d + 1) ha hd ?_⟩
        have := Mt_num128x (s := s) hc d (a := a) (l := l) (T := a2 T 2 v (a - a0)) (N := N) hv hm (z := nI bw) (x := x)
        rw [a2_ite, if_neg (by omega)] at this
        exact this
  intro f
  induction f with
  | zero =>
    intro a M z4 x h1 h2 h3' hM
    refine stop a M z4 x h2 ?_ hM
    unfold jBt
    rw [if_neg (by omega)]
    unfold jDi
    omega
  | succ f ih =>
    intro a M z4 x h1 h2 h3' hM
    unfold jDg
    by_cases hd : jDi (jBt B n a)
    · rw [if_pos hd]
      have hlt := jBt_lt (B := B) (n := n) (a := a) rfl (by unfold jDi at hd; omega)
      obtain ⟨z4', x', hM', go⟩ := Mt_num76 (l := l) (N := N) (z3 := 0) (j := a - a0) hc hB (d + 1) hv hm (T := a2 T 2 v (a - a0)) (by rw [a2_ite, if_neg (by omega)]; exact h3) (by rw [a2_ite, if_pos ⟨rfl, rfl⟩]) hbw h2 hd hlim hM
      rw [a2_a2] at go
      have e : a - a0 + 1 = a + 1 - a0 := by omega
      rw [e] at go
      have ih := ih (a + 1) (10 * M + (jBt B n a - 48)) z4' x' (by omega) hlt (by omega) hM'
      constructor
      · intro hl
        exact Mt_n51go hc hB (d + 1) h2 hd (go _ (ih.1 hl))
      · intro hl
        obtain ⟨p1, h⟩ := ih.2 hl
        exact ⟨p1, Mt_n51go hc hB (d + 1) h2 hd (go _ h)⟩
    · rw [if_neg hd]
      exact stop a M z4 x h2 hd hM
theorem Mt_num (hc : isT c) (hB : mB0 c s B n) (d : Nat) (ho : jOk n p) (hp : p.1 < n) : match jNu B n p with
    | .ok (p1, v) => fMt_number (d + 2) c (mJ c p s) = rI (nI v) (mJ c p1 s)
    | .error e => ∃ p1, fMt_number (d + 2) c (mJ c p s) = rT 0 (mX c p1 s e) := by
  have hn := hB.1
  obtain ⟨o1, o2, o3⟩ := ho
  have hb := jBt_le (n := n) (a := p.1) hB.2.2.2
  have hna := jNa_le (B := B) (n := n) (a := p.1)
  have hb2 := jBt_le (n := n) (a := jNa B n p.1) hB.2.2.2
  have hK : (jNd 3 p).2.2.2.1 0 p.2.1 = 3 := by rw [jNd_row]; simp
  have hF : (jNd 3 p).2.2.2.1 1 p.2.1 = p.1 := by rw [jNd_row]; simp
  have hZ : (jNd 3 p).2.2.2.1 2 p.2.1 = 0 := by rw [jNd_row]; simp
  obtain ⟨bw, hbw, hbb⟩ : ∃ bw : Nat, (bw = 0 ∨ bw = 1) ∧ (bw = 1 ↔ jBt B n p.1 = 45) := by
    by_cases h : jBt B n p.1 = 45
    · exact ⟨1, .inr rfl, by simp [h]⟩
    · exact ⟨0, .inl rfl, by simp [h]⟩
  have hlim : jNm B n p.1 = if bw = 1 then 9223372036854775808 else 9223372036854775807 := by
    unfold jNm
    by_cases h : jBt B n p.1 = 45
    · rw [if_pos h, if_pos (hbb.mpr h)]
    · rw [if_neg h, if_neg (fun x => h (hbb.mp x))]
  have hval : ∀ M, jNv B n p.1 M = if bw = 1 then -(M : Int) else (M : Int) := by
    intro M
    unfold jNv
    by_cases h : jBt B n p.1 = 45
    · rw [if_pos h, if_pos (hbb.mpr h)]
    · rw [if_neg h, if_neg (fun x => h (hbb.mp x))]
  have hl : ∀ d a, a ≤ n → fMt_look d c (mJ c (jTo (jNd 3 p) a) s) = rI (mI (jBt B n a)) (mJ c (jTo (jNd 3 p) a) s) := fun d a ha => Mt_look d hc hB ha
  have hl0 : ∀ d, fMt_look d c (mJ c (jNd 3 p) s) = rI (mI (jBt B n p.1)) (mJ c (jNd 3 p) s) := fun d => Mt_look d hc hB o1
  have go22 : ∀ r, fMt_number_22 (d + 2) c (nI p.2.1) (nI bw) (nI (jNa B n p.1)) (mJ c (jNd 3 p) s) = some r → fMt_number (d + 2) c (mJ c p s) = some r := by
    intro r hr
    refine eMt_number (d + 1) c _ hc _ ?_
    rw [nI_lit 3, Mt_node _ hc 3 (by omega), cG_I, hl0, cG_I]
    simp (disch := omega) only [nI_lit 45, mI_eqE]
    by_cases h : jBt B n p.1 = 45
    · rw [if_neg (by omega)]
      have e1 : bw = 1 := hbb.mpr h
      subst e1
      refine eMt_number_11 (d + 1) c _ _ _ hc _ ?_
      rw [if_neg (by decide), mJ_at, nI_add1]
      unfold jNa at hr
      rw [if_pos h] at hr
      exact hr
    · rw [if_pos h]
      have e1 : bw = 0 := by
        rcases hbw with e | e
        · exact e
        · exact absurd (hbb.mp e) h
      subst e1
      refine eMt_number_11 (d + 1) c _ _ _ hc _ ?_
      rw [if_pos rfl, mJ_at]
      unfold jNa at hr
      rw [if_neg h] at hr
      exact hr
  have hnan : jNa B n p.1 ≤ n := by omega
  unfold jNu
  by_cases hd : jDi (jBt B n (jNa B n p.1))
  · rw [if_pos hd]
    have hlt := jBt_lt (B := B) (n := n) (a := jNa B n p.1) rfl (by unfold jDi at hd; omega)
    have go35 : ∀ r, (if jBt B n (jNa B n p.1) = 48 then fMt_number_51 (d + 2) c (nI p.2.1) (nI bw) 1 1 0 (mJ c (jTo (jNd 3 p) (jNa B n p.1)) s) else fMt_number_51 (d + 2) c (nI p.2.1) (nI bw) 0 1 0 (mJ c (jTo (jNd 3 p) (jNa B n p.1)) s)) = some r → fMt_number (d + 2) c (mJ c p s) = some r := by
      intro r hr
      refine go22 _ ?_
      refine eMt_number_22 (d + 1) c _ _ _ _ hc _ ?_
      rw [wI_eq, mJ_to, hl _ _ hnan, cG_I]
      unfold jDi at hd
      simp (disch := omega) only [nI_lit 48, nI_lit 57, mI_ltE]
      rw [if_neg (by omega), hl _ _ hnan, cG_I]
      simp (disch := omega) only [mI_gtE]
      rw [if_neg (by omega)]
      refine eMt_number_35 (d + 1) c _ _ _ _ hc _ ?_
      rw [Mt_need1 _ hc, cG_V, hl _ _ hnan, cG_I]
      simp (disch := omega) only [nI_lit 48, mI_eqE]
      by_cases h48 : jBt B n (jNa B n p.1) = 48
      · rw [if_pos h48] at hr
        rw [if_neg (by omega)]
        refine eMt_number_46 (d + 1) c _ _ _ _ hc _ ?_
        exact hr
      · rw [if_neg h48] at hr
        rw [if_pos h48]
        refine eMt_number_46 (d + 1) c _ _ _ _ hc _ ?_
        exact hr
    have est : jTo (jNd 3 p) (jNa B n p.1) = (jNa B n p.1, p.2.1 + 1, p.2.2.1, a2 (jNd 3 p).2.2.2.1 2 p.2.1 (jNa B n p.1 - jNa B n p.1), (jNd 3 p).2.2.2.2) := by
      rw [a2_self (jNd 3 p).2.2.2.1 2 p.2.1 (by rw [hZ, Nat.sub_self])]
      rfl
    have hN : ∀ x : Int, (fun j => if j = p.2.1 then x else (jNd 3 p).2.2.2.2 j) = (fun j => if j = p.2.1 then x else p.2.2.2.2 j) := by
      intro x
      funext j
      simp only [jNd]
      split <;> rfl
    by_cases h48 : jBt B n (jNa B n p.1) = 48
    · rw [if_pos h48] at go35
      have er : jNr B n (jNa B n p.1) = (0, jNa B n p.1 + 1) := by unfold jNr; rw [if_pos h48]
      rw [er]
      rw [if_pos (by show 0 ≤ _; omega)]
      simp only
      refine go35 _ ?_
      obtain ⟨z4', x', hM', go⟩ := Mt_num76 (l := p.2.2.1) (N := (jNd 3 p).2.2.2.2) (z3 := 1) (j := 0) (z4 := 1) (x := 0) (M := 0) hc hB (d + 1) (Nat.lt_succ_self p.2.1) (by omega) (T := (jNd 3 p).2.2.2.1) hK hZ hbw hnan hd hlim (.inl ⟨by omega, rfl, rfl⟩)
      rw [h48] at hM'
      have hM2 : z4' = 1 ∧ x' = 0 := by
        rcases hM' with ⟨_, h2, h3⟩ | ⟨h1, _⟩
        · exact ⟨h2, h3⟩
        · omega
      obtain ⟨e1, e2⟩ := hM2
      subst e1
      subst e2
      have first : ∀ r, fMt_number_76 (d + 2) c (nI p.2.1) (nI bw) 1 1 0 (mJ c (jTo (jNd 3 p) (jNa B n p.1)) s) = some r → fMt_number_51 (d + 2) c (nI p.2.1) (nI bw) 1 1 0 (mJ c (jTo (jNd 3 p) (jNa B n p.1)) s) = some r := by
        intro r hr
        refine eMt_number_51 (d + 1) c _ _ _ _ _ _ hc _ ?_
        unfold jDi at hd
        rw [hl _ _ hnan, cG_I]
        simp (disch := omega) only [nI_lit 48, nI_lit 57, mI_ltE]
        rw [if_neg (by omega), hl _ _ hnan, cG_I]
        simp (disch := omega) only [mI_gtE]
        rw [if_neg (by omega), if_neg (by decide), if_neg (by decide), ldI_n (by omega) (by omega), mJ_K (by show p.2.1 < p.2.1 + 1; omega)]
        show (if ¬ nI ((jNd 3 p).2.2.2.1 0 p.2.1) = 3 then _ else _) = _
        rw [hK, if_neg (by decide), ldI_n (by omega) (by omega), mJ_Z' (by show p.2.1 < p.2.1 + 1; omega) (by show (jNd 3 p).2.2.2.1 0 p.2.1 ≠ 0; omega)]
        show (if ¬ nI ((jNd 3 p).2.2.2.1 2 p.2.1) = 0 then _ else _) = _
        rw [hZ, if_neg (by decide)]
        exact hr
      refine first _ (go _ ?_)
      -- behind the zero
      have h128 := Mt_num128 (s := s) hc d (a := jNa B n p.1 + 1) (l := p.2.2.1) (T := a2 (jNd 3 p).2.2.2.1 2 p.2.1 (0 + 1)) (N := (jNd 3 p).2.2.2.2) (Nat.lt_succ_self p.2.1) (by omega) (by rw [a2_ite, if_neg (by omega)]; omega) hbw (M := 0)
      have e0 : Int64.ofInt (-((0 : Nat) : Int)) = 0 := rfl
      rw [e0] at h128
      rw [hN, ← hval 0] at h128
      have e1 : jNa B n p.1 + 1 - jNa B n p.1 = 0 + 1 := by omega
      rw [e1]
      by_cases hd2 : jDi (jBt B n (jNa B n p.1 + 1))
      · have hb3 := jBt_le (n := n) (a := jNa B n p.1 + 1) hB.2.2.2
        have hl3 : ∀ d, fMt_look d c (mJ c (jNa B n p.1 + 1, p.2.1 + 1, p.2.2.1, a2 (jNd 3 p).2.2.2.1 2 p.2.1 (0 + 1), (jNd 3 p).2.2.2.2) s) = rI (mI (jBt B n (jNa B n p.1 + 1))) (mJ c (jNa B n p.1 + 1, p.2.1 + 1, p.2.2.1, a2 (jNd 3 p).2.2.2.1 2 p.2.1 (0 + 1), (jNd 3 p).2.2.2.2) s) := fun d => Mt_look d hc hB hlt
        refine eMt_number_51 (d + 1) c _ _ _ _ _ _ hc _ ?_
        unfold jDi at hd2
        rw [hl3, cG_I]
        simp (disch := omega) only [nI_lit 48, nI_lit 57, mI_ltE]
        rw [if_neg (by omega), hl3, cG_I]
        simp (disch := omega) only [mI_gtE]
        have hk2 : gI (mJ c (jNa B n p.1 + 1, p.2.1 + 1, p.2.2.1, a2 (jNd 3 p).2.2.2.1 2 p.2.1 (0 + 1), (jNd 3 p).2.2.2.2) s) (c + 2) p.2.1 = 3 := by
          rw [mJ_K (by show p.2.1 < p.2.1 + 1; omega)]
          show nI (a2 (jNd 3 p).2.2.2.1 2 p.2.1 (0 + 1) 0 p.2.1) = 3
          rw [a2_ite, if_neg (by simp), hK]
          rfl
        have hz2 : gI (mJ c (jNa B n p.1 + 1, p.2.1 + 1, p.2.2.1, a2 (jNd 3 p).2.2.2.1 2 p.2.1 (0 + 1), (jNd 3 p).2.2.2.2) s) (c + 5) p.2.1 = 1 := by
          rw [mJ_Z' (by show p.2.1 < p.2.1 + 1; omega) (by show a2 (jNd 3 p).2.2.2.1 2 p.2.1 (0 + 1) 0 p.2.1 ≠ 0; rw [a2_ite, if_neg (by simp)]; omega)]
          show nI (a2 (jNd 3 p).2.2.2.1 2 p.2.1 (0 + 1) 2 p.2.1) = 1
          rw [a2_ite, if_pos ⟨rfl, rfl⟩]
          rfl
        rw [if_neg (by omega), if_neg (by decide), if_neg (by decide), ldI_n (by omega) (by omega), hk2, if_neg (by decide), ldI_n (by omega) (by omega), hz2, if_pos (by decide)]
        exact h128
      · exact Mt_n51stop hc hB (d + 1) (by exact hlt) hd2 h128
    · rw [if_neg h48] at go35
      have er : jNr B n (jNa B n p.1) = jDg B n n 0 (jNa B n p.1) := by unfold jNr; rw [if_neg h48]
      rw [er]
      rw [est] at go35
      have hL := Mt_n51loop (s := s) hc hB d (l := p.2.2.1) (a0 := jNa B n p.1) (T := (jNd 3 p).2.2.2.1) (N := (jNd 3 p).2.2.2.2) (Nat.lt_succ_self p.2.1) (by omega) hK hbw hlim n (jNa B n p.1) 0 1 0 (by omega) hnan (Nat.le_refl _) (.inl ⟨by omega, rfl, rfl⟩)
      by_cases hle : (jDg B n n 0 (jNa B n p.1)).1 ≤ jNm B n p.1
      · rw [if_pos hle]
        simp only
        have h := hL.1 hle
        rw [hN, ← hval] at h
        exact go35 _ h
      · rw [if_neg hle]
        obtain ⟨p1, h⟩ := hL.2 (by omega)
        rw [hF] at h
        exact ⟨p1, go35 _ h⟩
  · rw [if_neg hd]
    refine ⟨jTo (jNd 3 p) (jNa B n p.1), go22 _ ?_⟩
    refine eMt_number_22 (d + 1) c _ _ _ _ hc _ ?_
    rw [wI_eq, mJ_to, hl _ _ hnan, cG_I]
    unfold jDi at hd
    have h34 : fMt_number_34 (d + 2) c (nI p.2.1) (nI bw) (mJ c (jTo (jNd 3 p) (jNa B n p.1)) s) = rT 0 (mX c (jTo (jNd 3 p) (jNa B n p.1)) s (jNa B n p.1)) := by
      refine eMt_number_34 (d + 1) c _ _ _ hc _ ?_
      refine eMt_number_35 (d + 1) c _ _ _ _ hc _ ?_
      rw [mJ_at, Mt_need0 _ hc, cG_T]
      rfl
    simp (disch := omega) only [nI_lit 48, nI_lit 57, mI_ltE]
    by_cases h1 : jBt B n (jNa B n p.1) < 48 ∨ 128 ≤ jBt B n (jNa B n p.1)
    · rw [if_pos h1]; exact h34
    · rw [if_neg h1, hl _ _ hnan, cG_I]
      simp (disch := omega) only [mI_gtE]
      rw [if_pos (by omega)]
      exact h34
end
