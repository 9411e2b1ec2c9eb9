/-! PURE: an object's children are strings and values in turn -/
def jKy (T : Nat → Nat → Nat) : Nat → Nat → Prop
  | 0, _ => True
  | m + 1, cur => T 0 (cur - 1) = 2 ∧ jKy T m (T 4 (T 4 (cur - 1) - 1))
def jKo (T : Nat → Nat → Nat) (u : Nat) : Prop := ∃ m, T 2 u = 2 * m ∧ jKy T m (T 3 u)
def jKs (p : jP) (lo : Nat) : Prop := ∀ u, lo ≤ u → u < p.2.1 → p.2.2.2.1 0 u = 0 → jKo p.2.2.2.1 u
theorem jKy_upd {T T' : Nat → Nat → Nat} {hi : Nat} : ∀ m lo cur, (∀ i, lo < i + 1 → i + 1 ≤ hi → T' 4 i = T 4 i ∧ T' 0 i = T 0 i) → jCh T (2 * m) lo hi cur → jKy T m cur → jKy T' m cur := by
  intro m
  induction m with
  | zero => intro lo cur _ _ _; trivial
  | succ m ih =>
    intro lo cur hT hc h
    have e : 2 * (m + 1) = 2 * m + 1 + 1 := by omega
    rw [e] at hc
    obtain ⟨c1, c2, c3, c4, c5⟩ := hc
    obtain ⟨h1, h2⟩ := h
    refine ⟨by rw [(hT (cur - 1) (by omega) (by omega)).2]; exact h1, ?_⟩
    rw [(hT (cur - 1) (by omega) (by omega)).1, (hT (T 4 (cur - 1) - 1) (by omega) (by omega)).1]
    exact ih _ _ (fun i a b => hT i (by omega) b) c5 h2
theorem jKy_app {T T' : Nat → Nat → Nat} {last key : Nat} (hl : T' 4 (last - 1) = key + 1) (hk : T' 0 key = 2) : ∀ m lo cur, 0 < m → (∀ i, lo < i + 1 → i + 1 < last → T' 4 i = T 4 i) → (∀ i, lo < i + 1 → i + 1 ≤ last → T' 0 i = T 0 i) → jCl T (2 * m) lo last cur → jKy T m cur → jKy T' (m + 1) cur := by
  intro m
  induction m with
  | zero => intro lo cur h; omega
  | succ m ih =>
    intro lo cur _ hT h0 hc h
    have e : 2 * (m + 1) = 2 * m + 1 + 1 := by omega
    rw [e] at hc
    obtain ⟨c1, c2⟩ := hc
    rcases c2 with ⟨c2, _⟩ | ⟨c2, c3, c4⟩
    · omega
    · obtain ⟨h1, h2⟩ := h
      refine ⟨by rw [h0 (cur - 1) (by omega) (by omega)]; exact h1, ?_⟩
      rw [hT (cur - 1) (by omega) (by omega)]
      rcases c4 with ⟨c4, c5⟩ | ⟨c4, c5⟩
      · have m0 : m = 0 := by omega
        subst m0
        rw [c5, hl]
        exact ⟨hk, trivial⟩
      · rw [hT (T 4 (cur - 1) - 1) (by omega) (by omega)]
        have hm : 0 < m := by
          rcases Nat.eq_zero_or_pos m with g | g
          · subst g; exact c5.elim
          · exact g
        exact ih _ _ hm (fun i a b => hT i (by omega) b) (fun i a b => h0 i (by omega) b) c5 h2
theorem jKo_fr {T T' : Nat → Nat → Nat} {u hi : Nat} (hc : jCh T (T 2 u) (u + 1) hi (T 3 u)) (h2 : T' 2 u = T 2 u) (h3 : T' 3 u = T 3 u) (hT : ∀ i, u < i → i + 1 ≤ hi → T' 4 i = T 4 i ∧ T' 0 i = T 0 i) (h : jKo T u) : jKo T' u := by
  obtain ⟨m, h4, h5⟩ := h
  refine ⟨m, by rw [h2, h4], ?_⟩
  rw [h3]
  rw [h4] at hc
  exact jKy_upd _ _ _ (fun i a b => hT i (by omega) b) hc h5
theorem jKs_vo {n lo w : Nat} {p p1 : jP} (hv : jVo n p p1 w) (hc : jCs p lo p.2.1) (h : jKs p lo) (h1 : jKs p1 p.2.1) : jKs p1 lo := by
  obtain ⟨g1, g2, g3, g4, g5, g6, g7, g8, g9, g10, g11, g12⟩ := hv
  intro u a b k
  rcases Nat.lt_or_ge u p.2.1 with hu | hu
  · have e : ∀ r i, r ≠ 6 → i < p.2.1 → p1.2.2.2.1 r i = p.2.2.2.1 r i := fun r i hr hi => g8.1 r i hr hi
    rw [e 0 u (by omega) hu] at k
    have hcu := hc u a hu (.inl k)
    exact jKo_fr hcu.2 (e 2 u (by omega) hu) (e 3 u (by omega) hu) (fun i _ hi => ⟨e 4 i (by omega) (by omega), e 0 i (by omega) (by omega)⟩) (h u a hu k)
  · exact h1 u hu b k
theorem jKs_lk {v last m w : Nat} {p : jP} (h : jLi v last m p) (hK : jKs p (v + 1)) : jKs (jLk v last w p) (v + 1) := by
  obtain ⟨h1, h2, h3, h4, h5, h6⟩ := h
  intro u a b k
  rw [jLk_2] at b
  have e : ∀ r i, r ≠ 4 → i ≠ v → (jLk v last w p).2.2.2.1 r i = p.2.2.2.1 r i := by
    intro r i hr hi
    rw [jLk_row, if_neg (by omega)]
    split
    · rw [if_neg (by omega)]
    · rw [if_neg (by omega)]
  have e4 : ∀ i, i + 1 ≠ last → (jLk v last w p).2.2.2.1 4 i = p.2.2.2.1 4 i := by
    intro i hi
    rw [jLk_row, if_neg (by omega)]
    split
    · rw [if_neg (by omega)]
    · rw [if_neg (by omega)]
  rw [e 0 u (by omega) (by omega)] at k
  have hcu := h4 u a b (.inl k)
  refine jKo_fr hcu.2 (e 2 u (by omega) (by omega)) (e 3 u (by omega) (by omega)) (fun i hi1 hi2 => ⟨e4 i ?_, e 0 i (by omega) (by omega)⟩) (hK u a b k)
  intro hlast
  have := h5 u (by omega) (by omega) (.inl k)
  omega
theorem jLs_ks {B : Nat → Nat} {n : Nat} {val : jP → Except Nat (jP × Nat)} (hval : ∀ p r, jOk n p → val p = .ok r → jVo n p r.1 r.2) (hks : ∀ p r, jOk n p → val p = .ok r → jKs r.1 p.2.1) {v : Nat} : ∀ f p last m p', jOk n p → jLi v last m p → jKs p (v + 1) → jLs B n val v f p last = .ok p' → jKs p' (v + 1) := by
  intro f
  induction f with
  | zero => intro p last m p' _ _ _ h; cases h
  | succ f ih =>
    intro p last m p' ho hi hk h
    unfold jLs at h
    split at h
    · cases h
    · rename_i p1 w hv
      have hvo := hval _ _ ho hv
      have hk1 := jKs_vo hvo hi.2.2.2.1 hk (hks _ _ ho hv)
      simp only at hvo hk1
      have ho1 := jVo_ok hvo ho
      have hvn : v < p.2.1 := hi.1
      have hll := jLi_last hi
      have hl0 := jLi_l hi
      have hI1 := jLi_vo hi hvo
      obtain ⟨g1, g2, g3, g4, g5, g6, g7, g8, g9, g10, g11, g12⟩ := hvo
      have hLk : jLi v (w + 1) (m + 1) (jLk v last w p1) := by
        refine jLi_lk hI1 (by omega) (by omega) (by omega) g9 ?_
        intro u a b c
        have hu : u < p.2.1 := by omega
        unfold jIs at c
        rw [g8.1 0 u (by omega) hu] at c
        rw [g8.1 7 u (by omega) hu]
        have := (hi.2.2.2.1 u a hu c).1
        omega
      have hkk : jKs (jLk v last w p1) (v + 1) := jKs_lk hI1 hk1
      split at h
      · cases h
      · rename_i a hs
        have hsp := jSp_ok ho1.1 (by omega) hs
        simp only at hsp
        have hok : jOk n (jTo (jLk v last w p1) a) := ⟨hsp.2, by show (jLk v last w p1).2.1 ≤ a; rw [jLk_2]; have := ho1.2.1; omega, by show (jLk v last w p1).2.2.1 ≤ a; rw [jLk_3]; have := ho1.2.2; omega⟩
        exact ih _ _ _ _ hok (jLi_to hLk) hkk h
      · cases h
        exact hkk
theorem jOs_ks {B : Nat → Nat} {n : Nat} {val : jP → Except Nat (jP × Nat)} (hval : ∀ p r, jOk n p → val p = .ok r → jVo n p r.1 r.2) (hks : ∀ p r, jOk n p → val p = .ok r → jKs r.1 p.2.1) {v : Nat} : ∀ f p last m p', jOk n p → jLi v last (2 * m) p → jKs p (v + 1) → jKy p.2.2.2.1 m (p.2.2.2.1 3 v) → jOs B n val v f p last = .ok p' → jKs p' (v + 1) ∧ jKo p'.2.2.2.1 v := by
  intro f
  induction f with
  | zero => intro p last m p' _ _ _ _ h; cases h
  | succ f ih =>
    intro p last m p' ho hi hks0 hky h
    unfold jOs at h
    split at h
    case isFalse => cases h
    rename_i h34
    split at h
    · cases h
    · rename_i p1 key hk
      obtain ⟨hvo, hks1, hkk⟩ := jStr_ok ho (jBt_lt h34 (by omega)) hk
      simp only at hvo hks1 hkk
      have ho1 := jVo_ok hvo ho
      have hvn : v < p.2.1 := hi.1
      have hll := jLi_last hi
      have hl0 := jLi_l hi
      have hI1 := jLi_vo hi hvo
      have hK1 : jKs p1 (v + 1) := by
        refine jKs_vo hvo hi.2.2.2.1 hks0 ?_
        intro u a b k
        have : u = p.2.1 := by omega
        rw [this, hkk] at k
        omega
      obtain ⟨g1, g2, g3, g4, g5, g6, g7, g8, g9, g10, g11, g12⟩ := hvo
      split at h
      case isFalse => cases h
      split at h
      case isFalse => cases h
      rename_i h58
      have hs1 := jSk_le (B := B) ho1.1
      have hlt := jBt_lt h58 (by omega)
      have hs2 := jSk_le (B := B) (n := n) (a := jSk B n p1.1 + 1) (by omega)
      generalize hqa : jSk B n (jSk B n p1.1 + 1) = qa at *
      split at h
      · cases h
      · rename_i p2 w hv
        have hoq : jOk n (jTo p1 qa) := ⟨hs2.2, by have := ho1.2.1; show p1.2.1 ≤ qa; omega, by have := ho1.2.2; show p1.2.2.1 ≤ qa; omega⟩
        have hvo2 := hval _ _ hoq hv
        simp only at hvo2
        have ho2 := jVo_ok hvo2 hoq
        have hI2 := jLi_vo (jLi_to (a := qa) hI1) hvo2
        have hK2 : jKs p2 (v + 1) := jKs_vo hvo2 hI1.2.2.2.1 hK1 (hks _ _ hoq hv)
        obtain ⟨k1, k2, k3, k4, k5, k6, k7, k8, k9, k10, k11, k12⟩ := hvo2
        have q1 : (jTo p1 qa).1 = qa := rfl
        have q2 : (jTo p1 qa).2 = p1.2 := rfl
        rw [q2] at k1 k2 k5 k6 k7 k8 k11 k12
        rw [q1] at k3 k5 k7
        have k8' : ∀ k i, k ≠ 6 → i < p1.2.1 → p2.2.2.2.1 k i = p1.2.2.2.1 k i := k8.1
        have kg : ∀ k i, k ≠ 6 → i < p.2.1 → p2.2.2.2.1 k i = p.2.2.2.1 k i := fun k i hk hi => by rw [k8' k i hk (by omega), g8.1 k i hk hi]
        have hE1 : ∀ u, v < u → u < key → jIs p2 u → p2.2.2.2.1 7 u ≤ key := by
          intro u a b c
          have hu : u < p.2.1 := by omega
          unfold jIs at c
          rw [kg 0 u (by omega) hu] at c
          rw [kg 7 u (by omega) hu]
          have := (hi.2.2.2.1 u a hu c).1
          omega
        have hLk1 : jLi v (key + 1) (2 * m + 1) (jLk v last key p2) := jLi_lk hI2 (by omega) (by omega) (by omega) (by rw [k8' 4 key (by omega) (by omega)]; exact g9) hE1
        have hLk : jLi v (w + 1) (2 * m + 1 + 1) (jLk v (key + 1) w (jLk v last key p2)) := by
          refine jLi_lk hLk1 (by rw [jLk_2]; omega) (by omega) (by omega) ?_ ?_
          · rw [jLk_row, if_neg (by omega)]
            split
            · rw [if_neg (by omega)]; exact k9
            · rw [if_neg (by omega)]; exact k9
          · intro u a b c
            have r : ∀ r, r = 0 ∨ r = 7 → (jLk v last key p2).2.2.2.1 r u = p2.2.2.2.1 r u := by
              intro r hr
              rw [jLk_row, if_neg (by omega)]
              split
              · rw [if_neg (by omega)]
              · rw [if_neg (by omega)]
            unfold jIs at c
            rw [r 0 (.inl rfl)] at c
            rw [r 7 (.inr rfl)]
            rcases Nat.lt_or_ge u key with hu | hu
            · have := hE1 u a hu c
              omega
            · have : u = key := by omega
              subst this
              rw [k8' 0 u (by omega) (by omega), g1, hkk] at c
              omega
        have hKk : jKs (jLk v (key + 1) w (jLk v last key p2)) (v + 1) := jKs_lk hLk1 (jKs_lk hI2 hK2)
        have e2m : 2 * m + 1 + 1 = 2 * (m + 1) := by omega
        rw [e2m] at hLk
        -- the strings
        have hrow : ∀ r i, r ≠ 4 → i ≠ v → (jLk v (key + 1) w (jLk v last key p2)).2.2.2.1 r i = p2.2.2.2.1 r i := by
          intro r i hr hi
          rw [jLk_row, if_neg (by omega), if_neg (by omega), if_neg (by omega), jLk_row, if_neg (by omega)]
          split
          · rw [if_neg (by omega)]
          · rw [if_neg (by omega)]
        have hrow4 : ∀ i, i + 1 < last → (jLk v (key + 1) w (jLk v last key p2)).2.2.2.1 4 i = p2.2.2.2.1 4 i := by
          intro i hi
          rw [jLk_row, if_neg (by omega), if_neg (by omega), if_neg (by omega), jLk_row, if_neg (by omega)]
          split
          · rw [if_neg (by omega)]
          · rw [if_neg (by omega)]
        have hkey2 : (jLk v (key + 1) w (jLk v last key p2)).2.2.2.1 0 key = 2 := by
          rw [hrow 0 key (by omega) (by omega), k8' 0 key (by omega) (by omega), g1, hkk]
        have hI3 : (jLk v (key + 1) w (jLk v last key p2)).2.2.2.1 3 v = if last = 0 then key + 1 else p2.2.2.2.1 3 v := by
          rw [jLk_row, if_neg (by omega), if_neg (by omega), if_neg (by omega), jLk_row, if_neg (by omega)]
          by_cases h0 : last = 0
          · rw [if_pos h0, if_pos ⟨rfl, rfl⟩, if_pos h0]
          · rw [if_neg h0, if_neg (by omega), if_neg h0]
        have hky2 : jKy (jLk v (key + 1) w (jLk v last key p2)).2.2.2.1 (m + 1) ((jLk v (key + 1) w (jLk v last key p2)).2.2.2.1 3 v) := by
          rw [hI3]
          rcases hi.2.2.1 with ⟨b1, b2, b3⟩ | ⟨b1, b2, b3, b4, b5⟩
          · rw [if_pos b1]
            have : m = 0 := by omega
            subst this
            exact ⟨hkey2, trivial⟩
          · rw [if_neg b1, kg 3 v (by omega) hvn]
            have hm : 0 < m := by
              rcases Nat.eq_zero_or_pos m with g | g
              · subst g; exact b5.elim
              · exact g
            refine jKy_app (T := p.2.2.2.1) (last := last) (key := key) ?_ hkey2 m (v + 1) _ hm ?_ ?_ b5 hky
            · rw [jLk_row, if_neg (by omega), if_neg (by omega), if_neg (by omega), jLk_row, if_neg (by omega), if_neg b1, if_pos ⟨rfl, rfl⟩]
            · intro i a b
              rw [hrow4 i b, kg 4 i (by omega) (by omega)]
            · intro i a b
              rw [hrow 0 i (by omega) (by omega), kg 0 i (by omega) (by omega)]
        split at h
        · cases h
        · rename_i a hs
          have hsp := jSp_ok ho2.1 (by omega) hs
          simp only at hsp
          have hok : jOk n (jTo (jLk v (key + 1) w (jLk v last key p2)) a) := ⟨hsp.2, by show (jLk v (key + 1) w (jLk v last key p2)).2.1 ≤ a; rw [jLk_2, jLk_2]; have := ho2.2.1; omega, by show (jLk v (key + 1) w (jLk v last key p2)).2.2.1 ≤ a; rw [jLk_3, jLk_3]; have := ho2.2.2; omega⟩
          exact ih _ _ (m + 1) _ hok (jLi_to hLk) hKk hky2 h
        · cases h
          exact ⟨hKk, m + 1, hLk.2.1, hky2⟩
theorem jKs_se {p : jP} {v e : Nat} (h : jKs p (v + 1)) (hv : p.2.2.2.1 0 v = 0 → jKo p.2.2.2.1 v) : jKs (jSe p 7 v e) v := by
  have e4 : ∀ r i, r ≠ 7 → (jSe p 7 v e).2.2.2.1 r i = p.2.2.2.1 r i := fun r i hr => by
    show a2 p.2.2.2.1 7 v e r i = _
    rw [a2_ite, if_neg (by omega)]
  have hy : ∀ m cur, jKy p.2.2.2.1 m cur → jKy (jSe p 7 v e).2.2.2.1 m cur := by
    intro m
    induction m with
    | zero => intro cur _; trivial
    | succ m ih =>
      intro cur h
      obtain ⟨h1, h2⟩ := h
      refine ⟨by rw [e4 0 _ (by omega)]; exact h1, ?_⟩
      rw [e4 4 _ (by omega), e4 4 _ (by omega)]
      exact ih _ h2
  have ho : ∀ u, jKo p.2.2.2.1 u → jKo (jSe p 7 v e).2.2.2.1 u := by
    rintro u ⟨m, h1, h2⟩
    exact ⟨m, by rw [e4 2 u (by omega)]; exact h1, by rw [e4 3 u (by omega)]; exact hy m _ h2⟩
  intro u a b k
  rw [e4 0 u (by omega)] at k
  rcases Nat.lt_or_ge v u with g | g
  · exact ho u (h u g b k)
  · have : u = v := by omega
    subst this
    exact ho u (hv k)
theorem jV_ks {B : Nat → Nat} {n : Nat} : ∀ D p r, jOk n p → jV B n D p = .ok r → jKs r.1 p.2.1 := by
  have leaf : ∀ p r, jOk n p → jLf B n p = .ok r → jKs r.1 p.2.1 := by
    intro p r ho h u a b k
    exfalso
    have hw : ∀ kk W, 2 ≤ kk → jWd B n kk W p = .ok r → False := by
      intro kk W hk h
      unfold jWd at h
      split at h
      · cases h
      · cases h
        have b : u < p.2.1 + 1 := b
        have e : u = p.2.1 := by omega
        have k : (jNd kk p).2.2.2.1 0 u = 0 := k
        rw [jNd_row, if_pos e] at k
        simp at k
        omega
    unfold jLf at h
    split at h
    · rename_i hb
      have h1 := jStr_ok ho (jBt_lt hb (by omega)) h
      have e : u = p.2.1 := by omega
      rw [e, h1.2.2] at k
      omega
    · split at h
      · unfold jNu at h
        split at h
        · split at h
          · cases h
            have b : u < p.2.1 + 1 := b
            have e : u = p.2.1 := by omega
            have k : a2 (jNd 3 p).2.2.2.1 2 p.2.1 ((jNr B n (jNa B n p.1)).2 - jNa B n p.1) 0 u = 0 := k
            rw [a2_ite, if_neg (by omega), jNd_row, if_pos e] at k
            simp at k
          · cases h
        · cases h
      · split at h
        · exact hw _ _ (by omega) h
        · split at h
          · exact hw _ _ (by omega) h
          · split at h
            · exact hw _ _ (by omega) h
            · cases h
  intro D
  induction D with
  | zero =>
    intro p r ho h
    unfold jV at h
    split at h
    · cases h
    · exact leaf p r ho h
  | succ D ih =>
    intro p r ho h
    unfold jV at h
    split at h
    · rename_i hb
      have hlt := jBt_lt (B := B) (n := n) (a := p.1) rfl (by omega)
      have hs := jSk_le (B := B) (n := n) (a := p.1 + 1) (by omega)
      have hok : ∀ k, jOk n (jTo (jNd k p) (jSk B n (p.1 + 1))) := fun k => ⟨hs.2, by have := ho.2.1; show p.2.1 + 1 ≤ jSk B n (p.1 + 1); omega, by have := ho.2.2; show p.2.2.1 ≤ jSk B n (p.1 + 1); omega⟩
      have hk0 : ∀ k a, jKs (jTo (jNd k p) a) (p.2.1 + 1) := by
        intro k a u h1 h2
        have : u < p.2.1 + 1 := h2
        omega
      have hn0 : ∀ k a, jKo (jTo (jNd k p) a).2.2.2.1 p.2.1 := by
        intro k a
        refine ⟨0, ?_, trivial⟩
        show (jNd k p).2.2.2.1 2 p.2.1 = _
        rw [jNd_row]; simp
      unfold jCo at h
      split at h
      · simp only at h
        split at h
        · cases h
          exact jKs_se (hk0 0 _) (fun _ => hn0 0 _)
        · split at h
          · cases h
          · rename_i p2 hl
            cases h
            have h2 := jOs_ks (fun p r ho h => jV_ok D p r ho h) ih _ _ _ 0 _ (hok 0) jLi_nd (hk0 0 _) trivial hl
            exact jKs_se h2.1 (fun _ => h2.2)
      · simp only at h
        split at h
        · cases h
          exact jKs_se (hk0 1 _) (fun _ => hn0 1 _)
        · split at h
          · cases h
          · rename_i p2 hl
            cases h
            have h2 := jLs_ks (fun p r ho h => jV_ok D p r ho h) ih _ _ _ 0 _ (hok 1) jLi_nd (hk0 1 _) hl
            have h3 := jLs_ok (fun p r ho h => jV_ok D p r ho h) _ _ _ 0 _ (hok 1) jLi_nd hl
            refine jKs_se h2 (fun k => ?_)
            exfalso
            have e := h3.2.2.2.2.2.2.2.1 0 (by omega)
            rw [k] at e
            have : (jNd 1 p).2.2.2.1 0 p.2.1 = 0 := e.symm
            rw [jNd_row] at this
            simp at this
    · exact leaf p r ho h
