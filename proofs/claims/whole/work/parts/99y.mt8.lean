/-! the reference's Text: objects, values -/
section
variable {c : Nat} {p : jP} {s : aT} {B : Nat → Nat} {n : Nat}
/-- no name twice -/
theorem Mt_dup (hc : isT c) (d : Nat) {q : jP} (hm : q.2.1 ≤ 4200) (hl : q.2.2.1 ≤ 4200) (hL : jLe q) (hS : jSt q 0) {key : Nat} (hk : key < q.2.1) (kk : q.2.2.2.1 0 key = 2) {z1 z2 : Int32} {hi : Nat} (hhi : hi ≤ q.2.1) : ∀ m lo cur, jCh q.2.2.2.1 (2 * m) lo hi cur → jKy q.2.2.2.1 m cur →
    (jFd q.2.2.2.1 (fun k => jSm q.2.2.2.1 k key) m cur = 0 → ∀ r, fMt_object_44 (d + 2) c z1 z2 (nI key) (zI 0) (mJ c q s) = some r → fMt_object_44 (d + 2) c z1 z2 (nI key) (zI cur) (mJ c q s) = some r) ∧
    (jFd q.2.2.2.1 (fun k => jSm q.2.2.2.1 k key) m cur ≠ 0 → fMt_object_44 (d + 2) c z1 z2 (nI key) (zI cur) (mJ c q s) = rT 0 (mX c q s (q.2.2.2.1 1 key))) := by
  intro m
  induction m with
  | zero =>
    intro lo cur h _
    have h : cur = 0 := h
    subst h
    exact ⟨fun _ r hr => hr, fun h => absurd rfl h⟩
  | succ m ih =>
    intro lo cur hc2 hy
    have e : 2 * (m + 1) = 2 * m + 1 + 1 := by omega
    rw [e] at hc2
    obtain ⟨c1, c2, c3, c4, c5⟩ := hc2
    obtain ⟨y1, y2⟩ := hy
    have hS1 := hS (cur - 1) (by omega) (by omega) y1
    have hS2 := hS key (by omega) hk kk
    have hsame := Mt_sameS (s := s) hc (d + 1) hm hl hL (x := cur - 1) (y := key) (by omega) hk y1 kk hS1 hS2
    have ih := ih _ _ c5 y2
    have go : ∀ r, (if jSm q.2.2.2.1 (cur - 1) key then fMt_object_56 (d + 2) c z1 z2 (nI key) (nI (cur - 1)) 0 (mJ c q s) else fMt_object_56 (d + 2) c z1 z2 (nI key) (nI (cur - 1)) 1 (mJ c q s)) = some r → fMt_object_44 (d + 2) c z1 z2 (nI key) (zI cur) (mJ c q s) = some r := by
      intro r hr
      refine eMt_object_44 (d + 1) c _ _ _ _ _ hc _ ?_
      rw [zI_pos (by omega), if_neg (nI_pos (by omega)), hsame, cG_I]
      by_cases hs : jSm q.2.2.2.1 (cur - 1) key = true
      · rw [if_pos hs] at hr ⊢
        rw [if_pos (by decide)]
        exact hr
      · rw [if_neg hs] at hr ⊢
        rw [if_neg (by decide)]
        exact hr
    unfold jFd
    rw [if_neg (by omega)]
    by_cases hs : jSm q.2.2.2.1 (cur - 1) key = true
    · rw [if_pos hs] at go ⊢
      refine ⟨fun h => by omega, fun _ => go _ ?_⟩
      refine eMt_object_56 (d + 1) c _ _ _ _ _ _ hc _ ?_
      rw [ldI_n (by omega) (by omega), mJ_F hk, Mt_need0 _ hc, cG_T]
      rfl
    · rw [if_neg hs] at go ⊢
      have step : ∀ r, fMt_object_44 (d + 2) c z1 z2 (nI key) (zI (q.2.2.2.1 4 (q.2.2.2.1 4 (cur - 1) - 1))) (mJ c q s) = some r → fMt_object_44 (d + 2) c z1 z2 (nI key) (zI cur) (mJ c q s) = some r := by
        intro r hr
        refine go _ ?_
        refine eMt_object_56 (d + 1) c _ _ _ _ _ _ hc _ ?_
        rw [ldI_n (by omega) (by omega), Mt_need1 _ hc, cG_V, ldI_n (by omega) (by omega), mJ_X (by omega), zI_pos (by omega), ldI_n (by omega) (by omega), mJ_X (by omega)]
        exact hr
      exact ⟨fun h r hr => step _ (ih.1 h r hr), fun h => step _ (ih.2 h)⟩
theorem Mt_obj22 (hc : isT c) (hB : mB0 c s B n) (d : Nat) {val : jP → Except Nat (jP × Nat)} (hval : ∀ p r, jOk n p → val p = .ok r → jVo n p r.1 r.2) (hle : ∀ p r, val p = .ok r → jLe p → jLe r.1) (hv : ∀ p, jGd n p → jRv c s (fMt_value (d + 7) c (mJ c p s)) (val p)) {v : Nat} : ∀ f p last m, n < p.1 + f → jGd n p → jLi v last (2 * m) p → jKy p.2.2.2.1 m (p.2.2.2.1 3 v) → p.2.2.2.1 0 v = 0 → jRl c s v (fMt_object_22 (d + 8) c (nI v) (zI last) 1 (mJ c p s)) (jOs B n val v f p last) := by
  have hn := hB.1
  intro f
  induction f with
  | zero => intro p last m h1 h2; have := h2.1.1; omega
  | succ f ih =>
    intro p last m h1 hg hi hky hK
    have ho := hg.1
    have hl := hg.2.1
    have hb := jBt_le (n := n) (a := p.1) hB.2.2.2
    have hlk : ∀ d, fMt_look d c (mJ c p s) = rI (mI (jBt B n p.1)) (mJ c p s) := fun d => Mt_look d hc hB ho.1
    unfold jOs
    by_cases h34 : jBt B n p.1 = 34
    case neg =>
      rw [if_neg h34]
      refine eX_of (p1 := p) ?_
      refine eMt_object_22 (d + 7) c _ _ _ _ hc _ ?_
      rw [if_neg (by decide), hlk, cG_I]
      simp (disch := omega) only [nI_lit 34, mI_eqE]
      rw [if_pos h34]
      refine eMt_object_32 (d + 7) c _ _ _ _ hc _ ?_
      rw [mJ_at, Mt_need0 _ hc, cG_T]
      rfl
    rw [if_pos h34]
    have hpn := jBt_lt h34 (by omega)
    have g32 : ∀ r, cG (fMt_string (d + 7) c (mJ c p s)) (kI fun v3 s2 => ldI 4200 s2 (c + 6) (nI v) (fun v4 => fMt_object_44 (d + 8) c (nI v) (zI last) v3 v4 s2)) = some r → fMt_object_22 (d + 8) c (nI v) (zI last) 1 (mJ c p s) = some r := by
      intro r hr
      refine eMt_object_22 (d + 7) c _ _ _ _ hc _ ?_
      rw [if_neg (by decide), hlk, cG_I]
      simp (disch := omega) only [nI_lit 34, mI_eqE]
      rw [if_neg (by omega)]
      refine eMt_object_32 (d + 7) c _ _ _ _ hc _ ?_
      rw [Mt_need1 _ hc, cG_V]
      exact hr
    have hstr := Mt_str hc hB d ho hpn
    cases hk : jStr B n p with
    | error e =>
      rw [hk] at hstr
      obtain ⟨p1, h⟩ := hstr
      refine eX_of (p1 := p1) (g32 _ ?_)
      rw [h, cG_T]
      rfl
    | ok q =>
      obtain ⟨p1, key⟩ := q
      rw [hk] at hstr
      have hstr : fMt_string (d + 7) c (mJ c p s) = rI (nI key) (mJ c p1 s) := hstr
      obtain ⟨hvo, hks1, hkk⟩ := jStr_ok ho hpn hk
      simp only at hvo hks1 hkk
      have hg1 : jGd n p1 := jGd_str hg hpn hk
      have ho1 := hg1.1
      have hvn : v < p.2.1 := hi.1
      have hll := jLi_last hi
      have hl0 := jLi_l hi
      have hI1 := jLi_vo hi hvo
      obtain ⟨g1, g2, g3, g4, g5, g6, g7, g8, g9, g10, g11, g12⟩ := hvo
      obtain ⟨u1, u2, u3⟩ := ho1
      have hkk1 : p1.2.2.2.1 0 key = 2 := by rw [g1]; exact hkk
      have hZ : p1.2.2.2.1 2 v / 2 = m := by rw [hI1.2.1]; omega
      have hCh : jCh p1.2.2.2.1 (2 * m) (v + 1) p1.2.1 (p1.2.2.2.1 3 v) := by
        rcases hI1.2.2.1 with ⟨b1, b2, b3⟩ | ⟨b1, b2, b3, b4, b5⟩
        · rw [b2]; exact b3
        · exact jCl_ch b4 b3 _ _ _ b5
      have hky1 : jKy p1.2.2.2.1 m (p1.2.2.2.1 3 v) := by
        rw [g8.1 3 v (by omega) hvn]
        have hc0 : jCh p.2.2.2.1 (2 * m) (v + 1) p.2.1 (p.2.2.2.1 3 v) := by
          rcases hi.2.2.1 with ⟨b1, b2, b3⟩ | ⟨b1, b2, b3, b4, b5⟩
          · rw [b2]; exact b3
          · exact jCl_ch b4 b3 _ _ _ b5
        exact jKy_upd _ _ _ (fun i _ hi2 => ⟨g8.1 4 i (by omega) (by omega), g8.1 0 i (by omega) (by omega)⟩) hc0 hky
      have hdup := Mt_dup (s := s) hc (d + 6) (q := p1) (by omega) (by omega) hg1.2.1 hg1.2.2 (key := key) (by omega) hkk1 (z1 := nI v) (z2 := zI last) (Nat.le_refl _) m (v + 1) _ hCh hky1
      have g44 : ∀ r, fMt_object_44 (d + 8) c (nI v) (zI last) (nI key) (zI (p1.2.2.2.1 3 v)) (mJ c p1 s) = some r → fMt_object_22 (d + 8) c (nI v) (zI last) 1 (mJ c p s) = some r := by
        intro r hr
        refine g32 _ ?_
        rw [hstr, cG_I, ldI_n (by omega) (by omega), mJ_I (by omega)]
        exact hr
      simp only
      rw [hZ]
      by_cases hfd : jFd p1.2.2.2.1 (fun k => jSm p1.2.2.2.1 k key) m (p1.2.2.2.1 3 v) = 0
      case neg =>
        rw [if_neg hfd]
        exact eX_of (g44 _ (hdup.2 hfd))
      rw [if_pos hfd]
      have g44b : ∀ r, fMt_object_44 (d + 8) c (nI v) (zI last) (nI key) (zI 0) (mJ c p1 s) = some r → fMt_object_22 (d + 8) c (nI v) (zI last) 1 (mJ c p s) = some r := fun r hr => g44 _ (hdup.1 hfd r hr)
      have hs1 := jSk_le (B := B) u1
      by_cases h58 : jBt B n (jSk B n p1.1) = 58
      case neg =>
        rw [if_neg h58]
        refine eX_of (p1 := jTo p1 (jSk B n p1.1)) (g44b _ ?_)
        refine eMt_object_44 (d + 7) c _ _ _ _ _ hc _ ?_
        rw [if_pos (by decide), Mt_bl (d + 6) hc hB u1, cG_V, nI_lit 58, Mt_take0 (p := jTo p1 (jSk B n p1.1)) (d + 5) hc hB hs1.2 (by omega) h58, cG_T]
        rfl
      rw [if_pos h58]
      have hlt := jBt_lt h58 (by omega)
      have hs2 := jSk_le (B := B) (n := n) (a := jSk B n p1.1 + 1) (by omega)
      generalize hqa : jSk B n (jSk B n p1.1 + 1) = qa at *
      have g44c : ∀ r, cG (fMt_value (d + 7) c (mJ c (jTo p1 qa) s)) (kI fun v5 s4 => if 0 ≤ zI last then stI 4200 s4 (c + 7) (zI last) (nI key) (fun s6 => fMt_object_94 (d + 8) c (nI v) (nI key) v5 s6) else stI 4200 s4 (c + 6) (nI v) (nI key) (fun s7 => fMt_object_94 (d + 8) c (nI v) (nI key) v5 s7)) = some r → fMt_object_22 (d + 8) c (nI v) (zI last) 1 (mJ c p s) = some r := by
        intro r hr
        refine g44b _ ?_
        refine eMt_object_44 (d + 7) c _ _ _ _ _ hc _ ?_
        rw [if_pos (by decide), Mt_bl (d + 6) hc hB u1, cG_V, nI_lit 58, Mt_take1 (p := jTo p1 (jSk B n p1.1)) (d + 5) hc hB hs1.2 (by omega) h58, cG_V, Mt_bl (d + 6) hc hB (by exact hlt), cG_V]
        show cG (fMt_value (d + 7) c (mJ c (jTo p1 (jSk B n (jSk B n p1.1 + 1))) s)) _ = _
        rw [hqa]
        exact hr
      have hgq : jGd n (jTo p1 qa) := jGd_to hg1 (by omega) hs2.2
      have hvv := hv (jTo p1 qa) hgq
      cases hvp : val (jTo p1 qa) with
      | error e =>
        rw [hvp] at hvv
        obtain ⟨p2, x, h⟩ := hvv
        refine ⟨p2, x, g44c _ ?_⟩
        rw [h, cG_T]
        rfl
      | ok q =>
        obtain ⟨p2, w⟩ := q
        rw [hvp] at hvv
        have hvv : fMt_value (d + 7) c (mJ c (jTo p1 qa) s) = rI (nI w) (mJ c p2 s) := hvv
        have hvo2 := hval _ _ hgq.1 hvp
        have hl2 := hle _ _ hvp hgq.2.1
        simp only at hvo2 hl2
        have hg2 : jGd n p2 := jGd_vo hgq hvo2 hl2
        have hI2 := jLi_vo (jLi_to (a := qa) hI1) hvo2
        obtain ⟨k1, k2, k3, k4, k5, k6, k7, k8, k9, k10, k11, k12⟩ := hvo2
        have q1 : (jTo p1 qa).1 = qa := rfl
        have q2 : (jTo p1 qa).2 = p1.2 := rfl
        rw [q2] at k1 k2 k5 k6 k7 k8 k11 k12
        rw [q1] at k3 k5 k7
        obtain ⟨t1, t2, t3⟩ := hg2.1
        have k8' : ∀ k i, k ≠ 6 → i < p1.2.1 → p2.2.2.2.1 k i = p1.2.2.2.1 k i := k8.1
        have kg : ∀ k i, k ≠ 6 → i < p.2.1 → p2.2.2.2.1 k i = p.2.2.2.1 k i := fun k i hk hi => by rw [k8' k i hk (by omega), g8.1 k i hk hi]
        have hK2 : p2.2.2.2.1 0 v = 0 := by rw [kg 0 v (by omega) hvn]; exact hK
        have hE1 : ∀ u, v < u → u < key → jIs p2 u → p2.2.2.2.1 7 u ≤ key := by
          intro u a b cc
          have hu : u < p.2.1 := by omega
          unfold jIs at cc
          rw [kg 0 u (by omega) hu] at cc
          rw [kg 7 u (by omega) hu]
          have := (hi.2.2.2.1 u a hu cc).1
          omega
        have hLk1 : jLi v (key + 1) (2 * m + 1) (jLk v last key p2) := jLi_lk hI2 (by omega) (by omega) (by omega) (by rw [k8' 4 key (by omega) (by omega)]; exact g9) hE1
        have hLk : jLi v (w + 1) (2 * m + 1 + 1) (jLk v (key + 1) w (jLk v last key p2)) := by
          refine jLi_lk hLk1 (by rw [jLk_2]; omega) (by omega) (by omega) ?_ ?_
          · rw [jLk_row, if_neg (by omega)]
            split
            · rw [if_neg (by omega)]; exact k9
            · rw [if_neg (by omega)]; exact k9
          · intro u a b cc
            have r : ∀ r, r = 0 ∨ r = 7 → (jLk v last key p2).2.2.2.1 r u = p2.2.2.2.1 r u := by
              intro r hr
              rw [jLk_row, if_neg (by omega)]
              split
              · rw [if_neg (by omega)]
              · rw [if_neg (by omega)]
            unfold jIs at cc
            rw [r 0 (.inl rfl)] at cc
            rw [r 7 (.inr rfl)]
            rcases Nat.lt_or_ge u key with hu | hu
            · have := hE1 u a hu cc
              omega
            · have : u = key := by omega
              subst this
              rw [k8' 0 u (by omega) (by omega), hkk1] at cc
              omega
        have e2m : 2 * m + 1 + 1 = 2 * (m + 1) := by omega
        rw [e2m] at hLk
        have hrow : ∀ r i, r ≠ 4 → i ≠ v → (jLk v (key + 1) w (jLk v last key p2)).2.2.2.1 r i = p2.2.2.2.1 r i := by
          intro r i hr hi
          rw [jLk_row, if_neg (by omega), if_neg (by omega), if_neg (by omega), jLk_row, if_neg (by omega)]
          split
          · rw [if_neg (by omega)]
          · rw [if_neg (by omega)]
        have hrow4 : ∀ i, i + 1 < last → (jLk v (key + 1) w (jLk v last key p2)).2.2.2.1 4 i = p2.2.2.2.1 4 i := by
          intro i hi
          rw [jLk_row, if_neg (by omega), if_neg (by omega), if_neg (by omega), jLk_row, if_neg (by omega)]
          split
          · rw [if_neg (by omega)]
          · rw [if_neg (by omega)]
        have hkey2 : (jLk v (key + 1) w (jLk v last key p2)).2.2.2.1 0 key = 2 := by
          rw [hrow 0 key (by omega) (by omega), k8' 0 key (by omega) (by omega), hkk1]
        have hI3 : (jLk v (key + 1) w (jLk v last key p2)).2.2.2.1 3 v = if last = 0 then key + 1 else p2.2.2.2.1 3 v := by
          rw [jLk_row, if_neg (by omega), if_neg (by omega), if_neg (by omega), jLk_row, if_neg (by omega)]
          by_cases h0 : last = 0
          · rw [if_pos h0, if_pos ⟨rfl, rfl⟩, if_pos h0]
          · rw [if_neg h0, if_neg (by omega), if_neg h0]
        have hky2 : jKy (jLk v (key + 1) w (jLk v last key p2)).2.2.2.1 (m + 1) ((jLk v (key + 1) w (jLk v last key p2)).2.2.2.1 3 v) := by
          rw [hI3]
          rcases hi.2.2.1 with ⟨b1, b2, b3⟩ | ⟨b1, b2, b3, b4, b5⟩
          · rw [if_pos b1]
            have : m = 0 := by omega
            subst this
            exact ⟨hkey2, trivial⟩
          · rw [if_neg b1, kg 3 v (by omega) hvn]
            have hm : 0 < m := by
              rcases Nat.eq_zero_or_pos m with g | g
              · subst g; exact b5.elim
              · exact g
            refine jKy_app (T := p.2.2.2.1) (last := last) (key := key) ?_ hkey2 m (v + 1) _ hm ?_ ?_ b5 hky
            · rw [jLk_row, if_neg (by omega), if_neg (by omega), if_neg (by omega), jLk_row, if_neg (by omega), if_neg b1, if_pos ⟨rfl, rfl⟩]
            · intro i a b
              rw [hrow4 i b, kg 4 i (by omega) (by omega)]
            · intro i a b
              rw [hrow 0 i (by omega) (by omega), kg 0 i (by omega) (by omega)]
        have hKL : (jLk v (key + 1) w (jLk v last key p2)).2.2.2.1 0 v = 0 := by
          rw [jLk_row, if_neg (by omega), if_neg (by omega), if_neg (by omega), jLk_row, if_neg (by omega)]
          split
          · rw [if_neg (by omega)]; exact hK2
          · rw [if_neg (by omega)]; exact hK2
        -- the state, linked
        have hst : ∀ q : jP, q = (if last = 0 then jSe p2 3 v (key + 1) else jSe p2 4 (last - 1) (key + 1)) → pI (mJ c q s) (c + 7) key (zI (w + 1)) = mJ c (jLk v (key + 1) w (jLk v last key p2)) s := by
          intro q hq
          have e1 : jLk v last key p2 = jSe q 2 v (q.2.2.2.1 2 v + 1) := by rw [hq]; rfl
          have q0 : q.2.2.2.1 0 v = 0 := by
            rw [hq]
            split
            · show a2 p2.2.2.2.1 3 v (key + 1) 0 v = 0
              rw [a2_ite, if_neg (by omega)]; exact hK2
            · show a2 p2.2.2.2.1 4 (last - 1) (key + 1) 0 v = 0
              rw [a2_ite, if_neg (by omega)]; exact hK2
          have qn : q.2.1 = p2.2.1 := by rw [hq]; split <;> rfl
          rw [mJ_setX (by omega)]
          unfold jLk
          rw [if_neg (by omega)]
          show _ = mJ c (jSe (jSe (jLk v last key p2) 4 key (w + 1)) 2 v _) s
          rw [mJ_setZ0 (by show a2 (jLk v last key p2).2.2.2.1 4 key (w + 1) 0 v = 0; rw [a2_ite, if_neg (by omega), e1]; show a2 q.2.2.2.1 2 v (q.2.2.2.1 2 v + 1) 0 v = 0; rw [a2_ite, if_neg (by omega)]; exact q0)]
          rw [e1]
          have e3 : jSe (jSe q 2 v (q.2.2.2.1 2 v + 1)) 4 key (w + 1) = jSe (jSe q 4 key (w + 1)) 2 v (q.2.2.2.1 2 v + 1) := by
            unfold jSe
            simp only
            congr 3
            congr 1
            funext k i
            simp only [a2_ite]
            by_cases h2 : k = 2
            · subst h2; simp
            · simp [h2]
          rw [e3, mJ_setZ0 (by show a2 q.2.2.2.1 4 key (w + 1) 0 v = 0; rw [a2_ite, if_neg (by omega)]; exact q0)]
        have g110 : ∀ r, fMt_object_110 (d + 8) c (nI v) (nI w) (if jBt B n (jSk B n p2.1) = 44 then 1 else 0) (mJ c (jTo (jLk v (key + 1) w (jLk v last key p2)) (jSk B n p2.1)) s) = some r → fMt_object_22 (d + 8) c (nI v) (zI last) 1 (mJ c p s) = some r := by
          intro r hr
          have hb2 := jBt_le (n := n) (a := jSk B n p2.1) hB.2.2.2
          have hsk := jSk_le (B := B) t1
          have e1' : (jLk v (key + 1) w (jLk v last key p2)).1 = p2.1 := by rw [jLk_1, jLk_1]
          have f94 : ∀ q : jP, q = (if last = 0 then jSe p2 3 v (key + 1) else jSe p2 4 (last - 1) (key + 1)) → fMt_object_94 (d + 8) c (nI v) (nI key) (nI w) (mJ c q s) = some r := by
            intro q hq
            refine eMt_object_94 (d + 7) c _ _ _ _ hc _ ?_
            rw [stI_n (by omega) (by omega), ← zI_S w, hst q hq, zI_S w, Mt_bl (d + 6) hc hB (by rw [e1']; exact t1), cG_V, Mt_look _ hc hB (by show jSk B n (jLk v (key + 1) w (jLk v last key p2)).1 ≤ n; rw [e1']; exact hsk.2), cG_I]
            rw [e1']
            show (if ¬ mI (jBt B n (jSk B n p2.1)) = 44 then _ else _) = _
            simp (disch := omega) only [nI_lit 44, mI_eqE]
            by_cases h44 : jBt B n (jSk B n p2.1) = 44
            · rw [if_neg (by omega)]
              rw [if_pos h44] at hr
              exact hr
            · rw [if_pos h44]
              rw [if_neg h44] at hr
              exact hr
          refine g44c _ ?_
          rw [hvv, cG_I]
          rcases hl0 with h0 | h0
          · subst h0
            rw [if_neg (by decide), stI_n (by omega) (by omega), ← zI_S key, mJ_setI (by omega), zI_S key]
            exact f94 _ (by rw [if_pos rfl])
          · rw [zI_pos (by omega), if_pos (nI_pos' (by omega)), stI_n (by omega) (by omega), ← zI_S key, mJ_setX (by omega), zI_S key]
            exact f94 _ (by rw [if_neg (by omega)])
        have hsk := jSk_le (B := B) t1
        simp only
        cases hsp : jSp B n 125 p2.1 with
        | error e =>
          unfold jSp at hsp
          split at hsp
          · cases hsp
          · rename_i n44
            split at hsp
            · cases hsp
            · rename_i n93
              cases hsp
              rw [if_neg n44] at g110
              refine eX_of (p1 := jTo (jLk v (key + 1) w (jLk v last key p2)) (jSk B n p2.1)) (g110 _ ?_)
              refine eMt_object_110 (d + 7) c _ _ _ _ hc _ ?_
              rw [if_pos rfl]
              refine eMt_object_121 (d + 7) c _ _ _ _ hc _ ?_
              refine eMt_object_22 (d + 7) c _ _ _ _ hc _ ?_
              rw [if_pos rfl, nI_lit 125, Mt_take0 (p := jTo (jLk v (key + 1) w (jLk v last key p2)) (jSk B n p2.1)) (d + 5) hc hB hsk.2 (by omega) n93, cG_T]
              rfl
        | ok q =>
          obtain ⟨bb, a⟩ := q
          have hspo := jSp_ok t1 (by omega) hsp
          simp only at hspo
          unfold jSp at hsp
          split at hsp
          · rename_i n44
            cases hsp
            simp only
            rw [if_pos n44] at g110
            have hlt2 := jBt_lt n44 (by omega)
            have hgl : jGd n (jTo (jLk v (key + 1) w (jLk v last key p2)) (jSk B n (jSk B n p2.1 + 1))) := by
              have ga := jGd_lk (n := n) (v := v) (last := last) (w := key) (a := p2.1) hg2 (by omega) (Nat.le_refl _) t1
              have e0 : jTo (jLk v last key p2) p2.1 = jLk v last key p2 := by
                show (p2.1, (jLk v last key p2).2) = jLk v last key p2
                rw [← jLk_1 (v := v) (last := last) (w := key) (p := p2)]
              rw [e0] at ga
              refine jGd_lk ga ?_ (by rw [jLk_1]; omega) hspo.2
              rw [jLk_row, if_neg (by omega)]
              split
              · rw [if_neg (by omega)]; omega
              · rw [if_neg (by omega)]; omega
            have ih := ih (jTo (jLk v (key + 1) w (jLk v last key p2)) (jSk B n (jSk B n p2.1 + 1))) (w + 1) (m + 1) (by show n < jSk B n (jSk B n p2.1 + 1) + f; omega) hgl (jLi_to hLk) hky2 hKL
            refine jRl_go ih ?_
            intro r hr
            refine g110 r ?_
            refine eMt_object_110 (d + 7) c _ _ _ _ hc _ ?_
            rw [if_neg (by decide), wI_eq, mJ_at, nI_add1, mJ_to, Mt_bl (d + 6) hc hB (by exact hlt2), cG_V]
            refine eMt_object_121 (d + 7) c _ _ _ _ hc _ ?_
            rw [← zI_S w]
            exact hr
          · rename_i n44
            split at hsp
            · rename_i n93
              cases hsp
              simp only
              rw [if_neg n44] at g110
              refine g110 _ ?_
              refine eMt_object_110 (d + 7) c _ _ _ _ hc _ ?_
              rw [if_pos rfl]
              refine eMt_object_121 (d + 7) c _ _ _ _ hc _ ?_
              refine eMt_object_22 (d + 7) c _ _ _ _ hc _ ?_
              rw [if_pos rfl, nI_lit 125, Mt_take1 (p := jTo (jLk v (key + 1) w (jLk v last key p2)) (jSk B n p2.1)) (d + 5) hc hB hsk.2 (by omega) n93, cG_V]
              rfl
            · cases hsp
end
