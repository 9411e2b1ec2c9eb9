/-! the lake's Text: objects -/
section
variable {p : jP} {s : aT} {B : Nat → Nat} {n fr : Nat}
theorem Tx_obj34 (hB : lB0 s B n fr) (d : Nat) {x : Int32} {val : jP → Except Nat (jP × Nat)} (hval : ∀ p r, jOk n p → val p = .ok r → jVo n p r.1 r.2) (hle : ∀ p r, val p = .ok r → jLe p → jLe r.1) (hv : lVal s B n (d + 4) (x + 1) val) {v : Nat} : ∀ f p last m a0 k, n < p.1 + f → a0 ≤ n → jSk B n a0 = p.1 → k < p.1 → jGd n p → jLi v last (2 * m) p → jKy p.2.2.2.1 m (p.2.2.2.1 3 v) → p.2.2.2.1 0 v = 0 → lRl s v (fTx_object_34 (d + 6) x (nI v) (zI last) (nI k) (lJ (jTo p a0) s)) (jOs B n val v f p last) := by
  have hn := hB.1
  intro f
  induction f with
  | zero => intro p last m a0 k h1 _ _ _ h2; have := h2.1.1; omega
  | succ f ih =>
    intro p last m a0 k h1 ha0 hsk0 hk hg hi hky hK
    have ho := hg.1
    have hl := hg.2.1
    have hpn := ho.1
    have hb := jBt_le (n := n) (a := p.1) hB.2.2.2.2.2.2
    have g1 : ∀ r, cG (fTx_memberBehind (d + 5) (nI v) (zI last) x (lJ (jTo p a0) s)) (kI fun v4 s3 => if ¬ v4 = (-1) then cG (fTx_separator (d + 5) 125 s3) (kI fun v6 s5 => if v6 = 44 then fTx_object_34 (d + 6) x (nI v) v4 (nI k + 1) s5 else if ¬ v6 = (-1) then rI (nI v) s5 else rI (-1) s5) else rI (-1) s3) = some r → fTx_object_34 (d + 6) x (nI v) (zI last) (nI k) (lJ (jTo p a0) s) = some r := by
      intro r hr
      refine eTx_object_34 (d + 5) _ _ _ _ _ _ ?_
      simp (disch := omega) only [nI_lit 4096, nI_leE]
      rw [if_neg (by omega)]
      exact hr
    have gX : ∀ t, fTx_memberBehind (d + 5) (nI v) (zI last) x (lJ (jTo p a0) s) = rI (-1) t → fTx_object_34 (d + 6) x (nI v) (zI last) (nI k) (lJ (jTo p a0) s) = rI (-1) t := by
      intro t h
      refine g1 _ ?_
      rw [h, cG_I, if_neg (by decide)]
      rfl
    have hbl : fTx_skipBlanks (d + 4) (lJ (jTo p a0) s) = rV (lJ p s) := by
      have := Tx_bl (p := jTo p a0) (d + 3) hB ha0
      have e : jTo (jTo p a0) (jSk B n (jTo p a0).1) = p := by
        show (jSk B n a0, p.2) = p
        rw [hsk0]
      rw [e] at this
      exact this
    have hpk : ∀ d, fTx_peek d (lJ p s) = rI (uI (jBt B n p.1)) (lJ p s) := fun d => Tx_peek (p := p) d hB hpn
    have m1 : ∀ r, (if jBt B n p.1 = 34 then cG (fTx_string (d + 4) (lJ p s)) (kI fun v5 s4 => if ¬ v5 = (-1) then ldI 4096 s4 16 v5 (fun v6 => ldI 4096 s4 17 v5 (fun v7 => cG (fTx_memberNamed (d + 4) (nI v) 21 v6 v7 s4) (kI fun v9 s8 => if v9 = (-1) then cG (fTx_skipBlanks (d + 4) s8) (kV fun s10 => cG (fTx_peek (d + 4) s10) (kI fun v12 s11 => if v12 = 58 then wI s11 13 14 ((gI s11 13 14) + 1) (fun s13 => cG (fTx_value (d + 4) (x + 1) s13) (kI fun v15 s14 => if ¬ v15 = (-1) then cG (fTx_link (d + 4) (nI v) (zI last) v5 s14) (kI fun v17 s16 => cG (fTx_link (d + 4) (nI v) v17 v15 s16) (kI fun v19 s18 => rI v19 s18)) else rI (-1) s14)) else cG (fTx_failHere (d + 4) s11) (kI fun v21 s20 => rI v21 s20))) else ldI 4096 s8 15 v5 (fun v22 => cG (fTx_failAt (d + 4) v22 s8) (kI fun v24 s23 => rI v24 s23))))) else rI (-1) s4) else cG (fTx_failHere (d + 4) (lJ p s)) (kI fun v26 s25 => rI v26 s25)) = some r → fTx_memberBehind (d + 5) (nI v) (zI last) x (lJ (jTo p a0) s) = some r := by
      intro r hr
      refine eTx_memberBehind (d + 4) _ _ _ _ _ ?_
      rw [hbl, cG_V, hpk, cG_I]
      simp (disch := omega) only [nI_lit 34, uI_eqE]
      exact hr
    unfold jOs
    by_cases h34 : jBt B n p.1 = 34
    case neg =>
      rw [if_neg h34] at m1 ⊢
      refine ⟨p, by omega, gX _ (m1 _ ?_)⟩
      rw [Tx_failHere, cG_I]
      rfl
    rw [if_pos h34] at m1 ⊢
    have hlt0 := jBt_lt h34 (by omega)
    have hstr := Tx_str hB (d + 1) ho hlt0
    cases hks : jStr B n p with
    | error e =>
      rw [hks] at hstr
      obtain ⟨p1, hq, h⟩ := hstr
      refine ⟨p1, hq, gX _ (m1 _ ?_)⟩
      rw [h, cG_I, if_neg (by decide)]
      rfl
    | ok q =>
      obtain ⟨p1, key⟩ := q
      rw [hks] at hstr
      have hstr : fTx_string (d + 4) (lJ p s) = rI (nI key) (lJ p1 s) := hstr
      obtain ⟨hvo, hks1, hkk⟩ := jStr_ok ho hlt0 hks
      simp only at hvo hks1 hkk
      have hg1 : jGd n p1 := jGd_str hg hlt0 hks
      have ho1 := hg1.1
      have hvn : v < p.2.1 := hi.1
      have hll := jLi_last hi
      have hl0 := jLi_l hi
      have hI1 := jLi_vo hi hvo
      obtain ⟨g1', g2, g3, g4, g5, g6, g7, g8, g9, g10, g11, g12⟩ := hvo
      obtain ⟨u1, u2, u3⟩ := ho1
      have hkk1 : p1.2.2.2.1 0 key = 2 := by rw [g1']; exact hkk
      have hS2 := hg1.2.2 key (by omega) (by omega) hkk1
      have hZ : p1.2.2.2.1 2 v = 2 * m := hI1.2.1
      have hCh : jCh p1.2.2.2.1 (2 * m) (v + 1) p1.2.1 (p1.2.2.2.1 3 v) := by
        rcases hI1.2.2.1 with ⟨b1, b2, b3⟩ | ⟨b1, b2, b3, b4, b5⟩
        · rw [b2]; exact b3
        · exact jCl_ch b4 b3 _ _ _ b5
      have hlen := jCh_len _ _ _ hCh
      have hky1 : jKy p1.2.2.2.1 m (p1.2.2.2.1 3 v) := by
        rw [g8.1 3 v (by omega) hvn]
        have hc0 : jCh p.2.2.2.1 (2 * m) (v + 1) p.2.1 (p.2.2.2.1 3 v) := by
          rcases hi.2.2.1 with ⟨b1, b2, b3⟩ | ⟨b1, b2, b3, b4, b5⟩
          · rw [b2]; exact b3
          · exact jCl_ch b4 b3 _ _ _ b5
        exact jKy_upd _ _ _ (fun i _ hi2 => ⟨g8.1 4 i (by omega) (by omega), g8.1 0 i (by omega) (by omega)⟩) hc0 hky
      have hK1 : p1.2.2.2.1 0 v = 0 := by rw [g8.1 0 v (by omega) hvn]; exact hK
      have hmem := Tx_mem (s := s) (p := p1) (d + 3) (v := v) (a := 21) (st := p1.2.2.2.1 5 key) (len := p1.2.2.2.1 2 key) (L := fun i => p1.2.2.2.1 6 (p1.2.2.2.1 5 key + i)) (by omega) (by omega) (by omega) hg1.2.1 hg1.2.2 hK1 (by rw [alen_21]; omega) (by rw [alen_21]; omega) (by omega) (fun i hi => lJ_L (by omega)) (fun i hi => hg1.2.1 _ (by omega)) (Nat.le_refl _) hZ (by omega) hCh hky1
      rw [jFd_sm m _ hky1] at hmem
      have m2 : ∀ r, (if zI (if jFd p1.2.2.2.1 (fun k => jSm p1.2.2.2.1 k key) m (p1.2.2.2.1 3 v) = 0 then 0 else p1.2.2.2.1 4 (jFd p1.2.2.2.1 (fun k => jSm p1.2.2.2.1 k key) m (p1.2.2.2.1 3 v) - 1)) = (-1) then cG (fTx_skipBlanks (d + 4) (lJ p1 s)) (kV fun s10 => cG (fTx_peek (d + 4) s10) (kI fun v12 s11 => if v12 = 58 then wI s11 13 14 ((gI s11 13 14) + 1) (fun s13 => cG (fTx_value (d + 4) (x + 1) s13) (kI fun v15 s14 => if ¬ v15 = (-1) then cG (fTx_link (d + 4) (nI v) (zI last) (nI key) s14) (kI fun v17 s16 => cG (fTx_link (d + 4) (nI v) v17 v15 s16) (kI fun v19 s18 => rI v19 s18)) else rI (-1) s14)) else cG (fTx_failHere (d + 4) s11) (kI fun v21 s20 => rI v21 s20))) else ldI 4096 (lJ p1 s) 15 (nI key) (fun v22 => cG (fTx_failAt (d + 4) v22 (lJ p1 s)) (kI fun v24 s23 => rI v24 s23))) = some r → fTx_memberBehind (d + 5) (nI v) (zI last) x (lJ (jTo p a0) s) = some r := by
        intro r hr
        refine m1 _ ?_
        rw [hstr, cG_I, if_pos (nI_ne (by omega)), ldI_n (by omega) (by omega), lJ_S (by omega) hkk1, ldI_n (by omega) (by omega), lJ_Z (by omega) (by omega), hmem, cG_I]
        exact hr
      simp only
      have hZ2 : p1.2.2.2.1 2 v / 2 = m := by omega
      rw [hZ2]
      by_cases hfd : jFd p1.2.2.2.1 (fun k => jSm p1.2.2.2.1 k key) m (p1.2.2.2.1 3 v) = 0
      case neg =>
        rw [if_neg hfd] at m2 ⊢
        have hpos := jFd_pos (t := fun k => jSm p1.2.2.2.1 k key) _ _ _ hCh hfd
        refine ⟨p1, by omega, gX _ (m2 _ ?_)⟩
        have hne : ¬ zI (p1.2.2.2.1 4 (jFd p1.2.2.2.1 (fun k => jSm p1.2.2.2.1 k key) m (p1.2.2.2.1 3 v) - 1)) = -1 := by
          rw [m1_z, zI_eqE (by omega) (by omega)]
          omega
        rw [if_neg hne, ldI_n (by omega) (by omega), lJ_F (by omega), Tx_failAt, cG_I]
        rfl
      rw [if_pos hfd] at m2 ⊢
      rw [if_pos zI_0] at m2
      have hs1 := jSk_le (B := B) u1
      have hb3 := jBt_le (n := n) (a := jSk B n p1.1) hB.2.2.2.2.2.2
      have hpk1 : ∀ d, fTx_peek d (lJ (jTo p1 (jSk B n p1.1)) s) = rI (uI (jBt B n (jSk B n p1.1))) (lJ (jTo p1 (jSk B n p1.1)) s) := fun d => Tx_peek (p := jTo p1 (jSk B n p1.1)) d hB hs1.2
      rw [Tx_bl (d + 3) hB u1, cG_V, hpk1, cG_I] at m2
      have e58 : (uI (jBt B n (jSk B n p1.1)) = 58) = (jBt B n (jSk B n p1.1) = 58) := by rw [nI_lit 58]; exact uI_eqE hb3 (by omega)
      simp only [e58] at m2
      by_cases h58 : jBt B n (jSk B n p1.1) = 58
      case neg =>
        rw [if_neg h58] at m2 ⊢
        refine ⟨jTo p1 (jSk B n p1.1), by show jSk B n p1.1 ≤ 4096; omega, gX _ (m2 _ ?_)⟩
        rw [Tx_failHere, cG_I]
        rfl
      rw [if_pos h58] at m2 ⊢
      have hlt := jBt_lt h58 (by omega)
      have hs2 := jSk_le (B := B) (n := n) (a := jSk B n p1.1 + 1) (by omega)
      rw [wI_eq, lJ_at, nI_add1, lJ_to] at m2
      have hgq : jGd n (jTo p1 (jSk B n (jSk B n p1.1 + 1))) := jGd_to hg1 (by omega) hs2.2
      have hvv := hv (jTo p1 (jSk B n (jSk B n p1.1 + 1))) (jSk B n p1.1 + 1) hlt rfl hgq
      have eto : jTo (jTo p1 (jSk B n p1.1)) ((jTo p1 (jSk B n p1.1)).1 + 1) = jTo (jTo p1 (jSk B n (jSk B n p1.1 + 1))) (jSk B n p1.1 + 1) := rfl
      rw [eto] at m2
      generalize hqa : jSk B n (jSk B n p1.1 + 1) = qa at *
      cases hvp : val (jTo p1 qa) with
      | error e =>
        rw [hvp] at hvv
        obtain ⟨p2, hq, h⟩ := hvv
        refine ⟨p2, hq, gX _ (m2 _ ?_)⟩
        rw [h, cG_I, if_neg (by decide)]
        rfl
      | ok q =>
        obtain ⟨p2, w⟩ := q
        rw [hvp] at hvv
        have hvv : fTx_value (d + 4) (x + 1) (lJ (jTo (jTo p1 qa) (jSk B n p1.1 + 1)) s) = rI (nI w) (lJ p2 s) := hvv
        have hvo2 := hval _ _ hgq.1 hvp
        have hl2 := hle _ _ hvp hgq.2.1
        simp only at hvo2 hl2
        have hg2 : jGd n p2 := jGd_vo hgq hvo2 hl2
        have hI2 := jLi_vo (jLi_to (a := qa) hI1) hvo2
        obtain ⟨k1, k2, k3, k4, k5, k6, k7, k8, k9, k10, k11, k12⟩ := hvo2
        have q1 : (jTo p1 qa).1 = qa := rfl
        have q2 : (jTo p1 qa).2 = p1.2 := rfl
        rw [q2] at k1 k2 k5 k6 k7 k8 k11 k12
        rw [q1] at k3 k5 k7
        obtain ⟨t1, t2, t3⟩ := hg2.1
        have k8' : ∀ k i, k ≠ 6 → i < p1.2.1 → p2.2.2.2.1 k i = p1.2.2.2.1 k i := k8.1
        have kg : ∀ k i, k ≠ 6 → i < p.2.1 → p2.2.2.2.1 k i = p.2.2.2.1 k i := fun k i hk hi => by rw [k8' k i hk (by omega), g8.1 k i hk hi]
        have hK2 : p2.2.2.2.1 0 v = 0 := by rw [kg 0 v (by omega) hvn]; exact hK
        have hE1 : ∀ u, v < u → u < key → jIs p2 u → p2.2.2.2.1 7 u ≤ key := by
          intro u a b cc
          have hu : u < p.2.1 := by omega
          unfold jIs at cc
          rw [kg 0 u (by omega) hu] at cc
          rw [kg 7 u (by omega) hu]
          have := (hi.2.2.2.1 u a hu cc).1
          omega
        have hLk1 : jLi v (key + 1) (2 * m + 1) (jLk v last key p2) := jLi_lk hI2 (by omega) (by omega) (by omega) (by rw [k8' 4 key (by omega) (by omega)]; exact g9) hE1
        have hLk : jLi v (w + 1) (2 * m + 1 + 1) (jLk v (key + 1) w (jLk v last key p2)) := by
          refine jLi_lk hLk1 (by rw [jLk_2]; omega) (by omega) (by omega) ?_ ?_
          · rw [jLk_row, if_neg (by omega)]
            split
            · rw [if_neg (by omega)]; exact k9
            · rw [if_neg (by omega)]; exact k9
          · intro u a b cc
            have r : ∀ r, r = 0 ∨ r = 7 → (jLk v last key p2).2.2.2.1 r u = p2.2.2.2.1 r u := by
              intro r hr
              rw [jLk_row, if_neg (by omega)]
              split
              · rw [if_neg (by omega)]
              · rw [if_neg (by omega)]
            unfold jIs at cc
            rw [r 0 (.inl rfl)] at cc
            rw [r 7 (.inr rfl)]
            rcases Nat.lt_or_ge u key with hu | hu
            · have := hE1 u a hu cc
              omega
            · have : u = key := by omega
              subst this
              rw [k8' 0 u (by omega) (by omega), hkk1] at cc
              omega
        have e2m : 2 * m + 1 + 1 = 2 * (m + 1) := by omega
        rw [e2m] at hLk
        have hrow : ∀ r i, r ≠ 4 → i ≠ v → (jLk v (key + 1) w (jLk v last key p2)).2.2.2.1 r i = p2.2.2.2.1 r i := by
          intro r i hr hi
          rw [jLk_row, if_neg (by omega), if_neg (by omega), if_neg (by omega), jLk_row, if_neg (by omega)]
          split
          · rw [if_neg (by omega)]
          · rw [if_neg (by omega)]
        have hrow4 : ∀ i, i + 1 < last → (jLk v (key + 1) w (jLk v last key p2)).2.2.2.1 4 i = p2.2.2.2.1 4 i := by
          intro i hi
          rw [jLk_row, if_neg (by omega), if_neg (by omega), if_neg (by omega), jLk_row, if_neg (by omega)]
          split
          · rw [if_neg (by omega)]
          · rw [if_neg (by omega)]
        have hkey2 : (jLk v (key + 1) w (jLk v last key p2)).2.2.2.1 0 key = 2 := by
          rw [hrow 0 key (by omega) (by omega), k8' 0 key (by omega) (by omega), hkk1]
        have hI3 : (jLk v (key + 1) w (jLk v last key p2)).2.2.2.1 3 v = if last = 0 then key + 1 else p2.2.2.2.1 3 v := by
          rw [jLk_row, if_neg (by omega), if_neg (by omega), if_neg (by omega), jLk_row, if_neg (by omega)]
          by_cases h0 : last = 0
          · rw [if_pos h0, if_pos ⟨rfl, rfl⟩, if_pos h0]
          · rw [if_neg h0, if_neg (by omega), if_neg h0]
        have hky2 : jKy (jLk v (key + 1) w (jLk v last key p2)).2.2.2.1 (m + 1) ((jLk v (key + 1) w (jLk v last key p2)).2.2.2.1 3 v) := by
          rw [hI3]
          rcases hi.2.2.1 with ⟨b1, b2, b3⟩ | ⟨b1, b2, b3, b4, b5⟩
          · rw [if_pos b1]
            have : m = 0 := by omega
            subst this
            exact ⟨hkey2, trivial⟩
          · rw [if_neg b1, kg 3 v (by omega) hvn]
            have hm : 0 < m := by
              rcases Nat.eq_zero_or_pos m with g | g
              · subst g; exact b5.elim
              · exact g
            refine jKy_app (T := p.2.2.2.1) (last := last) (key := key) ?_ hkey2 m (v + 1) _ hm ?_ ?_ b5 hky
            · rw [jLk_row, if_neg (by omega), if_neg (by omega), if_neg (by omega), jLk_row, if_neg (by omega), if_neg b1, if_pos ⟨rfl, rfl⟩]
            · intro i a b
              rw [hrow4 i b, kg 4 i (by omega) (by omega)]
            · intro i a b
              rw [hrow 0 i (by omega) (by omega), kg 0 i (by omega) (by omega)]
        have hKL : (jLk v (key + 1) w (jLk v last key p2)).2.2.2.1 0 v = 0 := by
          rw [jLk_row, if_neg (by omega), if_neg (by omega), if_neg (by omega), jLk_row, if_neg (by omega)]
          split
          · rw [if_neg (by omega)]; exact hK2
          · rw [if_neg (by omega)]; exact hK2
        have hK1k : (jLk v last key p2).2.2.2.1 0 v = 0 := by
          rw [jLk_row, if_neg (by omega)]
          split
          · rw [if_neg (by omega)]; exact hK2
          · rw [if_neg (by omega)]; exact hK2
        have hl1 := Tx_link (s := s) (p := p2) (d + 4) (v := v) (last := last) (w := key) (by omega) (by omega) (by omega) (by omega)
        have hl2' := Tx_link (s := s) (p := jLk v last key p2) (d + 4) (v := v) (last := key + 1) (w := w) (by rw [jLk_2]; omega) (by omega) (by rw [jLk_2]; omega) (by rw [jLk_2]; omega)
        rw [zI_S] at hl2'
        have hmb : fTx_memberBehind (d + 5) (nI v) (zI last) x (lJ (jTo p a0) s) = rI (nI w) (lJ (jLk v (key + 1) w (jLk v last key p2)) s) := by
          refine m2 _ ?_
          rw [hvv, cG_I, if_pos (nI_ne (by omega)), hl1, cG_I, hl2', cG_I]
          rfl
        have e1' : (jLk v (key + 1) w (jLk v last key p2)).1 = p2.1 := by rw [jLk_1, jLk_1]
        have hsep := Tx_sep (s := s) (p := jLk v (key + 1) w (jLk v last key p2)) hB (d + 3) (cl := 125) (by omega) (by rw [e1']; exact t1)
        rw [e1'] at hsep
        have g3' : ∀ r, cG (fTx_separator (d + 5) (nI 125) (lJ (jLk v (key + 1) w (jLk v last key p2)) s)) (kI fun v6 s5 => if v6 = 44 then fTx_object_34 (d + 6) x (nI v) (nI w) (nI k + 1) s5 else if ¬ v6 = (-1) then rI (nI v) s5 else rI (-1) s5) = some r → fTx_object_34 (d + 6) x (nI v) (zI last) (nI k) (lJ (jTo p a0) s) = some r := by
          intro r hr
          refine g1 _ ?_
          rw [hmb, cG_I, if_pos (nI_ne (by omega))]
          exact hr
        have hskp := jSk_le (B := B) t1
        simp only
        cases hsp : jSp B n 125 p2.1 with
        | error e =>
          rw [hsp] at hsep
          obtain ⟨p3, hq, h⟩ := hsep
          refine ⟨p3, hq, g3' _ ?_⟩
          rw [h, cG_I, if_neg (by decide), if_neg (by decide)]
          rfl
        | ok q =>
          obtain ⟨bb, a⟩ := q
          have hspo := jSp_ok t1 (by omega) hsp
          simp only at hspo
          cases bb with
          | true =>
            rw [hsp] at hsep
            obtain ⟨h44, h⟩ := hsep
            simp only
            have hea : a = jSk B n (jSk B n p2.1 + 1) := by
              unfold jSp at hsp
              rw [if_pos h44] at hsp
              cases hsp
              rfl
            have hlt2 := jBt_lt h44 (by omega)
            have hgl : jGd n (jTo (jLk v (key + 1) w (jLk v last key p2)) a) := by
              have ga := jGd_lk (n := n) (v := v) (last := last) (w := key) (a := p2.1) hg2 (by omega) (Nat.le_refl _) t1
              have e0 : jTo (jLk v last key p2) p2.1 = jLk v last key p2 := by
                show (p2.1, (jLk v last key p2).2) = jLk v last key p2
                rw [← jLk_1 (v := v) (last := last) (w := key) (p := p2)]
              rw [e0] at ga
              exact jGd_lk ga (by omega) (by rw [jLk_1]; omega) hspo.2
            have ih := ih (jTo (jLk v (key + 1) w (jLk v last key p2)) a) (w + 1) (m + 1) (jSk B n p2.1 + 1) (k + 1) (by show n < a + f; omega) (by omega) hea.symm (by show k + 1 < a; omega) hgl (jLi_to hLk) hky2 hKL
            refine lRl_go ih ?_
            intro r hr
            refine g3' r ?_
            rw [h, cG_I, if_pos rfl, nI_add1, ← zI_S w]
            exact hr
          | false =>
            rw [hsp] at hsep
            simp only at hsep ⊢
            refine g3' _ ?_
            rw [hsep, cG_I, if_neg (by decide), if_pos (by decide)]
            rfl
end
