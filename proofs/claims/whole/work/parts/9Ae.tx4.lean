/-! the lake's Text: lists -/
section
variable {p : jP} {s : aT} {B : Nat → Nat} {n fr : Nat}
theorem Tx_link (d : Nat) {v last w : Nat} (hv : v < p.2.1) (hK : p.2.2.2.1 0 v ≠ 2 ∧ p.2.2.2.1 0 v ≠ 3) (hl : last ≤ p.2.1) (hp : p.2.1 ≤ 4096) : fTx_link d (nI v) (zI last) (nI w) (lJ p s) = rI (nI w) (lJ (jLk v last w p) s) := by
  have f14 : ∀ q : jP, q.2.1 = p.2.1 → q.2.2.2.1 0 v ≠ 3 → jSe q 2 v (q.2.2.2.1 2 v + 1) = jLk v last w p → fTx_link_14 d (nI v) (nI w) (lJ q s) = rI (nI w) (lJ (jLk v last w p) s) := by
    intro q q1 q3 q4
    refine eTx_link_14 d _ _ _ _ ?_
    rw [ldI_n (by omega) (by omega), lJ_Z (by omega) q3, stI_n (by omega) (by omega), nI_add1, lJ_setZ (by omega) q3, q4]
    rfl
  refine eTx_link d _ _ _ _ _ ?_
  rcases Nat.eq_zero_or_pos last with h0 | h0
  · subst h0
    rw [if_neg (by decide), stI_n (by omega) (by omega), ← zI_S w, lJ_setI hv hK.1, zI_S w]
    refine f14 (jSe p 3 v (w + 1)) rfl ?_ ?_
    · show a2 p.2.2.2.1 3 v (w + 1) 0 v ≠ 3
      rw [a2_ite, if_neg (by omega)]; exact hK.2
    · unfold jLk
      rw [if_pos rfl]
  · rw [zI_pos h0, if_pos (nI_ne (by omega)), stI_n (by omega) (by omega), ← zI_S w, lJ_setX (by omega), zI_S w]
    refine f14 (jSe p 4 (last - 1) (w + 1)) rfl ?_ ?_
    · show a2 p.2.2.2.1 4 (last - 1) (w + 1) 0 v ≠ 3
      rw [a2_ite, if_neg (by omega)]; exact hK.2
    · unfold jLk
      rw [if_neg (by omega)]
theorem Tx_sep (hB : lB0 s B n fr) (d : Nat) {cl : Nat} (hcl : cl < 128 ∧ cl ≠ 44) (hp : p.1 ≤ n) : match jSp B n cl p.1 with
    | .ok (true, _) => jBt B n (jSk B n p.1) = 44 ∧ fTx_separator (d + 2) (nI cl) (lJ p s) = rI 44 (lJ (jTo p (jSk B n p.1 + 1)) s)
    | .ok (false, a) => fTx_separator (d + 2) (nI cl) (lJ p s) = rI (nI cl) (lJ (jTo p a) s)
    | .error e => lX s e (fTx_separator (d + 2) (nI cl) (lJ p s)) := by
  have hn := hB.1
  have hsk := jSk_le (B := B) hp
  have hb := jBt_le (n := n) (a := jSk B n p.1) hB.2.2.2.2.2.2
  have hpk : ∀ d, fTx_peek d (lJ (jTo p (jSk B n p.1)) s) = rI (uI (jBt B n (jSk B n p.1))) (lJ (jTo p (jSk B n p.1)) s) := fun d => Tx_peek (p := jTo p (jSk B n p.1)) d hB hsk.2
  have f14 : ∀ z, fTx_separator_14 (d + 2) z (lJ (jTo p (jSk B n p.1)) s) = rI z (lJ (jTo p (jSk B n p.1 + 1)) s) := by
    intro z
    refine eTx_separator_14 (d + 1) _ _ _ ?_
    rw [wI_eq, lJ_at, nI_add1, lJ_to]
    rfl
  have go : ∀ r, (if jBt B n (jSk B n p.1) = 44 then fTx_separator_14 (d + 2) (uI (jBt B n (jSk B n p.1))) (lJ (jTo p (jSk B n p.1)) s) else if jBt B n (jSk B n p.1) = cl then fTx_separator_14 (d + 2) (uI (jBt B n (jSk B n p.1))) (lJ (jTo p (jSk B n p.1)) s) else cG (fTx_failHere (d + 1) (lJ (jTo p (jSk B n p.1)) s)) (kI fun v5 s4 => rI v5 s4)) = some r → fTx_separator (d + 2) (nI cl) (lJ p s) = some r := by
    intro r hr
    refine eTx_separator (d + 1) _ _ _ ?_
    rw [Tx_bl d hB hp, cG_V, hpk, cG_I]
    simp (disch := omega) only [nI_lit 44, uI_eqE]
    exact hr
  unfold jSp
  by_cases h44 : jBt B n (jSk B n p.1) = 44
  · rw [if_pos h44] at go ⊢
    refine ⟨h44, go _ ?_⟩
    rw [h44, f14]
    rfl
  · rw [if_neg h44] at go ⊢
    by_cases hc : jBt B n (jSk B n p.1) = cl
    · rw [if_pos hc] at go ⊢
      refine go _ ?_
      have e : uI cl = nI cl := by unfold uI; rw [if_pos (by omega)]
      rw [hc, f14, e]
      rfl
    · rw [if_neg hc] at go ⊢
      refine ⟨jTo p (jSk B n p.1), by show jSk B n p.1 ≤ 4096; omega, go _ ?_⟩
      rw [Tx_failHere, cG_I]
      rfl
def lRl (s : aT) (v : Nat) (F : aRs) (x : Except Nat jP) : Prop := match x with
  | .ok p1 => F = rI (nI v) (lJ p1 s)
  | .error e => lX s e F
theorem lRl_go {v : Nat} {F G : aRs} {x : Except Nat jP} (h : lRl s v F x) (go : ∀ r, F = some r → G = some r) : lRl s v G x := by
  unfold lRl at h ⊢
  split at h
  · exact go _ h
  · obtain ⟨p1, hq, h⟩ := h
    exact ⟨p1, hq, go _ h⟩
/-- what the reading of a value must do -/
def lVal (s : aT) (B : Nat → Nat) (n d : Nat) (x : Int32) (val : jP → Except Nat (jP × Nat)) : Prop := ∀ p a0, a0 ≤ n → jSk B n a0 = p.1 → jGd n p → lRv s (fTx_value d x (lJ (jTo p a0) s)) (val p)
theorem Tx_list34 (hB : lB0 s B n fr) (d : Nat) {x : Int32} {val : jP → Except Nat (jP × Nat)} (hval : ∀ p r, jOk n p → val p = .ok r → jVo n p r.1 r.2) (hle : ∀ p r, val p = .ok r → jLe p → jLe r.1) (hv : lVal s B n (d + 2) (x + 1) val) {v : Nat} : ∀ f p last m a0 k, n < p.1 + f → a0 ≤ n → jSk B n a0 = p.1 → k < p.1 → jGd n p → jLi v last m p → p.2.2.2.1 0 v = 1 → lRl s v (fTx_listOfValues_34 (d + 3) x (nI v) (zI last) (nI k) (lJ (jTo p a0) s)) (jLs B n val v f p last) := by
  have hn := hB.1
  intro f
  induction f with
  | zero => intro p last m a0 k h1 _ _ _ h2; have := h2.1.1; omega
  | succ f ih =>
    intro p last m a0 k h1 ha0 hsk0 hk hg hi hK
    have ho := hg.1
    have hl := hg.2.1
    have hpn := ho.1
    have hvv := hv p a0 ha0 hsk0 hg
    have g1 : ∀ r, cG (fTx_value (d + 2) (x + 1) (lJ (jTo p a0) s)) (kI fun v4 s3 => if ¬ v4 = (-1) then cG (fTx_link (d + 2) (nI v) (zI last) v4 s3) (kI fun v6 s5 => cG (fTx_separator (d + 2) 93 s5) (kI fun v8 s7 => if v8 = 44 then fTx_listOfValues_34 (d + 3) x (nI v) v6 (nI k + 1) s7 else if ¬ v8 = (-1) then rI (nI v) s7 else rI (-1) s7)) else rI (-1) s3) = some r → fTx_listOfValues_34 (d + 3) x (nI v) (zI last) (nI k) (lJ (jTo p a0) s) = some r := by
      intro r hr
      refine eTx_listOfValues_34 (d + 2) _ _ _ _ _ _ ?_
      simp (disch := omega) only [nI_lit 4096, nI_leE]
      rw [if_neg (by omega)]
      exact hr
    unfold jLs
    cases hvp : val p with
    | error e =>
      rw [hvp] at hvv
      obtain ⟨p1, hq, h⟩ := hvv
      refine ⟨p1, hq, g1 _ ?_⟩
      rw [h, cG_I, if_neg (by decide)]
      rfl
    | ok q =>
      obtain ⟨p1, w⟩ := q
      rw [hvp] at hvv
      have hvv : fTx_value (d + 2) (x + 1) (lJ (jTo p a0) s) = rI (nI w) (lJ p1 s) := hvv
      have hvo := hval _ _ ho hvp
      simp only at hvo
      have hvo0 := hvo
      have ho1 := jVo_ok hvo ho
      have hl1 := hle _ _ hvp hl
      simp only at hl1
      have hvn : v < p.2.1 := hi.1
      have hll := jLi_last hi
      have hl0 := jLi_l hi
      have hI1 := jLi_vo hi hvo
      obtain ⟨g1', g2, g3, g4, g5, g6, g7, g8, g9, g10, g11, g12⟩ := hvo
      obtain ⟨u1, u2, u3⟩ := ho1
      have hLk : jLi v (w + 1) (m + 1) (jLk v last w p1) := by
        refine jLi_lk hI1 (by omega) (by omega) (by omega) g9 ?_
        intro u a b cc
        have hu : u < p.2.1 := by omega
        unfold jIs at cc
        rw [g8.1 0 u (by omega) hu] at cc
        rw [g8.1 7 u (by omega) hu]
        have := (hi.2.2.2.1 u a hu cc).1
        omega
      have hK1 : p1.2.2.2.1 0 v = 1 := by rw [g8.1 0 v (by omega) hvn]; exact hK
      have hKL : (jLk v last w p1).2.2.2.1 0 v = 1 := by
        rw [jLk_row, if_neg (by omega)]
        split
        · rw [if_neg (by omega)]; exact hK1
        · rw [if_neg (by omega)]; exact hK1
      have hlink := Tx_link (s := s) (p := p1) (d + 2) (v := v) (last := last) (w := w) (by omega) (by omega) (by omega) (by omega)
      have hsep := Tx_sep (s := s) (p := jLk v last w p1) hB d (cl := 93) (by omega) (by rw [jLk_1]; exact u1)
      rw [jLk_1] at hsep
      have g2' : ∀ r, cG (fTx_separator (d + 2) (nI 93) (lJ (jLk v last w p1) s)) (kI fun v8 s7 => if v8 = 44 then fTx_listOfValues_34 (d + 3) x (nI v) (nI w) (nI k + 1) s7 else if ¬ v8 = (-1) then rI (nI v) s7 else rI (-1) s7) = some r → fTx_listOfValues_34 (d + 3) x (nI v) (zI last) (nI k) (lJ (jTo p a0) s) = some r := by
        intro r hr
        refine g1 _ ?_
        rw [hvv, cG_I, if_pos (nI_ne (by omega)), hlink, cG_I]
        exact hr
      have hskp := jSk_le (B := B) u1
      simp only
      cases hsp : jSp B n 93 p1.1 with
      | error e =>
        rw [hsp] at hsep
        obtain ⟨p2, hq, h⟩ := hsep
        refine ⟨p2, hq, g2' _ ?_⟩
        rw [h, cG_I, if_neg (by decide), if_neg (by decide)]
        rfl
      | ok q =>
        obtain ⟨bb, a⟩ := q
        have hspo := jSp_ok u1 (by omega) hsp
        simp only at hspo
        cases bb with
        | true =>
          rw [hsp] at hsep
          obtain ⟨h44, h⟩ := hsep
          simp only
          have hea : a = jSk B n (jSk B n p1.1 + 1) := by
            unfold jSp at hsp
            rw [if_pos h44] at hsp
            cases hsp
            rfl
          have hlt := jBt_lt h44 (by omega)
          have ih := ih (jTo (jLk v last w p1) a) (w + 1) (m + 1) (jSk B n p1.1 + 1) (k + 1) (by show n < a + f; omega) (by omega) hea.symm (by show k + 1 < a; omega) (jGd_lk (jGd_vo hg hvo0 hl1) (by omega) (by omega) hspo.2) (jLi_to hLk) hKL
          refine lRl_go ih ?_
          intro r hr
          refine g2' r ?_
          rw [h, cG_I, if_pos rfl, nI_add1, ← zI_S w]
          exact hr
        | false =>
          rw [hsp] at hsep
          simp only at hsep ⊢
          refine g2' _ ?_
          rw [hsep, cG_I, if_neg (by decide), if_pos (by decide)]
          rfl
end
