/-! the reference's Text: lists -/
section
variable {c : Nat} {p : jP} {s : aT} {B : Nat → Nat} {n : Nat}
/-- a reading that failed -/
def eX (c : Nat) (s : aT) (e : Nat) (F : aRs) : Prop := ∃ p1 x, F = rT 0 (mX c p1 (pI s c 3 x) e)
theorem eX_of {e : Nat} {F : aRs} {p1 : jP} (h : F = rT 0 (mX c p1 s e)) : eX c s e F := ⟨p1, gI s c 3, by rw [pI_self rfl]; exact h⟩
/-- what a value's reading answers -/
def jRv (c : Nat) (s : aT) (F : aRs) (x : Except Nat (jP × Nat)) : Prop := match x with
  | .ok (p1, v) => F = rI (nI v) (mJ c p1 s)
  | .error e => eX c s e F
theorem jRv_go {F G : aRs} {x : Except Nat (jP × Nat)} (h : jRv c s F x) (go : ∀ r, F = some r → G = some r) : jRv c s G x := by
  unfold jRv at h ⊢
  split at h
  · exact go _ h
  · obtain ⟨p1, y, h⟩ := h
    exact ⟨p1, y, go _ h⟩
def jRl (c : Nat) (s : aT) (v : Nat) (F : aRs) (x : Except Nat jP) : Prop := match x with
  | .ok p1 => F = rI (nI v) (mJ c p1 s)
  | .error e => eX c s e F
theorem jRl_go {v : Nat} {F G : aRs} {x : Except Nat jP} (h : jRl c s v F x) (go : ∀ r, F = some r → G = some r) : jRl c s v G x := by
  unfold jRl at h ⊢
  split at h
  · exact go _ h
  · obtain ⟨p1, y, h⟩ := h
    exact ⟨p1, y, go _ h⟩
theorem Mt_list22 (hc : isT c) (hB : mB0 c s B n) (d : Nat) {val : jP → Except Nat (jP × Nat)} (hval : ∀ p r, jOk n p → val p = .ok r → jVo n p r.1 r.2) (hle : ∀ p r, val p = .ok r → jLe p → jLe r.1) (hv : ∀ p, jGd n p → jRv c s (fMt_value (d + 2) c (mJ c p s)) (val p)) {v : Nat} : ∀ f p last m, n < p.1 + f → jGd n p → jLi v last m p → p.2.2.2.1 0 v = 1 → jRl c s v (fMt_list_22 (d + 3) c (nI v) (zI last) 1 (mJ c p s)) (jLs B n val v f p last) := by
  have hn := hB.1
  intro f
  induction f with
  | zero => intro p last m h1 h2; have := h2.1.1; omega
  | succ f ih =>
    intro p last m h1 hg hi hK
    have ho := hg.1
    have hl := hg.2.1
    have hvv := hv p hg
    unfold jLs
    cases hvp : val p with
    | error e =>
      rw [hvp] at hvv
      obtain ⟨p1, x, h⟩ := hvv
      refine ⟨p1, x, ?_⟩
      refine eMt_list_22 (d + 2) c _ _ _ _ hc _ ?_
      rw [if_neg (by decide), h, cG_T]
      rfl
    | ok q =>
      obtain ⟨p1, w⟩ := q
      rw [hvp] at hvv
      have hvv : fMt_value (d + 2) c (mJ c p s) = rI (nI w) (mJ c p1 s) := hvv
      have hvo := hval _ _ ho hvp
      simp only at hvo
      have hvo0 := hvo
      have ho1 := jVo_ok hvo ho
      have hl1 := hle _ _ hvp hl
      simp only at hl1
      have hvn : v < p.2.1 := hi.1
      have hll := jLi_last hi
      have hl0 := jLi_l hi
      have hI1 := jLi_vo hi hvo
      obtain ⟨g1, g2, g3, g4, g5, g6, g7, g8, g9, g10, g11, g12⟩ := hvo
      obtain ⟨u1, u2, u3⟩ := ho1
      have hLk : jLi v (w + 1) (m + 1) (jLk v last w p1) := by
        refine jLi_lk hI1 (by omega) (by omega) (by omega) g9 ?_
        intro u a b cc
        have hu : u < p.2.1 := by omega
        unfold jIs at cc
        rw [g8.1 0 u (by omega) hu] at cc
        rw [g8.1 7 u (by omega) hu]
        have := (hi.2.2.2.1 u a hu cc).1
        omega
      have hK1 : p1.2.2.2.1 0 v = 1 := by rw [g8.1 0 v (by omega) hvn]; exact hK
      have hKL : (jLk v last w p1).2.2.2.1 0 v = 1 := by
        rw [jLk_row, if_neg (by omega)]
        split
        · rw [if_neg (by omega)]; exact hK1
        · rw [if_neg (by omega)]; exact hK1
      have hv1 : v < p1.2.1 := by omega
      -- linked
      have e40 : ∀ r, fMt_list_59 (d + 3) c (nI v) (nI w) (if jBt B n (jSk B n p1.1) = 44 then 1 else 0) (mJ c (jTo (jLk v last w p1) (jSk B n p1.1)) s) = some r → fMt_list_22 (d + 3) c (nI v) (zI last) 1 (mJ c p s) = some r := by
        intro r hr
        have hb := jBt_le (n := n) (a := jSk B n p1.1) hB.2.2.2
        have hsk := jSk_le (B := B) u1
        have f40 : ∀ q : jP, q.2.1 = p1.2.1 → q.1 = p1.1 → q.2.2.2.1 0 v = 1 → jSe q 2 v (q.2.2.2.1 2 v + 1) = jLk v last w p1 → fMt_list_40 (d + 3) c (nI v) (nI w) (mJ c q s) = some r := by
          intro q q1 q2 q3 q4
          refine eMt_list_40 (d + 2) c _ _ _ hc _ ?_
          have z : q.2.2.2.1 0 v ≠ 0 := by omega
          rw [ldI_n (by omega) (by omega), mJ_Z' (by omega) z, stI_n (by omega) (by omega), nI_add1, mJ_setZ (by omega) z, q4, Mt_bl (d + 1) hc hB (by rw [jLk_1]; exact u1), cG_V, Mt_look _ hc hB (by show jSk B n (jLk v last w p1).1 ≤ n; rw [jLk_1]; exact hsk.2), cG_I]
          rw [jLk_1]
          show (if ¬ mI (jBt B n (jSk B n p1.1)) = 44 then _ else _) = _
          simp (disch := omega) only [nI_lit 44, mI_eqE]
          by_cases h44 : jBt B n (jSk B n p1.1) = 44
          · rw [if_neg (by omega)]
            rw [if_pos h44] at hr
            exact hr
          · rw [if_pos h44]
            rw [if_neg h44] at hr
            exact hr
        refine eMt_list_22 (d + 2) c _ _ _ _ hc _ ?_
        rw [if_neg (by decide), hvv, cG_I]
        rcases hl0 with h0 | h0
        · subst h0
          rw [if_neg (by decide), stI_n (by omega) (by omega), ← zI_S w, mJ_setI hv1, zI_S w]
          refine f40 (jSe p1 3 v (w + 1)) rfl rfl ?_ ?_
          · show a2 p1.2.2.2.1 3 v (w + 1) 0 v = 1
            rw [a2_ite, if_neg (by omega)]; exact hK1
          · unfold jLk
            rw [if_pos rfl]
        · rw [zI_pos (by omega), if_pos (nI_pos' (by omega)), stI_n (by omega) (by omega), ← zI_S w, mJ_setX (by omega), zI_S w]
          refine f40 (jSe p1 4 (last - 1) (w + 1)) rfl rfl ?_ ?_
          · show a2 p1.2.2.2.1 4 (last - 1) (w + 1) 0 v = 1
            rw [a2_ite, if_neg (by omega)]; exact hK1
          · unfold jLk
            rw [if_neg (by omega)]
      have hsk := jSk_le (B := B) u1
      simp only
      cases hsp : jSp B n 93 p1.1 with
      | error e =>
        unfold jSp at hsp
        split at hsp
        · cases hsp
        · rename_i n44
          split at hsp
          · cases hsp
          · rename_i n93
            cases hsp
            rw [if_neg n44] at e40
            refine eX_of (p1 := jTo (jLk v last w p1) (jSk B n p1.1)) (e40 _ ?_)
            refine eMt_list_59 (d + 2) c _ _ _ _ hc _ ?_
            rw [if_pos rfl]
            refine eMt_list_70 (d + 2) c _ _ _ _ hc _ ?_
            refine eMt_list_22 (d + 2) c _ _ _ _ hc _ ?_
            rw [if_pos rfl, nI_lit 93, Mt_take0 (p := jTo (jLk v last w p1) (jSk B n p1.1)) d hc hB hsk.2 (by omega) n93, cG_T]
            rfl
      | ok q =>
        obtain ⟨bb, a⟩ := q
        have hspo := jSp_ok u1 (by omega) hsp
        simp only at hspo
        unfold jSp at hsp
        split at hsp
        · rename_i n44
          cases hsp
          simp only
          rw [if_pos n44] at e40
          have hlt := jBt_lt n44 (by omega)
          have ih := ih (jTo (jLk v last w p1) (jSk B n (jSk B n p1.1 + 1))) (w + 1) (m + 1) (by show n < jSk B n (jSk B n p1.1 + 1) + f; omega) (jGd_lk (jGd_vo hg hvo0 hl1) (by omega) (by omega) hspo.2) (jLi_to hLk) hKL
          refine jRl_go ih ?_
          intro r hr
          refine e40 r ?_
          refine eMt_list_59 (d + 2) c _ _ _ _ hc _ ?_
          rw [if_neg (by decide), wI_eq, mJ_at, nI_add1, mJ_to, Mt_bl (d + 1) hc hB (by exact hlt), cG_V]
          refine eMt_list_70 (d + 2) c _ _ _ _ hc _ ?_
          rw [← zI_S w]
          exact hr
        · rename_i n44
          split at hsp
          · rename_i n93
            cases hsp
            simp only
            rw [if_neg n44] at e40
            refine e40 _ ?_
            refine eMt_list_59 (d + 2) c _ _ _ _ hc _ ?_
            rw [if_pos rfl]
            refine eMt_list_70 (d + 2) c _ _ _ _ hc _ ?_
            refine eMt_list_22 (d + 2) c _ _ _ _ hc _ ?_
            rw [if_pos rfl, nI_lit 93, Mt_take1 (p := jTo (jLk v last w p1) (jSk B n p1.1)) d hc hB hsk.2 (by omega) n93, cG_V]
            rfl
          · cases hsp
end
