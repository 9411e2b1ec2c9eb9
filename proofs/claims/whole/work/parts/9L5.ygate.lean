/-! a subject and a version: what is refused -/
def yBad (x w : Int32) (S : yS) : Bool := decide (yNo x 3 ∨ S.dn = false ∧ ¬ yVa S.fs x.toInt.toNat w)
def yGt {α : Type} (x w : Int32) (S : yS) (z dz : α) (k : Nat → Nat → α) : α := if yNo x 3 then z else if S.dn = true then dz else if yVa S.fs x.toInt.toNat w then k x.toInt.toNat w.toInt.toNat else z
section
variable {c : Nat} {S : yS} {s : aT}
theorem yBad_1 {x w : Int32} (h : yNo x 3) : yBad x w S = true := decide_eq_true (.inl h)
theorem yBad_2 {x w : Int32} (h : ¬ yNo x 3) (hd : S.dn = true) : yBad x w S = false := decide_eq_false (fun e => by
  rcases e with e | e
  · exact h e
  · rw [hd] at e; cases e.1)
theorem yBad_3 {x w : Int32} (h : ¬ yNo x 3) (hv : yVa S.fs x.toInt.toNat w) : yBad x w S = false := decide_eq_false (fun e => by
  rcases e with e | e
  · exact h e
  · exact e.2 hv)
theorem yBad_4 {x w : Int32} (h : ¬ yNo x 3) (hd : S.dn = false) (hv : ¬ yVa S.fs x.toInt.toNat w) : yBad x w S = true := decide_eq_true (.inr ⟨hd, hv⟩)
/-- the lake's gate -/
theorem Lk_gt (hw : yWf S) (h : yLI c S s) (d : Nat) {E : Nat → Nat} (hE : E 1 = 2) {x w : Int32} {K : aT → aRs} {k : Nat → Nat → Nat × Int32 × yS} (hK : ∀ n v, n < 4 → v < 16 → x = nI n → w = nI v → S.dn = false → yVf S.fs n v ≠ 0 → yLr c s E (K s) (k n v)) : yLr c s E (cG (fLk_needSubject d x s) (kV fun s1 => if gI s1 0 16 = 0 then cG (fLk_needVersion d x w s1) (kV fun s2 => K s2) else rI (-33) s1)) (yGt x w S (1, 0, S) (0, -33, S) k) := by
  by_cases hx : yNo x 3
  · have er : yGt x w S (1, 0, S) (0, -33, S) k = (1, 0, S) := if_pos hx
    rw [er]
    refine yLr_k (by omega) ?_
    rw [Lk_ns, if_pos hx, hE]
    rfl
  · obtain ⟨n, n1, rfl⟩ := yNo_n (by omega) hx
    rw [Lk_ns, if_neg hx, cG_V, h.1.2]
    by_cases hd : S.dn = true
    · have er : yGt (nI n) w S (1, 0, S) (0, -33, S) k = (0, -33, S) := by unfold yGt; rw [if_neg hx, if_pos hd]
      rw [er]
      rw [if_neg (by rw [hd]; decide)]
      exact yLr_0 ⟨s, rfl, yLI_c (by omega) h, xLk_r⟩
    · have hd0 : S.dn = false := by simpa using hd
      have hL := hw.2.2.2.2
      have hsc := h.2.2.2.2.2.1
      rw [yUp_f hd0] at hsc
      rw [if_pos (by rw [hd0]; rfl), Lk_nv hL hsc d (by omega)]
      by_cases hv : yVa S.fs n w
      · obtain ⟨v, rfl, _, v3⟩ := yVa_n hL hv
        have v16 := (yVa_of hL v3).2
        have er : yGt (nI n) (nI v) S (1, 0, S) (0, -33, S) k = k n v := by
          unfold yGt
          rw [if_neg hx, if_neg hd, nI_ti2 (by omega), nI_ti2 (by omega), if_pos hv]
        rw [er, if_pos hv, cG_V]
        exact hK n v (by omega) v16 rfl rfl hd0 v3
      · have er : yGt (nI n) w S (1, 0, S) (0, -33, S) k = (1, 0, S) := by
          unfold yGt
          rw [if_neg hx, if_neg hd, nI_ti2 (by omega), if_neg hv]
        rw [er, if_neg hv]
        refine yLr_k (by omega) ?_
        rw [hE]
        rfl
/-- the reference's gate -/
theorem Mo_gt (hw : yWf S) (h : yMI S s) (d : Nat) {x w : Int32} {F : aRs} {K : aT → aRs} {k : Nat → Nat → Nat × Int32 × yS} (go : ∀ r, cG (fMo_refused d (uB (yBad x w S)) 0 s) (kI fun v2 s1 => if v2 = 0 then if gI s1 67 11 = 0 then K s1 else rI (-33) s1 else rI 0 s1) = some r → F = some r) (hK : ∀ n v, n < 4 → v < 16 → x = nI n → w = nI v → S.dn = false → yVf S.fs n v ≠ 0 → yMr (pI s 67 0 (nI 0)) (K (pI s 67 0 (nI 0))) (k n v)) : yMr s F (yGt x w S (1, 0, S) (0, -33, S) k) := by
  have hy : ∀ v, yMI S (pI s 67 0 v) := fun v => yMI_0 h
  have bad : yBad x w S = true → yMr s F (1, 0, S) := fun hb => by
    refine ⟨pI s 67 0 (nI 1), go _ ?_, by rw [gI_pI, if_pos ⟨rfl, rfl⟩], hy _, xMo_0⟩
    have e0 : fMo_refused d (uB true) 0 s = rI 1 (pI s 67 0 (nI 1)) := Mo_ref d (a := true) (b := false)
    rw [hb, e0, cG_I, if_neg (by decide)]
    rfl
  have e0 : fMo_refused d (uB false) 0 s = rI 0 (pI s 67 0 (nI 0)) := Mo_ref d (a := false) (b := false)
  by_cases hx : yNo x 3
  · have er : yGt x w S (1, 0, S) (0, -33, S) k = (1, 0, S) := if_pos hx
    rw [er]
    exact bad (yBad_1 hx)
  · obtain ⟨n, n1, rfl⟩ := yNo_n (by omega) hx
    by_cases hd : S.dn = true
    · have er : yGt (nI n) w S (1, 0, S) (0, -33, S) k = (0, -33, S) := by unfold yGt; rw [if_neg hx, if_pos hd]
      rw [er]
      refine ⟨pI s 67 0 (nI 0), go _ ?_, by rw [gI_pI, if_pos ⟨rfl, rfl⟩], hy _, xMo_0⟩
      rw [yBad_2 hx hd, e0, cG_I, if_pos rfl, (hy _).1.2, if_neg (by rw [hd]; decide)]
      rfl
    · have hd0 : S.dn = false := by simpa using hd
      have hL := hw.2.2.2.2
      by_cases hv : yVa S.fs n w
      · have hb := yBad_3 (S := S) (w := w) hx (by rw [nI_ti2 (by omega)]; exact hv)
        obtain ⟨v, rfl, _, v3⟩ := yVa_n hL hv
        have v16 := (yVa_of hL v3).2
        have er : yGt (nI n) (nI v) S (1, 0, S) (0, -33, S) k = k n v := by
          unfold yGt
          rw [if_neg hx, if_neg hd, nI_ti2 (by omega), nI_ti2 (by omega), if_pos hv]
        rw [er]
        obtain ⟨s', r1, r2, r3, r4⟩ := hK n v (by omega) v16 rfl rfl hd0 v3
        refine ⟨s', go _ ?_, r2, r3, xMo_t xMo_0 r4⟩
        rw [hb, e0, cG_I, if_pos rfl, (hy _).1.2, if_pos (by rw [hd0]; rfl)]
        exact r1
      · have er : yGt (nI n) w S (1, 0, S) (0, -33, S) k = (1, 0, S) := by
          unfold yGt
          rw [if_neg hx, if_neg hd, nI_ti2 (by omega), if_neg hv]
        rw [er]
        exact bad (yBad_4 hx hd0 (by rw [nI_ti2 (by omega)]; exact hv))

theorem Mo_go_look (hL : yLw S.fs) (h : yMI S s) (d : Nat) {x w : Int32} : ∀ r, fMo_look_15 (d + 3) x w (uB (yBad x w S)) s = some r → fMo_look (d + 3) x w s = some r := by
  intro r hr
  refine eMo_look (d + 2) _ _ _ _ ?_
  rw [Mo_isS, cG_I]
  by_cases hx : yNo x 3
  · rw [yBad_1 hx] at hr
    rw [show decide (¬ yNo x 3) = false from decide_eq_false (fun e => e hx), if_pos (by decide)]
    exact eMo_look_12 (d + 2) _ _ _ _ hr
  · rw [show decide (¬ yNo x 3) = true from decide_eq_true hx, if_neg (by decide), h.1.2]
    by_cases hd : S.dn = true
    · rw [yBad_2 hx hd] at hr
      rw [if_pos (by rw [hd]; decide)]
      exact eMo_look_14 (d + 2) _ _ _ _ hr
    · have hd0 : S.dn = false := by simpa using hd
      obtain ⟨n, n1, rfl⟩ := yNo_n (by omega) hx
      rw [if_neg (by rw [hd0]; decide), Mo_isv hL h.2.2.2.2.2.1 d (by omega), cG_I]
      by_cases hv : yVa S.fs n w
      · rw [yBad_3 hx (by rw [nI_ti2 (by omega)]; exact hv)] at hr
        rw [show decide (yVa S.fs n w) = true from decide_eq_true hv, if_pos (by decide)]
        exact eMo_look_14 (d + 2) _ _ _ _ hr
      · rw [yBad_4 hx hd0 (by rw [nI_ti2 (by omega)]; exact hv)] at hr
        rw [show decide (yVa S.fs n w) = false from decide_eq_false hv, if_neg (by decide)]
        exact eMo_look_12 (d + 2) _ _ _ _ hr

theorem Mo_go_load (hL : yLw S.fs) (h : yMI S s) (d : Nat) {x w : Int32} : ∀ r, fMo_load_15 (d + 3) x w (uB (yBad x w S)) s = some r → fMo_load (d + 3) x w s = some r := by
  intro r hr
  refine eMo_load (d + 2) _ _ _ _ ?_
  rw [Mo_isS, cG_I]
  by_cases hx : yNo x 3
  · rw [yBad_1 hx] at hr
    rw [show decide (¬ yNo x 3) = false from decide_eq_false (fun e => e hx), if_pos (by decide)]
    exact eMo_load_12 (d + 2) _ _ _ _ hr
  · rw [show decide (¬ yNo x 3) = true from decide_eq_true hx, if_neg (by decide), h.1.2]
    by_cases hd : S.dn = true
    · rw [yBad_2 hx hd] at hr
      rw [if_pos (by rw [hd]; decide)]
      exact eMo_load_14 (d + 2) _ _ _ _ hr
    · have hd0 : S.dn = false := by simpa using hd
      obtain ⟨n, n1, rfl⟩ := yNo_n (by omega) hx
      rw [if_neg (by rw [hd0]; decide), Mo_isv hL h.2.2.2.2.2.1 d (by omega), cG_I]
      by_cases hv : yVa S.fs n w
      · rw [yBad_3 hx (by rw [nI_ti2 (by omega)]; exact hv)] at hr
        rw [show decide (yVa S.fs n w) = true from decide_eq_true hv, if_pos (by decide)]
        exact eMo_load_14 (d + 2) _ _ _ _ hr
      · rw [yBad_4 hx hd0 (by rw [nI_ti2 (by omega)]; exact hv)] at hr
        rw [show decide (yVa S.fs n w) = false from decide_eq_false hv, if_neg (by decide)]
        exact eMo_load_12 (d + 2) _ _ _ _ hr

theorem Mo_go_print (hL : yLw S.fs) (h : yMI S s) (d : Nat) {x w : Int32} : ∀ r, fMo_print_15 (d + 3) x w (uB (yBad x w S)) s = some r → fMo_print (d + 3) x w s = some r := by
  intro r hr
  refine eMo_print (d + 2) _ _ _ _ ?_
  rw [Mo_isS, cG_I]
  by_cases hx : yNo x 3
  · rw [yBad_1 hx] at hr
    rw [show decide (¬ yNo x 3) = false from decide_eq_false (fun e => e hx), if_pos (by decide)]
    exact eMo_print_12 (d + 2) _ _ _ _ hr
  · rw [show decide (¬ yNo x 3) = true from decide_eq_true hx, if_neg (by decide), h.1.2]
    by_cases hd : S.dn = true
    · rw [yBad_2 hx hd] at hr
      rw [if_pos (by rw [hd]; decide)]
      exact eMo_print_14 (d + 2) _ _ _ _ hr
    · have hd0 : S.dn = false := by simpa using hd
      obtain ⟨n, n1, rfl⟩ := yNo_n (by omega) hx
      rw [if_neg (by rw [hd0]; decide), Mo_isv hL h.2.2.2.2.2.1 d (by omega), cG_I]
      by_cases hv : yVa S.fs n w
      · rw [yBad_3 hx (by rw [nI_ti2 (by omega)]; exact hv)] at hr
        rw [show decide (yVa S.fs n w) = true from decide_eq_true hv, if_pos (by decide)]
        exact eMo_print_14 (d + 2) _ _ _ _ hr
      · rw [yBad_4 hx hd0 (by rw [nI_ti2 (by omega)]; exact hv)] at hr
        rw [show decide (yVa S.fs n w) = false from decide_eq_false hv, if_neg (by decide)]
        exact eMo_print_12 (d + 2) _ _ _ _ hr
end
