/-! letter, file, count, feed: both sides -/
section
variable {c : Nat} {S : yS} {s : aT}
abbrev yNo (x : Int32) (k : Nat) : Prop := x < 0 ∨ nI k < x
theorem Lk_ns (d : Nat) {x : Int32} : fLk_needSubject d x s = if yNo x 3 then rX 2 s else rV s := by
  by_cases h1 : x < 0
  · rw [if_pos (.inl h1)]
    refine eLk_needSubject d _ _ _ ?_
    rw [if_pos h1]
    rfl
  · by_cases h2 : x < 4
    · rw [if_neg (fun e => by
        rcases e with e | e
        · exact h1 e
        · rw [Int32.lt_iff_toInt_lt] at h2 e
          have e3 : (nI 3).toInt = 3 := rfl
          have e4 : (4 : Int32).toInt = 4 := rfl
          omega)]
      refine eLk_needSubject d _ _ _ ?_
      rw [if_neg h1, if_pos h2]
      rfl
    · rw [if_pos (.inr (by
        rw [Int32.lt_iff_toInt_lt] at h2 ⊢
        have e3 : (nI 3).toInt = 3 := rfl
        have e4 : (4 : Int32).toInt = 4 := rfl
        omega))]
      refine eLk_needSubject d _ _ _ ?_
      rw [if_neg h1, if_neg h2]
      rfl
theorem yNo_n {x : Int32} {k : Nat} (hk : k < 2147483648) (h : ¬ yNo x k) : ∃ n, n ≤ k ∧ x = nI n := by
  have h1 : ¬ x < 0 := fun e => h (.inl e)
  have h2 : ¬ nI k < x := fun e => h (.inr e)
  obtain ⟨e1, e2⟩ := nI_tn h1
  refine ⟨x.toInt.toNat, ?_, e1⟩
  rw [e1, nI_ltE (by omega) (by omega)] at h2
  omega
theorem yNo_of {n k : Nat} (hn : n ≤ k) (hk : k < 2147483648) : ¬ yNo (nI n) k := fun e => by
  rcases e with e | e
  · exact nI_n0 (by omega) e
  · rw [nI_ltE (by omega) (by omega)] at e
    omega
theorem Mo_wn (d : Nat) {x : Int32} {k : Nat} {b : Int32} (hb : b = nI k) : fMo_within d x 0 b s = rI (uB (decide (¬ yNo x k))) s := by
  rw [hb, Mo_wi]
  congr 2
  by_cases h : yNo x k
  · rw [decide_eq_false (fun e => by rcases h with h | h; exact e.1 h; exact e.2 h), decide_eq_false (fun e => e h)]
  · rw [decide_eq_true ⟨fun e => h (.inl e), fun e => h (.inr e)⟩, decide_eq_true h]
theorem Mo_isS (d : Nat) {x : Int32} : fMo_isSubject (d + 1) x s = rI (uB (decide (¬ yNo x 3))) s := by
  refine eMo_isSubject d _ _ _ ?_
  rw [Mo_wn d (k := 3) (b := 3) rfl, cG_I]
  cases decide (¬ yNo x 3)
  · exact rZ0 s
  · exact rZ1 s
/- letter -/
def y_letter (i x : Int32) (S : yS) : Nat × Int32 × yS := if yNo x 1 then (2, 0, S) else if i < 0 ∨ ¬ i < nI (if x = 0 then S.pl else S.ou).length then (1, 0, S) else (0, nI ((if x = 0 then S.pl else S.ou).getD i.toInt.toNat 0), S)
theorem L_letter (hw : yWf S) (h : yLI c S s) (d : Nat) {E : Nat → Nat} (hE : E 1 = 2 ∧ E 2 = 1) (i x : Int32) : yLr c s E (fLk_letter (d + 1) i x s) (y_letter i x S) := by
  by_cases hx : yNo x 1
  · have er : y_letter i x S = (2, 0, S) := if_pos hx
    rw [er]
    refine yLr_k (by omega) (eLk_letter d _ _ _ _ ?_)
    rw [Lk_nw, show (1 : Int32) = nI 1 from rfl, if_pos hx, hE.2]
    rfl
  · have key : ∀ (cc : Nat) (C : List Nat), isB cc → lBy cc C s → C.length ≤ 4096 → (∀ r, cG (fBy_at d cc i s) (kI fun v3 s2 => fLk_letter_14 (d + 1) v3 s2) = some r → fLk_letter (d + 1) i x s = some r) → yLr c s E (fLk_letter (d + 1) i x s) (if i < 0 ∨ ¬ i < nI C.length then (1, 0, S) else (0, nI (C.getD i.toInt.toNat 0), S)) := by
      intro cc C hcc hb hl go
      by_cases hi : i < 0
      · rw [if_pos (.inl hi)]
        refine yLr_k (by omega) (go _ ?_)
        have : fBy_at d cc i s = rI (-1) s := eBy_at d cc _ _ hcc _ (by rw [if_pos hi]; rfl)
        rw [this, cG_I]
        refine eLk_letter_14 d _ _ _ ?_
        rw [if_neg (fun e => e rfl), hE.1]
        rfl
      · obtain ⟨e1, e2⟩ := nI_tn hi
        have hat := By_at0 hcc hb d (i := i.toInt.toNat) (by omega)
        rw [← e1] at hat
        by_cases hj : i < nI C.length
        · have hj2 : i.toInt.toNat < C.length := by rw [e1, nI_ltE (by omega) (by omega)] at hj; exact hj
          rw [if_neg (fun e => by rcases e with e | e; exact hi e; exact e hj)]
          rw [if_pos hj2] at hat
          refine yLr_0 ⟨s, go _ ?_, yLI_c (by omega) h, xLk_r⟩
          rw [hat, cG_I]
          refine eLk_letter_14 d _ _ _ ?_
          have hb2 := kBt_gd hb.2.2.1 i.toInt.toNat
          rw [if_pos (nI_nm (by omega))]
          rfl
        · have hj2 : ¬ i.toInt.toNat < C.length := fun e => hj (by rw [e1, nI_ltE (by omega) (by omega)]; exact e)
          rw [if_pos (.inr hj)]
          rw [if_neg hj2] at hat
          refine yLr_k (by omega) (go _ ?_)
          rw [hat, cG_I]
          refine eLk_letter_14 d _ _ _ ?_
          rw [if_neg (fun e => e rfl), hE.1]
          rfl
    have er : y_letter i x S = if i < 0 ∨ ¬ i < nI (if x = 0 then S.pl else S.ou).length then (1, 0, S) else (0, nI ((if x = 0 then S.pl else S.ou).getD i.toInt.toNat 0), S) := if_neg hx
    rw [er]
    by_cases h0 : x = 0
    · simp only [if_pos h0]
      refine key 3 S.pl (by unfold isB; decide) h.2.1.2.1 hw.2.1.2 (fun r hr => eLk_letter d _ _ _ _ ?_)
      rw [Lk_nw, show (1 : Int32) = nI 1 from rfl, if_neg hx, cG_V, if_neg (fun e => e h0)]
      exact hr
    · simp only [if_neg h0]
      refine key 5 S.ou (by unfold isB; decide) h.2.1.2.2 hw.2.2.1.2 (fun r hr => eLk_letter d _ _ _ _ ?_)
      rw [Lk_nw, show (1 : Int32) = nI 1 from rfl, if_neg hx, cG_V, if_pos h0]
      exact hr
theorem M_letter (hw : yWf S) (h : yMI S s) (d : Nat) (i x : Int32) : yMr s (fMo_letter (d + 1) i x s) (y_letter i x S) := by
  have go : ∀ r, fMo_letter_8 (d + 1) i x (uB (decide (yNo x 1))) s = some r → fMo_letter (d + 1) i x s = some r := by
    intro r hr
    refine eMo_letter d _ _ _ _ ?_
    rw [Mo_wn d (k := 1) (b := 1) rfl, cG_I]
    by_cases hx : yNo x 1
    · rw [show decide (yNo x 1) = true from decide_eq_true hx] at hr
      rw [show decide (¬ yNo x 1) = false from decide_eq_false (fun e => e hx), if_neg (by decide)]
      exact hr
    · rw [show decide (yNo x 1) = false from decide_eq_false hx] at hr
      rw [show decide (¬ yNo x 1) = true from decide_eq_true hx, if_pos (by decide)]
      exact hr
  by_cases hx : yNo x 1
  · have er : y_letter i x S = (2, 0, S) := if_pos hx
    rw [er]
    refine ⟨pI s 67 0 (nI 2), go _ (eMo_letter_8 d _ _ _ _ _ ?_), by rw [gI_pI, if_pos ⟨rfl, rfl⟩], yMI_0 h, xMo_0⟩
    rw [show decide (yNo x 1) = true from decide_eq_true hx, if_pos (by decide)]
    refine eMo_letter_27 d _ _ _ _ _ (eMo_letter_28 d _ _ _ _ _ _ ?_)
    have e0 : fMo_refused d 0 (uB true) s = rI 1 (pI s 67 0 (nI 2)) := Mo_ref d (a := false) (b := true)
    rw [e0, cG_I, if_neg (by decide)]
    rfl
  · have hy0 := yMI_0 (v := nI 0) h
    have key : ∀ (C : List Nat) (arr len : Nat), C.length ≤ 4096 → kBt C → gI s 67 len = nI C.length → (∀ j, j < C.length → gI (pI s 67 0 (nI 0)) arr j = mI (C.getD j 0)) → (∀ (w : Bool) r, (∀ t : aT, True) → fMo_letter_28 (d + 1) i x 0 (uB w) s = some r → True) → (∀ r, fMo_letter_21 (d + 1) i x 0 (nI C.length) 0 i s = some r → fMo_letter_8 (d + 1) i x 0 s = some r) → (∀ j, j < C.length → i = nI j → ∀ r, rI (mI (C.getD j 0) &&& 255) (pI s 67 0 (nI 0)) = some r → fMo_letter_28 (d + 1) i x 0 0 s = some r) → yMr s (fMo_letter_8 (d + 1) i x 0 s) (if i < 0 ∨ ¬ i < nI C.length then (1, 0, S) else (0, nI (C.getD i.toInt.toNat 0), S)) := by
      intro C arr len hl hbt _ _ _ g21 g28
      by_cases hb : i < 0 ∨ ¬ i < nI C.length
      · rw [if_pos hb]
        refine ⟨pI s 67 0 (nI 1), g21 _ (eMo_letter_21 d _ _ _ _ _ _ _ _ ?_), by rw [gI_pI, if_pos ⟨rfl, rfl⟩], yMI_0 h, xMo_0⟩
        have hd : decide (¬ i < 0 ∧ ¬ nI C.length - 1 < i) = false := decide_eq_false (fun e => by
          rcases hb with hb | hb
          · exact e.1 hb
          · obtain ⟨e1, e2⟩ := nI_tn e.1
            have h3 := e.2
            rw [e1, nI_ltE (by omega) (by omega)] at hb
            by_cases h0 : C.length = 0
            · rw [h0, show nI 0 - 1 = (-1 : Int32) from rfl, e1] at h3
              exact h3 (by
                rw [Int32.lt_iff_toInt_lt, nI_ti (by omega), show (-1 : Int32).toInt = -1 from rfl]
                omega)
            · rw [show (1 : Int32) = nI 1 from rfl, nI_sub (by omega), e1, nI_ltE (by omega) (by omega)] at h3
              omega)
        rw [Mo_wi, cG_I, hd, if_neg (by decide)]
        refine eMo_letter_28 d _ _ _ _ _ _ ?_
        have e0 : fMo_refused d 1 0 s = rI 1 (pI s 67 0 (nI 1)) := Mo_ref d (a := true) (b := false)
        rw [e0, cG_I, if_neg (by decide)]
        rfl
      · rw [if_neg hb]
        have h1 : ¬ i < 0 := fun e => hb (.inl e)
        have h2 : i < nI C.length := Classical.not_not.mp (fun e => hb (.inr e))
        obtain ⟨e1, e2⟩ := nI_tn h1
        have h3 : i.toInt.toNat < C.length := by rw [e1, nI_ltE (by omega) (by omega)] at h2; exact h2
        refine ⟨pI s 67 0 (nI 0), g21 _ (eMo_letter_21 d _ _ _ _ _ _ _ _ ?_), by rw [gI_pI, if_pos ⟨rfl, rfl⟩], hy0, xMo_0⟩
        have hd : decide (¬ i < 0 ∧ ¬ nI C.length - 1 < i) = true := decide_eq_true ⟨h1, fun e => by
          rw [show (1 : Int32) = nI 1 from rfl, nI_sub (by omega), e1, nI_ltE (by omega) (by omega)] at e
          omega⟩
        rw [Mo_wi, cG_I, hd, if_pos (by decide)]
        refine eMo_letter_27 d _ _ _ _ _ (g28 _ h3 e1 _ ?_)
        rw [mI_and (kBt_gd hbt _)]
        rfl
    have er : y_letter i x S = if i < 0 ∨ ¬ i < nI (if x = 0 then S.pl else S.ou).length then (1, 0, S) else (0, nI ((if x = 0 then S.pl else S.ou).getD i.toInt.toNat 0), S) := if_neg hx
    rw [er]
    rw [show decide (yNo x 1) = false from decide_eq_false hx] at go
    have e0 : fMo_refused d 0 0 s = rI 0 (pI s 67 0 (nI 0)) := Mo_ref d (a := false) (b := false)
    by_cases h0 : x = 0
    · simp only [if_pos h0]
      refine yMr_go (key S.pl 135 8 hw.2.1.2 hw.2.1.1 h.2.2.1.1 (fun j hj => hy0.2.2.1.2 j hj) (fun _ _ _ _ => trivial) (fun r hr => eMo_letter_8 d _ _ _ _ _ ?_) (fun j hj ej r hr => eMo_letter_28 d _ _ _ _ _ _ ?_)) go
      · rw [if_neg (by decide), if_neg (fun e => e h0), h.2.2.1.1]
        exact hr
      · rw [e0, cG_I, if_pos rfl, if_neg (fun e => e h0), ej, ldI_n (by have := hw.2.1.2; omega) (by omega), hy0.2.2.1.2 j hj]
        exact hr
    · simp only [if_neg h0]
      refine yMr_go (key S.ou 136 10 hw.2.2.1.2 hw.2.2.1.1 h.2.2.2.1.1 (fun j hj => hy0.2.2.2.1.2 j hj) (fun _ _ _ _ => trivial) (fun r hr => eMo_letter_8 d _ _ _ _ _ ?_) (fun j hj ej r hr => eMo_letter_28 d _ _ _ _ _ _ ?_)) go
      · rw [if_neg (by decide), if_pos h0, h.2.2.2.1.1]
        exact hr
      · rw [e0, cG_I, if_pos rfl, if_pos h0, ej, ldI_n (by have := hw.2.2.1.2; omega) (by omega), hy0.2.2.2.1.2 j hj]
        exact hr
/- file -/
def yFd (f : yFi) (x : Int32) : Int32 := if x = 0 then nI f.1 else if x = 1 then nI f.2.1 else if x = 2 then nI f.2.2.1 else if x = 3 then nI f.2.2.2.1 else zI f.2.2.2.2.1
def y_file (k x : Int32) (S : yS) : Nat × Int32 × yS := if S.dn = false ∧ (k < 0 ∨ ¬ k < nI S.fs.length) then (1, 0, S) else if yNo x 4 then (2, 0, S) else if S.dn = true then (0, -33, S) else (0, yFd (S.fs.getD k.toInt.toNat yF0) x, S)
theorem L_file (hw : yWf S) (h : yLI c S s) (d : Nat) {E : Nat → Nat} (hE : E 1 = 2 ∧ E 2 = 1) (k x : Int32) : yLr c s E (fLk_file (d + 1) k x s) (y_file k x S) := by
  have h40 := hw.2.2.2.2.1.1
  have g15 : ∀ r, (if yNo x 4 then rX 1 s else if S.dn = true then rI (-33) s else if x = 0 then ldI 40 s 59 k (fun v3 => rI v3 s) else if x = 1 then ldI 40 s 60 k (fun v5 => rI v5 s) else if x = 2 then ldI 40 s 61 k (fun v7 => rI v7 s) else if x = 3 then ldI 40 s 62 k (fun v9 => rI v9 s) else ldI 40 s 63 k (fun v10 => rI v10 s)) = some r → fLk_file_15 (d + 1) k x s = some r := by
    intro r hr
    refine eLk_file_15 d _ _ _ _ ?_
    rw [Lk_nw, show (4 : Int32) = nI 4 from rfl]
    by_cases hx : yNo x 4
    · rw [if_pos hx] at hr ⊢
      exact hr
    · rw [if_neg hx] at hr ⊢
      rw [cG_V, h.1.2]
      by_cases hd : S.dn = true
      · rw [if_pos hd] at hr
        rw [if_neg (by rw [hd]; decide)]
        exact hr
      · rw [if_neg hd] at hr
        rw [if_pos (by rw [uB_0]; simpa using hd)]
        exact hr
  by_cases hd : S.dn = true
  · have go : ∀ r, fLk_file_15 (d + 1) k x s = some r → fLk_file (d + 1) k x s = some r := fun r hr => by
      refine eLk_file d _ _ _ _ ?_
      rw [h.1.2, if_pos (by rw [hd]; decide)]
      exact hr
    have er : y_file k x S = if yNo x 4 then (2, 0, S) else if S.dn = true then (0, -33, S) else (0, yFd (S.fs.getD k.toInt.toNat yF0) x, S) := if_neg (fun e => by rw [hd] at e; cases e.1)
    rw [er]
    by_cases hx : yNo x 4
    · rw [if_pos hx]
      refine yLr_k (by omega) (go _ (g15 _ ?_))
      rw [if_pos hx, hE.2]
      rfl
    · rw [if_neg hx, if_pos hd]
      refine yLr_0 ⟨s, go _ (g15 _ ?_), yLI_c (by omega) h, xLk_r⟩
      rw [if_neg hx, if_pos hd]
      rfl
  · have hd0 : S.dn = false := by simpa using hd
    have hf := h.2.2.2.2.1
    rw [yUp_f hd0] at hf
    by_cases hk : k < 0 ∨ ¬ k < nI S.fs.length
    · have er : y_file k x S = (1, 0, S) := if_pos ⟨hd0, hk⟩
      rw [er]
      refine yLr_k (by omega) (eLk_file d _ _ _ _ ?_)
      rw [h.1.2, if_neg (by rw [hd0]; decide), hf.1]
      by_cases hk0 : k < 0
      · rw [if_pos hk0, hE.1]; rfl
      · rw [if_neg hk0, if_neg (by rcases hk with hk | hk; exact absurd hk hk0; exact hk), hE.1]; rfl
    · have hk0 : ¬ k < 0 := fun e => hk (.inl e)
      have hk1 : k < nI S.fs.length := Classical.not_not.mp (fun e => hk (.inr e))
      obtain ⟨e1, e2⟩ := nI_tn hk0
      have hk2 : k.toInt.toNat < S.fs.length := by rw [e1, nI_ltE (by omega) (by omega)] at hk1; exact hk1
      have go : ∀ r, fLk_file_15 (d + 1) k x s = some r → fLk_file (d + 1) k x s = some r := fun r hr => by
        refine eLk_file d _ _ _ _ ?_
        rw [h.1.2, if_neg (by rw [hd0]; decide), if_neg hk0, hf.1, if_pos hk1]
        exact hr
      have er : y_file k x S = if yNo x 4 then (2, 0, S) else if S.dn = true then (0, -33, S) else (0, yFd (S.fs.getD k.toInt.toNat yF0) x, S) := if_neg (fun e => hk e.2)
      rw [er]
      by_cases hx : yNo x 4
      · rw [if_pos hx]
        refine yLr_k (by omega) (go _ (g15 _ ?_))
        rw [if_pos hx, hE.2]
        rfl
      · rw [if_neg hx, if_neg hd]
        obtain ⟨a1, a2, a3, a4, a5⟩ := hf.2 _ hk2
        refine yLr_0 ⟨s, go _ (g15 _ ?_), yLI_c (by omega) h, xLk_r⟩
        rw [if_neg hx, if_neg hd]
        unfold yFd
        rw [e1]
        by_cases x0 : x = 0
        · rw [if_pos x0, if_pos x0, ldI_n (by omega) (by omega), ← e1, a1]; rfl
        · rw [if_neg x0, if_neg x0]
          by_cases x1 : x = 1
          · rw [if_pos x1, if_pos x1, ldI_n (by omega) (by omega), ← e1, a2]; rfl
          · rw [if_neg x1, if_neg x1]
            by_cases x2 : x = 2
            · rw [if_pos x2, if_pos x2, ldI_n (by omega) (by omega), ← e1, a3]; rfl
            · rw [if_neg x2, if_neg x2]
              by_cases x3 : x = 3
              · rw [if_pos x3, if_pos x3, ldI_n (by omega) (by omega), ← e1, a4]; rfl
              · rw [if_neg x3, if_neg x3, ldI_n (by omega) (by omega), ← e1, a5]; rfl
end
