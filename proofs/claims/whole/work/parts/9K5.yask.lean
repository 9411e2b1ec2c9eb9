/-! the tape, and what is asked: both sides -/
def xTw (k i : Nat) : Prop := xTr k i ∨ (1 ≤ k ∧ k ≤ 6) ∨ k = 0 ∧ i = 15
def xTn (k i : Nat) : Prop := xTm k i ∨ k = 67 ∧ (i = 2 ∨ i = 3 ∨ i = 8 ∨ i = 10) ∨ k = 68 ∨ k = 135 ∨ k = 136
section
variable {c c' : Nat} {S : yS} {s s' : aT}
theorem yLI_ch {tp pl ou : List Nat} {pc : Int32} (h : ∀ k i, k < 67 → ¬ xTw k i → gI s' k i = gI s k i) (hc : c ≤ c') (h1 : lBy 1 tp s') (h2 : lBy 3 pl s') (h3 : lBy 5 ou s') (h4 : gI s' 0 15 = pc) (hl : yLI c S s) : yLI c' (yMk tp pl ou pc S.dn S.pw S.fs) s' := by
  obtain ⟨⟨a1, a2⟩, _, d1, ⟨tn, e1, e2, e3⟩, f1, g1, i1, j1⟩ := hl
  have hx : ∀ k i, k < 67 → (k = 0 ∧ i = 16 ∨ 22 ≤ k ∧ k ≤ 36 ∨ k = 49 ∧ i = 4 ∨ k = 50 ∨ 56 ≤ k ∧ k ≤ 63) → gI s' k i = gI s k i := fun k i h1 h2 => h k i h1 (fun e => by unfold xTw xTr at e; omega)
  exact ⟨⟨h4, by rw [hx 0 16 (by omega) (by omega)]; exact a2⟩, ⟨h1, h2, h3⟩, by rw [hx 56 1 (by omega) (by omega)]; exact d1, ⟨tn, by omega, lDl_fr (fun i _ => hx 57 i (by omega) (by omega)) e2, fun hd => by rw [hx 58 6 (by omega) (by omega)]; exact e3 hd⟩, lFi_fr (fun k i h1 h2 => hx k i (by omega) (by omega)) f1, lSc_fr (fun k i h1 h2 => hx k i (by omega) (by omega)) g1, fun i hi j hj => by rw [hx 57 _ (by omega) (by omega)]; exact i1 i hi j hj, lMk_fr (hx 49 4 (by omega) (by omega)) (fun i _ => hx 50 i (by omega) (by omega)) hc j1⟩
theorem yMI_ch {tp pl ou : List Nat} {pc : Int32} (h : ∀ k i, 67 ≤ k → ¬ xTn k i → gI s' k i = gI s k i) (h1 : gI s' 67 2 = nI tp.length ∧ ∀ i, i < tp.length → gI s' 68 i = mI (tp.getD i 0)) (h2 : gI s' 67 8 = nI pl.length ∧ ∀ i, i < pl.length → gI s' 135 i = mI (pl.getD i 0)) (h3 : gI s' 67 10 = nI ou.length ∧ ∀ i, i < ou.length → gI s' 136 i = mI (ou.getD i 0)) (h4 : gI s' 67 3 = pc) (hl : yMI S s) : yMI (yMk tp pl ou pc S.dn S.pw S.fs) s' := by
  obtain ⟨⟨a1, a2⟩, _, _, _, f1, g1, i1⟩ := hl
  have hx : ∀ k i, (137 ≤ k ∧ k ≤ 143 ∨ k = 67 ∧ (i = 11 ∨ i = 12 ∨ i = 13)) → gI s' k i = gI s k i := fun k i h2 => h k i (by omega) (fun e => by unfold xTn xTm at e; omega)
  exact ⟨⟨h4, by rw [hx 67 11 (by omega)]; exact a2⟩, h1, h2, h3, by rw [hx 67 12 (by omega)]; exact f1, mFi_fr (hx 67 13 (by omega)) (fun k i h1 h2 => hx k i (by omega)) g1, fun i hi j hj => by rw [hx 143 _ (by omega)]; exact i1.1 i hi j hj, fun i hi => by rw [hx 143 _ (by omega)]; exact i1.2 i hi⟩
/- end -/
def y_end (x : Int32) (S : yS) : Nat × yS := if x < 0 ∨ nI S.tp.length < x then (1, S) else (0, S.stp (S.tp.take x.toInt.toNat))
theorem nI_tn {x : Int32} (h : ¬ x < 0) : x = nI x.toInt.toNat ∧ x.toInt.toNat < 2147483648 := by
  rw [Int32.lt_iff_toInt_lt] at h
  have e0 : (0 : Int32).toInt = 0 := rfl
  rw [e0] at h
  have h2 : x.toInt < 2147483648 := Int32.toInt_lt x
  refine ⟨?_, by omega⟩
  apply Int32.toInt_inj.mp
  rw [nI_ti (by omega)]
  omega
theorem gD_tk {L : List Nat} {n i : Nat} (h : i < n) : (L.take n).getD i 0 = L.getD i 0 := by
  rw [List.getD_eq_getElem?_getD, List.getD_eq_getElem?_getD, List.getElem?_take, if_pos h]
theorem kBt_tke {L : List Nat} {n : Nat} (h : kBt L) : kBt (L.take n) := fun y hy => h y (List.mem_of_mem_take hy)
theorem L_end (hw : yWf S) (h : yLI c S s) (d : Nat) {E : Nat → Nat} (hE : E 1 = 1) (x : Int32) : yLv c s E (fLk_end d x s) (y_end x S) := by
  have h1 := h.2.1.1
  by_cases hx : x < 0
  · have er : y_end x S = (1, S) := if_pos (.inl hx)
    rw [er]
    unfold yLv
    rw [if_neg (by show ¬ 1 = 0; omega)]
    refine eLk_end d _ _ _ ?_
    show _ = rX (E 1) s
    rw [if_pos hx, hE]
  · obtain ⟨e1, e2⟩ := nI_tn hx
    have hl := hw.1.2
    by_cases hy : x ≤ nI S.tp.length
    · have er : y_end x S = (0, S.stp (S.tp.take x.toInt.toNat)) := if_neg (fun e => by
        rcases e with e | e
        · exact hx e
        · rw [Int32.le_iff_toInt_le] at hy
          rw [Int32.lt_iff_toInt_lt] at e
          omega)
      rw [er]
      unfold yLv
      rw [if_pos rfl]
      rw [e1, nI_leE (by omega) (by omega)] at hy
      have hlen : (S.tp.take x.toInt.toNat).length = x.toInt.toNat := by rw [List.length_take]; omega
      refine ⟨pI s 1 1 x, eLk_end d _ _ _ ?_, ?_, fun k i hk => by rw [gI_pI, if_neg (by omega)]⟩
      · rw [if_neg hx, h1.1, if_pos (by rw [e1, nI_leE (by omega) (by omega)]; exact hy), wI_eq]
        rfl
      · have hb := h.2.1
        refine yLI_ch (tp := S.tp.take x.toInt.toNat) (pl := S.pl) (ou := S.ou) (pc := S.pc) (fun k i hk hn => by rw [gI_pI, if_neg (fun e => hn (by unfold xTw; omega))]) (by omega) ⟨by rw [gI_pI, if_pos ⟨rfl, rfl⟩, hlen]; exact e1, fun i hi => by rw [gI_pI, if_neg (by omega), gD_tk (by omega)]; exact h1.2.1 i (by omega), kBt_tke h1.2.2.1, by rw [hlen]; have := h1.2.2.2; omega⟩ (lBy_fr (fun k i hk => by rw [gI_pI, if_neg (by omega)]) hb.2.1) (lBy_fr (fun k i hk => by rw [gI_pI, if_neg (by omega)]) hb.2.2) (by rw [gI_pI, if_neg (by omega)]; exact h.1.1) h
    · have er : y_end x S = (1, S) := if_pos (.inr (i32_nle hy))
      rw [er]
      unfold yLv
      rw [if_neg (by show ¬ 1 = 0; omega)]
      refine eLk_end d _ _ _ ?_
      show _ = rX (E 1) s
      rw [if_neg hx, h1.1, if_neg hy, hE]
theorem M_end (hw : yWf S) (h : yMI S s) (d : Nat) (x : Int32) : yMv s (fMo_end (d + 1) x s) (y_end x S) := by
  unfold yMv
  have hl := hw.1.2
  have go : ∀ (w : Bool) r, fMo_end_10 (d + 1) x (uB (!w)) s = some r → (uB (decide (¬ x < 0 ∧ ¬ nI S.tp.length < x)) = uB w) → fMo_end (d + 1) x s = some r := by
    intro w r hr hw
    refine eMo_end d _ _ _ ?_
    rw [Mo_wi, cG_I, h.2.1.1, hw]
    cases w with
    | true => rw [if_pos (by decide)]; exact hr
    | false => rw [if_neg (by decide)]; exact hr
  by_cases hb : x < 0 ∨ nI S.tp.length < x
  · have er : y_end x S = (1, S) := if_pos hb
    rw [er]
    refine ⟨pI s 67 0 (nI 1), go false _ (eMo_end_10 d _ _ _ _ ?_) (by rw [show decide (¬ x < 0 ∧ ¬ nI S.tp.length < x) = false from decide_eq_false (fun e => by rcases hb with hb | hb; exact e.1 hb; exact e.2 hb)]), by rw [gI_pI, if_pos ⟨rfl, rfl⟩], yMI_0 h, xMo_0⟩
    rw [show (0 : Int32) = uB false from rfl, Mo_ref, cG_I, if_pos (by decide)]
    rfl
  · have er : y_end x S = (0, S.stp (S.tp.take x.toInt.toNat)) := if_neg hb
    rw [er]
    have h1 : ¬ x < 0 := fun e => hb (.inl e)
    have h2 : ¬ nI S.tp.length < x := fun e => hb (.inr e)
    obtain ⟨e1, e2⟩ := nI_tn h1
    have h3 : x.toInt.toNat ≤ S.tp.length := by
      rw [e1, nI_ltE (by omega) (by omega)] at h2
      omega
    have hlen : (S.tp.take x.toInt.toNat).length = x.toInt.toNat := by rw [List.length_take]; omega
    have hy := yMI_0 (v := nI 0) h
    refine ⟨pI (pI s 67 0 (nI 0)) 67 2 x, go true _ (eMo_end_10 d _ _ _ _ ?_) (by rw [show decide (¬ x < 0 ∧ ¬ nI S.tp.length < x) = true from decide_eq_true ⟨h1, h2⟩]), by rw [gI_pI, if_neg (by omega), gI_pI, if_pos ⟨rfl, rfl⟩], ?_, xMo_t xMo_0 xMo_0⟩
    · rw [show (0 : Int32) = uB false from rfl, Mo_ref, cG_I, if_neg (by decide), wI_eq]
      rfl
    · refine yMI_ch (tp := S.tp.take x.toInt.toNat) (pl := S.pl) (ou := S.ou) (pc := S.pc) (s := pI s 67 0 (nI 0)) (fun k i hk hn => by rw [gI_pI, if_neg (fun e => hn (by unfold xTn; omega))]) ⟨by rw [gI_pI, if_pos ⟨rfl, rfl⟩, hlen]; exact e1, fun i hi => by rw [gI_pI, if_neg (by omega), gD_tk (by omega)]; exact hy.2.1.2 i (by omega)⟩ ⟨by rw [gI_pI, if_neg (by omega)]; exact hy.2.2.1.1, fun i hi => by rw [gI_pI, if_neg (by omega)]; exact hy.2.2.1.2 i hi⟩ ⟨by rw [gI_pI, if_neg (by omega)]; exact hy.2.2.2.1.1, fun i hi => by rw [gI_pI, if_neg (by omega)]; exact hy.2.2.2.1.2 i hi⟩ (by rw [gI_pI, if_neg (by omega)]; exact hy.1.1) hy
/- size -/
def y_size (x : Int32) (S : yS) : Nat × Int32 × yS := if x < 0 ∨ 1 < x then (1, 0, S) else (0, if x = 0 then nI S.pl.length else nI S.ou.length, S)
theorem Lk_nw (d : Nat) {x y : Int32} : fLk_needWhat d x y s = if x < 0 ∨ y < x then rX 1 s else rV s := by
  by_cases h1 : x < 0
  · rw [if_pos (.inl h1)]
    refine eLk_needWhat d _ _ _ _ ?_
    rw [if_pos h1]
    rfl
  · by_cases h2 : x ≤ y
    · rw [if_neg (fun e => by
        rcases e with e | e
        · exact h1 e
        · rw [Int32.le_iff_toInt_le] at h2
          rw [Int32.lt_iff_toInt_lt] at e
          omega)]
      refine eLk_needWhat d _ _ _ _ ?_
      rw [if_neg h1, if_pos h2]
      rfl
    · rw [if_pos (.inr (i32_nle h2))]
      refine eLk_needWhat d _ _ _ _ ?_
      rw [if_neg h1, if_neg h2]
      rfl
theorem L_size (h : yLI c S s) (d : Nat) {E : Nat → Nat} (hE : E 1 = 1) (x : Int32) : yLr c s E (fLk_size (d + 1) x s) (y_size x S) := by
  by_cases hx : x < 0 ∨ 1 < x
  · have er : y_size x S = (1, 0, S) := if_pos hx
    rw [er]
    refine yLr_k (by omega) (eLk_size d _ _ _ ?_)
    rw [Lk_nw, if_pos hx, hE]
    rfl
  · have er : y_size x S = (0, if x = 0 then nI S.pl.length else nI S.ou.length, S) := if_neg hx
    rw [er]
    refine yLr_0 ⟨s, eLk_size d _ _ _ ?_, yLI_c (by omega) h, xLk_r⟩
    rw [Lk_nw, if_neg hx, cG_V, h.2.1.2.1.1, h.2.1.2.2.1]
    by_cases h0 : x = 0
    · rw [if_neg (fun e => e h0), if_pos h0]; rfl
    · rw [if_pos h0, if_neg h0]; rfl
theorem M_size (h : yMI S s) (d : Nat) (x : Int32) : yMr s (fMo_size (d + 1) x s) (y_size x S) := by
  have go : ∀ (w : Bool) r, fMo_size_9 (d + 1) x (uB (!w)) s = some r → (uB (decide (¬ x < 0 ∧ ¬ 1 < x)) = uB w) → fMo_size (d + 1) x s = some r := by
    intro w r hr hw
    refine eMo_size d _ _ _ ?_
    rw [Mo_wi, cG_I, hw]
    cases w with
    | true => rw [if_pos (by decide)]; exact hr
    | false => rw [if_neg (by decide)]; exact hr
  by_cases hb : x < 0 ∨ 1 < x
  · have er : y_size x S = (1, 0, S) := if_pos hb
    rw [er]
    refine ⟨pI s 67 0 (nI 1), go false _ (eMo_size_9 d _ _ _ _ ?_) (by rw [show decide (¬ x < 0 ∧ ¬ 1 < x) = false from decide_eq_false (fun e => by rcases hb with hb | hb; exact e.1 hb; exact e.2 hb)]), by rw [gI_pI, if_pos ⟨rfl, rfl⟩], yMI_0 h, xMo_0⟩
    rw [show (0 : Int32) = uB false from rfl, Mo_ref, cG_I, if_neg (by decide)]
    rfl
  · have er : y_size x S = (0, if x = 0 then nI S.pl.length else nI S.ou.length, S) := if_neg hb
    rw [er]
    have h1 : ¬ x < 0 := fun e => hb (.inl e)
    have h2 : ¬ 1 < x := fun e => hb (.inr e)
    have hy := yMI_0 (v := nI 0) h
    refine ⟨pI s 67 0 (nI 0), go true _ (eMo_size_9 d _ _ _ _ ?_) (by rw [show decide (¬ x < 0 ∧ ¬ 1 < x) = true from decide_eq_true ⟨h1, h2⟩]), by rw [gI_pI, if_pos ⟨rfl, rfl⟩], hy, xMo_0⟩
    show _ = rI (if x = 0 then nI S.pl.length else nI S.ou.length) _
    have e0 : fMo_refused d (uB (!true)) 0 s = rI 0 (pI s 67 0 (nI 0)) := Mo_ref d (a := false) (b := false)
    rw [e0, cG_I, if_pos rfl, hy.2.2.1.1, hy.2.2.2.1.1]
    by_cases h0 : x = 0
    · rw [if_neg (fun e => e h0), if_pos h0]
    · rw [if_pos h0, if_neg h0]
end
