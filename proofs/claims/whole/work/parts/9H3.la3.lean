/-! the lake: pairs that are asked -/
theorem nI_mulE (a b : Nat) : nI a * nI b = nI (a * b) := (Int32.ofNat_mul a b).symm
theorem nI_divE {a k : Nat} (ha : a < 2147483648) (hk : k < 2147483647) : nI a / nI k = nI (a / k) := by
  have hd : a / k < 2147483648 := Nat.lt_of_le_of_lt (Nat.div_le_self _ _) ha
  have e : ∀ x, x < 2147483648 → (nI x).toInt = (x : Int) := fun x hx => Int32.toInt_ofNat_of_lt hx
  apply Int32.toInt_inj.mp
  rw [Int32.toInt_div_of_ne_right _ _ (nI_nm hk), e a ha, e k (by omega), e _ hd, Int.tdiv_eq_ediv_of_nonneg (by omega)]
  omega
def cd134 (p : Nat × Nat) : Nat := p.1 * 134 + p.2
/-- what has been asked -/
def lAk (S : Nat) (L : List (Nat × Nat)) (t : aT) : aT := (fun k i => if k = 49 ∧ i = 3 then nI L.length else if k = 50 ∧ i ∈ L.map cd134 then nI S else if k = 51 ∧ i < L.length then nI (cd134 (L.getD i (0, 0))) else t.1 k i, t.2)
section
variable {S : Nat} {L : List (Nat × Nat)} {t : aT}
theorem lAk_I {k i : Nat} : gI (lAk S L t) k i = if k = 49 ∧ i = 3 then nI L.length else if k = 50 ∧ i ∈ L.map cd134 then nI S else if k = 51 ∧ i < L.length then nI (cd134 (L.getD i (0, 0))) else gI t k i := rfl
theorem lAk_o {k i : Nat} (h : (k < 49 ∨ 51 < k) ∨ k = 49 ∧ i ≠ 3) : gI (lAk S L t) k i = gI t k i := by
  rw [lAk_I, if_neg (by omega), if_neg (by omega), if_neg (by omega)]
theorem lAk_n : gI (lAk S L t) 49 3 = nI L.length := by rw [lAk_I, if_pos ⟨rfl, rfl⟩]
theorem lAk_50 {i : Nat} : gI (lAk S L t) 50 i = if i ∈ L.map cd134 then nI S else gI t 50 i := by
  rw [lAk_I, if_neg (by omega)]
  by_cases h : i ∈ L.map cd134
  · rw [if_pos ⟨rfl, h⟩, if_pos h]
  · rw [if_neg (fun e => h e.2), if_neg h, if_neg (by omega)]
theorem lAk_51 {i : Nat} (h : i < L.length) : gI (lAk S L t) 51 i = nI (cd134 (L.getD i (0, 0))) := by
  rw [lAk_I, if_neg (by omega), if_neg (by omega), if_pos ⟨rfl, h⟩]
theorem gD_l {M : List (Nat × Nat)} {p : Nat × Nat} {i : Nat} (h : i < M.length) : (M ++ [p]).getD i (0, 0) = M.getD i (0, 0) := by
  rw [List.getD_eq_getElem?_getD, List.getD_eq_getElem?_getD, List.getElem?_append_left h]
theorem gD_r {M : List (Nat × Nat)} {p : Nat × Nat} : (M ++ [p]).getD M.length (0, 0) = p := by
  rw [List.getD_eq_getElem?_getD, List.getElem?_append_right (Nat.le_refl _), Nat.sub_self]
  rfl
theorem lAk_add {p : Nat × Nat} : pI (pI (pI (lAk S L t) 50 (cd134 p) (nI S)) 51 L.length (nI (cd134 p))) 49 3 (nI (L.length + 1)) = lAk S (L ++ [p]) t := by
  have hl : (L ++ [p]).length = L.length + 1 := by simp
  refine aT_ext (fun k i => ?_) (fun _ _ => rfl) rfl
  rw [gI_pI, gI_pI, gI_pI]
  by_cases h49 : k = 49 ∧ i = 3
  · rw [if_pos h49, h49.1, h49.2, lAk_n, hl]
  · rw [if_neg h49]
    by_cases h51 : k = 51
    · subst h51
      by_cases hi : i = L.length
      · rw [if_pos ⟨rfl, hi⟩, lAk_51 (by omega), hi, gD_r]
      · rw [if_neg (fun e => hi e.2), if_neg (by omega)]
        by_cases hlt : i < L.length
        · rw [lAk_51 hlt, lAk_51 (by omega), gD_l hlt]
        · rw [lAk_I, lAk_I, if_neg (by omega), if_neg (by omega), if_neg (by omega), if_neg (by omega), if_neg (by omega), if_neg (by omega)]
    · rw [if_neg (fun e => h51 e.1)]
      by_cases h50 : k = 50
      · subst h50
        rw [lAk_50, lAk_50]
        have hm : i ∈ (L ++ [p]).map cd134 ↔ i ∈ L.map cd134 ∨ i = cd134 p := by
          rw [List.map_append, List.mem_append, List.map_cons, List.map_nil, List.mem_singleton]
        by_cases hi : i = cd134 p
        · rw [if_pos ⟨rfl, hi⟩, if_pos (hm.mpr (.inr hi))]
        · rw [if_neg (fun e => hi e.2)]
          by_cases hin : i ∈ L.map cd134
          · rw [if_pos hin, if_pos (hm.mpr (.inl hin))]
          · rw [if_neg hin, if_neg (fun e => (hm.mp e).elim hin hi)]
      · rw [if_neg (fun e => h50 e.1)]
        rw [lAk_o (by omega), lAk_o (by omega)]
/-- where pairs are asked -/
def lAc (S b1 b2 : Nat) (t : aT) : Prop := gI t 49 4 = nI S ∧ gI t 49 5 = nI b1 ∧ gI t 49 6 = nI b2 ∧ (6 ≤ b1 ∧ b1 < 100000) ∧ (6 ≤ b2 ∧ b2 < 100000) ∧ ∀ i, i < 17956 → gI t 50 i ≠ nI S
theorem Ma_local {s : aT} (d : Nat) {b x : Nat} (hb : 6 ≤ b) (hb2 : b < 100000) (hx : x < 134) : fMa_localOf d (nI (lo b x)) (nI b) s = rI (nI x) s := by
  refine eMa_localOf d _ _ _ _ ?_
  unfold lo
  by_cases h : x < 6
  · rw [if_pos h, if_neg (show ¬ (6 : Int32) ≤ nI x by rw [show (6 : Int32) = nI 6 from rfl, nI_leE (by omega) (by omega)]; omega)]
    rfl
  · rw [if_neg h, if_pos (show (6 : Int32) ≤ nI (x - 6 + b) by rw [show (6 : Int32) = nI 6 from rfl, nI_leE (by omega) (by omega)]; omega), nI_sub (by omega), show (6 : Int32) = nI 6 from rfl, nI_addE, show x - 6 + b - b + 6 = x by omega]
    rfl
theorem Ma_schema {s : aT} (d : Nat) {b x : Nat} (hx : x < 134) : fMa_schemaOf d (nI x) (nI b) s = rI (nI (lo b x)) s := by
  refine eMa_schemaOf d _ _ _ _ ?_
  unfold lo
  by_cases h : x < 6
  · rw [if_pos h, if_neg (show ¬ (6 : Int32) ≤ nI x by rw [show (6 : Int32) = nI 6 from rfl, nI_leE (by omega) (by omega)]; omega)]
    rfl
  · rw [if_neg h, if_pos (show (6 : Int32) ≤ nI x by rw [show (6 : Int32) = nI 6 from rfl, nI_leE (by omega) (by omega)]; omega), show (6 : Int32) = nI 6 from rfl, nI_sub (by omega), nI_addE]
    rfl
theorem cd_mem {n1 n2 : Nat} (h : kPr2 n1 n2 L) (h2 : n2 ≤ 134) {p : Nat × Nat} (hp : p.2 < 134) : cd134 p ∈ L.map cd134 ↔ p ∈ L := by
  constructor
  · intro hm
    obtain ⟨r, hr, he⟩ := List.mem_map.mp hm
    have h3 := h.2 r hr
    unfold cd134 at he
    have e1 : r.1 = p.1 := by omega
    have e2 : r.2 = p.2 := by omega
    rw [← Prod.ext e1 e2]; exact hr
  · exact fun hm => List.mem_map.mpr ⟨p, hm, rfl⟩
theorem Ma_ask {b1 b2 n1 n2 : Nat} (hc : lAc S b1 b2 t) (hp : kPr2 n1 n2 L) (hn1 : n1 ≤ 134) (hn2 : n2 ≤ 134) (d : Nat) {x y : Nat} (hx : x < n1) (hy : y < n2) : fMa_ask (d + 1) (nI (lo b1 x)) (nI (lo b2 y)) (lAk S L t) = rV (lAk S (kAs L (x, y)) t) := by
  obtain ⟨c4, c5, c6, c7, c8, c9⟩ := hc
  have hcd : cd134 (x, y) = x * 134 + y := rfl
  have h134 : x * 134 + y < 17956 := by omega
  refine eMa_ask d _ _ _ _ ?_
  have c50 : (134 : Int32) = nI 134 := rfl
  rw [lAk_o (by omega), c5, Ma_local d c7.1 c7.2 (by omega), cG_I, lAk_o (by omega), c6, Ma_local d c8.1 c8.2 (by omega), cG_I, c50, nI_mulE, nI_addE, ldI_n (by omega) (by omega), lAk_50, lAk_o (k := 49) (i := 4) (by omega), c4]
  unfold kAs
  by_cases hm : (x, y) ∈ L
  · have hm2 : x * 134 + y ∈ L.map cd134 := (cd_mem hp hn2 (p := (x, y)) (by show y < 134; omega)).mpr hm
    rw [if_pos hm2, if_pos rfl, if_pos hm]
    rfl
  · have hm2 : ¬ x * 134 + y ∈ L.map cd134 := fun e => hm ((cd_mem hp hn2 (p := (x, y)) (by show y < 134; omega)).mp e)
    have hpr := kAs_pr (p := (x, y)) hp hx hy
    unfold kAs at hpr
    rw [if_neg hm] at hpr
    have hlen := kPr2_len hpr (K := 134) hn2
    have hmul : n1 * 134 ≤ 17956 := by omega
    rw [List.length_append] at hlen
    have hlen : L.length + 1 ≤ n1 * 134 := hlen
    rw [if_neg hm2, if_neg (c9 _ h134), if_neg hm, stI_n (by omega) (by omega), gI_pI, if_neg (by omega), lAk_n, stI_n (by omega) (by omega), wI_eq, gI_pI, if_neg (by omega), gI_pI, if_neg (by omega), lAk_n, nI_add1, ← hcd, lAk_add]
    rfl
end
