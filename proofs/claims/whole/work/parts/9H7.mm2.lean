/-! the reference: branches, parts, symbols -/
section
variable {c c1 c2 m l n m1 l1 n1 m2 l2 n2 : Nat} {q q1 q2 : kP} {T T1 T2 : Nat → Nat → Nat} {N N1 N2 : Nat → Int} {t : aT}
/-- a kid, or none -/
def kKo (q : kP) (x k : Nat) : Nat := if k = 0 then 0 else q.2.2 0 x (k - 1) + 1
theorem Mo_bf5 (h1 : mW c1 q1 T1 N1 m1 l1 n1 t) (h2 : mW c2 q2 T2 N2 m2 l2 n2 t) (d : Nat) {x y : Nat} (hx : x < q1.1 1) (hy : y < q2.1 1) (h8 : q2.2.1 0 y = 8) : ∀ k i, i + k = q2.2.1 4 y → fMo_branchFor_5 (d + 18) c1 (nI x) c2 (zI (kKd q2 y i)) t = rI (zI (kKo q2 y (kFr (fun i => kMs q1 q2 17 x (kPx q2 y i)) k i))) t := by
  have h6 := (kKi h2.2.2.2.2.1 hy).2.mp (by omega)
  intro k
  induction k with
  | zero =>
    intro i hi
    rw [show i = q2.2.1 4 y by omega, kKd_e]
    refine eMo_branchFor_5 (d + 17) _ _ _ _ _ h1.1 h2.1 _ ?_
    rw [if_pos (by decide)]
    rfl
  | succ k ih =>
    intro i hi
    have hk := mW_k h2 h6 hy (i := i) (by omega)
    obtain ⟨p1, p2⟩ := kPx_lt h2.2.2.2.2.1 h2.2.2.2.2.2.1 h6 hy (by omega) (by omega) (i := i) (by omega)
    have hm := Mo_mt h1 h2 d 16 x (kPx q2 y i) (h1.2.2.2.2.2.2.2 x hx) hx p2
    rw [show 16 + d + 1 = d + 17 by omega] at hm
    refine eMo_branchFor_5 (d + 17) _ _ _ _ _ h1.1 h2.1 _ ?_
    rw [hk.2.1, zI_S, if_neg (show ¬ nI (q2.2.2 0 y i) < 0 by rw [show (0 : Int32) = nI 0 from rfl, nI_ltE (by omega) (by omega)]; omega), ldI_n hk.1 (by omega), hk.2.2.1, zI_pos (by omega), hm, cG_I]
    unfold kFr
    by_cases hs : kMs q1 q2 17 x (kPx q2 y i) = true
    · rw [if_pos hs, if_neg (by decide)]
      simp only [if_pos hs]
      unfold kKo
      rw [if_neg (by omega), zI_S]
      rfl
    · rw [if_neg hs, if_pos rfl, ldI_n hk.1 (by omega), hk.2.2.2.2.2, ih (i + 1) (by omega)]
      simp only [if_neg hs]
      rfl
theorem Mo_bf (h1 : mW c1 q1 T1 N1 m1 l1 n1 t) (h2 : mW c2 q2 T2 N2 m2 l2 n2 t) (d : Nat) {x y : Nat} (hx : x < q1.1 1) (hy : y < q2.1 1) (h8 : q2.2.1 0 y = 8) : fMo_branchFor (d + 18) c1 (nI x) c2 (nI y) t = rI (zI (kKo q2 y (kBf q1 q2 x y))) t := by
  have h6 := (kKi h2.2.2.2.2.1 hy).2.mp (by omega)
  have r2 := mW_r h2 hy
  refine eMo_branchFor (d + 17) _ _ _ _ _ h1.1 h2.1 _ ?_
  rw [ldI_n r2.1 (by omega), (r2.2.2 h6).2.1, Mo_bf5 h1 h2 d hx hy h8 (q2.2.1 4 y) 0 (by omega)]
  rfl
/-- the part that has a name -/
theorem Mo_fl5 (h1 : mW c1 q1 T1 N1 m1 l1 n1 t) (h2 : mW c2 q2 T2 N2 m2 l2 n2 t) (d : Nat) {x y j : Nat} (hx : x < q1.1 1) (hy : y < q2.1 1) (x10 : 10 ≤ q1.2.1 0 x) (y10 : 10 ≤ q2.2.1 0 y) (hj : j < q2.2.1 4 y) : ∀ k i, i + k = q1.2.1 4 x → fMo_fieldLike_5 (d + 1) c1 c2 (nI (q2.2.2 0 y j)) (zI (kKd q1 x i)) t = rI (zI (kKo q1 x (kFr (fun i => kSnm q1 (q1.2.2 4 x i) q2 (q2.2.2 4 y j)) k i))) t := by
  have h6 := (kKi h1.2.2.2.2.1 hx).2.mp (by omega)
  have y6 := (kKi h2.2.2.2.2.1 hy).2.mp (by omega)
  have w2 := mW_pn h2 hy y10 hj
  have hk2 := mW_k h2 y6 hy hj
  intro k
  induction k with
  | zero =>
    intro i hi
    rw [show i = q1.2.1 4 x by omega, kKd_e]
    refine eMo_fieldLike_5 d _ _ _ _ _ h1.1 h2.1 _ ?_
    rw [if_pos (by decide)]
    rfl
  | succ k ih =>
    intro i hi
    have hk := mW_k h1 h6 hx (i := i) (by omega)
    have w1 := mW_pn h1 hx x10 (show i < q1.2.1 4 x by omega)
    refine eMo_fieldLike_5 d _ _ _ _ _ h1.1 h2.1 _ ?_
    rw [hk.2.1, zI_S, if_neg (show ¬ nI (q1.2.2 0 x i) < 0 by rw [show (0 : Int32) = nI 0 from rfl, nI_ltE (by omega) (by omega)]; omega), ldI_n hk.1 (by omega), hk.2.2.2.1, ldI_n hk2.1 (by omega), hk2.2.2.2.1, zI_pos w1.2.1, zI_pos w2.2.1, Mo_sn h1 h2 d w1.2.2.2.1 w2.2.2.2.1 w1.2.2.2.2 w2.2.2.2.2 w1.2.2.1 w2.2.2.1, cN_I]
    unfold kFr
    by_cases hs : kSnm q1 (q1.2.2 4 x i) q2 (q2.2.2 4 y j) = true
    · rw [if_pos hs, if_neg (by decide)]
      simp only [if_pos hs]
      unfold kKo
      rw [if_neg (by omega), zI_S]
      rfl
    · rw [if_neg hs, if_pos rfl, ldI_n hk.1 (by omega), hk.2.2.2.2.2, ih (i + 1) (by omega)]
      simp only [if_neg hs]
      rfl
theorem Mo_fl (h1 : mW c1 q1 T1 N1 m1 l1 n1 t) (h2 : mW c2 q2 T2 N2 m2 l2 n2 t) (d : Nat) {x y j : Nat} (hx : x < q1.1 1) (hy : y < q2.1 1) (x10 : 10 ≤ q1.2.1 0 x) (y10 : 10 ≤ q2.2.1 0 y) (hj : j < q2.2.1 4 y) : fMo_fieldLike (d + 1) c1 (nI x) c2 (nI (q2.2.2 0 y j)) t = rI (zI (kKo q1 x (kPk q1 q2 x y j))) t := by
  have h6 := (kKi h1.2.2.2.2.1 hx).2.mp (by omega)
  have r1 := mW_r h1 hx
  refine eMo_fieldLike d _ _ _ _ _ h1.1 h2.1 _ ?_
  rw [ldI_n r1.1 (by omega), (r1.2.2 h6).2.1, Mo_fl5 h1 h2 d hx hy x10 y10 hj (q1.2.1 4 x) 0 (by omega)]
  rfl
/-- a symbol of another text -/
theorem Mo_sy7 (h1 : mW c1 q1 T1 N1 m1 l1 n1 t) (h2 : mW c2 q2 T2 N2 m2 l2 n2 t) (d : Nat) {x y j : Nat} (hx : x < q1.1 1) (hy : y < q2.1 1) (x10 : 10 ≤ q1.2.1 0 x) (y10 : 10 ≤ q2.2.1 0 y) (hj : j < q2.2.1 4 y) : ∀ k i, i + k = q1.2.1 4 x → fMt_symbol_7 (d + 1) c1 c2 (nI (q2.2.2 2 y j - 1)) (nI i) (zI (kKd q1 x i)) t = rI (zI (kFr (fun i => kSnm q1 (q1.2.2 4 x i) q2 (q2.2.2 4 y j)) k i)) t := by
  have h6 := (kKi h1.2.2.2.2.1 hx).2.mp (by omega)
  have y6 := (kKi h2.2.2.2.2.1 hy).2.mp (by omega)
  have w2 := mW_pn h2 hy y10 hj
  intro k
  induction k with
  | zero =>
    intro i hi
    rw [show kKd q1 x i = 0 by rw [show i = q1.2.1 4 x by omega, kKd_e]]
    refine eMt_symbol_7 d _ _ _ _ _ _ h1.1 h2.1 _ ?_
    rw [if_pos (by decide)]
    rfl
  | succ k ih =>
    intro i hi
    have hk := mW_k h1 h6 hx (i := i) (by omega)
    have w1 := mW_pn h1 hx x10 (show i < q1.2.1 4 x by omega)
    refine eMt_symbol_7 d _ _ _ _ _ _ h1.1 h2.1 _ ?_
    rw [hk.2.1, zI_S, if_neg (show ¬ nI (q1.2.2 0 x i) < 0 by rw [show (0 : Int32) = nI 0 from rfl, nI_ltE (by omega) (by omega)]; omega), ldI_n hk.1 (by omega), hk.2.2.2.1, zI_pos w1.2.1, Mo_sn h1 h2 d w1.2.2.2.1 w2.2.2.2.1 w1.2.2.2.2 w2.2.2.2.2 w1.2.2.1 w2.2.2.1, cG_I]
    unfold kFr
    by_cases hs : kSnm q1 (q1.2.2 4 x i) q2 (q2.2.2 4 y j) = true
    · rw [if_pos hs, if_neg (by decide)]
      simp only [if_pos hs]
      rw [zI_S]
      rfl
    · rw [if_neg hs, if_pos rfl, ldI_n hk.1 (by omega), hk.2.2.2.2.2, nI_add1, ih (i + 1) (by omega)]
      simp only [if_neg hs]
      rfl
theorem Mo_sy (h1 : mW c1 q1 T1 N1 m1 l1 n1 t) (h2 : mW c2 q2 T2 N2 m2 l2 n2 t) (d : Nat) {x y j : Nat} (hx : x < q1.1 1) (hy : y < q2.1 1) (x10 : 10 ≤ q1.2.1 0 x) (y10 : 10 ≤ q2.2.1 0 y) (hj : j < q2.2.1 4 y) : fMt_symbol (d + 1) c1 (nI x) c2 (nI (q2.2.2 2 y j - 1)) t = rI (zI (kPk q1 q2 x y j)) t := by
  have h6 := (kKi h1.2.2.2.2.1 hx).2.mp (by omega)
  have r1 := mW_r h1 hx
  refine eMt_symbol d _ _ _ _ _ h1.1 h2.1 _ ?_
  rw [ldI_n r1.1 (by omega), (r1.2.2 h6).2.1, show (0 : Int32) = nI 0 from rfl, Mo_sy7 h1 h2 d hx hy x10 y10 hj (q1.2.1 4 x) 0 (by omega)]
  rfl
/-! pairs that are asked -/
def cd140 (p : Nat × Nat) : Nat := 140 * p.1 + p.2
def mAk (L : List (Nat × Nat)) (t : aT) : aT := (fun k i => if k = 67 ∧ i = 30 then nI L.length else if k = 145 ∧ i ∈ L.map cd140 then 1 else if k = 146 ∧ i < L.length then nI (cd140 (L.getD i (0, 0))) else t.1 k i, t.2)
variable {L : List (Nat × Nat)}
theorem mAk_I {k i : Nat} : gI (mAk L t) k i = if k = 67 ∧ i = 30 then nI L.length else if k = 145 ∧ i ∈ L.map cd140 then 1 else if k = 146 ∧ i < L.length then nI (cd140 (L.getD i (0, 0))) else gI t k i := rfl
theorem mAk_o {k i : Nat} (h : k ≠ 67 ∧ k ≠ 145 ∧ k ≠ 146 ∨ k = 67 ∧ i ≠ 30) : gI (mAk L t) k i = gI t k i := by
  rw [mAk_I, if_neg (by omega), if_neg (by omega), if_neg (by omega)]
theorem mAk_n : gI (mAk L t) 67 30 = nI L.length := by rw [mAk_I, if_pos ⟨rfl, rfl⟩]
theorem mAk_145 {i : Nat} : gI (mAk L t) 145 i = if i ∈ L.map cd140 then 1 else gI t 145 i := by
  rw [mAk_I, if_neg (by omega)]
  by_cases h : i ∈ L.map cd140
  · rw [if_pos ⟨rfl, h⟩, if_pos h]
  · rw [if_neg (fun e => h e.2), if_neg h, if_neg (by omega)]
theorem mAk_146 {i : Nat} (h : i < L.length) : gI (mAk L t) 146 i = nI (cd140 (L.getD i (0, 0))) := by
  rw [mAk_I, if_neg (by omega), if_neg (by omega), if_pos ⟨rfl, h⟩]
theorem mAk_add {p : Nat × Nat} : pI (pI (pI (mAk L t) 145 (cd140 p) 1) 146 L.length (nI (cd140 p))) 67 30 (nI (L.length + 1)) = mAk (L ++ [p]) t := by
  have hl : (L ++ [p]).length = L.length + 1 := by simp
  refine aT_ext (fun k i => ?_) (fun _ _ => rfl) rfl
  rw [gI_pI, gI_pI, gI_pI]
  by_cases h49 : k = 67 ∧ i = 30
  · rw [if_pos h49, h49.1, h49.2, mAk_n, hl]
  · rw [if_neg h49]
    by_cases h51 : k = 146
    · subst h51
      by_cases hi : i = L.length
      · rw [if_pos ⟨rfl, hi⟩, mAk_146 (by omega), hi, gD_r]
      · rw [if_neg (fun e => hi e.2), if_neg (by omega)]
        by_cases hlt : i < L.length
        · rw [mAk_146 hlt, mAk_146 (by omega), gD_l hlt]
        · rw [mAk_I, mAk_I, if_neg (by omega), if_neg (by omega), if_neg (by omega), if_neg (by omega), if_neg (by omega), if_neg (by omega)]
    · rw [if_neg (fun e => h51 e.1)]
      by_cases h50 : k = 145
      · subst h50
        rw [mAk_145, mAk_145]
        have hm : i ∈ (L ++ [p]).map cd140 ↔ i ∈ L.map cd140 ∨ i = cd140 p := by
          rw [List.map_append, List.mem_append, List.map_cons, List.map_nil, List.mem_singleton]
        by_cases hi : i = cd140 p
        · rw [if_pos ⟨rfl, hi⟩, if_pos (hm.mpr (.inr hi))]
        · rw [if_neg (fun e => hi e.2)]
          by_cases hin : i ∈ L.map cd140
          · rw [if_pos hin, if_pos (hm.mpr (.inl hin))]
          · rw [if_neg hin, if_neg (fun e => (hm.mp e).elim hin hi)]
      · rw [if_neg (fun e => h50 e.1)]
        rw [mAk_o (by omega), mAk_o (by omega)]
theorem cd_mem2 {n1 n2 : Nat} (h : kPr2 n1 n2 L) (h2 : n2 ≤ 134) {p : Nat × Nat} (hp : p.2 < 134) : cd140 p ∈ L.map cd140 ↔ p ∈ L := by
  constructor
  · intro hm
    obtain ⟨r, hr, he⟩ := List.mem_map.mp hm
    have h3 := h.2 r hr
    unfold cd140 at he
    have e1 : r.1 = p.1 := by omega
    have e2 : r.2 = p.2 := by omega
    rw [← Prod.ext e1 e2]; exact hr
  · exact fun hm => List.mem_map.mpr ⟨p, hm, rfl⟩
theorem Mo_ask {n1 n2 : Nat} (hz : ∀ i, i < 19600 → gI t 145 i = 0) (hp : kPr2 n1 n2 L) (hn1 : n1 ≤ 134) (hn2 : n2 ≤ 134) (d : Nat) {x y : Nat} (hx : x < n1) (hy : y < n2) : fMo_ask d (nI x) (nI y) (mAk L t) = rV (mAk (kAs L (x, y)) t) := by
  have hcd : cd140 (x, y) = 140 * x + y := rfl
  have c140 : (140 : Int32) = nI 140 := rfl
  refine eMo_ask d _ _ _ _ ?_
  rw [c140, nI_mulE, nI_addE, ldI_n (by omega) (by omega), mAk_145]
  unfold kAs
  by_cases hm : (x, y) ∈ L
  · have hm2 : 140 * x + y ∈ L.map cd140 := (cd_mem2 hp hn2 (p := (x, y)) (by show y < 134; omega)).mpr hm
    rw [if_pos hm2, if_pos (by decide), if_pos hm]
    rfl
  · have hm2 : ¬ 140 * x + y ∈ L.map cd140 := fun e => hm ((cd_mem2 hp hn2 (p := (x, y)) (by show y < 134; omega)).mp e)
    have hpr := kAs_pr (p := (x, y)) hp hx hy
    unfold kAs at hpr
    rw [if_neg hm] at hpr
    have hlen := kPr2_len hpr (K := 134) hn2
    have hmul : n1 * 134 ≤ 17956 := by omega
    rw [List.length_append] at hlen
    have hlen : L.length + 1 ≤ n1 * 134 := hlen
    rw [if_neg hm2, hz _ (by omega), if_neg (fun e => e rfl), if_neg hm, stI_n (by omega) (by omega), gI_pI, if_neg (by omega), mAk_n, stI_n (by omega) (by omega), wI_eq, gI_pI, if_neg (by omega), gI_pI, if_neg (by omega), mAk_n, nI_add1, ← hcd, show vp_nar .boolean 1 = (1 : Int32) by decide, mAk_add]
    rfl
end
