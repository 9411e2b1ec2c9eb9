/-! the lake's Schemas: new schemas, their parts, names in the pool -/
theorem mI_fits : ∀ x, x < 256 → fits .byte (.int (mI x)) = true := by decide +kernel
/-- bytes behind the pool -/
def kPp (L : Nat → Nat) (n : Nat) (q : kP) : kP := (kU q.1 6 (q.1 6 + n), fun r i => if r = 40 ∧ q.1 6 ≤ i ∧ i < q.1 6 + n then L (i - q.1 6) else q.2.1 r i, q.2.2)
def lZ (a j : Nat) (s : aT) : aT := (fun k i => if (28 ≤ k ∧ k ≤ 30) ∧ a ≤ i ∧ i < a + j then -1 else if k = 31 ∧ a ≤ i ∧ i < a + j then 0 else s.1 k i, s.2)
section
variable {b pb qb : Nat} {q : kP} {s : aT} {T : Nat → Nat → Nat} {N : Nat → Int} {m l n : Nat}
theorem lS_ak {t : Nat} : lS b pb qb (kAk t q) s = lS b pb qb q s :=
  lS_ext (fun k hk => by rw [kAk_1, if_neg (by omega)]) (fun r i hr _ => kAk_r (by omega) (.inr (by omega))) (fun r i h1 h2 _ => kAk_o (by omega)) (fun i _ => kAk_o (by omega)) (fun r i hr _ => kAk_o (by omega))
theorem lS_sd {t i dv : Nat} : lS b pb qb (kSd t i dv q) s = lS b pb qb q s :=
  lS_ext (fun k hk => rfl) (fun r j hr _ => by rw [kSd_Q, if_neg (by omega)]) (fun r j h1 h2 _ => by rw [kSd_Q, if_neg (by omega)]) (fun j _ => by rw [kSd_Q, if_neg (by omega)]) (fun r j hr _ => by rw [kSd_Q, if_neg (by omega)])
theorem lS_p37 {f : Nat} {v : Int32} (h : f ≠ 5) : pI (lS b pb qb q s) 37 f v = lS b pb qb q (pI s 37 f v) := by
  refine aT_ext (fun k i => ?_) (fun k i => rfl) rfl
  rw [gI_pI]
  simp only [gI, lS, pI, a2_ite]
  by_cases hk : k = 37
  · subst hk
    by_cases hi : i = f
    · subst hi; simp [h]
    · simp [hi]
  · simp [hk]
theorem lS_ss {t i x : Nat} (h : q.2.1 6 t + i < q.1 3) : pI (lS b pb qb q s) 29 (pb + q.2.1 6 t + i) (nI (lo b x)) = lS b pb qb (kSs t i x q) s := by
  have e : nI (lo b x) = zL b (x + 1) := by unfold zL; rw [if_neg (by omega), Nat.add_sub_cancel]
  rw [e, Nat.add_assoc, lS_w29 h]
  refine (lS_ext (q' := kSs t i x q) (q := kQ q 30 (q.2.1 6 t + i) (x + 1)) (fun k hk => rfl) (fun r j hr _ => ?_) (fun r j h1 h2 _ => ?_) (fun j _ => ?_) (fun r j hr _ => ?_)).symm
  · rw [kSs_Q, kQ_Q]; repeat' rw [if_neg (by omega)]
  · rw [kSs_Q, kQ_Q]
    by_cases hh : r = 30 ∧ j = q.2.1 6 t + i
    · rw [if_pos hh, if_pos hh]
    · rw [if_neg hh, if_neg hh, if_neg (by omega)]
  · rw [kSs_Q, kQ_Q]; repeat' rw [if_neg (by omega)]
  · rw [kSs_Q, kQ_Q]; repeat' rw [if_neg (by omega)]
theorem lS_si {t x : Nat} (h6 : 6 ≤ t) (ht : t < q.1 1) (h0 : q.2.1 0 t = 6 ∨ q.2.1 0 t = 7) : pI (lS b pb qb q s) 27 (lo b t) (nI (lo b x)) = lS b pb qb (kSi t x q) s := by
  have e : nI (lo b x) = zL b (x + 1) := by unfold zL; rw [if_neg (by omega), Nat.add_sub_cancel]
  rw [e, lS_w27a h6 ht h0]
  refine (lS_ext (q' := kSi t x q) (q := kQ q 18 t (x + 1)) (fun k hk => rfl) (fun r j hr _ => ?_) (fun r j h1 h2 _ => ?_) (fun j _ => ?_) (fun r j hr _ => ?_)).symm
  · rw [kSi_Q, kQ_Q]
    by_cases hh : r = 18 ∧ j = t
    · rw [if_pos hh, if_pos hh]
    · rw [if_neg hh, if_neg hh, if_neg (by omega)]
  · rw [kSi_Q, kQ_Q]; repeat' rw [if_neg (by omega)]
  · rw [kSi_Q, kQ_Q]; repeat' rw [if_neg (by omega)]
  · rw [kSi_Q, kQ_Q]; repeat' rw [if_neg (by omega)]
theorem lS_nn {t x : Nat} (h6 : 6 ≤ t) (ht : t < q.1 1) : pI (lS b pb qb (kPn T x q) s) 24 (lo b t) (nI (qb + q.1 6)) = lS b pb qb (kNn T t x q) s := lS_w24 (q := kPn T x q) (x := x) (y := q.1 6) h6 ht
theorem lS_sn {t i x : Nat} (h : q.2.1 6 t + i < q.1 3) : pI (lS b pb qb (kPn T x q) s) 28 (pb + q.2.1 6 t + i) (nI (qb + q.1 6)) = lS b pb qb (kSn T t i x q) s := by
  have e : nI (qb + q.1 6) = zQ qb (q.1 6 + 1) := by unfold zQ; rw [if_neg (by omega), Nat.add_sub_cancel]
  have h3 : (kPn T x q).1 3 = q.1 3 := rfl
  rw [e, Nat.add_assoc, lS_w28 (q := kPn T x q) (by rw [h3]; exact h)]
  refine (lS_ext (q' := kSn T t i x q) (q := kQ (kPn T x q) 31 (q.2.1 6 t + i) (q.1 6 + 1)) (fun k hk => rfl) (fun r j hr _ => ?_) (fun r j h1 h2 _ => ?_) (fun j _ => ?_) (fun r j hr _ => ?_)).symm
  · rw [kSn_Q, kQ_Q]; repeat' rw [if_neg (by omega)]
  · rw [kSn_Q, kQ_Q]
    by_cases hh : r = 31 ∧ j = q.2.1 6 t + i
    · rw [if_pos hh, if_pos hh]
    · rw [if_neg hh, if_neg hh, if_neg (by omega)]
  · rw [kSn_Q, kQ_Q]; repeat' rw [if_neg (by omega)]
  · rw [kSn_Q, kQ_Q]; repeat' rw [if_neg (by omega)]
theorem lS_w25 {t x : Nat} (h6 : 6 ≤ t) (ht : t < q.1 1) : pI (lS b pb qb q s) 25 (lo b t) (nI (pb + x)) = lS b pb qb (kQ q 6 t x) s := by
  obtain ⟨el, h, e⟩ := lo_ix (b := b) h6 ht
  refine lS_w (fun k i => ?_)
  simp only [gI, lS, kQ, a2_ite]
  by_cases hk : k = 25
  · subst hk
    by_cases hi : i = lo b t
    · subst hi; simp [h, e]
    · by_cases a : b ≤ i ∧ i < b + (q.1 1 - 6)
      · have : ¬ i - b + 6 = t := by omega
        simp [hi, this]
      · simp [hi, a]
  · simp [hk]
theorem lS_w26 {t x : Nat} (h6 : 6 ≤ t) (ht : t < q.1 1) : pI (lS b pb qb q s) 26 (lo b t) (nI x) = lS b pb qb (kQ q 7 t x) s := by
  obtain ⟨el, h, e⟩ := lo_ix (b := b) h6 ht
  refine lS_w (fun k i => ?_)
  simp only [gI, lS, kQ, a2_ite]
  by_cases hk : k = 26
  · subst hk
    by_cases hi : i = lo b t
    · subst hi; simp [h, e]
    · by_cases a : b ≤ i ∧ i < b + (q.1 1 - 6)
      · have : ¬ i - b + 6 = t := by omega
        simp [hi, this]
      · simp [hi, a]
  · simp [hk]
theorem lS_z {j : Nat} : pI (pI (pI (pI (lS b pb qb q (lZ (pb + q.1 3) j s)) 28 (pb + q.1 3 + j) (-1)) 29 (pb + q.1 3 + j) (-1)) 30 (pb + q.1 3 + j) (-1)) 31 (pb + q.1 3 + j) 0 = lS b pb qb q (lZ (pb + q.1 3) (j + 1) s) := by
  refine aT_ext (fun k i => ?_) (fun k i => rfl) rfl
  simp only [gI_pI]
  simp only [gI, lS, lZ]
  by_cases hi : i = pb + q.1 3 + j
  · subst hi
    have e1 : ¬ (pb ≤ pb + q.1 3 + j ∧ pb + q.1 3 + j < pb + q.1 3) := by omega
    have e2 : (pb + q.1 3 ≤ pb + q.1 3 + j ∧ pb + q.1 3 + j < pb + q.1 3 + (j + 1)) := by omega
    have e3 : ¬ (pb + q.1 3 ≤ pb + q.1 3 + j ∧ pb + q.1 3 + j < pb + q.1 3 + j) := by omega
    simp only [e1, e2, e3, if_false, and_true, and_false]
    by_cases k28 : k = 28
    · subst k28; simp
    · by_cases k29 : k = 29
      · subst k29; simp
      · by_cases k30 : k = 30
        · subst k30; simp
        · by_cases k31 : k = 31
          · subst k31; simp
          · have : ¬ (28 ≤ k ∧ k ≤ 30) := by omega
            simp [k28, k29, k30, k31, this]
  · have e : (pb + q.1 3 ≤ i ∧ i < pb + q.1 3 + (j + 1)) = (pb + q.1 3 ≤ i ∧ i < pb + q.1 3 + j) := by apply propext; omega
    simp only [e, hi, and_false, if_false]
theorem lS_ap {t n : Nat} : pI (lS b pb qb (kQ (kQ q 6 t (q.1 3)) 7 t n) (lZ (pb + q.1 3) n s)) 22 15 (nI (pb + q.1 3 + n)) = lS b pb qb (kAp t n q) s := by
  refine aT_ext (fun k i => ?_) (fun k i => rfl) rfl
  simp only [gI_pI]
  have c0 : (kAp t n q).1 0 = q.1 0 := rfl
  have c1 : (kAp t n q).1 1 = q.1 1 := rfl
  have c3 : (kAp t n q).1 3 = q.1 3 + n := rfl
  have c5 : (kAp t n q).1 5 = q.1 5 := rfl
  have c6 : (kAp t n q).1 6 = q.1 6 := rfl
  have d : ∀ k, (kQ (kQ q 6 t (q.1 3)) 7 t n).1 k = q.1 k := fun k => rfl
  simp only [gI, lS, lZ, c0, c1, c3, c5, c6, d]
  by_cases k22 : k = 22
  · subst k22
    by_cases e15 : i = 15
    · simp [e15, Nat.add_assoc]
    · simp [e15]
  · by_cases k23 : 23 ≤ k ∧ k ≤ 27
    · have hr : ∀ r i, r ≤ 13 ∨ r = 18 → (kAp t n q).2.1 r i = (kQ (kQ q 6 t (q.1 3)) 7 t n).2.1 r i := by
        intro r i hr
        rw [kAp_Q, kQ_Q, kQ_Q]
        by_cases h6 : r = 6 ∧ i = t
        · rw [if_pos h6, if_neg (by omega), if_pos h6]
        · rw [if_neg h6]
          by_cases h7 : r = 7 ∧ i = t
          · rw [if_pos h7, if_pos h7]
          · rw [if_neg h7, if_neg h7, if_neg h6, if_neg (by omega), if_neg (by omega), if_neg (by omega)]
      simp only [hr 0 _ (by omega), hr 1 _ (by omega), hr 6 _ (by omega), hr 7 _ (by omega), hr 8 _ (by omega), hr 9 _ (by omega), hr 18 _ (by omega)]
      have : k = 23 ∨ k = 24 ∨ k = 25 ∨ k = 26 ∨ k = 27 := by omega
      rcases this with rfl | rfl | rfl | rfl | rfl <;> simp
    · by_cases k28 : 28 ≤ k ∧ k ≤ 31
      · have kk : k = 28 ∨ k = 29 ∨ k = 30 ∨ k = 31 := by omega
        by_cases a : pb ≤ i ∧ i < pb + q.1 3
        · have a' : pb ≤ i ∧ i < pb + (q.1 3 + n) := by omega
          have hr : ∀ r, 30 ≤ r → r ≤ 33 → (kAp t n q).2.1 r (i - pb) = (kQ (kQ q 6 t (q.1 3)) 7 t n).2.1 r (i - pb) := by
            intro r h1 h2
            rw [kAp_Q, kQ_Q, kQ_Q]; repeat' rw [if_neg (by omega)]
          simp only [a, a', hr 30 (by omega) (by omega), hr 31 (by omega) (by omega), hr 32 (by omega) (by omega), hr 33 (by omega) (by omega)]
          rcases kk with rfl | rfl | rfl | rfl <;> simp
        · by_cases a2 : pb + q.1 3 ≤ i ∧ i < pb + q.1 3 + n
          · have a' : pb ≤ i ∧ i < pb + (q.1 3 + n) := by omega
            have hr : ∀ r, r = 30 ∨ r = 31 ∨ r = 32 ∨ r = 33 → (kAp t n q).2.1 r (i - pb) = 0 := by
              intro r h1
              rw [kAp_Q, if_neg (by omega), if_neg (by omega), if_pos ⟨h1, by omega, by omega⟩]
            have a3 : ¬ i < pb + q.1 3 := by omega
            simp only [a', a2, a3, and_false, if_false, hr 30 (by omega), hr 31 (by omega), hr 32 (by omega), hr 33 (by omega)]
            rcases kk with rfl | rfl | rfl | rfl <;> simp [zQ, zL, nI_0]
          · have a' : ¬ (pb ≤ i ∧ i < pb + (q.1 3 + n)) := by omega
            simp only [a, a', a2, and_false, if_false]
            rcases kk with rfl | rfl | rfl | rfl <;> simp
      · have nk : ∀ j, 23 ≤ j → j ≤ 31 → ¬ k = j := fun j a b => by omega
        have n2 : ¬ (28 ≤ k ∧ k ≤ 30) := by omega
        have hr : ∀ r i, r = 40 ∨ r = 16 ∨ r = 17 → (kAp t n q).2.1 r i = (kQ (kQ q 6 t (q.1 3)) 7 t n).2.1 r i := by
          intro r i hr
          rw [kAp_Q, kQ_Q, kQ_Q]; repeat' rw [if_neg (by omega)]
        simp only [hr 40 _ (by omega), hr 16 _ (by omega), hr 17 _ (by omega)]
        simp [k22, n2, nk 23 (by omega) (by omega), nk 24 (by omega) (by omega), nk 25 (by omega) (by omega), nk 26 (by omega) (by omega), nk 27 (by omega) (by omega), nk 28 (by omega) (by omega), nk 29 (by omega) (by omega), nk 30 (by omega) (by omega), nk 31 (by omega) (by omega)]
/-- bytes come behind the pool -/
theorem lS_pp {t : aT} {L : Nat → Nat} {k0 : Nat} (h : ∀ k i, gI t k i = if k = 33 ∧ qb + q.1 6 ≤ i ∧ i < qb + q.1 6 + k0 then mI (L (i - (qb + q.1 6))) else if k = 32 ∧ i = 1 then nI (qb + q.1 6 + k0) else gI (lS b pb qb q s) k i) (hL : ∀ k i, gL t k i = gL s k i) (hR : t.2.2 = s.2.2) : t = lS b pb qb (kPp L k0 q) s := by
  refine aT_ext (fun k i => ?_) (fun k i => by rw [hL]; rfl) hR
  rw [h]
  have c0 : (kPp L k0 q).1 0 = q.1 0 := rfl
  have c1 : (kPp L k0 q).1 1 = q.1 1 := rfl
  have c3 : (kPp L k0 q).1 3 = q.1 3 := rfl
  have c5 : (kPp L k0 q).1 5 = q.1 5 := rfl
  have c6 : (kPp L k0 q).1 6 = q.1 6 + k0 := rfl
  have hr : ∀ r i, r ≠ 40 → (kPp L k0 q).2.1 r i = q.2.1 r i := fun r i hr => by
    show (if r = 40 ∧ q.1 6 ≤ i ∧ i < q.1 6 + k0 then L (i - q.1 6) else q.2.1 r i) = _
    rw [if_neg (fun e => hr e.1)]
  have h40 : ∀ i, (kPp L k0 q).2.1 40 i = if q.1 6 ≤ i ∧ i < q.1 6 + k0 then L (i - q.1 6) else q.2.1 40 i := fun i => by
    show (if 40 = 40 ∧ q.1 6 ≤ i ∧ i < q.1 6 + k0 then L (i - q.1 6) else q.2.1 40 i) = _
    simp
  simp only [gI, lS, c0, c1, c3, c5, c6, hr 0 _ (by omega), hr 1 _ (by omega), hr 6 _ (by omega), hr 7 _ (by omega), hr 8 _ (by omega), hr 9 _ (by omega), hr 18 _ (by omega), hr 30 _ (by omega), hr 31 _ (by omega), hr 32 _ (by omega), hr 33 _ (by omega), hr 16 _ (by omega), hr 17 _ (by omega), h40]
  by_cases k33 : k = 33
  · subst k33
    by_cases a : qb + q.1 6 ≤ i ∧ i < qb + q.1 6 + k0
    · have a2 : qb ≤ i ∧ i < qb + (q.1 6 + k0) := by omega
      have a3 : q.1 6 ≤ i - qb ∧ i - qb < q.1 6 + k0 := by omega
      have e : i - qb - q.1 6 = i - (qb + q.1 6) := by omega
      simp [a, a2, a3, e]
    · by_cases a4 : qb ≤ i ∧ i < qb + q.1 6
      · have a2 : qb ≤ i ∧ i < qb + (q.1 6 + k0) := by omega
        have a3 : ¬ (q.1 6 ≤ i - qb ∧ i - qb < q.1 6 + k0) := by omega
        simp [a, a2, a3, a4]
      · have a2 : ¬ (qb ≤ i ∧ i < qb + (q.1 6 + k0)) := by omega
        simp [a, a2, a4]
  · by_cases k32 : k = 32
    · subst k32
      by_cases e1 : i = 1
      · simp [e1, Nat.add_assoc]
      · simp [e1]
    · simp [k33, k32]
theorem Lp_put (d : Nat) {x : Nat} (hx : x < 256) (hq : qb + q.1 6 < 72704) : fBy_put d 32 (nI x) (lS b pb qb q s) = rI 1 (lS b pb qb (kPp (fun _ => x) 1 q) s) := by
  refine eBy_put d 32 _ _ isB_32 _ ?_
  rw [lS_pool, alen_33]
  simp (disch := omega) only [nI_ltE]
  rw [if_pos hq, stI_n (by omega) (by omega), nI_byte hx, wI_eq, gI_pI, if_neg (by omega), lS_pool, nI_add1]
  have : pI (pI (lS b pb qb q s) 33 (qb + q.1 6) (mI x)) 32 1 (nI (qb + q.1 6 + 1)) = lS b pb qb (kPp (fun _ => x) 1 q) s := by
    refine lS_pp (fun k i => ?_) (fun k i => rfl) rfl
    rw [gI_pI, gI_pI]
    by_cases a : k = 33 ∧ qb + q.1 6 ≤ i ∧ i < qb + q.1 6 + 1
    · rw [if_neg (by omega), if_pos (by omega), if_pos a]
    · rw [if_neg a]
      by_cases c : k = 32 ∧ i = 1
      · rw [if_pos c, if_pos c]
      · rw [if_neg c, if_neg c, if_neg (by omega)]
  rw [this]
  rfl
theorem Lp_putRow (d : Nat) {a st k0 : Nat} {L : Nat → Nat} (hq : qb + q.1 6 + k0 ≤ 72704) (ha : aSh0 a = some (.inl (0, alen a))) (hal : st + k0 ≤ alen a) (hal2 : alen a < 2147483648) (h33 : a ≠ 33) (hA : ∀ i, i < k0 → gI (lS b pb qb q s) a (st + i) = mI (L i)) (hL : ∀ i, i < k0 → L i < 256) : fBy_putRow (d + 6) 32 a (nI st) (nI k0) (lS b pb qb q s) = rI 1 (lS b pb qb (kPp L k0 q) s) := by
  refine eBy_putRow d 32 a _ _ _ isB_32 _ ?_
  rw [if_neg (nI_pos (by omega)), if_neg (nI_pos (by omega))]
  unfold gA
  rw [if_pos ha, lS_pool, alen_33, nI_sub (by omega), nI_sub (by omega)]
  simp (disch := omega) only [nI_ltE, nI_leE]
  rw [if_neg (by omega), if_pos (by omega), if_pos ha]
  unfold cpB
  rw [if_pos ⟨nI_pos (by omega), nI_pos (by omega), nI_pos (by omega), by rw [nI_clamp (by omega), nI_clamp (by omega)]; exact hal, by rw [nI_clamp (by omega), nI_clamp (by omega), alen_33]; exact hq, fun i hi => by
    rw [nI_clamp (by omega)] at hi
    rw [nI_clamp (by omega), hA i hi]
    exact mI_fits _ (hL i hi)⟩]
  rw [nI_clamp (by omega), nI_clamp (by omega), nI_clamp (by omega)]
  simp only [wI_eq, Nat.reduceAdd]
  have e1 : gI (pA (lS b pb qb q s) 33 (va_cpy (gI (lS b pb qb q s) a) (gI (lS b pb qb q s) 33) st (qb + q.1 6) k0)) 32 1 = nI (qb + q.1 6) := by
    have : gI (pA (lS b pb qb q s) 33 (va_cpy (gI (lS b pb qb q s) a) (gI (lS b pb qb q s) 33) st (qb + q.1 6) k0)) 32 1 = gI (lS b pb qb q s) 32 1 := rfl
    rw [this, lS_pool]
  rw [e1, nI_addE]
  have : pI (pA (lS b pb qb q s) 33 (va_cpy (gI (lS b pb qb q s) a) (gI (lS b pb qb q s) 33) st (qb + q.1 6) k0)) 32 1 (nI (qb + q.1 6 + k0)) = lS b pb qb (kPp L k0 q) s := by
    refine lS_pp (fun k i => ?_) (fun k i => rfl) rfl
    rw [gI_pI]
    have eA : ∀ k i, gI (pA (lS b pb qb q s) 33 (va_cpy (gI (lS b pb qb q s) a) (gI (lS b pb qb q s) 33) st (qb + q.1 6) k0)) k i = if k = 33 then va_cpy (gI (lS b pb qb q s) a) (gI (lS b pb qb q s) 33) st (qb + q.1 6) k0 i else gI (lS b pb qb q s) k i := by
      intro k i
      show (if k = 33 then va_cpy (gI (lS b pb qb q s) a) (gI (lS b pb qb q s) 33) st (qb + q.1 6) k0 else (lS b pb qb q s).1 k) i = _
      split <;> rfl
    rw [eA]
    by_cases k33 : k = 33
    · subst k33
      rw [if_neg (by omega), if_pos rfl]
      unfold va_cpy
      by_cases c : qb + q.1 6 ≤ i ∧ i < qb + q.1 6 + k0
      · rw [if_pos c, if_pos ⟨rfl, c⟩, hA _ (by omega)]
      · rw [if_neg c, if_neg (fun e => c e.2), if_neg (by omega)]
    · rw [if_neg k33, if_neg (show ¬ (k = 33 ∧ qb + q.1 6 ≤ i ∧ i < qb + q.1 6 + k0) from fun e => k33 e.1)]
  rw [this]
  rfl
theorem Sc_addName (d : Nat) (hT : lT s T N m l) (hG : jGt T N m l n) {x : Nat} (hx : x < m) (hk : T 0 x = 2) (h32 : T 2 x ≤ 32) (hq : qb + q.1 6 + 1 + T 2 x ≤ 72704) : fSc_addName (d + 7) (nI x) (lS b pb qb q s) = rI (nI (qb + q.1 6)) (lS b pb qb (kPn T x q) s) := by
  have hs := jGt_s hG hx hk
  have hTq := lS_T (b := b) (pb := pb) (qb := qb) (q := q) hT
  have hTq2 := lS_T (b := b) (pb := pb) (qb := qb) (q := kPp (fun _ => T 2 x) 1 q) hT
  have c6 : (kPp (fun _ => T 2 x) 1 q).1 6 = q.1 6 + 1 := rfl
  refine eSc_addName (d + 6) _ _ _ ?_
  rw [ldI_n (by omega) (by omega), lT_Z hTq hx (by omega), Lp_put (d + 6) (by omega) (by omega), cG_I, ldI_n (by omega) (by omega), lT_S hTq2 hx hk, ldI_n (by omega) (by omega), lT_Z hTq2 hx (by omega), Lp_putRow d (a := 21) (st := T 5 x) (k0 := T 2 x) (L := fun i => T 6 (T 5 x + i)) (by rw [c6]; omega) rfl (by rw [alen_21]; omega) (by decide) (by omega) (fun i hi => hTq2.2.1 _ (by omega)) (fun i hi => hG.2.2.1 _ (by omega)), cG_I, lS_pool]
  have : lS b pb qb (kPp (fun i => T 6 (T 5 x + i)) (T 2 x) (kPp (fun _ => T 2 x) 1 q)) s = lS b pb qb (kPn T x q) s := by
    have e : ∀ r i, (kPp (fun i => T 6 (T 5 x + i)) (T 2 x) (kPp (fun _ => T 2 x) 1 q)).2.1 r i = if r = 40 ∧ q.1 6 + 1 ≤ i ∧ i < q.1 6 + 1 + T 2 x then T 6 (T 5 x + (i - (q.1 6 + 1))) else if r = 40 ∧ q.1 6 ≤ i ∧ i < q.1 6 + 1 then T 2 x else q.2.1 r i := fun r i => rfl
    refine lS_ext (fun k hk => ?_) (fun r i hr _ => ?_) (fun r i h1 h2 _ => ?_) (fun i _ => ?_) (fun r i hr _ => ?_)
    · rcases hk with rfl | rfl | rfl | rfl | rfl <;> rfl
    · rw [e, kPn_Q]; repeat' rw [if_neg (by omega)]
    · rw [e, kPn_Q]; repeat' rw [if_neg (by omega)]
    · rw [e, kPn_Q]
      by_cases a : i = q.1 6
      · rw [if_neg (by omega), if_pos (by omega), if_pos ⟨rfl, a⟩]
      · by_cases c : q.1 6 + 1 ≤ i ∧ i < q.1 6 + 1 + T 2 x
        · rw [if_pos ⟨rfl, c⟩, if_neg (fun e => a e.2), if_pos (by omega)]
          have : i - q.1 6 - 1 = i - (q.1 6 + 1) := by omega
          rw [this]
        · rw [if_neg (fun e => c e.2), if_neg (by omega), if_neg (fun e => a e.2), if_neg (by omega)]
    · rw [e, kPn_Q]; repeat' rw [if_neg (by omega)]
  rw [this]
  rfl
/-- what the lake's reader stands on -/
def lCx (b pb qb : Nat) (s : aT) : Prop := 6 ≤ b ∧ b + 128 ≤ 5254 ∧ gI s 22 11 = nI b ∧ (∀ t, t < 6 → gI s 23 t = nI t) ∧ pb ≤ 10112 ∧ qb ≤ 72704
theorem lo_lt {t : Nat} (hC : lCx b pb qb s) (ht : t < 134) : lo b t < 5254 := by
  have := hC.1
  have := hC.2.1
  unfold lo
  split <;> omega
theorem lS_kind {t : Nat} (hC : lCx b pb qb s) (hI : kIv T m q) (ht : t < q.1 1) : gI (lS b pb qb q s) 23 (lo b t) = nI (q.2.1 0 t) := by
  by_cases h6 : t < 6
  · have e : lo b t = t := by unfold lo; rw [if_pos h6]
    rw [e, lS_lo (by omega) (by have := hC.1; omega), hC.2.2.2.1 t h6, (hI.2.1 t h6).1]
  · exact lS_23 (by omega) ht
theorem Sc_add (d : Nat) (hC : lCx b pb qb s) {k : Nat} (h6 : 6 ≤ q.1 1) (hn : q.1 1 < 134) : fSc_add d (nI k) (lS b pb qb q s) = rI (nI (lo b (q.1 1))) (lS b pb qb (kSh k q) s) := by
  have h1 := hC.1
  have h2 := hC.2.1
  have e : lo b (q.1 1) = b + (q.1 1 - 6) := by unfold lo; rw [if_neg (by omega)]; omega
  refine eSc_add d _ _ _ ?_
  rw [lS_ns]
  simp (disch := omega) only [nI_lit 5254, nI_ltE]
  rw [if_pos (by omega), wI_eq, stI_n (by omega) (by omega), stI_n (by omega) (by omega), stI_n (by omega) (by omega), stI_n (by omega) (by omega), stI_n (by omega) (by omega)]
  have e15 : gI (pI (pI (pI (lS b pb qb q s) 22 14 (nI (b + (q.1 1 - 6)) + 1)) 23 (b + (q.1 1 - 6)) (nI k)) 24 (b + (q.1 1 - 6)) (-1)) 22 15 = nI (pb + q.1 3) := by
    rw [gI_pI, if_neg (by omega), gI_pI, if_neg (by omega), gI_pI, if_neg (by omega), lS_np]
  rw [e15, nI_add1, lS_sh h6, e]
  rfl
theorem Sc_ap22 (d : Nat) {k : Nat} (hp : pb + q.1 3 + k ≤ 10112) : ∀ i j, j + i = k → fSc_addParts_22 d (nI k) (nI (pb + q.1 3 + j)) (lS b pb qb q (lZ (pb + q.1 3) j s)) = rI 1 (pI (lS b pb qb q (lZ (pb + q.1 3) k s)) 22 15 (nI (pb + q.1 3 + k))) := by
  intro i
  induction i with
  | zero =>
    intro j hj
    refine eSc_addParts_22 d _ _ _ _ ?_
    rw [lS_np, nI_addE]
    simp (disch := omega) only [nI_leE]
    rw [if_pos (by omega), wI_eq]
    have : j = k := by omega
    rw [this]
    rfl
  | succ i ih =>
    intro j hj
    refine eSc_addParts_22 d _ _ _ _ ?_
    rw [lS_np, nI_addE]
    simp (disch := omega) only [nI_leE]
    rw [if_neg (by omega), stI_n (by omega) (by omega), stI_n (by omega) (by omega), stI_n (by omega) (by omega), stI_n (by omega) (by omega), lS_z, nI_add1]
    exact ih (j + 1) (by omega)
theorem Sc_addParts (d : Nat) (hC : lCx b pb qb s) {t k : Nat} (h6 : 6 ≤ t) (ht : t < q.1 1) (hn : q.1 1 ≤ 134) (hp : pb + q.1 3 + k ≤ 10112) : fSc_addParts d (nI (lo b t)) (nI k) (lS b pb qb q s) = rI 1 (lS b pb qb (kAp t k q) s) := by
  have hlo := lo_lt hC (t := t) (by omega)
  refine eSc_addParts d _ _ _ _ ?_
  rw [lS_np, nI_lit 10112, nI_sub (by omega)]
  simp (disch := omega) only [nI_leE]
  rw [if_pos (by omega), stI_n (by omega) (by omega), lS_w25 h6 ht, stI_n (by omega) (by omega), lS_w26 (q := kQ q 6 t (q.1 3)) h6 ht, lS_np]
  have hz : lZ (pb + q.1 3) 0 s = s := by
    refine aT_ext (fun k i => ?_) (fun k i => rfl) rfl
    simp only [gI, lZ]
    rw [if_neg (by omega), if_neg (by omega)]
  have h := Sc_ap22 (b := b) (pb := pb) (qb := qb) (s := s) (q := kQ (kQ q 6 t (q.1 3)) 7 t k) d (k := k) hp k 0 (by omega)
  have e3 : (kQ (kQ q 6 t (q.1 3)) 7 t k).1 3 = q.1 3 := rfl
  rw [e3, hz, Nat.add_zero, lS_ap] at h
  rw [e3]
  exact h
end
