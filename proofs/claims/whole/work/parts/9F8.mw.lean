/-! the reference's Text: its schemas, looked at; letters that are written -/
def mV (c : Nat) (q : kP) (t : aT) : Prop := gI t c 16 = nI (q.1 1) ∧ (∀ x, x < q.1 1 → gI t (c + 9) x = nI (q.2.1 0 x) ∧ gI t (c + 10) x = zI (q.2.1 1 x) ∧ gI t (c + 12) x = zI (q.2.1 13 x)) ∧ (∀ x, 6 ≤ x → x < q.1 1 → gI t (c + 11) x = nI (if q.2.1 0 x = 9 then q.2.1 8 x - 1 else 0) ∧ gI t (c + 13) x = nI (q.2.1 4 x) ∧ gI t (c + 14) x = (if q.2.1 0 x = 10 then zI (q.2.1 8 x) else -1)) ∧ ∀ i, i < q.1 2 → gI t (c + 15) i = zI (q.2.1 20 i) ∧ gI t (c + 16) i = zI (q.2.1 21 i) ∧ gI t (c + 17) i = zI (q.2.1 22 i) ∧ gI t (c + 18) i = zI (q.2.1 23 i)
def mP (c : Nat) (q : kP) (L : List Nat) (h : Nat) (t : aT) : aT := (fun k i => if k = c ∧ i = 33 then nI L.length else if k = c + 20 ∧ i < L.length then mI (L.getD i 0) else if k = c + 21 ∧ i < q.1 1 then (if 6 ≤ i ∧ i < h ∧ 9 ≤ q.2.1 0 i then 1 else 0) else t.1 k i, t.2)
theorem sWd_R : ∀ e ∈ [(1065, kPw 24 ++ (kQt (kWs 6) ++ ([44] ++ kPw 23))), (1066, kPw 24 ++ (kQt (kWs 7) ++ ([44] ++ kPw 25))), (1067, [125]), (1068, [91]), (1069, [44]), (1070, []), (1071, [93]), (1072, [34]), (1073, kPw 26), (1074, kPw 27 ++ (kQt (kWs 9) ++ kPw 28)), (1075, kPw 27 ++ (kQt (kWs 10) ++ kPw 29)), (1076, kPw 27 ++ (kQt (kWs 11) ++ kPw 30)), (1077, kPw 27), (1078, [93, 125])], sWd e.1 e.2 := by
  unfold sWd
  decide +kernel
section
variable {c : Nat} {q : kP} {t s : aT} {T : Nat → Nat → Nat} {N : Nat → Int} {m l n : Nat} {L W : List Nat} {h : Nat}
theorem mV_S : mV c q (mS c q s) := ⟨mS_ns, fun x hx => ⟨mS_9 hx, mS_10 hx, mS_12 hx⟩, fun x h6 hx => ⟨mS_11 h6 hx, mS_13 h6 hx, mS_14 h6 hx⟩, fun i hi => ⟨mS_15 hi, mS_16 hi, mS_17 hi, mS_18 hi⟩⟩
theorem mP_I {k i : Nat} : gI (mP c q L h t) k i = if k = c ∧ i = 33 then nI L.length else if k = c + 20 ∧ i < L.length then mI (L.getD i 0) else if k = c + 21 ∧ i < q.1 1 then (if 6 ≤ i ∧ i < h ∧ 9 ≤ q.2.1 0 i then 1 else 0) else gI t k i := rfl
theorem mP_n : gI (mP c q L h t) c 33 = nI L.length := by rw [mP_I, if_pos ⟨rfl, rfl⟩]
theorem mP_o {k i : Nat} (hk : (k ≠ c ∨ i ≠ 33) ∧ k ≠ c + 20 ∧ k ≠ c + 21) : gI (mP c q L h t) k i = gI t k i := by rw [mP_I, if_neg (by omega), if_neg (by omega), if_neg (by omega)]
theorem mP_V (hv : mV c q t) : mV c q (mP c q L h t) := by
  obtain ⟨h1, h2, h3, h4⟩ := hv
  refine ⟨by rw [mP_o (by omega)]; exact h1, fun x hx => ?_, fun x h6 hx => ?_, fun i hi => ?_⟩
  · rw [mP_o (by omega), mP_o (by omega), mP_o (by omega)]; exact h2 x hx
  · rw [mP_o (by omega), mP_o (by omega), mP_o (by omega)]; exact h3 x h6 hx
  · rw [mP_o (by omega), mP_o (by omega), mP_o (by omega), mP_o (by omega)]; exact h4 i hi
theorem mP_T (hT : mT c t T N m l) : mT c (mP c q L h t) T N m l := by
  refine ⟨fun i hi => ?_, fun i hi => ?_⟩
  · have a := hT.1 i hi
    rw [mP_o (by omega), mP_o (by omega), mP_o (by omega), mP_o (by omega), mP_o (by omega)]
    exact a
  · rw [mP_o (by omega)]
    exact hT.2 i hi
theorem mP_put {x : Nat} : pI (pI (mP c q L h t) (c + 20) L.length (mI x)) c 33 (nI (L.length + 1)) = mP c q (L ++ [x]) h t := by
  refine aT_ext (fun k i => ?_) (fun _ _ => rfl) rfl
  rw [gI_pI, gI_pI, mP_I, mP_I]
  have hl : (L ++ [x]).length = L.length + 1 := by simp
  rw [hl]
  by_cases h0 : k = c ∧ i = 33
  · rw [if_pos h0, if_pos h0]
  · rw [if_neg h0, if_neg h0, if_neg h0]
    by_cases h1 : k = c + 20 ∧ i = L.length
    · rw [if_pos h1, if_pos (show k = c + 20 ∧ i < L.length + 1 by omega), h1.2, getD_r (Nat.le_refl _), Nat.sub_self]
      rfl
    · rw [if_neg h1]
      by_cases h2 : k = c + 20 ∧ i < L.length
      · rw [if_pos h2, if_pos (show k = c + 20 ∧ i < L.length + 1 by omega), getD_l h2.2]
      · rw [if_neg h2, if_neg (show ¬ (k = c + 20 ∧ i < L.length + 1) by omega)]
theorem mP_up {h' : Nat} (hh : ∀ i, i < q.1 1 → 9 ≤ q.2.1 0 i → 6 ≤ i → (i < h ↔ i < h')) : mP c q L h t = mP c q L h' t := by
  refine aT_ext (fun k i => ?_) (fun _ _ => rfl) rfl
  rw [mP_I, mP_I]
  have n0 : k = c + 21 → ¬ (k = c ∧ i = 33) := fun _ => by omega
  have n1 : k = c + 21 → ¬ (k = c + 20 ∧ i < L.length) := fun _ => by omega
  by_cases h1 : k = c + 21 ∧ i < q.1 1
  · rw [if_neg (n0 h1.1), if_neg (n0 h1.1), if_neg (n1 h1.1), if_neg (n1 h1.1), if_pos h1, if_pos h1]
    by_cases h2 : 6 ≤ i ∧ 9 ≤ q.2.1 0 i
    · have := hh i h1.2 h2.2 h2.1
      by_cases h3 : i < h
      · rw [if_pos ⟨h2.1, h3, h2.2⟩, if_pos ⟨h2.1, this.mp h3, h2.2⟩]
      · rw [if_neg (fun e => h3 e.2.1), if_neg (fun e => h3 (this.mpr e.2.1))]
    · rw [if_neg (fun e => h2 ⟨e.1, e.2.2⟩), if_neg (fun e => h2 ⟨e.1, e.2.2⟩)]
  · rw [if_neg h1, if_neg h1]
theorem mP_fl {x : Nat} (hx : x < q.1 1) (h6 : 6 ≤ x) (h9 : 9 ≤ q.2.1 0 x) : gI (mP c q L h t) (c + 21) x = if x < h then 1 else 0 := by
  rw [mP_I, if_neg (by omega), if_neg (by omega), if_pos ⟨rfl, hx⟩]
  by_cases hh : x < h
  · rw [if_pos ⟨h6, hh, h9⟩, if_pos hh]
  · rw [if_neg (by omega), if_neg hh]
theorem mP_set (hx : h < q.1 1) (h6 : 6 ≤ h) (h9 : 9 ≤ q.2.1 0 h) : pI (mP c q L h t) (c + 21) h 1 = mP c q L (h + 1) t := by
  refine aT_ext (fun k i => ?_) (fun _ _ => rfl) rfl
  rw [gI_pI, mP_I, mP_I]
  have n0 : k = c + 21 → ¬ (k = c ∧ i = 33) := fun _ => by omega
  have n1 : k = c + 21 → ¬ (k = c + 20 ∧ i < L.length) := fun _ => by omega
  by_cases h1 : k = c + 21 ∧ i = h
  · rw [if_pos h1, if_neg (n0 h1.1), if_neg (n1 h1.1), if_pos (show k = c + 21 ∧ i < q.1 1 by omega), if_pos (show 6 ≤ i ∧ i < h + 1 ∧ 9 ≤ q.2.1 0 i by rw [h1.2]; omega)]
  · rw [if_neg h1]
    by_cases h2 : k = c + 21 ∧ i < q.1 1
    · rw [if_neg (n0 h2.1), if_neg (n0 h2.1), if_neg (n1 h2.1), if_neg (n1 h2.1), if_pos h2, if_pos h2]
      by_cases h3 : 6 ≤ i ∧ i < h ∧ 9 ≤ q.2.1 0 i
      · rw [if_pos h3, if_pos (show 6 ≤ i ∧ i < h + 1 ∧ 9 ≤ q.2.1 0 i by omega)]
      · rw [if_neg h3, if_neg (show ¬ (6 ≤ i ∧ i < h + 1 ∧ 9 ≤ q.2.1 0 i) by omega)]
    · rw [if_neg h2, if_neg h2]
theorem Mw_1 {x : Nat} (hx : x < 256) (hl : L.length + 1 ≤ 4200) {K : aT → aRs} : stI 4200 (mP c q L h t) (c + 20) (gI (mP c q L h t) c 33) (mI x) (fun s1 => wI s1 c 33 ((gI s1 c 33) + 1) K) = K (mP c q (L ++ [x]) h t) := by
  rw [mP_n, stI_n (by omega) (by omega), wI_eq, gI_pI, if_neg (by omega), mP_n, nI_add1, mP_put]
theorem Mw_p2 (d : Nat) (hc : isT c) {w : Nat} (hw : sWd w W) : ∀ k j L, j + k = W.length → L.length + k ≤ 4200 → fMt_put_2 (d + 6) c w (nI j) (mP c q L h t) = rV (mP c q (L ++ W.drop j) h t) := by
  have h100 := hw.2.2.2.2
  intro k
  induction k with
  | zero =>
    intro j L hj hl
    refine eMt_put_2 d c w _ _ hc _ ?_
    rw [cP_len hw]
    simp (disch := omega) only [nI_leE]
    rw [if_pos (by omega), show W.drop j = [] from List.drop_eq_nil_of_le (by omega), List.append_nil]
    rfl
  | succ k ih =>
    intro j L hj hl
    have hlt : j < W.length := by omega
    refine eMt_put_2 d c w _ _ hc _ ?_
    rw [cP_len hw]
    simp (disch := omega) only [nI_leE]
    have h128 := hw.2.2.2.1 j hlt
    have ihh := ih (j + 1) (L ++ [W.getD j 0]) (by omega) (by rw [List.length_append]; show L.length + 1 + k ≤ _; omega)
    have hd : W.drop j = W.getD j 0 :: W.drop (j + 1) := by
      rw [List.drop_eq_getElem_cons hlt]
      simp [List.getD, hlt]
    rw [if_neg (by omega), cP_chr hw hlt, nI_byte (by omega), Mw_1 (by omega) (by omega), nI_add1, ihh, hd, List.append_assoc]
    rfl
theorem Mw_put {n : Nat} (hn : 6 ≤ n) (hc : isT c) {w : Nat} (hw : sWd w W) (hl : L.length + W.length ≤ 4200) : fMt_put n c w (mP c q L h t) = rV (mP c q (L ++ W) h t) := by
  obtain ⟨d, rfl⟩ : ∃ d, n = d + 6 := ⟨n - 6, by omega⟩
  refine eMt_put d c w _ hc _ ?_
  exact Mw_p2 d hc hw W.length 0 L (by omega) hl
theorem kLe_g {v i : Nat} (hi : i < T 2 v) : (kLe T v).getD i 0 = T 6 (T 5 v + i) := by
  unfold kLe
  simp [List.getD, hi]
theorem Mw_name (hc : isT c) (hT : mT c t T N m l) (hG : jGt T N m l n) {k : Nat} (hk : 7 ≤ k) {v : Nat} (hv : v < m) (h2 : T 0 v = 2) (hl : L.length + (kQt (kLe T v)).length ≤ 4200) : fMt_putName k c (nI v) (mP c q L h t) = rV (mP c q (L ++ kQt (kLe T v)) h t) := by
  rw [kQt_len, kLe_len] at hl
  have hs := jGt_s hG hv h2
  have hm := hG.1
  obtain ⟨d, rfl⟩ : ∃ d, k = d + 7 := ⟨k - 7, by omega⟩
  have hq := sWd_R (1072, [34]) (by decide)
  have loop : ∀ k j L, j + k = T 2 v → L.length + k + 1 ≤ 4200 → fMt_putName_5 (d + 7) c (nI v) (nI j) (mP c q L h t) = rV (mP c q (L ++ ((kLe T v).drop j ++ [34])) h t) := by
    intro k
    induction k with
    | zero =>
      intro j L hj hl
      have hTP := mP_T (q := q) (L := L) (h := h) hT
      refine eMt_putName_5 (d + 6) c _ _ _ hc _ ?_
      have e5z : gI (mP c q L h t) (c + 5) v = nI (T 2 v) := by rw [(hTP.1 v hv).2.2.1, if_neg (show ¬ T 0 v = 0 by omega)]
      rw [ldI_n (by omega) (by omega), e5z]
      simp (disch := omega) only [nI_leE]
      rw [if_pos (by omega), Mw_put (by omega) hc hq (by show L.length + 1 ≤ _; omega), cG_V, show (kLe T v).drop j = [] from List.drop_eq_nil_of_le (by rw [kLe_len]; omega), List.nil_append]
      rfl
    | succ k ih =>
      intro j L hj hl
      have hTP := mP_T (q := q) (L := L) (h := h) hT
      have hlt : j < (kLe T v).length := by rw [kLe_len]; omega
      have hb : T 6 (T 5 v + j) < 256 := hG.2.2.1 _ (by omega)
      have ihh := ih (j + 1) (L ++ [T 6 (T 5 v + j)]) (by omega) (by rw [List.length_append]; show L.length + 1 + k + 1 ≤ _; omega)
      have hd : (kLe T v).drop j = T 6 (T 5 v + j) :: (kLe T v).drop (j + 1) := by
        rw [List.drop_eq_getElem_cons hlt, ← kLe_g (T := T) (v := v) (i := j) (by omega)]
        simp [List.getD, hlt]
      refine eMt_putName_5 (d + 6) c _ _ _ hc _ ?_
      have e4 : gL (mP c q L h t) (c + 4) v = Int64.ofNat (T 5 v) := by rw [(hTP.1 v hv).2.2.2.2.2, if_pos h2]
      have e5 : (Int64.ofNat (T 5 v)).toInt32 = nI (T 5 v) := by
        rw [← nI_long (by omega)]
        exact Int32.toInt32_toInt64 _
      have e5z : gI (mP c q L h t) (c + 5) v = nI (T 2 v) := by rw [(hTP.1 v hv).2.2.1, if_neg (show ¬ T 0 v = 0 by omega)]
      rw [ldI_n (by omega) (by omega), e5z]
      simp (disch := omega) only [nI_leE]
      rw [if_neg (by omega), ldL_n (by omega) (by omega), e4, e5, nI_addE, ldI_n (by omega) (by omega), hTP.2 _ (by omega), mI_nar _ hb, Mw_1 hb (by omega), nI_add1, ihh, hd, List.append_assoc]
      rfl
  refine eMt_putName (d + 6) c _ _ hc _ ?_
  rw [Mw_put (by omega) hc hq (by show L.length + 1 ≤ _; omega), cG_V]
  have := loop (T 2 v) 0 (L ++ [34]) (by omega) (by rw [List.length_append]; show L.length + 1 + _ + 1 ≤ _; omega)
  rw [show (0 : Int32) = nI 0 from rfl, this]
  unfold kQt
  simp only [List.append_assoc, List.drop_zero]
  rfl
theorem Mw_fig (d : Nat) (hc : isT c) {x : Nat} (hx : x ≤ 9) (hl : L.length + 1 ≤ 4200) : fMt_figure d c (nI x) (mP c q L h t) = rV (mP c q (L ++ [48 + x]) h t) := by
  refine eMt_figure d c _ _ hc _ ?_
  rw [show (48 : Int32) = nI 48 from rfl, nI_addE, nI_byte (by omega), Mw_1 (by omega) hl]
  rfl
end
