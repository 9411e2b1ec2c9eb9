/-! the lake's Defaults: a string's letters -/
def kLe (T : Nat → Nat → Nat) (v : Nat) : List Nat := (List.range (T 2 v)).map (fun i => T 6 (T 5 v + i))
theorem kLe_len {T : Nat → Nat → Nat} {v : Nat} : (kLe T v).length = T 2 v := by unfold kLe; rw [List.length_map, List.length_range]
theorem kPb_le {T : Nat → Nat → Nat} {v : Nat} {q : kP} : kPp (fun i => T 6 (T 5 v + i)) (T 2 v) q = kPb (kLe T v) q := by
  unfold kPb
  rw [kLe_len]
  unfold kPp
  refine Prod.ext rfl (Prod.ext ?_ rfl)
  funext r i
  show (if r = 40 ∧ q.1 6 ≤ i ∧ i < q.1 6 + T 2 v then T 6 (T 5 v + (i - q.1 6)) else q.2.1 r i) = (if r = 40 ∧ q.1 6 ≤ i ∧ i < q.1 6 + T 2 v then (kLe T v).getD (i - q.1 6) 0 else q.2.1 r i)
  by_cases h : r = 40 ∧ q.1 6 ≤ i ∧ i < q.1 6 + T 2 v
  · rw [if_pos h, if_pos h]
    have hl : i - q.1 6 < T 2 v := by omega
    unfold kLe
    simp [List.getD, hl]
  · rw [if_neg h, if_neg h]
section
variable {b pb qb : Nat} {q : kP} {s : aT} {T : Nat → Nat → Nat} {N : Nat → Int} {m l n : Nat}
theorem Df_row (d : Nat) (hT : lT s T N m l) (hG : jGt T N m l n) {v : Nat} (hv : v < m) (hk : T 0 v = 2) (hq : qb + q.1 6 + T 2 v ≤ 72704) : fBy_putRow (d + 6) 32 21 (nI (T 5 v)) (nI (T 2 v)) (lS b pb qb q s) = rI 1 (lS b pb qb (kPb (kLe T v) q) s) := by
  have hs := jGt_s hG hv hk
  have hTq := lS_T (b := b) (pb := pb) (qb := qb) (q := q) hT
  have hl := hG.2.1
  rw [Lp_putRow d (a := 21) (st := T 5 v) (k0 := T 2 v) (L := fun i => T 6 (T 5 v + i)) hq rfl (by rw [alen_21]; omega) (by decide) (by omega) (fun i hi => hTq.2.1 _ (by omega)) (fun i hi => hG.2.2.1 _ (by omega)), kPb_le]
theorem Df_wS (d : Nat) (hT : lT s T N m l) (hG : jGt T N m l n) {v : Nat} (hv : v < m) (hk : T 0 v = 2) (hq : qb + q.1 6 + (kVb (Int64.ofNat (T 2 v))).length + T 2 v ≤ 72704) : fDf_writeString (d + 7) (nI v) (lS b pb qb q s) = rV (lS b pb qb (kPb (kVb (Int64.ofNat (T 2 v)) ++ kLe T v) q) s) := by
  have hs := jGt_s hG hv hk
  have hm := hG.1
  have hl := hG.2.1
  have hTq := lS_T (b := b) (pb := pb) (qb := qb) (q := q) hT
  have hTq2 := lS_T (b := b) (pb := pb) (qb := qb) (q := kPb (kVb (Int64.ofNat (T 2 v))) q) hT
  have hvi : fBy_putVarint (d + 6) 32 (Int64.ofNat (T 2 v)) (lS b pb qb q s) = rI 1 (lS b pb qb (kPb (kVb (Int64.ofNat (T 2 v))) q) s) := Lp_vi (d + 5) (by omega)
  refine eDf_writeString (d + 6) _ _ _ ?_
  rw [ldI_n (by omega) (by omega), lT_Z hTq hv (by omega), nI_long (by omega), hvi, cG_I, ldI_n (by omega) (by omega), lT_S hTq2 hv hk, ldI_n (by omega) (by omega), lT_Z hTq2 hv (by omega), Df_row d hT hG hv hk (by rw [kPb_6]; omega), cG_I, kPb_app]
  rfl
end
