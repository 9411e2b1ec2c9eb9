/-! guarded steps with Nat places; the stack said anew; catching, prims -/
theorem aR_st {d : Nat} {q : aMI} {k : Nat} {L : List (Nat × Value)} {st st' : List Value} {h : aH} {r : aOut × aH × Nat} (e : st = st') (kk : aR d q k L st' h r) : aR d q k L st h r := e ▸ kk
theorem aR_L {d : Nat} {q : aMI} {k : Nat} {L L' : List (Nat × Value)} {st : List Value} {h : aH} {r : aOut × aH × Nat} (e : L = L') (kk : aR d q k L' st h r) : aR d q k L st h r := e ▸ kk
theorem aR_h {d : Nat} {q : aMI} {k : Nat} {L : List (Nat × Value)} {st : List Value} {h h' : aH} {r : aOut × aH × Nat} (e : h = h') (kk : aR d q k L st h' r) : aR d q k L st h r := e ▸ kk
theorem aR_r {d : Nat} {q : aMI} {k : Nat} {L : List (Nat × Value)} {st : List Value} {h : aH} {r r' : aOut × aH × Nat} (kk : aR d q k L st h r') (e : r' = r) : aR d q k L st h r := e ▸ kk
theorem nI_in2 {j n : Nat} (hj : j < n) (hn : n < 2 ^ 31) : ¬ nI j < 0 ∧ (nI j).toNatClampNeg < n := ⟨nI_pos (by omega), by rw [nI_clamp (by omega)]; exact hj⟩
section AArr
variable {d : Nat} {q : aMI} {k pc x y : Nat} {L : List (Nat × Value)} {rest : List Value} {h : aH} {r : aOut × aH × Nat} {j n a : Nat}
theorem aR_iald (he : (mCd q)[k]? = some (pc, .iaload, 1, x, y)) (hsh : aSh0 a = some (.inl (1, n))) (hj : j < n) (hn : n < 2 ^ 31) (kk : aR d q (k + 1) L (.int (h.1 a j) :: rest) h r) : aR d q k L (.int (nI j) :: .ref a :: rest) h r := by
  refine aR_step (b := false) (L' := L) (st' := .int (h.1 a j) :: rest) (h' := h) he rfl ?_ kk
  simp only [aS1, hsh]
  rw [if_pos trivial, if_pos (nI_in2 hj hn), nI_clamp (by omega)]
theorem aR_bald (he : (mCd q)[k]? = some (pc, .baload, 1, x, y)) (hsh : aSh0 a = some (.inl (0, n))) (hj : j < n) (hn : n < 2 ^ 31) (kk : aR d q (k + 1) L (.int (h.1 a j) :: rest) h r) : aR d q k L (.int (nI j) :: .ref a :: rest) h r := by
  refine aR_step (b := false) (L' := L) (st' := .int (h.1 a j) :: rest) (h' := h) he rfl ?_ kk
  simp only [aS1, hsh]
  rw [if_pos trivial, if_pos (nI_in2 hj hn), nI_clamp (by omega)]
theorem aR_zald (he : (mCd q)[k]? = some (pc, .baload, 1, x, y)) (hsh : aSh0 a = some (.inl (3, n))) (hj : j < n) (hn : n < 2 ^ 31) (kk : aR d q (k + 1) L (.int (h.1 a j) :: rest) h r) : aR d q k L (.int (nI j) :: .ref a :: rest) h r := by
  refine aR_step (b := false) (L' := L) (st' := .int (h.1 a j) :: rest) (h' := h) he rfl ?_ kk
  simp only [aS1, hsh]
  rw [if_pos trivial, if_pos (nI_in2 hj hn), nI_clamp (by omega)]
theorem aR_lald (he : (mCd q)[k]? = some (pc, .laload, 1, x, y)) (hsh : aSh0 a = some (.inl (2, n))) (hj : j < n) (hn : n < 2 ^ 31) (kk : aR d q (k + 1) L (.long (h.2.1 a j) :: rest) h r) : aR d q k L (.int (nI j) :: .ref a :: rest) h r := by
  refine aR_step (b := false) (L' := L) (st' := .long (h.2.1 a j) :: rest) (h' := h) he rfl ?_ kk
  simp only [aS1, hsh]
  rw [if_pos trivial, if_pos (nI_in2 hj hn), nI_clamp (by omega)]
theorem aR_iast {v : Int32} (he : (mCd q)[k]? = some (pc, .iastore, 1, x, y)) (hsh : aSh0 a = some (.inl (1, n))) (hj : j < n) (hn : n < 2 ^ 31) (kk : aR d q (k + 1) L rest (a2 h.1 a j v, h.2.1, h.2.2) r) : aR d q k L (.int v :: .int (nI j) :: .ref a :: rest) h r := by
  refine aR_step (b := false) (L' := L) (st' := rest) (h' := (a2 h.1 a j v, h.2.1, h.2.2)) he rfl ?_ kk
  simp only [aS1, hsh]
  rw [if_pos trivial, if_pos (nI_in2 hj hn), nI_clamp (by omega)]
theorem aR_bast {v : Int32} (he : (mCd q)[k]? = some (pc, .bastore, 1, x, y)) (hsh : aSh0 a = some (.inl (0, n))) (hj : j < n) (hn : n < 2 ^ 31) (kk : aR d q (k + 1) L rest (a2 h.1 a j (vp_nar .byte v), h.2.1, h.2.2) r) : aR d q k L (.int v :: .int (nI j) :: .ref a :: rest) h r := by
  refine aR_step (b := false) (L' := L) (st' := rest) (h' := (a2 h.1 a j (vp_nar .byte v), h.2.1, h.2.2)) he rfl ?_ kk
  simp only [aS1, hsh]
  rw [if_pos trivial, if_pos (nI_in2 hj hn), nI_clamp (by omega)]
theorem aR_zast {v : Int32} (he : (mCd q)[k]? = some (pc, .bastore, 1, x, y)) (hsh : aSh0 a = some (.inl (3, n))) (hj : j < n) (hn : n < 2 ^ 31) (kk : aR d q (k + 1) L rest (a2 h.1 a j (vp_nar .boolean v), h.2.1, h.2.2) r) : aR d q k L (.int v :: .int (nI j) :: .ref a :: rest) h r := by
  refine aR_step (b := false) (L' := L) (st' := rest) (h' := (a2 h.1 a j (vp_nar .boolean v), h.2.1, h.2.2)) he rfl ?_ kk
  simp only [aS1, hsh]
  rw [if_pos trivial, if_pos (nI_in2 hj hn), nI_clamp (by omega)]
theorem aR_last {v : Int64} (he : (mCd q)[k]? = some (pc, .lastore, 1, x, y)) (hsh : aSh0 a = some (.inl (2, n))) (hj : j < n) (hn : n < 2 ^ 31) (kk : aR d q (k + 1) L rest (h.1, a2 h.2.1 a j v, h.2.2) r) : aR d q k L (.long v :: .int (nI j) :: .ref a :: rest) h r := by
  refine aR_step (b := false) (L' := L) (st' := rest) (h' := (h.1, a2 h.2.1 a j v, h.2.2)) he rfl ?_ kk
  simp only [aS1, hsh]
  rw [if_pos trivial, if_pos (nI_in2 hj hn), nI_clamp (by omega)]
end AArr
