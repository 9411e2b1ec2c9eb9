/-! runs of the machine over this claim's tables, and their rules -/
def aR (d : Nat) (q : aMI) (k : Nat) (L : List (Nat × Value)) (st : List Value) (h : aH) (r : aOut × aH × Nat) : Prop := ∃ n, aEx aTB aSh0 aFk0 n d q k L st h = some r
theorem aEx_le {TB : Nat → Option aMI} {sh : aSh} {fk : aFk} {n m d : Nat} {q : aMI} {k : Nat} {L : List (Nat × Value)} {st : List Value} {h : aH} {r : aOut × aH × Nat} (hle : n ≤ m) (hr : aEx TB sh fk n d q k L st h = some r) : aEx TB sh fk m d q k L st h = some r := by
  induction hle with
  | refl => exact hr
  | step _ ih => exact aEx_mono _ _ _ _ _ _ _ _ ih
def aSpec (ins : Instr) : Bool := match ins with
  | .ireturn => true
  | .lreturn => true
  | .areturn => true
  | .return_ => true
  | .new _ => true
  | .tableswitch _ _ _ _ => true
  | .lookupswitch _ _ => true
  | .invokevirtual _ => true
  | .invokestatic _ => true
  | _ => false
theorem aEx_simple {TB : Nat → Option aMI} {sh : aSh} {fk : aFk} {m d : Nat} {q : aMI} {k pc len x y : Nat} {ins : Instr} {L L' : List (Nat × Value)} {st st' : List Value} {h h' : aH} {b : Bool} (he : (mCd q)[k]? = some (pc, ins, len, x, y)) (hsp : aSpec ins = false) (hs : aS1 sh fk ins len x y (mL q) L st h = some (b, L', st', h')) :
    aEx TB sh fk (m + 1) d q k L st h = aEx TB sh fk m d q (if b then x else k + 1) L' st' h' := by
  conv => lhs; unfold aEx
  rw [he]
  dsimp only
  split
  · cases hsp
  · cases hsp
  · cases hsp
  · cases hsp
  · cases hsp
  · cases hsp
  · cases hsp
  · cases hsp
  · cases hsp
  · rw [hs]
theorem aR_step {d : Nat} {q : aMI} {k pc len x y : Nat} {ins : Instr} {L L' : List (Nat × Value)} {st st' : List Value} {h h' : aH} {b : Bool} {r : aOut × aH × Nat} (he : (mCd q)[k]? = some (pc, ins, len, x, y)) (hsp : aSpec ins = false) (hs : aS1 aSh0 aFk0 ins len x y (mL q) L st h = some (b, L', st', h')) (kk : aR d q (if b then x else k + 1) L' st' h' r) : aR d q k L st h r := by
  obtain ⟨n, hn⟩ := kk
  exact ⟨n + 1, by rw [aEx_simple he hsp hs]; exact hn⟩
theorem aR_br {P : Prop} [Decidable P] {d : Nat} {q : aMI} {k pc len x y : Nat} {ins : Instr} {L L' : List (Nat × Value)} {st st' : List Value} {h h' : aH} {r : aOut × aH × Nat} (he : (mCd q)[k]? = some (pc, ins, len, x, y)) (hsp : aSpec ins = false) (hs : aS1 aSh0 aFk0 ins len x y (mL q) L st h = some (decide P, L', st', h')) (kt : P → aR d q x L' st' h' r) (kf : ¬ P → aR d q (k + 1) L' st' h' r) : aR d q k L st h r := by
  by_cases hp : P
  · refine aR_step he hsp hs ?_
    rw [decide_eq_true hp]
    exact kt hp
  · refine aR_step he hsp hs ?_
    rw [decide_eq_false hp]
    exact kf hp
def aSeg (q : aMI) : Nat → Nat × List (Nat × Value) × List Value × aH → Option (Nat × List (Nat × Value) × List Value × aH)
  | 0, s => some s
  | n + 1, (k, L, st, h) => match (mCd q)[k]? with
    | some (_, ins, len, x, y) => if aSpec ins then none else (match aS1 aSh0 aFk0 ins len x y (mL q) L st h with
      | some (b, L', st', h') => aSeg q n (if b then x else k + 1, L', st', h')
      | none => none)
    | none => none
/-- a stretch of simple steps -/
theorem aR_seg {d : Nat} {q : aMI} {r : aOut × aH × Nat} : ∀ (n : Nat) {k k' : Nat} {L L' : List (Nat × Value)} {st st' : List Value} {h h' : aH}, aSeg q n (k, L, st, h) = some (k', L', st', h') → aR d q k' L' st' h' r → aR d q k L st h r
  | 0, _, _, _, _, _, _, _, _, hs, kk => by cases hs; exact kk
  | n + 1, k, k', L, L', st, st', h, h', hs, kk => by
    unfold aSeg at hs
    split at hs
    · rename_i he
      split at hs
      · cases hs
      · rename_i hsp
        split at hs
        · rename_i h1
          exact aR_step he (by simpa using hsp) h1 (aR_seg n hs kk)
        · cases hs
    · cases hs
section AEnds
variable {d : Nat} {q : aMI} {k pc x y : Nat} {L : List (Nat × Value)} {st : List Value} {h : aH}
theorem aR_iret {v : Int32} {ty : FieldType} (he : (mCd q)[k]? = some (pc, .ireturn, 1, x, y)) (hty : mR q = some ty) (hn : narrow ty (.int v) = .int v) : aR d q k L [.int v] h (.inl (some (.int v)), h, 0) :=
  ⟨1, by unfold aEx; rw [he]; dsimp only; rw [if_pos rfl, hty]; dsimp only; rw [if_pos hn]⟩
theorem aR_lret {v : Int64} (he : (mCd q)[k]? = some (pc, .lreturn, 1, x, y)) (hty : mR q = some .long) : aR d q k L [.long v] h (.inl (some (.long v)), h, 0) :=
  ⟨1, by unfold aEx; rw [he]; dsimp only; rw [if_pos rfl, if_pos hty]⟩
theorem aR_vret (he : (mCd q)[k]? = some (pc, .return_, 1, x, y)) (hty : mR q = none) : aR d q k L [] h (.inl none, h, 0) :=
  ⟨1, by unfold aEx; rw [he]; dsimp only; rw [if_pos rfl, if_pos hty]⟩
theorem aR_new {i len : Nat} (he : (mCd q)[k]? = some (pc, .new i, len, x, 7)) (hh : (mHs q).isEmpty = true) : aR d q k L [] h (.inr x, h, 1) :=
  ⟨1, by unfold aEx; rw [he]; dsimp only; rw [if_pos ⟨rfl, hh⟩]⟩
variable {q' : aMI} {rest As : List Value} {r i u u2 E : Nat} {rv : Option Value} {h1 h2 : aH} {o : aOut}
theorem aR_callV (he : (mCd q)[k]? = some (pc, .invokevirtual i, 3, x, y)) (hx : ¬ 900 ≤ x) (hT : aTB x = some q') (hs : mSt q' = false) (hAs : As.length = mNp q') (hsh : aSh0 r = some (.inr (y % 100))) (hcat : aCat rest ≤ 8) (hlg : (lg_sl (.ref r :: As)).length ≤ mL q')
    (hc : aR d q' 0 (lv_args 0 (.ref r :: As)) [] h (.inl rv, h1, u)) (kk : aR (d + 1) q (k + 1) L (rv.toList ++ rest) h1 (o, h2, u2)) : aR (d + 1) q k L (As.reverse ++ .ref r :: rest) h (o, h2, u + u2) := by
  obtain ⟨n1, g1⟩ := hc
  obtain ⟨n2, g2⟩ := kk
  have e1 : ((As.reverse ++ Value.ref r :: rest).take (mNp q' + 1)).reverse = .ref r :: As := by
    rw [← hAs, show As.reverse ++ Value.ref r :: rest = (As.reverse ++ [Value.ref r]) ++ rest by simp, List.take_left' (by simp)]
    simp
  have e2 : (As.reverse ++ Value.ref r :: rest).drop (mNp q' + 1) = rest := by
    rw [← hAs, show As.reverse ++ Value.ref r :: rest = (As.reverse ++ [Value.ref r]) ++ rest by simp, List.drop_left' (by simp)]
  refine ⟨max n1 n2 + 1, ?_⟩
  unfold aEx
  rw [he]
  dsimp only
  rw [if_pos rfl, if_neg hx, hT]
  dsimp only
  rw [hs, if_neg (by decide), e1]
  dsimp only
  rw [e2, if_pos ⟨hsh, hAs, hcat, hlg⟩, aEx_le (Nat.le_max_left n1 n2) g1]
  dsimp only
  rw [aEx_le (Nat.le_max_right n1 n2) g2]
/-- the callee throws, and so does this method -/
theorem aR_callVt (he : (mCd q)[k]? = some (pc, .invokevirtual i, 3, x, y)) (hx : ¬ 900 ≤ x) (hT : aTB x = some q') (hs : mSt q' = false) (hAs : As.length = mNp q') (hsh : aSh0 r = some (.inr (y % 100))) (hcat : aCat rest ≤ 8) (hlg : (lg_sl (.ref r :: As)).length ≤ mL q') (hh' : (mHs q').isEmpty = true) (hy : ¬ 100 ≤ y) (hh : (mHs q).isEmpty = true)
    (hc : aR d q' 0 (lv_args 0 (.ref r :: As)) [] h (.inr E, h1, u)) : aR (d + 1) q k L (As.reverse ++ .ref r :: rest) h (.inr E, h1, u) := by
  obtain ⟨n1, g1⟩ := hc
  have e1 : ((As.reverse ++ Value.ref r :: rest).take (mNp q' + 1)).reverse = .ref r :: As := by
    rw [← hAs, show As.reverse ++ Value.ref r :: rest = (As.reverse ++ [Value.ref r]) ++ rest by simp, List.take_left' (by simp)]
    simp
  have e2 : (As.reverse ++ Value.ref r :: rest).drop (mNp q' + 1) = rest := by
    rw [← hAs, show As.reverse ++ Value.ref r :: rest = (As.reverse ++ [Value.ref r]) ++ rest by simp, List.drop_left' (by simp)]
  refine ⟨n1 + 1, ?_⟩
  unfold aEx
  rw [he]
  dsimp only
  rw [if_pos rfl, if_neg hx, hT]
  dsimp only
  rw [hs, if_neg (by decide), e1]
  dsimp only
  rw [e2, if_pos ⟨hsh, hAs, hcat, hlg⟩, g1]
  dsimp only
  rw [if_neg (fun z => z.elim (fun z => z hh') hy), if_pos hh]
theorem aR_callS {vs : List Value} (he : (mCd q)[k]? = some (pc, .invokestatic i, 3, x, y)) (hx : ¬ 900 ≤ x) (hT : aTB x = some q') (hs : mSt q' = true) (hvs : vs.length = mNp q') (hcat : aCat rest ≤ 8) (hlg : (lg_sl vs).length ≤ mL q')
    (hc : aR d q' 0 (lv_args 0 vs) [] h (.inl rv, h1, u)) (kk : aR (d + 1) q (k + 1) L (rv.toList ++ rest) h1 (o, h2, u2)) : aR (d + 1) q k L (vs.reverse ++ rest) h (o, h2, u + u2) := by
  obtain ⟨n1, g1⟩ := hc
  obtain ⟨n2, g2⟩ := kk
  have e1 : ((vs.reverse ++ rest).take (mNp q')).reverse = vs := by rw [← hvs, List.take_left' (by simp)]; simp
  have e2 : (vs.reverse ++ rest).drop (mNp q') = rest := by rw [← hvs, List.drop_left' (by simp)]
  refine ⟨max n1 n2 + 1, ?_⟩
  unfold aEx
  rw [he]
  dsimp only
  rw [if_pos rfl, if_neg hx, hT]
  dsimp only
  rw [hs, if_pos rfl, e1, e2, if_pos ⟨hvs, hcat, hlg⟩, aEx_le (Nat.le_max_left n1 n2) g1]
  dsimp only
  rw [aEx_le (Nat.le_max_right n1 n2) g2]
end AEnds
