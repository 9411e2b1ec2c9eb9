/-! the rules for joins, ends, calls, switches -/
section EV2
variable {d : Nat} {q : aMI} {k : Nat} {L : List (Nat × Value)} {st : List Value} {s : aT} {r : aOut × aT} {pc x y len : Nat}
/-- goes on at a place that has a text of its own: the locals that it wants are here, at these places -/
theorem ev_join {L' : List (Nat × Value)} (ix : List Nat) (ks ks' : List Nat) (h1 : L.map (·.1) = ks) (h2 : L'.map (·.1) = ks') (hn : ks.Nodup) (hn' : ks'.Nodup) (hix : ix.map (fun i => L[i]?) = L'.map some) (kk : ev d q k L' st s = some r) : ev d q k L st s = some r := by
  obtain ⟨u, ⟨n, h3⟩, h4⟩ := ev_get kk
  refine ev_of ⟨u, ⟨n, aEx_ext n d q k L L' st _ _ ⟨h1 ▸ hn, h2 ▸ hn', fun e he => ?_⟩ h3⟩, h4⟩
  have : some e ∈ L'.map some := List.mem_map.mpr ⟨e, he, rfl⟩
  rw [← hix] at this
  obtain ⟨i, _, hi⟩ := List.mem_map.mp this
  exact List.mem_of_getElem? hi
theorem ev_iret {v : Int32} {ty : FieldType} (hr : rI v s = some r) (he : (mCd q)[k]? = some (pc, .ireturn, 1, x, y)) (hty : mR q = some ty) (hn : narrow ty (.int v) = .int v) : ev d q k L [.int v] s = some r := by
  cases hr
  exact ev_of ⟨0, aR_iret he hty hn, rfl⟩
theorem ev_zret {v : Int32} (hr : rZ v s = some r) (he : (mCd q)[k]? = some (pc, .ireturn, 1, x, y)) (hty : mR q = some .boolean) : ev d q k L [.int v] s = some r := by
  unfold rZ at hr
  split at hr
  · rename_i hv
    cases hr
    exact ev_of ⟨0, aR_iret he hty (by rcases hv with rfl | rfl <;> rfl), rfl⟩
  · cases hr
theorem ev_lret {v : Int64} (hr : rL v s = some r) (he : (mCd q)[k]? = some (pc, .lreturn, 1, x, y)) (hty : mR q = some .long) : ev d q k L [.long v] s = some r := by
  cases hr
  exact ev_of ⟨0, aR_lret he hty, rfl⟩
theorem aR_aret {v : Nat} {h : aH} {c : String} (he : (mCd q)[k]? = some (pc, .areturn, 1, x, y)) (hty : mR q = some (.object c)) : aR d q k L [.ref v] h (.inl (some (.ref v)), h, 0) :=
  ⟨1, by unfold aEx; rw [he]; dsimp only; rw [if_pos rfl, hty]⟩
theorem ev_aret {v : Nat} {c : String} (hr : rA v s = some r) (he : (mCd q)[k]? = some (pc, .areturn, 1, x, y)) (hty : mR q = some (.object c)) : ev d q k L [.ref v] s = some r := by
  cases hr
  exact ev_of ⟨0, aR_aret he hty, rfl⟩
theorem ev_vret (hr : rV s = some r) (he : (mCd q)[k]? = some (pc, .return_, 1, x, y)) (hty : mR q = none) : ev d q k L [] s = some r := by
  cases hr
  exact ev_of ⟨0, aR_vret he hty, rfl⟩
theorem ev_new {i : Nat} (hr : rX x s = some r) (he : (mCd q)[k]? = some (pc, .new i, len, x, 7)) (hh : (mHs q).isEmpty = true) : ev d q k L [] s = some r := by
  cases hr
  exact ev_of ⟨1, aR_new he hh, rfl⟩
variable {q' : aMI} {rest As : List Value} {c i : Nat}
/-- a call whose exceptions go on -/
theorem ev_callV {F : aRs} {K : Option Value → aT → aRs} (hr : cG F K = some r) (hF : F = ev d q' 0 (lv_args 0 (.ref c :: As)) [] s) (he : (mCd q)[k]? = some (pc, .invokevirtual i, 3, x, y)) (hx : Nat.blt x 900 = true) (hT : aTB x = some q') (hs : mSt q' = false) (hAs : As.length = mNp q') (hsh : aSh0 c = some (.inr (y % 100))) (hcat : Nat.ble (aCat rest) 8 = true) (hlg : Nat.ble (lg_sl (.ref c :: As)).length (mL q') = true) (hh' : (mHs q').isEmpty = true) (hy : Nat.blt y 100 = true) (hh : (mHs q).isEmpty = true)
    (kk : ∀ rv s1, K rv s1 = some r → ev (d + 1) q (k + 1) L (rv.toList ++ rest) s1 = some r) : ev (d + 1) q k L (As.reverse ++ .ref c :: rest) s = some r := by
  have hx' : ¬ 900 ≤ x := by have := Nat.le_of_ble_eq_true hx; omega
  have hy' : ¬ 100 ≤ y := by have := Nat.le_of_ble_eq_true hy; omega
  unfold cG at hr
  split at hr
  · rename_i rv s1
    obtain ⟨u, h1, h2⟩ := ev_get (hF.symm)
    obtain ⟨u2, h3, h4⟩ := ev_get (kk rv s1 hr)
    exact ev_of ⟨u + u2, aR_callV he hx' hT hs hAs hsh (Nat.le_of_ble_eq_true hcat) (Nat.le_of_ble_eq_true hlg) h1 h3, by rw [h4, h2]; exact Nat.add_assoc _ _ _⟩
  · rename_i E s1
    obtain ⟨u, h1, h2⟩ := ev_get (hF.symm)
    cases hr
    exact ev_of ⟨u, aR_callVt he hx' hT hs hAs hsh (Nat.le_of_ble_eq_true hcat) (Nat.le_of_ble_eq_true hlg) hh' hy' hh h1, h2⟩
  · cases hr
/-- a call that doesn't throw -/
theorem ev_callN {F : aRs} {K : Option Value → aT → aRs} (hr : cN F K = some r) (hF : F = ev d q' 0 (lv_args 0 (.ref c :: As)) [] s) (he : (mCd q)[k]? = some (pc, .invokevirtual i, 3, x, y)) (hx : Nat.blt x 900 = true) (hT : aTB x = some q') (hs : mSt q' = false) (hAs : As.length = mNp q') (hsh : aSh0 c = some (.inr (y % 100))) (hcat : Nat.ble (aCat rest) 8 = true) (hlg : Nat.ble (lg_sl (.ref c :: As)).length (mL q') = true)
    (kk : ∀ rv s1, K rv s1 = some r → ev (d + 1) q (k + 1) L (rv.toList ++ rest) s1 = some r) : ev (d + 1) q k L (As.reverse ++ .ref c :: rest) s = some r := by
  have hx' : ¬ 900 ≤ x := by have := Nat.le_of_ble_eq_true hx; omega
  unfold cN at hr
  split at hr
  · rename_i rv s1
    obtain ⟨u, h1, h2⟩ := ev_get (hF.symm)
    obtain ⟨u2, h3, h4⟩ := ev_get (kk rv s1 hr)
    exact ev_of ⟨u + u2, aR_callV he hx' hT hs hAs hsh (Nat.le_of_ble_eq_true hcat) (Nat.le_of_ble_eq_true hlg) h1 h3, by rw [h4, h2]; exact Nat.add_assoc _ _ _⟩
  · cases hr
theorem aR_callVc {h h1 h2 : aH} {r u u2 : Nat} {o : aOut} {z : Nat × Nat × Nat × Nat × Nat × Nat} (he : (mCd q)[k]? = some (pc, .invokevirtual i, 3, x, y)) (hx : ¬ 900 ≤ x) (hT : aTB x = some q') (hs : mSt q' = false) (hAs : As.length = mNp q') (hsh : aSh0 r = some (.inr (y % 100))) (hcat : aCat rest ≤ 8) (hlg : (lg_sl (.ref r :: As)).length ≤ mL q') (hh' : (mHs q').isEmpty = true) (hy : ¬ 100 ≤ y) (hh : (mHs q).isEmpty = false) (hz : aHd (mHs q) pc = some z)
    (hc : aR d q' 0 (lv_args 0 (.ref r :: As)) [] h (.inr 0, h1, u)) (kk : aR (d + 1) q (z.2.2.2.2.1 + 1) (L.filter (fun w => !(w.1 == z.2.2.2.2.2) && !(w.1 + 1 == z.2.2.2.2.2 && w.2.category == 2))) [] h1 (o, h2, u2)) : aR (d + 1) q k L (As.reverse ++ .ref r :: rest) h (o, h2, u + u2) := by
  obtain ⟨n1, g1⟩ := hc
  obtain ⟨n2, g2⟩ := kk
  have e1 : ((As.reverse ++ Value.ref r :: rest).take (mNp q' + 1)).reverse = .ref r :: As := by
    rw [← hAs, show As.reverse ++ Value.ref r :: rest = (As.reverse ++ [Value.ref r]) ++ rest by simp, List.take_left' (by simp)]
    simp
  have e2 : (As.reverse ++ Value.ref r :: rest).drop (mNp q' + 1) = rest := by
    rw [← hAs, show As.reverse ++ Value.ref r :: rest = (As.reverse ++ [Value.ref r]) ++ rest by simp, List.drop_left' (by simp)]
  refine ⟨max n1 n2 + 1, ?_⟩
  unfold aEx
  rw [he]
  dsimp only
  rw [if_pos rfl, if_neg hx, hT]
  dsimp only
  rw [hs, if_neg (by decide), e1]
  dsimp only
  rw [e2, if_pos ⟨hsh, hAs, hcat, hlg⟩, aEx_le (Nat.le_max_left n1 n2) g1]
  dsimp only
  rw [if_neg (fun z => z.elim (fun z => z hh') hy), if_neg (by rw [hh]; decide), hz]
  dsimp only
  rw [if_pos rfl, aEx_le (Nat.le_max_right n1 n2) g2]
/-- a call under a handler -/
theorem ev_callC {F : aRs} {K : Option Value → aT → aRs} {J : aT → aRs} {z : Nat × Nat × Nat × Nat × Nat × Nat} {L' : List (Nat × Value)} (hr : cC F K J = some r) (hF : F = ev d q' 0 (lv_args 0 (.ref c :: As)) [] s) (he : (mCd q)[k]? = some (pc, .invokevirtual i, 3, x, y)) (hx : Nat.blt x 900 = true) (hT : aTB x = some q') (hs : mSt q' = false) (hAs : As.length = mNp q') (hsh : aSh0 c = some (.inr (y % 100))) (hcat : Nat.ble (aCat rest) 8 = true) (hlg : Nat.ble (lg_sl (.ref c :: As)).length (mL q') = true) (hh' : (mHs q').isEmpty = true) (hy : Nat.blt y 100 = true) (hh : (mHs q).isEmpty = false) (hz : aHd (mHs q) pc = some z) (hL : L.filter (fun w => !(w.1 == z.2.2.2.2.2) && !(w.1 + 1 == z.2.2.2.2.2 && w.2.category == 2)) = L')
    (kk : ∀ rv s1, K rv s1 = some r → ev (d + 1) q (k + 1) L (rv.toList ++ rest) s1 = some r) (kj : ∀ s1, J s1 = some r → ev (d + 1) q (z.2.2.2.2.1 + 1) L' [] s1 = some r) : ev (d + 1) q k L (As.reverse ++ .ref c :: rest) s = some r := by
  have hx' : ¬ 900 ≤ x := by have := Nat.le_of_ble_eq_true hx; omega
  have hy' : ¬ 100 ≤ y := by have := Nat.le_of_ble_eq_true hy; omega
  subst hL
  unfold cC at hr
  split at hr
  · rename_i rv s1
    obtain ⟨u, h1, h2⟩ := ev_get (hF.symm)
    obtain ⟨u2, h3, h4⟩ := ev_get (kk rv s1 hr)
    exact ev_of ⟨u + u2, aR_callV he hx' hT hs hAs hsh (Nat.le_of_ble_eq_true hcat) (Nat.le_of_ble_eq_true hlg) h1 h3, by rw [h4, h2]; exact Nat.add_assoc _ _ _⟩
  · rename_i s1
    obtain ⟨u, h1, h2⟩ := ev_get (hF.symm)
    obtain ⟨u2, h3, h4⟩ := ev_get (kj s1 hr)
    exact ev_of ⟨u + u2, aR_callVc he hx' hT hs hAs hsh (Nat.le_of_ble_eq_true hcat) (Nat.le_of_ble_eq_true hlg) hh' hy' hh hz h1 h3, by rw [h4, h2]; exact Nat.add_assoc _ _ _⟩
  · cases hr
theorem aR_callSt {vs : List Value} {h h1 : aH} {E u : Nat} (he : (mCd q)[k]? = some (pc, .invokestatic i, 3, x, y)) (hx : ¬ 900 ≤ x) (hT : aTB x = some q') (hs : mSt q' = true) (hvs : vs.length = mNp q') (hcat : aCat rest ≤ 8) (hlg : (lg_sl vs).length ≤ mL q') (hh' : (mHs q').isEmpty = true) (hh : (mHs q).isEmpty = true)
    (hc : aR d q' 0 (lv_args 0 vs) [] h (.inr E, h1, u)) : aR (d + 1) q k L (vs.reverse ++ rest) h (.inr E, h1, u) := by
  obtain ⟨n1, g1⟩ := hc
  have e1 : ((vs.reverse ++ rest).take (mNp q')).reverse = vs := by rw [← hvs, List.take_left' (by simp)]; simp
  have e2 : (vs.reverse ++ rest).drop (mNp q') = rest := by rw [← hvs, List.drop_left' (by simp)]
  refine ⟨n1 + 1, ?_⟩
  unfold aEx
  rw [he]
  dsimp only
  rw [if_pos rfl, if_neg hx, hT]
  dsimp only
  rw [hs, if_pos rfl, e1, e2, if_pos ⟨hvs, hcat, hlg⟩, g1]
  dsimp only
  rw [if_neg (fun z => z hh'), if_pos hh]
theorem ev_callS {vs : List Value} {F : aRs} {K : Option Value → aT → aRs} (hr : cG F K = some r) (hF : F = ev d q' 0 (lv_args 0 vs) [] s) (he : (mCd q)[k]? = some (pc, .invokestatic i, 3, x, y)) (hx : Nat.blt x 900 = true) (hT : aTB x = some q') (hs : mSt q' = true) (hAs : vs.length = mNp q') (hcat : Nat.ble (aCat rest) 8 = true) (hlg : Nat.ble (lg_sl vs).length (mL q') = true) (hh' : (mHs q').isEmpty = true) (hh : (mHs q).isEmpty = true)
    (kk : ∀ rv s1, K rv s1 = some r → ev (d + 1) q (k + 1) L (rv.toList ++ rest) s1 = some r) : ev (d + 1) q k L (vs.reverse ++ rest) s = some r := by
  have hx' : ¬ 900 ≤ x := by have := Nat.le_of_ble_eq_true hx; omega
  unfold cG at hr
  split at hr
  · rename_i rv s1
    obtain ⟨u, h1, h2⟩ := ev_get (hF.symm)
    obtain ⟨u2, h3, h4⟩ := ev_get (kk rv s1 hr)
    exact ev_of ⟨u + u2, aR_callS he hx' hT hs hAs (Nat.le_of_ble_eq_true hcat) (Nat.le_of_ble_eq_true hlg) h1 h3, by rw [h4, h2]; exact Nat.add_assoc _ _ _⟩
  · rename_i E s1
    obtain ⟨u, h1, h2⟩ := ev_get (hF.symm)
    cases hr
    exact ev_of ⟨u, aR_callSt he hx' hT hs hAs (Nat.le_of_ble_eq_true hcat) (Nat.le_of_ble_eq_true hlg) hh' hh h1, h2⟩
  · cases hr
theorem ev_callSN {vs : List Value} {F : aRs} {K : Option Value → aT → aRs} (hr : cN F K = some r) (hF : F = ev d q' 0 (lv_args 0 vs) [] s) (he : (mCd q)[k]? = some (pc, .invokestatic i, 3, x, y)) (hx : Nat.blt x 900 = true) (hT : aTB x = some q') (hs : mSt q' = true) (hAs : vs.length = mNp q') (hcat : Nat.ble (aCat rest) 8 = true) (hlg : Nat.ble (lg_sl vs).length (mL q') = true)
    (kk : ∀ rv s1, K rv s1 = some r → ev (d + 1) q (k + 1) L (rv.toList ++ rest) s1 = some r) : ev (d + 1) q k L (vs.reverse ++ rest) s = some r := by
  have hx' : ¬ 900 ≤ x := by have := Nat.le_of_ble_eq_true hx; omega
  unfold cN at hr
  split at hr
  · rename_i rv s1
    obtain ⟨u, h1, h2⟩ := ev_get (hF.symm)
    obtain ⟨u2, h3, h4⟩ := ev_get (kk rv s1 hr)
    exact ev_of ⟨u + u2, aR_callS he hx' hT hs hAs (Nat.le_of_ble_eq_true hcat) (Nat.le_of_ble_eq_true hlg) h1 h3, by rw [h4, h2]; exact Nat.add_assoc _ _ _⟩
  · cases hr
theorem ev_gC {ci : Nat} {F : aRs} (hr : gC c ci F = some r) {P : Prop} (kk : aSh0 c = some (.inr ci) → F = some r → P) : P := by
  unfold gC at hr
  split at hr
  · exact kk ‹_› hr
  · cases hr
theorem ev_kI {K : Int32 → aT → aRs} {P : Prop} {rv : Option Value} {s1 : aT} (hr : kI K rv s1 = some r) (kk : ∀ v, rv = some (.int v) → K v s1 = some r → P) : P := by
  unfold kI at hr
  split at hr
  · exact kk _ rfl hr
  · cases hr
theorem ev_kL {K : Int64 → aT → aRs} {P : Prop} {rv : Option Value} {s1 : aT} (hr : kL K rv s1 = some r) (kk : ∀ v, rv = some (.long v) → K v s1 = some r → P) : P := by
  unfold kL at hr
  split at hr
  · exact kk _ rfl hr
  · cases hr
theorem ev_kA {K : Nat → aT → aRs} {P : Prop} {rv : Option Value} {s1 : aT} (hr : kA K rv s1 = some r) (kk : ∀ v, rv = some (.ref v) → K v s1 = some r → P) : P := by
  unfold kA at hr
  split at hr
  · exact kk _ rfl hr
  · cases hr
theorem ev_kV {K : aT → aRs} {P : Prop} {rv : Option Value} {s1 : aT} (hr : kV K rv s1 = some r) (kk : rv = none → K s1 = some r → P) : P := by
  unfold kV at hr
  split at hr
  · exact kk rfl hr
  · cases hr
/-- a primitive -/
theorem aR_primV {h h2 : aH} {v : Value} {o : aOut} {u : Nat} (he : (mCd q)[k]? = some (pc, .invokevirtual i, 3, x, y)) (hx : 900 ≤ x) (hn : (As : List Value).length = aPn x) (hcat : aCat rest ≤ 8) (hd : 6 ≤ d) (hp : aPrim x As = some v) (kk : aR d q (k + 1) L (v :: rest) h (o, h2, u)) : aR d q k L (As.reverse ++ rest) h (o, h2, u) := by
  obtain ⟨n, g⟩ := kk
  have e1 : ((As.reverse ++ rest).take (aPn x)).reverse = As := by rw [← hn, List.take_left' (by simp)]; simp
  have e2 : (As.reverse ++ rest).drop (aPn x) = rest := by rw [← hn, List.drop_left' (by simp)]
  refine ⟨n + 1, ?_⟩
  unfold aEx
  rw [he]
  dsimp only
  rw [if_pos rfl, if_pos hx, e1, e2, if_pos ⟨hcat, hd⟩, hp]
  exact g
theorem aR_primS {h h2 : aH} {v : Value} {o : aOut} {u : Nat} (he : (mCd q)[k]? = some (pc, .invokestatic i, 3, x, y)) (hx : 900 ≤ x) (h20 : x ≠ 920) (hn : (As : List Value).length = aPn x) (hcat : aCat rest ≤ 8) (hd : 6 ≤ d) (hp : aPrim x As = some v) (kk : aR d q (k + 1) L (v :: rest) h (o, h2, u)) : aR d q k L (As.reverse ++ rest) h (o, h2, u) := by
  obtain ⟨n, g⟩ := kk
  have e1 : ((As.reverse ++ rest).take (aPn x)).reverse = As := by rw [← hn, List.take_left' (by simp)]; simp
  have e2 : (As.reverse ++ rest).drop (aPn x) = rest := by rw [← hn, List.drop_left' (by simp)]
  refine ⟨n + 1, ?_⟩
  unfold aEx
  rw [he]
  dsimp only
  rw [if_pos rfl, if_pos hx, if_neg h20, e1, e2, if_pos ⟨hcat, hd⟩, hp]
  exact g
theorem ev_primV {K : Int32 → aRs} (hr : cP x As K = some r) (he : (mCd q)[k]? = some (pc, .invokevirtual i, 3, x, y)) (hx : Nat.ble 900 x = true) (hn : As.length = aPn x) (hcat : Nat.ble (aCat rest) 8 = true) (kk : ∀ v, K v = some r → ev (d + 6) q (k + 1) L (.int v :: rest) s = some r) : ev (d + 6) q k L (As.reverse ++ rest) s = some r := by
  unfold cP at hr
  split at hr
  · rename_i v hv
    obtain ⟨u, h1, h2⟩ := ev_get (kk v hr)
    exact ev_of ⟨u, aR_primV he (Nat.le_of_ble_eq_true hx) hn (Nat.le_of_ble_eq_true hcat) (by omega) hv h1, h2⟩
  · cases hr
theorem ev_primS {K : Int32 → aRs} (hr : cP x As K = some r) (he : (mCd q)[k]? = some (pc, .invokestatic i, 3, x, y)) (hx : Nat.ble 900 x = true) (h20 : Nat.beq x 920 = false) (hn : As.length = aPn x) (hcat : Nat.ble (aCat rest) 8 = true) (kk : ∀ v, K v = some r → ev (d + 6) q (k + 1) L (.int v :: rest) s = some r) : ev (d + 6) q k L (As.reverse ++ rest) s = some r := by
  unfold cP at hr
  split at hr
  · rename_i v hv
    obtain ⟨u, h1, h2⟩ := ev_get (kk v hr)
    exact ev_of ⟨u, aR_primS he (Nat.le_of_ble_eq_true hx) (fun e => by subst e; cases h20) hn (Nat.le_of_ble_eq_true hcat) (by omega) hv h1, h2⟩
  · cases hr
theorem ev_primQ {K : Int64 → aRs} (hr : cQ x As K = some r) (he : (mCd q)[k]? = some (pc, .invokestatic i, 3, x, y)) (hx : Nat.ble 900 x = true) (h20 : Nat.beq x 920 = false) (hn : As.length = aPn x) (hcat : Nat.ble (aCat rest) 8 = true) (kk : ∀ v, K v = some r → ev (d + 6) q (k + 1) L (.long v :: rest) s = some r) : ev (d + 6) q k L (As.reverse ++ rest) s = some r := by
  unfold cQ at hr
  split at hr
  · rename_i v hv
    obtain ⟨u, h1, h2⟩ := ev_get (kk v hr)
    exact ev_of ⟨u, aR_primS he (Nat.le_of_ble_eq_true hx) (fun e => by subst e; cases h20) hn (Nat.le_of_ble_eq_true hcat) (by omega) hv h1, h2⟩
  · cases hr
theorem aR_copy {h h2 : aH} {o : aOut} {u a a0 n0 n1 : Nat} {sp dp n : Int32} (he : (mCd q)[k]? = some (pc, .invokestatic i, 3, 920, y)) (hs0 : aSh0 a0 = some (.inl (0, n0))) (hs1 : aSh0 a = some (.inl (0, n1))) (hg : ¬ sp < 0 ∧ ¬ dp < 0 ∧ ¬ n < 0 ∧ sp.toNatClampNeg + n.toNatClampNeg ≤ n0 ∧ dp.toNatClampNeg + n.toNatClampNeg ≤ n1 ∧ ∀ i, i < n.toNatClampNeg → fits .byte (.int (h.1 a0 (sp.toNatClampNeg + i))) = true) (hcat : aCat rest ≤ 8) (hd : 6 ≤ d) (kk : aR d q (k + 1) L rest (a1 h.1 a (va_cpy (h.1 a0) (h.1 a) sp.toNatClampNeg dp.toNatClampNeg n.toNatClampNeg), h.2.1, h.2.2) (o, h2, u)) : aR d q k L (.int n :: .int dp :: .ref a :: .int sp :: .ref a0 :: rest) h (o, h2, u) := by
  obtain ⟨m, g⟩ := kk
  refine ⟨m + 1, ?_⟩
  unfold aEx
  rw [he]
  dsimp only
  rw [if_pos rfl, if_pos (by decide), if_pos rfl]
  simp only [hs0, hs1]
  exact (if_pos ⟨hg, hcat, hd⟩).trans g
theorem ev_copy {a a0 : Nat} {sp dp n : Int32} {K : aT → aRs} (hr : cpB s a0 sp a dp n K = some r) (he : (mCd q)[k]? = some (pc, .invokestatic i, 3, 920, y)) (hs0 : aSh0 a0 = some (.inl (0, alen a0))) (hs1 : aSh0 a = some (.inl (0, alen a))) (hcat : Nat.ble (aCat rest) 8 = true) (kk : ∀ s1, K s1 = some r → ev (d + 6) q (k + 1) L rest s1 = some r) : ev (d + 6) q k L (.int n :: .int dp :: .ref a :: .int sp :: .ref a0 :: rest) s = some r := by
  unfold cpB at hr
  split at hr
  · rename_i hv
    obtain ⟨u, h1, h2⟩ := ev_get (kk _ hr)
    exact ev_of ⟨u, aR_copy he hs0 hs1 hv (Nat.le_of_ble_eq_true hcat) (by omega) h1, h2⟩
  · cases hr
/-- switches: where a number leads -/
theorem ev_tab {v : Int32} {dflt lo hi : Int} {offs : Array Int} {o : Int} {t : Nat} (he : (mCd q)[k]? = some (pc, .tableswitch dflt lo hi offs, len, x, y)) (ho : aTab dflt lo hi offs v = some o) (ht : aIx (mCd q) ((pc : Int) + o) = some t) (kk : ev d q t L st s = some r) : ev d q k L (.int v :: st) s = some r := by
  obtain ⟨u, ⟨n, h1⟩, h2⟩ := ev_get kk
  refine ev_of ⟨u, ⟨n + 1, ?_⟩, h2⟩
  unfold aEx
  rw [he]
  dsimp only
  rw [ho]
  dsimp only
  rw [ht]
  exact h1
theorem ev_look {v : Int32} {dflt : Int} {ps : Array (Int × Int)} {o : Int} {t : Nat} (he : (mCd q)[k]? = some (pc, .lookupswitch dflt ps, len, x, y)) (hp : (ps.toList.zip (ps.toList.drop 1)).all (fun (a, next) => a.1 < next.1) = true) (ho : Op.lookupswitch.offset ps.toList dflt v.toInt = o) (ht : aIx (mCd q) ((pc : Int) + o) = some t) (kk : ev d q t L st s = some r) : ev d q k L (.int v :: st) s = some r := by
  obtain ⟨u, ⟨n, h1⟩, h2⟩ := ev_get kk
  refine ev_of ⟨u, ⟨n + 1, ?_⟩, h2⟩
  unfold aEx
  rw [he]
  dsimp only
  rw [if_pos hp, ho, ht]
  exact h1
theorem ev_if {P : Prop} [Decidable P] {A B : aRs} {Q : Prop} (hr : (if P then A else B) = some r) (kt : P → A = some r → Q) (kf : ¬ P → B = some r → Q) : Q := by
  by_cases hp : P
  · rw [if_pos hp] at hr; exact kt hp hr
  · rw [if_neg hp] at hr; exact kf hp hr
theorem tab_in {dflt lo hi : Int} {offs : Array Int} {v : Int32} (h : v.toInt < lo ∨ hi < v.toInt) : aTab dflt lo hi offs v = some dflt := if_pos h
theorem i_ne {v : Int32} {w : Int32} (h : ¬ v = w) : v.toInt ≠ w.toInt := fun e => h (Int32.toInt_inj.mp e)
end EV2
