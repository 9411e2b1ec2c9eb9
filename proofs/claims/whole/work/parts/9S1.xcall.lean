/-! the law's calls over the machine's whole world -/
abbrev aV (kA : Nat → ClassId) (ad : Nat → Nat) (t : aT) : va_W := aW aSh0 aFk0 150 kA ad (toH t)
/-- what the simulation gives -/
def xSim (kA : Nat → ClassId) (ad kS : Nat → Nat) (D : va_G) : Prop := (∀ n, aSB aTB aSh0 aFk0 150 kA ad kS D n) ∧ ∀ x q, aTB x = some q → mF aTB aSh0 aFk0 q
theorem ev_u0 {d x : Nat} {q : aMI} (hx : x < 187) (hq : aTB x = some q) {k : Nat} {L : List (Nat × Value)} {st : List Value} {s s' : aT} {rv : Option Value} (h : ev d q k L st s = some (.inl rv, s')) : s'.2.2.2 ≤ s.2.2.2 + 0 := by
  obtain ⟨u, h1, h2⟩ := ev_get h
  obtain ⟨n, h3⟩ := id h1
  have h4 : u = 0 := aEx_u lkOk_T n d q k L st _ _ _ _ (lkOk_T x q hx hq) h3
  rw [h2, h4]
  exact Nat.le_refl _
section XCall
variable {kA : Nat → ClassId} {ad : Nat → Nat}
variable {p : Program} {l : Launch} {e : Env} {R : Room} {s : State} {m : MethodId} {args : Array Value} {below : List Frame} {meth : Method} {c : Code} {H : Heap} {locs : List Loc} {cells slots : Nat} {Q : State → Prop}
variable {cc : ByteArray} {pc nL : Nat} {ls : Array Slot} {rest st0 : List Value} {D : va_G} {kS : Nat → Nat} {A : Nat → Prop} {own : String}
set_option maxHeartbeats 4000000 in
/-- a call that answers -/
theorem xa_call (SIM : xSim kA ad kS D) (hfl : l.flags = flags0) (hx : p.tables.exec = Jvm.exec) (hb : c.code = cc) (hml : c.maxLocals = nL) (hown : s.vm.findClass own = some m.cls) (hg : ∀ w ∈ gW, w.before args s = true) {q : aMI} (x : Nat) (hT : aTB x = some q) (hnh : mHs q = []) (hns : mSt q = false) {i : Nat} (hlk : Cond.methodLink own i (mY q) ∈ gW) (r ci : Nat) {qc : vw_C} (hr : r < 150) (hsr : aSh0 r = some (.inr ci)) (hqc : vC[ci]? = some qc) (hcn : qc.1 = (mY q).cls) (As : List Value) (hAs : As.length = mNp q) (hlg : (lg_sl (.ref r :: As)).length ≤ mL q) {t t1 : aT} {rv : Option Value} (hrun : ev 150 q 0 (lv_args 0 (.ref r :: As)) [] t = some (.inl rv, t1)) (u : Nat) (hu : t1.2.2.2 ≤ t.2.2.2 + u) (hK : va_K D vC (tK kA) s) (hN : xN s) (hC : xC kS A s s.heap) (hP : va_P D vC (aV kA ad t) H) (hD : va_D A (aV kA ad t)) (hS : va_S A s.heap H locs) (hA : ∀ q, s.heap.size ≤ q → A q) (hls : ls.size = nL) (hstk : st0 = (As.map (cvA ad)).reverse ++ .ref (ad r) :: rest) (hroom : (rest.map (fun v => v.category)).sum ≤ 8) (fd : decode cc pc = .ok (.invokevirtual i, 3)) (hRf : 157 ≤ R.frames) (hRl : 9141 ≤ R.locals) (hRc : cells + u ≤ R.cells) (hRs : slots + 6 * u ≤ R.slots)
    (kk : ∀ (H1 : Heap) (locs1 : List Loc), va_P D vC (aV kA ad t1) H1 → va_D A (aV kA ad t1) → va_S A s.heap H1 locs1 → W p l e R s m args below meth c H1 locs1 (cells + u) (slots + 6 * u) Q (F0 m (pc + 3) ls ((rv.map (cvA ad)).toList ++ rest))) : W p l e R s m args below meth c H locs cells slots Q (F0 m pc ls st0) := by
  obtain ⟨u1, ⟨n, hcal⟩, h2⟩ := ev_get hrun
  have hq := SIM.2 x q hT
  obtain ⟨-, hcw, hini, -, hins, ⟨hne1, hne2, hnp⟩, hmL, -⟩ := id hq
  obtain ⟨hinst, hsel⟩ := hins hns
  have h2 : t1.2.2.2 = t.2.2.2 + u1 := h2
  have hle : u1 ≤ u := by omega
  have hcw : Cond.code (mY q) (mB q) (mL q) (mR q) ∈ gW := by
    rcases hcw with h | h
    · exact h.2
    · exact absurd hnh h.1
  have hpre : PreV s H (mY q).cls (ad r) (xPre D vC (tK kA) kS ((Value.ref r :: As).map (cvA ad)) (aV kA ad t) H.size) (As.map (cvA ad)) := by
    rw [← hcn]
    exact xa_preV hK hN hC hP hD hS hA hr hsr hqc
  have hlen9 : (As.map (cvA ad)).length = mNp q := by rw [List.length_map]; exact hAs
  have hR9 : (aRm 150 u1).frames + 1 ≤ R.frames ∧ 8 + (mL q + 11) + (aRm 150 u1).locals ≤ R.locals := ⟨by show 150 + 6 + 1 ≤ R.frames; omega, by show 8 + (mL q + 11) + (82 + 60 * 150) ≤ R.locals; omega⟩
  exact xa_ret (va_runV (As := As.map (cvA ad)) ⟨hx, hb, hml, hown, hg⟩ (met_of (SIM.1 n) hfl H.size hq hcal hlg hnh) (cwV (mNp q) hg (xg_V hlk hinst hsel hini hcw) rfl rfl rfl ⟨rfl, hne1, hne2, hnp⟩ hR9) hpre rfl hlen9 hls hstk (lv_room hroom) fd ⟨by omega, by omega⟩) hD hS hA (fun H1 locs1 z1 z2 z3 => W.widen (k := cells + u) (n := slots + 6 * u) (by omega) (by omega) (kk H1 locs1 z1 z2 z3))
set_option maxHeartbeats 4000000 in
/-- a call that throws, and is caught here -/
theorem xa_thr (SIM : xSim kA ad kS D) (hfl : l.flags = flags0) (hx : p.tables.exec = Jvm.exec) (hb : c.code = cc) (hml : c.maxLocals = nL) (hown : s.vm.findClass own = some m.cls) (hg : ∀ w ∈ gW, w.before args s = true) {q : aMI} (x : Nat) (hT : aTB x = some q) (hnh : mHs q = []) (hns : mSt q = false) {i : Nat} (hlk : Cond.methodLink own i (mY q) ∈ gW) (r ci : Nat) {qc : vw_C} (hr : r < 150) (hsr : aSh0 r = some (.inr ci)) (hqc : vC[ci]? = some qc) (hcn : qc.1 = (mY q).cls) (As : List Value) (hAs : As.length = mNp q) (hlg : (lg_sl (.ref r :: As)).length ≤ mL q) {t : aT} {E hpc : Nat} (hrun : ev 150 q 0 (lv_args 0 (.ref r :: As)) [] t = some (.inr E, pU t)) (hK : va_K D vC (tK kA) s) (hN : xN s) (hC : xC kS A s s.heap) (hP : va_P D vC (aV kA ad t) H) (hD : va_D A (aV kA ad t)) (hS : va_S A s.heap H locs) (hA : ∀ q, s.heap.size ≤ q → A q) (hls : ls.size = nL) (hstk : st0 = (As.map (cvA ad)).reverse ++ .ref (ad r) :: rest) (hroom : (rest.map (fun v => v.category)).sum ≤ 8) (fd : decode cc pc = .ok (.invokevirtual i, 3)) (hRf : 157 ≤ R.frames) (hRl : 9141 ≤ R.locals) (hRc : cells + 1 ≤ R.cells) (hRs : slots + 6 ≤ R.slots) (hlead : xt_Leads p l e R s m args below meth c (eN E) pc c.exceptionTable.toList hpc)
    (kk : ∀ (x : Nat) (H1 : Heap) (locs1 : List Loc), va_P D vC (aV kA ad t) H1 → va_D A (aV kA ad t) → va_S A s.heap H1 locs1 → W p l e R s m args below meth c H1 locs1 (cells + 1) (slots + 6) Q (F0 m hpc ls [.ref x])) : W p l e R s m args below meth c H locs cells slots Q (F0 m pc ls st0) := by
  obtain ⟨u1, ⟨n, hcal⟩, h2⟩ := ev_get hrun
  have h2 : t.2.2.2 + 1 = t.2.2.2 + u1 := h2
  have e1 : u1 = 1 := by omega
  subst e1
  have hq := SIM.2 x q hT
  obtain ⟨-, hcw, hini, -, hins, ⟨hne1, hne2, hnp⟩, hmL, -⟩ := id hq
  obtain ⟨hinst, hsel⟩ := hins hns
  have hcw : Cond.code (mY q) (mB q) (mL q) (mR q) ∈ gW := by
    rcases hcw with h | h
    · exact h.2
    · exact absurd hnh h.1
  have hpre : PreV s H (mY q).cls (ad r) (xPre D vC (tK kA) kS ((Value.ref r :: As).map (cvA ad)) (aV kA ad t) H.size) (As.map (cvA ad)) := by
    rw [← hcn]
    exact xa_preV hK hN hC hP hD hS hA hr hsr hqc
  have hlen9 : (As.map (cvA ad)).length = mNp q := by rw [List.length_map]; exact hAs
  have hR9 : (aRm 150 1).frames + 1 ≤ R.frames ∧ 8 + (mL q + 11) + (aRm 150 1).locals ≤ R.locals := ⟨by show 150 + 6 + 1 ≤ R.frames; omega, by show 8 + (mL q + 11) + (82 + 60 * 150) ≤ R.locals; omega⟩
  exact xa_cat (h1 := toH (pU t)) (xt_runV (As := As.map (cvA ad)) ⟨hx, hb, hml, hown, hg⟩ (xmet_of (SIM.1 n) hfl H.size hq hcal hlg hnh) (cwV (mNp q) hg (xg_V hlk hinst hsel hini hcw) rfl rfl rfl ⟨rfl, hne1, hne2, hnp⟩ hR9) hpre rfl hlen9 hls hstk (lv_room hroom) fd ⟨by omega, by omega⟩) hD hS hA hlead kk
theorem xa_preN {t : aT} {vs : List Value} (hno : xNo s) (hK : va_K D vC (tK kA) s) (hN : xN s) (hC : xC kS A s s.heap) (hP : va_P D vC (aV kA ad t) H) (hD : va_D A (aV kA ad t)) (hS : va_S A s.heap H locs) (hA : ∀ q, s.heap.size ≤ q → A q) : PreS s H (xPreN D vC (tK kA) kS vs (aV kA ad t) H.size) vs :=
  ⟨xc_blindN, fun U hU hW => ⟨(xa_pre hK hN hC hP hD hS hA).2 U hU hW, va_Nc.moved hW.alike hno⟩⟩
theorem aV_149 (t : aT) : (aV kA ad t)[149]? = some (ad 149, .inl (kA 2, 1, .inr (.inl (t.2.1 149)))) := by
  rw [aW_get (by decide)]
  rfl
/-- the answer is laid into out -/
theorem xa_last {t : aT} {v : Int64} (hx : p.tables.exec = Jvm.exec) (hb : c.code = cc) (hK : va_K D vC (tK kA) s) (hP : va_P D vC (aV kA ad t) H) (hD : va_D A (aV kA ad t)) (hS : va_S A s.heap H locs) (hdg : decode cc pc = .ok (.lastore, 1)) (kk : ∀ (H1 : Heap) (locs1 : List Loc), va_P D vC (aV kA ad (pL t 149 0 v)) H1 → va_D A (aV kA ad (pL t 149 0 v)) → va_S A s.heap H1 locs1 → W p l e R s m args below meth c H1 locs1 cells slots Q (F0 m (pc + 1) ls rest)) : W p l e R s m args below meth c H locs cells slots Q (F0 m pc ls (.long v :: .int (nI 0) :: .ref (ad 149) :: rest)) := by
  refine xb_last hx hb hK hP hD hS 149 2 (aV_149 t) rfl (by decide) (by decide) hdg (fun H1 locs1 z1 z2 z3 => ?_)
  have e : (aV kA ad t).set 149 (ad 149, .inl (kA 2, 1, .inr (.inl (vp_updL (t.2.1 149) 0 v)))) = aV kA ad (pL t 149 0 v) := by
    refine aW_set (by decide) ?_ (fun j hj => aCell_ne rfl ?_ rfl)
    · show (Sum.inl (kA 2, 1, Sum.inr (Sum.inl (a2 t.2.1 149 0 v 149))) : va_E) = _
      rw [a2_updL]
    · exact a2_ne hj
  rw [e] at z1 z2
  exact kk H1 locs1 z1 z2 z3
/-- .. and looked at -/
theorem xa_lald {t : aT} (hx : p.tables.exec = Jvm.exec) (hb : c.code = cc) (hK : va_K D vC (tK kA) s) (hP : va_P D vC (aV kA ad t) H) (hdg : decode cc pc = .ok (.laload, 1)) (kk : W p l e R s m args below meth c H locs cells slots Q (F0 m (pc + 1) ls (.long (gL t 149 0) :: rest))) : W p l e R s m args below meth c H locs cells slots Q (F0 m pc ls (.int (nI 0) :: .ref (ad 149) :: rest)) :=
  xb_lald hx hb hK hP 149 2 (aV_149 t) rfl (by decide) (by decide) hdg kk
end XCall
