/-! the simulation, by the fuel -/
section ASim4
variable {TB : Nat → Option aMI} {sh : aSh} {fk : aFk} {nC : Nat} {kA : Nat → ClassId} {ad kS : Nat → Nat} {D : va_G}
theorem aIx_spec {cd : List aEn} {t : Int} {k : Nat} (h : aIx cd t = some k) : ∃ e, cd[k]? = some e ∧ (e.1 : Int) = t := by
  unfold aIx at h
  obtain ⟨hlt, h1, -⟩ := List.findIdx?_eq_some_iff_getElem.mp h
  exact ⟨cd[k], List.getElem?_eq_getElem hlt, by simpa using h1⟩
theorem rv_map (ad : Nat → Nat) (rv : Option Value) (rest : List Value) : (rv.map (cvA ad)).toList ++ rest.map (cvA ad) = (rv.toList ++ rest).map (cvA ad) := by cases rv <;> rfl
theorem st_split {n : Nat} {st vs : List Value} (h : (st.take n).reverse = vs) : st = vs.reverse ++ st.drop n := by
  rw [← h, List.reverse_reverse, List.take_append_drop]
theorem tab_nil {c : Code} {q : aMI} (h : c.exceptionTable.toList.map (fun h => (h.startPc, h.endPc, h.handlerPc, h.catchType)) = mHh q) (hh : mHs q = []) : c.exceptionTable.toList = [] := by
  unfold mHh at h
  rw [hh] at h
  exact List.map_eq_nil_iff.mp h
theorem hs_nil {q : aMI} (h : (mHs q).isEmpty = true) : mHs q = [] := List.isEmpty_iff.mp h
theorem am_1176 : Cond.static Lib.Math.max.name ∈ gW := gw_of (List.mem_of_getElem? (i := 1176) (by decide +kernel)) (by decide +kernel)
theorem am_1177 : Cond.code Lib.Math.max.name Lib.Math.max.code 2 (some .int) ∈ gW := gw_of (List.mem_of_getElem? (i := 1177) (by decide +kernel)) (by decide +kernel)
theorem am_1294 : Cond.static Lib.MathLoose.abs_long.x ∈ gW := gw_of (List.mem_of_getElem? (i := 1294) (by decide +kernel)) (by decide +kernel)
theorem am_1295 : Cond.code Lib.MathLoose.abs_long.x Lib.MathLoose.abs_long.code 2 (some .long) ∈ gW := gw_of (List.mem_of_getElem? (i := 1295) (by decide +kernel)) (by decide +kernel)
section APrim
variable {p : Program} {l : Launch} {e : Env} {R : Room} {s : State} {m : MethodId} {args : Array Value} {below : List Frame} {meth : Method} {c : Code} {H : Heap} {locs : List Loc} {cells slots : Nat} {Q : State → Prop}
variable {cc : ByteArray} {pc nL : Nat} {ls : Array Slot} {rest : List Value} {A : Nat → Prop} {W0 : va_W}
theorem xa_strlen {own : String} {i j : Nat} (hlk : Cond.methodLink own i ⟨"java/lang/String", "length", "()I"⟩ ∈ gW) (hj : j < 80) (hx : p.tables.exec = Jvm.exec) (hb : c.code = cc) (hml : c.maxLocals = nL) (hls : ls.size = nL) (hown : s.vm.findClass own = some m.cls) (hg : ∀ w ∈ gW, w.before args s = true) (hK : va_K D vC (tK kA) s) (hN : xN s) (hC : xC kS A s s.heap) (hP : va_P D vC W0 H) (hD : va_D A W0) (hS : va_S A s.heap H locs) (hA : ∀ q, s.heap.size ≤ q → A q)
    (hf : 12 ≤ R.frames) (hlo : 442 ≤ R.locals) (hc : cells ≤ R.cells) (hs : slots ≤ R.slots) (hr : (rest.map fun v => v.category).sum ≤ 8) (hd : decode cc pc = .ok (.invokevirtual i, 3))
    (kk : W p l e R s m args below meth c H locs cells slots Q (F0 m (pc + 3) ls (.int (nI (sL j)) :: rest))) : W p l e R s m args below meth c H locs cells slots Q (F0 m pc ls (.ref (kS j) :: rest)) := by
  refine xc_pi (va_runV (As := []) (rest := rest) ⟨hx, hb, hml, hown, hg⟩ (p_Str_length l D kA kS H.size j hj) (cwV 0 hg (xg_V hlk mw_630 mw_631 mw_21 mw_632) rfl rfl rfl (by decide +kernel) ⟨by show 1 + 1 ≤ R.frames; omega, by show 8 + (1 + 11) + 20 ≤ R.locals; omega⟩) (xs_preV hK hN hC hP hD hS hA hj) rfl rfl hls rfl (lv_room hr) hd ⟨hc, hs⟩) (fun r hw => ?_)
  subst hw
  exact kk
theorem xa_charAt {own : String} {i j : Nat} {v : Int32} (hlk : Cond.methodLink own i ⟨"java/lang/String", "charAt", "(I)C"⟩ ∈ gW) (hj : j < 80) (hv : ¬ v < 0) (hv2 : v.toNatClampNeg < sL j) (hx : p.tables.exec = Jvm.exec) (hb : c.code = cc) (hml : c.maxLocals = nL) (hls : ls.size = nL) (hown : s.vm.findClass own = some m.cls) (hg : ∀ w ∈ gW, w.before args s = true) (hK : va_K D vC (tK kA) s) (hN : xN s) (hC : xC kS A s s.heap) (hP : va_P D vC W0 H) (hD : va_D A W0) (hS : va_S A s.heap H locs) (hA : ∀ q, s.heap.size ≤ q → A q)
    (hf : 12 ≤ R.frames) (hlo : 442 ≤ R.locals) (hc : cells ≤ R.cells) (hs : slots ≤ R.slots) (hr : (rest.map fun v => v.category).sum ≤ 8) (hd : decode cc pc = .ok (.invokevirtual i, 3))
    (kk : W p l e R s m args below meth c H locs cells slots Q (F0 m (pc + 3) ls (.int (sB j v.toNatClampNeg) :: rest))) : W p l e R s m args below meth c H locs cells slots Q (F0 m pc ls (.int v :: .ref (kS j) :: rest)) := by
  obtain ⟨w, hw, rfl⟩ := nI_of hv
  rw [nI_clamp hw] at hv2 kk
  refine xc_pi (va_runV (As := [.int (nI w)]) (rest := rest) ⟨hx, hb, hml, hown, hg⟩ (p_Str_charAt l D kA kS H.size j hj w hv2) (cwV 1 hg (xg_V hlk mw_640 mw_641 mw_21 mw_642) rfl rfl rfl (by decide +kernel) ⟨by show 3 + 1 ≤ R.frames; omega, by show 8 + (2 + 11) + 64 ≤ R.locals; omega⟩) (xs_preV hK hN hC hP hD hS hA hj) rfl rfl hls rfl (lv_room hr) hd ⟨hc, hs⟩) (fun r hw => ?_)
  subst hw
  exact kk
theorem am_1902 : Cond.instanceMethod ⟨"java/lang/String", "indexOf", "(I)I"⟩ ∈ gW := gw_of (List.mem_of_getElem? (i := 1902) (by decide +kernel)) (by decide +kernel)
theorem am_1903 : Cond.selects "java/lang/String" ⟨"java/lang/String", "indexOf", "(I)I"⟩ ⟨"java/lang/String", "indexOf", "(I)I"⟩ ∈ gW := gw_of (List.mem_of_getElem? (i := 1903) (by decide +kernel)) (by decide +kernel)
theorem xa_indexOf {own : String} {i j : Nat} {v : Int32} (hlk : Cond.methodLink own i ⟨"java/lang/String", "indexOf", "(I)I"⟩ ∈ gW) (hj : j < 80) (hL0 : 0 < sL j) (hv : ¬ v < 0) (hv2 : v < 128) (hx : p.tables.exec = Jvm.exec) (hb : c.code = cc) (hml : c.maxLocals = nL) (hls : ls.size = nL) (hown : s.vm.findClass own = some m.cls) (hg : ∀ w ∈ gW, w.before args s = true) (hK : va_K D vC (tK kA) s) (hN : xN s) (hC : xC kS A s s.heap) (hP : va_P D vC W0 H) (hD : va_D A W0) (hS : va_S A s.heap H locs) (hA : ∀ q, s.heap.size ≤ q → A q)
    (hf : 12 ≤ R.frames) (hlo : 442 ≤ R.locals) (hc : cells ≤ R.cells) (hs : slots ≤ R.slots) (hr : (rest.map fun v => v.category).sum ≤ 8) (hd : decode cc pc = .ok (.invokevirtual i, 3))
    (kk : W p l e R s m args below meth c H locs cells slots Q (F0 m (pc + 3) ls (.int (sIx j v (sL j) 0) :: rest))) : W p l e R s m args below meth c H locs cells slots Q (F0 m pc ls (.int v :: .ref (kS j) :: rest)) := by
  refine xc_pi (va_runV (As := [.int v]) (rest := rest) ⟨hx, hb, hml, hown, hg⟩ (p_Str_indexOf l D kA kS H.size j hj v hv hv2 hL0) (cwV 1 hg (xg_V hlk am_1902 am_1903 mw_21 mw_1904) rfl rfl rfl (by decide +kernel) ⟨by show 3 + 1 ≤ R.frames; omega, by show 8 + (2 + 11) + 70 ≤ R.locals; omega⟩) (xs_preV hK hN hC hP hD hS hA hj) rfl rfl hls rfl (lv_room hr) hd ⟨hc, hs⟩) (fun r hw => ?_)
  subst hw
  exact kk
theorem am_804 : Cond.native arraycopyName ∈ gW := gw_of (List.mem_of_getElem? (i := 804) (by decide +kernel)) (by decide +kernel)
theorem am_803 : Cond.static arraycopyName ∈ gW := gw_of (List.mem_of_getElem? (i := 803) (by decide +kernel)) (by decide +kernel)
theorem am_25 : Cond.initialized "java/lang/System" ∈ gW := gw_of (List.mem_of_getElem? (i := 25) (by decide +kernel)) (by decide +kernel)
end APrim
set_option maxHeartbeats 16000000 in
set_option maxRecDepth 100000 in
theorem aSB_all (hcl : clF) (hsh : ∀ k z, sh k = some z → k < nC) (hst : ∀ j, ad (1000 + j) = kS j) (hTB : ∀ x q, TB x = some q → mF TB sh fk q) : ∀ n, aSB TB sh fk nC kA ad kS D n := by
  intro n
  induction n with
  | zero =>
    intro d q k L st h o h' u hx
    simp [aEx] at hx
  | succ n SB =>
    intro d q k L st h o h' u hrun hq p l e R s m args below meth c A hctx H locs ls cells slots pc hpc hP hD hS hl hRf hRl hRc hRs
    obtain ⟨hfl, hx, hb, hml, hr, hown, hg, hlocks, htab, hK, hN, hC, hA⟩ := id hctx
    unfold aEx at hrun
    split at hrun
    · cases hrun
    · rename_i oe pc9 ins len x y he
      obtain rfl : pc9 = pc := hpc _ he
      obtain ⟨fd, ff, fn, fj, fc⟩ := hq.2.2.2.2.2.2.2.2.2 k _ he
      dsimp only at fd ff fn fj
      split at hrun
      · split at hrun
        · rename_i hlen
          subst hlen
          split at hrun
          · split at hrun
            · split at hrun
              · rename_i v oty ty hty hn
                cases hrun
                exact W.zret (ty := ty) hx hb (hr.trans hty) hn (fun t ht hW => ⟨rfl, ⟨by rw [ht]; exact hP, va_K.moved hW.alike hK, hD⟩, hS.F ht⟩) hS.2.2 fd hlocks
              · cases hrun
            · cases hrun
          · cases hrun
        · cases hrun
      · split at hrun
        · rename_i hlen
          subst hlen
          split at hrun
          · split at hrun
            · rename_i v hty
              cases hrun
              exact W.lret hx hb (hr.trans hty) (fun t ht hW => ⟨rfl, ⟨by rw [ht]; exact hP, va_K.moved hW.alike hK, hD⟩, hS.F ht⟩) hS.2.2 fd hlocks
            · cases hrun
          · cases hrun
        · cases hrun
      · split at hrun
        · rename_i hlen
          subst hlen
          split at hrun
          · split at hrun
            · rename_i v oty ob hty
              cases hrun
              exact W.aret hx hb (hr.trans hty) (Or.inl ⟨_, rfl⟩) (Or.inr ⟨_, rfl⟩) (fun t ht hW => ⟨rfl, ⟨by rw [ht]; exact hP, va_K.moved hW.alike hK, hD⟩, hS.F ht⟩) hS.2.2 fd hlocks
            · cases hrun
          · cases hrun
        · cases hrun
      · split at hrun
        · rename_i hlen
          subst hlen
          split at hrun
          · split at hrun
            · rename_i hty
              cases hrun
              exact W.vret hx hb (hr.trans hty) (fun t ht hW => ⟨rfl, ⟨by rw [ht]; exact hP, va_K.moved hW.alike hK, hD⟩, hS.F ht⟩) hS.2.2 fd hlocks
            · cases hrun
          · cases hrun
        · cases hrun
      · split at hrun
        · rename_i i9 h79
          obtain ⟨h7, hem⟩ := h79
          split at hrun
          · cases hrun
            have hh := hs_nil hem
            obtain ⟨hcl9, hin9, hfit, ix, ik, j, ln, li, tx, hok, hsw, d1, d2, d3⟩ := fc h7
            have hstr := hC.2.2 j _ hsw
            rcases d3 with ⟨d3, d4, d5⟩ | ⟨d3, d4, d5⟩
            · exact xt_newR (D := D) (wf := fun _ : Unit => aW sh fk nC kA ad h) (post := fun _ : Unit => True) hx hb hfl hown hfit xE_fit hok hg hN hC hcl9 hin9 hstr hml hl.1 (tab_nil htab hh) hlocks (by show 2 + 3 < R.frames; omega) (by show 1 + (13 * (2 + 1) + 42) ≤ R.locals; omega) hRc hRs d1 d2 d3 d4 d5 hK () trivial hP hD hS (fun q h => h)
            · exact xt_newRw (D := D) (wf := fun _ : Unit => aW sh fk nC kA ad h) (post := fun _ : Unit => True) hx hb hfl hown hfit xE_fit hok hg hN hC hcl9 hin9 hstr hml hl.1 (tab_nil htab hh) hlocks (by show 2 + 3 < R.frames; omega) (by show 1 + (13 * (2 + 1) + 42) ≤ R.locals; omega) hRc hRs d1 d2 d3 d4 d5 hK () trivial hP hD hS (fun q h => h)
          · cases hrun
        · cases hrun
      · split at hrun
        · split at hrun
          · split at hrun
            · rename_i dflt lo hi offs v r oo off hoff ot t ht
              obtain ⟨e9, he9, hte⟩ := aIx_spec ht
              have hnext := SB d q t L r h o h' u hrun hq p l e R s m args below meth c A hctx H locs ls cells slots e9.1 (fun e he => by rw [he9] at he; cases he; rfl) hP hD hS hl hRf hRl hRc hRs
              unfold aTab at hoff
              split at hoff
              · rename_i hout
                cases hoff
                exact lv_tableOut hx hb fd hout hte.symm hnext
              · rename_i hin
                exact lv_tableIn hx hb fd (fun z => hin (Or.inl z)) (fun z => hin (Or.inr z)) hoff hte.symm hnext
            · cases hrun
          · cases hrun
        · cases hrun
      · split at hrun
        · rename_i dflt ps hsort
          split at hrun
          · split at hrun
            · rename_i v r ot t ht
              obtain ⟨e9, he9, hte⟩ := aIx_spec ht
              have hnext := SB d q t L r h o h' u hrun hq p l e R s m args below meth c A hctx H locs ls cells slots e9.1 (fun e he => by rw [he9] at he; cases he; rfl) hP hD hS hl hRf hRl hRc hRs
              exact lv_lookup hx hb fd hsort rfl hte.symm hnext
            · cases hrun
          · cases hrun
        · cases hrun
      · split at hrun
        · rename_i i9 hlen
          subst hlen
          split at hrun
          · rename_i h900
            split at hrun
            · rename_i hcd
              obtain ⟨hcat, h6⟩ := hcd
              split at hrun
              · rename_i op v hprim
                have hnext := SB d q (k + 1) L (v :: st.drop (aPn x)) h o h' u hrun hq p l e R s m args below meth c A hctx H locs ls cells slots (pc9 + 3) (fun e' he' => fn e' he') hP hD hS hl hRf hRl hRc hRs
                rcases fc with hx9 | ⟨hx9, hlk⟩ | ⟨hx9, hlk⟩ | ⟨hx9, hlk⟩ | ⟨hx9, -⟩
                · dsimp only at hx9
                  subst hx9
                  exact (aPrim_no hprim).elim
                · dsimp only at hx9
                  subst hx9
                  obtain ⟨k9, hvs, hk1, hk2, rfl⟩ := aPrim_len hprim
                  have hsp := st_split hvs
                  have hnn : ad k9 = kS (k9 - 1000) := by rw [← hst, show 1000 + (k9 - 1000) = k9 by omega]
                  have hfin := xa_strlen (rest := (st.drop (aPn 900)).map (cvA ad)) hlk (show k9 - 1000 < 80 by omega) hx hb hml hl.1 hown hg hK hN hC hP hD hS hA (by omega) (by omega) (by omega) (by omega) (by rw [aCat_map]; exact hcat) fd hnext
                  rw [← hnn] at hfin
                  refine W.eq (g2 := F0 m pc9 ls (.ref (ad k9) :: (st.drop (aPn 900)).map (cvA ad))) (congrArg (F0 m pc9 ls) ?_) hfin
                  conv => lhs; rw [hsp]
                  rfl
                · dsimp only at hx9
                  subst hx9
                  obtain ⟨k9, v9, hvs, hk1, hk2, hv1, hv2, rfl⟩ := aPrim_char hprim
                  have hsp := st_split hvs
                  have hnn : ad k9 = kS (k9 - 1000) := by rw [← hst, show 1000 + (k9 - 1000) = k9 by omega]
                  have hfin := xa_charAt (rest := (st.drop (aPn 901)).map (cvA ad)) hlk (show k9 - 1000 < 80 by omega) hv1 hv2 hx hb hml hl.1 hown hg hK hN hC hP hD hS hA (by omega) (by omega) (by omega) (by omega) (by rw [aCat_map]; exact hcat) fd hnext
                  rw [← hnn] at hfin
                  refine W.eq (g2 := F0 m pc9 ls (.int v9 :: .ref (ad k9) :: (st.drop (aPn 901)).map (cvA ad))) (congrArg (F0 m pc9 ls) ?_) hfin
                  conv => lhs; rw [hsp]
                  rfl
                · dsimp only at hx9
                  subst hx9
                  obtain ⟨k9, v9, hvs, hk1, hk2, hk3, hv1, hv2, rfl⟩ := aPrim_ix hprim
                  have hsp := st_split hvs
                  have hnn : ad k9 = kS (k9 - 1000) := by rw [← hst, show 1000 + (k9 - 1000) = k9 by omega]
                  have hfin := xa_indexOf (rest := (st.drop (aPn 902)).map (cvA ad)) hlk (show k9 - 1000 < 80 by omega) hk3 hv1 hv2 hx hb hml hl.1 hown hg hK hN hC hP hD hS hA (by omega) (by omega) (by omega) (by omega) (by rw [aCat_map]; exact hcat) fd hnext
                  rw [← hnn] at hfin
                  refine W.eq (g2 := F0 m pc9 ls (.int v9 :: .ref (ad k9) :: (st.drop (aPn 902)).map (cvA ad))) (congrArg (F0 m pc9 ls) ?_) hfin
                  conv => lhs; rw [hsp]
                  rfl
                · exact absurd h900 hx9
              · cases hrun
            · cases hrun
          · rename_i h900
            split at hrun
            · cases hrun
            · rename_i oq q' hTx
              split at hrun
              · cases hrun
              · rename_i hst9
                split at hrun
                · rename_i ol r As hrev
                  split at hrun
                  · rename_i hcd
                    obtain ⟨hrs, hAs, hcat, hlg⟩ := hcd
                    have hq' := hTB _ _ hTx
                    obtain ⟨-, hcw, hini, -, hins, ⟨hne1, hne2, hnp⟩, hmL, -⟩ := id hq'
                    obtain ⟨hinst, hsel⟩ := hins (by simpa using hst9)
                    have hkn := hsh _ _ hrs
                    have hstk : st.map (cvA ad) = (As.map (cvA ad)).reverse ++ .ref (ad r) :: (st.drop (mNp q' + 1)).map (cvA ad) := by
                      conv => lhs; rw [st_split hrev]
                      simp [cvA]
                    obtain ⟨hlk, qc, hqc, hcn⟩ : (Cond.methodLink (mY q).cls i9 (mY q') ∈ gW ∨ (mHs q' = [] ∧ 100 ≤ y ∧ ∃ host, Cond.methodLinkNest (mY q).cls i9 (mY q') host ∈ nW)) ∧ ∃ qc : vw_C, vC[y % 100]? = some qc ∧ qc.1 = (mY q').cls := by
                      rcases fc with hx9 | ⟨hx9, -⟩ | ⟨hx9, -⟩ | ⟨hx9, -⟩ | ⟨-, hf9⟩
                      · dsimp only at hx9; omega
                      · dsimp only at hx9; omega
                      · dsimp only at hx9; omega
                      · dsimp only at hx9; omega
                      · exact hf9 q' hTx
                    have hpre : PreV s H (mY q').cls (ad r) (xPre D vC (tK kA) kS ((Value.ref r :: As).map (cvA ad)) (aW sh fk nC kA ad h) H.size) (As.map (cvA ad)) := by
                      rw [← hcn]
                      exact xa_preV hK hN hC hP hD hS hA hkn hrs hqc
                    have hroom : (((st.drop (mNp q' + 1)).map (cvA ad)).map (fun v => v.category)).sum ≤ 8 := by rw [aCat_map]; exact hcat
                    have hlen9 : (As.map (cvA ad)).length = mNp q' := by rw [List.length_map]; exact hAs
                    split at hrun
                    · cases hrun
                    · rename_i d9 d'
                      have hR9 : ∀ u9, (aRm d' u9).frames + 1 ≤ R.frames ∧ 8 + (mL q' + 11) + (aRm d' u9).locals ≤ R.locals := fun u9 => ⟨by show d' + 6 + 1 ≤ R.frames; omega, by show 8 + (mL q' + 11) + (82 + 60 * d') ≤ R.locals; omega⟩
                      split at hrun
                      · rename_i oc rv h1 u1 hcal
                        split at hrun
                        · rename_i oc2 o2 h2 u2 hcont
                          cases hrun
                          have hnext : ∀ (H1 : Heap) (locs1 : List Loc), va_P D vC (aW sh fk nC kA ad h1) H1 → va_D A (aW sh fk nC kA ad h1) → va_S A s.heap H1 locs1 → W p l e R s m args below meth c H1 locs1 (cells + u1) (slots + 6 * u1) (aEnd D kA ad (aW sh fk nC kA ad h') A below args s (cells + (u1 + u2)) (slots + 6 * (u1 + u2)) o) (F0 m (pc9 + 3) ls ((rv.map (cvA ad)).toList ++ (st.drop (mNp q' + 1)).map (cvA ad))) := fun H1 locs1 hP1 hD1 hS1 => by
                            have hfin := SB (d' + 1) q (k + 1) L _ h1 o h' u2 hcont hq p l e R s m args below meth c A hctx H1 locs1 ls (cells + u1) (slots + 6 * u1) (pc9 + 3) (fun e' he' => fn e' he') hP1 hD1 hS1 hl hRf hRl (by omega) (by omega)
                            rw [show cells + u1 + u2 = cells + (u1 + u2) by omega, show slots + 6 * u1 + 6 * u2 = slots + 6 * (u1 + u2) by omega] at hfin
                            rw [rv_map]
                            exact hfin
                          rcases hlk with hlk | ⟨hh, -, host, hlk⟩
                          · rcases hcw with ⟨hh, hcw⟩ | ⟨hh, hcw⟩
                            · exact xa_ret (va_runV (As := As.map (cvA ad)) ⟨hx, hb, hml, hown, hg⟩ (met_of SB hfl H.size hq' hcal hlg hh) (cwV (mNp q') hg (xg_V hlk hinst hsel hini hcw) rfl rfl rfl ⟨rfl, hne1, hne2, hnp⟩ (hR9 u1)) hpre rfl hlen9 hl.1 hstk (lv_room hroom) fd ⟨by omega, by omega⟩) hD hS hA hnext
                            · exact xa_ret (xt_runVW (As := As.map (cvA ad)) ⟨hx, hb, hml, hown, hg⟩ (met_ofH SB hfl H.size hq' hcal hlg) hlk hinst hsel hini hcw rfl rfl ⟨hne1, hne2, hnp⟩ (hR9 u1) hpre rfl hlen9 hl.1 hstk (lv_room hroom) fd ⟨by omega, by omega⟩) hD hS hA hnext
                          · rcases hcw with ⟨-, hcw⟩ | ⟨hh2, -⟩
                            · exact xa_ret (va_runVN (As := As.map (cvA ad)) ⟨hx, hb, hml, hown, hg⟩ (met_of SB hfl H.size hq' hcal hlg hh) ⟨va_cnB (mNp q') hg (xg_w hcw) rfl rfl rfl (hN _ hlk) (hg _ hini) ⟨hne1, hne2, hnp⟩ (hR9 u1), hg _ hinst, hg _ hsel⟩ hpre rfl hlen9 hl.1 hstk (lv_room hroom) fd ⟨by omega, by omega⟩) hD hS hA hnext
                            · exact absurd hh hh2
                        · cases hrun
                      · rename_i oc E h1 u1 hcal
                        split at hrun
                        · cases hrun
                        · rename_i hno9
                          have hh : mHs q' = [] := hs_nil (by
                            cases hz : (mHs q').isEmpty with
                            | true => rfl
                            | false => exact absurd (Or.inl (by simp [hz])) hno9)
                          have hlk2 : Cond.methodLink (mY q).cls i9 (mY q') ∈ gW := by
                            rcases hlk with hlk | ⟨-, h100, -⟩
                            · exact hlk
                            · exact absurd (Or.inr h100) hno9
                          have hcw2 : Cond.code (mY q') (mB q') (mL q') (mR q') ∈ gW := by
                            rcases hcw with ⟨-, hcw⟩ | ⟨hh2, -⟩
                            · exact hcw
                            · exact absurd hh hh2
                          have hru : cells + u1 ≤ R.cells ∧ slots + 6 * u1 ≤ R.slots := by
                            split at hrun
                            · cases hrun; exact ⟨hRc, hRs⟩
                            · split at hrun
                              · split at hrun
                                · split at hrun
                                  · cases hrun; exact ⟨by omega, by omega⟩
                                  · cases hrun
                                · cases hrun
                              · cases hrun
                          have hthr := xt_runV (As := As.map (cvA ad)) (rest := (st.drop (mNp q' + 1)).map (cvA ad)) (e := e) (p := p) (below := below) (meth := meth) (locs := locs) (g := F0 m pc9 ls (st.map (cvA ad))) ⟨hx, hb, hml, hown, hg⟩ (xmet_of SB hfl H.size hq' hcal hlg hh) (cwV (mNp q') hg (xg_V hlk2 hinst hsel hini hcw2) rfl rfl rfl ⟨rfl, hne1, hne2, hnp⟩ (hR9 u1)) hpre rfl hlen9 hl.1 hstk (lv_room hroom) fd hru
                          split at hrun
                          · rename_i hqe
                            cases hrun
                            exact xa_out hthr hK hD hS hA (tab_nil htab (hs_nil hqe)) hlocks
                          · split at hrun
                            · rename_i oz z hz
                              split at hrun
                              · rename_i hE0
                                subst hE0
                                split at hrun
                                · rename_i oc2 o2 h2 u2 hcont
                                  cases hrun
                                  have hzm : z ∈ mHs q := List.mem_of_find?_eq_some hz
                                  obtain ⟨-, -, -, hlt, ln, hdec, hnx⟩ := hq.2.2.2.2.2.2.2.2.1 z hzm
                                  refine xa_cat hthr hD hS hA (aHd_lead hown hg hN _ _ (by unfold mHh at htab; exact htab) hq.2.2.2.2.2.2.2.2.1 z hz) (fun x9 H1 locs1 hP1 hD1 hS1 => ?_)
                                  have hnext : ∀ ls : Array Slot, lv_has ls (mL q) ((z.2.2.2.2.2, Value.ref x9) :: (cvL ad L).filter (fun q => !(q.1 == z.2.2.2.2.2) && !(q.1 + 1 == z.2.2.2.2.2 && q.2.category == 2))) → W p l e R s m args below meth c H1 locs1 (cells + u1) (slots + 6 * u1) (aEnd D kA ad (aW sh fk nC kA ad h') A below args s (cells + (u1 + u2)) (slots + 6 * (u1 + u2)) o) (F0 m (z.2.2.1 + ln) ls []) := fun ls hl9 => by
                                    have hl8 : lv_has ls (mL q) (cvL ad (L.filter (fun w => !(w.1 == z.2.2.2.2.2) && !(w.1 + 1 == z.2.2.2.2.2 && w.2.category == 2)))) := by
                                      have hm := aSt1_map ad L z.2.2.2.2.2 .null
                                      unfold aSt1 at hm
                                      have hm2 : cvL ad (L.filter (fun w => !(w.1 == z.2.2.2.2.2) && !(w.1 + 1 == z.2.2.2.2.2 && w.2.category == 2))) = (cvL ad L).filter (fun q => !(q.1 == z.2.2.2.2.2) && !(q.1 + 1 == z.2.2.2.2.2 && q.2.category == 2)) := (List.cons.inj hm).2
                                      rw [hm2]
                                      exact ⟨hl9.1, hl9.2.1, fun w hw => hl9.2.2 w (List.mem_cons_of_mem _ hw)⟩
                                    have hfin := SB (d' + 1) q (z.2.2.2.2.1 + 1) _ [] h1 o h' u2 hcont hq p l e R s m args below meth c A hctx H1 locs1 ls (cells + u1) (slots + 6 * u1) (z.2.2.1 + ln) (fun e' he' => hnx e' he') hP1 hD1 hS1 hl8 hRf hRl (by omega) (by omega)
                                    rw [show cells + u1 + u2 = cells + (u1 + u2) by omega, show slots + 6 * u1 + 6 * u2 = slots + 6 * (u1 + u2) by omega] at hfin
                                    exact hfin
                                  rcases hdec with ⟨hdec, rfl⟩ | ⟨w, hdec, hw, rfl⟩
                                  · exact lv_astore hx hb hdec hl hlt rfl hnext
                                  · exact lv_astore_n hx hb hdec hw hl hlt rfl hnext
                                · cases hrun
                              · cases hrun
                            · cases hrun
                      · cases hrun
                  · cases hrun
                · cases hrun
        · cases hrun
      · split at hrun
        · rename_i i9 hlen
          subst hlen
          split at hrun
          · rename_i h900
            split at hrun
            · rename_i h920
              subst h920
              split at hrun
              · rename_i st9 m9 dp a9 sp a0 r9
                split at hrun
                · rename_i n0 n1 hs0 hs1
                  split at hrun
                  · rename_i hcd
                    obtain ⟨⟨g1, g2, g3, g4, g5, g6⟩, hcat, h6⟩ := hcd
                    have hkn0 := hsh _ _ hs0
                    have hkn1 := hsh _ _ hs1
                    have hlk : Cond.methodLink (mY q).cls i9 arraycopyName ∈ gW := by
                      rcases fc with hx9 | ⟨hx9, hlk⟩ | ⟨hx9, hlk⟩ | ⟨hx9, hlk⟩ | ⟨hx9, hlk⟩ | ⟨hx9, -⟩
                      · dsimp only at hx9; omega
                      · dsimp only at hx9; omega
                      · dsimp only at hx9; omega
                      · dsimp only at hx9; omega
                      · exact hlk
                      · exact absurd h900 hx9
                    have hcell0 : (aW sh fk nC kA ad h)[a0]? = some (ad a0, .inl (kA 0, n0, .inl (h.1 a0))) := by rw [aW_get hkn0]; unfold aCell; rw [hs0]; rfl
                    have hcell1 : (aW sh fk nC kA ad h)[a9]? = some (ad a9, .inl (kA 0, n1, .inl (h.1 a9))) := by rw [aW_get hkn1]; unfold aCell; rw [hs1]; rfl
                    have hnf : nativeFrameWords "java/lang/System" "arraycopy" 5 ≤ 60 := by decide +kernel
                    refine va_copyi (ls := ls) (rest := r9.map (cvA ad)) hx hb (by rw [hml]; exact hl.1.symm) hown (hg _ hlk) (hg _ am_804) (hg _ am_803) (hg _ am_25) hK hP hD hS a0 a9 0 0 hcell0 hcell1 rfl rfl rfl g1 g2 g3 g4 g5 g6 (by omega) (by rw [aCat_map]; omega) fd (fun H1 locs1 hP1 hD1 hS1 => ?_)
                    rw [aW_set (h' := (a1 h.1 a9 (va_cpy (h.1 a0) (h.1 a9) sp.toNatClampNeg dp.toNatClampNeg m9.toNatClampNeg), h.2.1, h.2.2)) hkn1 (by unfold aCell; rw [hs1]; exact congrArg (fun z => Sum.inl (kA 0, n1, Sum.inl z)) (if_pos rfl)) (fun j hj => aCell_ne (if_neg hj) rfl rfl)] at hP1 hD1
                    exact SB d q (k + 1) L r9 _ o h' u hrun hq p l e R s m args below meth c A hctx H1 locs1 ls cells slots (pc9 + 3) (fun e' he' => fn e' he') hP1 hD1 hS1 hl hRf hRl hRc hRs
                  · cases hrun
                · cases hrun
              · cases hrun
            · rename_i h920
              split at hrun
              · rename_i hcd
                obtain ⟨hcat, h6⟩ := hcd
                split at hrun
                · rename_i op v hprim
                  have hnext := SB d q (k + 1) L (v :: st.drop (aPn x)) h o h' u hrun hq p l e R s m args below meth c A hctx H locs ls cells slots (pc9 + 3) (fun e' he' => fn e' he') hP hD hS hl hRf hRl hRc hRs
                  rcases fc with hx9 | ⟨hx9, hlk⟩ | ⟨hx9, hlk⟩ | ⟨hx9, hlk⟩ | ⟨hx9, -⟩ | ⟨hx9, -⟩
                  · dsimp only at hx9
                    subst hx9
                    exact (aPrim_no hprim).elim
                  · dsimp only at hx9
                    subst hx9
                    obtain ⟨a9, b9, hvs, rfl⟩ := aPrim_min hprim
                    have hsp := st_split hvs
                    have hfin := va_mmin (rest := (st.drop (aPn 910)).map (cvA ad)) (ls := ls) (x := a9) (y := b9) hx hb (by rw [hml]; exact hl.1.symm) hown (hg _ hlk) (hg _ mw_548) (hg _ mw_20) (hg _ mw_549) (by omega) (by rw [aCat_map]; omega) (by omega) (by omega) fd hnext
                    refine W.eq (g2 := F0 m pc9 ls (.int b9 :: .int a9 :: (st.drop (aPn 910)).map (cvA ad))) (congrArg (F0 m pc9 ls) ?_) hfin
                    conv => lhs; rw [hsp]
                    rfl
                  · dsimp only at hx9
                    subst hx9
                    obtain ⟨a9, b9, hvs, rfl⟩ := aPrim_max hprim
                    have hsp := st_split hvs
                    have hfin := va_mmax (rest := (st.drop (aPn 911)).map (cvA ad)) (ls := ls) (x := a9) (y := b9) hx hb (by rw [hml]; exact hl.1.symm) hown (hg _ hlk) (hg _ am_1176) (hg _ mw_20) (hg _ am_1177) (by omega) (by rw [aCat_map]; omega) (by omega) (by omega) fd hnext
                    refine W.eq (g2 := F0 m pc9 ls (.int b9 :: .int a9 :: (st.drop (aPn 911)).map (cvA ad))) (congrArg (F0 m pc9 ls) ?_) hfin
                    conv => lhs; rw [hsp]
                    rfl
                  · dsimp only at hx9
                    subst hx9
                    obtain ⟨a9, hvs, rfl⟩ := aPrim_abs hprim
                    have hsp := st_split hvs
                    have hfin := va_mabs_long (rest := (st.drop (aPn 912)).map (cvA ad)) (ls := ls) (x := a9) hx hb (by rw [hml]; exact hl.1.symm) hown (hg _ hlk) (hg _ am_1294) (hg _ mw_20) (hg _ am_1295) (by omega) (by rw [aCat_map]; omega) (by omega) (by omega) fd hnext
                    refine W.eq (g2 := F0 m pc9 ls (.long a9 :: (st.drop (aPn 912)).map (cvA ad))) (congrArg (F0 m pc9 ls) ?_) hfin
                    conv => lhs; rw [hsp]
                    rfl
                  · exact absurd hx9 h920
                  · exact absurd h900 hx9
                · cases hrun
              · cases hrun
          · rename_i h900
            split at hrun
            · cases hrun
            · rename_i oq q' hTx
              split at hrun
              · rename_i hst9
                split at hrun
                · rename_i hcd
                  obtain ⟨hAs, hcat, hlg⟩ := hcd
                  have hq' := hTB _ _ hTx
                  obtain ⟨-, hcw, hini, hsta, -, ⟨hne1, hne2, hnp⟩, hmL, -⟩ := id hq'
                  have hstat := hsta hst9
                  have hstk : st.map (cvA ad) = (((st.take (mNp q')).reverse).map (cvA ad)).reverse ++ (st.drop (mNp q')).map (cvA ad) := by
                    rw [List.map_reverse, List.reverse_reverse, ← List.map_append, List.take_append_drop]
                  obtain ⟨hlk, hh⟩ : Cond.methodLink (mY q).cls i9 (mY q') ∈ gW ∧ mHs q' = [] := by
                    rcases fc with hx9 | ⟨hx9, -⟩ | ⟨hx9, -⟩ | ⟨hx9, -⟩ | ⟨hx9, -⟩ | ⟨-, hf9⟩
                    · dsimp only at hx9; omega
                    · dsimp only at hx9; omega
                    · dsimp only at hx9; omega
                    · dsimp only at hx9; omega
                    · dsimp only at hx9; omega
                    · exact hf9 q' hTx
                  have hpre : PreS s H (xPre D vC (tK kA) kS (((st.take (mNp q')).reverse).map (cvA ad)) (aW sh fk nC kA ad h) H.size) (((st.take (mNp q')).reverse).map (cvA ad)) := xa_pre hK hN hC hP hD hS hA
                  have hroom : (((st.drop (mNp q')).map (cvA ad)).map (fun v => v.category)).sum ≤ 8 := by rw [aCat_map]; exact hcat
                  have hlen9 : (((st.take (mNp q')).reverse).map (cvA ad)).length = mNp q' := by rw [List.length_map]; exact hAs
                  have hcw2 : Cond.code (mY q') (mB q') (mL q') (mR q') ∈ gW := by
                    rcases hcw with ⟨-, hcw⟩ | ⟨hh2, -⟩
                    · exact hcw
                    · exact absurd hh hh2
                  split at hrun
                  · cases hrun
                  · rename_i d9 d'
                    have hR9 : ∀ u9, (aRm d' u9).frames + 1 ≤ R.frames ∧ 8 + (mL q' + 11) + (aRm d' u9).locals ≤ R.locals := fun u9 => ⟨by show d' + 6 + 1 ≤ R.frames; omega, by show 8 + (mL q' + 11) + (82 + 60 * d') ≤ R.locals; omega⟩
                    split at hrun
                    · rename_i oc rv h1 u1 hcal
                      split at hrun
                      · rename_i oc2 o2 h2 u2 hcont
                        cases hrun
                        refine xa_ret (va_runS (As := ((st.take (mNp q')).reverse).map (cvA ad)) ⟨hx, hb, hml, hown, hg⟩ (met_of SB hfl H.size hq' hcal hlg hh) (va_cwS (mNp q') hg (xg_S2 hlk hstat hini hcw2) rfl rfl rfl ⟨hne1, hne2, hnp⟩ (hR9 u1)) hpre rfl hlen9 hl.1 hstk (lv_room hroom) fd ⟨by omega, by omega⟩) hD hS hA (fun H1 locs1 hP1 hD1 hS1 => ?_)
                        have hfin := SB (d' + 1) q (k + 1) L _ h1 o h' u2 hcont hq p l e R s m args below meth c A hctx H1 locs1 ls (cells + u1) (slots + 6 * u1) (pc9 + 3) (fun e' he' => fn e' he') hP1 hD1 hS1 hl hRf hRl (by omega) (by omega)
                        rw [show cells + u1 + u2 = cells + (u1 + u2) by omega, show slots + 6 * u1 + 6 * u2 = slots + 6 * (u1 + u2) by omega] at hfin
                        rw [rv_map]
                        exact hfin
                      · cases hrun
                    · rename_i oc E h1 u1 hcal
                      split at hrun
                      · cases hrun
                      · split at hrun
                        · rename_i hqe
                          cases hrun
                          exact xa_out (xt_runS (As := ((st.take (mNp q')).reverse).map (cvA ad)) ⟨hx, hb, hml, hown, hg⟩ (xmet_of SB hfl H.size hq' hcal hlg hh) (va_cwS (mNp q') hg (xg_S2 hlk hstat hini hcw2) rfl rfl rfl ⟨hne1, hne2, hnp⟩ (hR9 _)) hpre rfl hlen9 hl.1 hstk (lv_room hroom) fd ⟨hRc, hRs⟩) hK hD hS hA (tab_nil htab (hs_nil hqe)) hlocks
                        · cases hrun
                    · cases hrun
                · cases hrun
              · cases hrun
        · cases hrun
      · split at hrun
        · rename_i b L1 st1 h1 hs1
          refine sim1 (own := (mY q).cls) (tgt := ((mCd q)[x]?.map (·.1)).getD 0) hcl hsh hst hx hb hown hg hK hN hC hP hD hS fd ff hl (fun off hj => ?_) hs1 (fun H locs ls hP hD hS hl => ?_)
          · obtain ⟨e', h1, h2⟩ := fj off hj
            rw [h1]
            exact h2
          · refine SB d q (if b then x else k + 1) L1 st1 h1 o h' u hrun hq p l e R s m args below meth c A hctx H locs ls cells slots _ (fun e' he' => ?_) hP hD hS hl hRf hRl hRc hRs
            cases b with
            | true =>
              rw [if_pos rfl] at he' ⊢
              rw [he']
              rfl
            | false =>
              exact fn e' he'
        · cases hrun
end ASim4
