/-! the simulation, by the fuel -/
section ASim4
variable {TB : Nat → Option aMI} {sh : aSh} {fk : aFk} {nC : Nat} {kA : Nat → ClassId} {ad kS : Nat → Nat} {D : va_G}
theorem aIx_spec {cd : List aEn} {t : Int} {k : Nat} (h : aIx cd t = some k) : ∃ e, cd[k]? = some e ∧ (e.1 : Int) = t := by
  unfold aIx at h
  obtain ⟨hlt, h1, -⟩ := List.findIdx?_eq_some_iff_getElem.mp h
  exact ⟨cd[k], List.getElem?_eq_getElem hlt, by simpa using h1⟩
theorem rv_map (ad : Nat → Nat) (rv : Option Value) (rest : List Value) : (rv.map (cvA ad)).toList ++ rest.map (cvA ad) = (rv.toList ++ rest).map (cvA ad) := by cases rv <;> rfl
theorem st_split {n : Nat} {st vs : List Value} (h : (st.take n).reverse = vs) : st = vs.reverse ++ st.drop n := by
  rw [← h, List.reverse_reverse, List.take_append_drop]
theorem tab_nil {c : Code} {q : aMI} (h : c.exceptionTable.toList.map (fun h => (h.startPc, h.endPc, h.handlerPc, h.catchType)) = mHh q) (hh : mHs q = []) : c.exceptionTable.toList = [] := by
  unfold mHh at h
  rw [hh] at h
  exact List.map_eq_nil_iff.mp h
theorem hs_nil {q : aMI} (h : (mHs q).isEmpty = true) : mHs q = [] := List.isEmpty_iff.mp h
set_option maxHeartbeats 16000000 in
set_option maxRecDepth 100000 in
theorem aSB_all (hcl : clF) (hsh : ∀ k z, sh k = some z → k < nC) (hst : ∀ j, ad (1000 + j) = kS j) (hTB : ∀ x q, TB x = some q → mF TB sh fk q) : ∀ n, aSB TB sh fk nC kA ad kS D n := by
  intro n
  induction n with
  | zero =>
    intro d q k L st h o h' u hx
    simp [aEx] at hx
  | succ n SB =>
    intro d q k L st h o h' u hrun hq p l e R s m args below meth c A hctx H locs ls cells slots pc hpc hP hD hS hl hRf hRl hRc hRs
    obtain ⟨hfl, hx, hb, hml, hr, hown, hg, hlocks, htab, hK, hN, hC, hA⟩ := id hctx
    unfold aEx at hrun
    split at hrun
    · cases hrun
    · rename_i oe pc9 ins len x y he
      obtain rfl : pc9 = pc := hpc _ he
      obtain ⟨fd, ff, fn, fj, fc⟩ := hq.2.2.2.2.2.2.2.2.2 k _ he
      dsimp only at fd ff fn fj
      split at hrun
      · split at hrun
        · rename_i hlen
          subst hlen
          split at hrun
          · split at hrun
            · split at hrun
              · rename_i v oty ty hty hn
                cases hrun
                exact W.zret (ty := ty) hx hb (hr.trans hty) hn (fun t ht hW => ⟨rfl, ⟨by rw [ht]; exact hP, va_K.moved hW.alike hK, hD⟩, hS.F ht⟩) hS.2.2 fd hlocks
              · cases hrun
            · cases hrun
          · cases hrun
        · cases hrun
      · split at hrun
        · rename_i hlen
          subst hlen
          split at hrun
          · split at hrun
            · rename_i v hty
              cases hrun
              exact W.lret hx hb (hr.trans hty) (fun t ht hW => ⟨rfl, ⟨by rw [ht]; exact hP, va_K.moved hW.alike hK, hD⟩, hS.F ht⟩) hS.2.2 fd hlocks
            · cases hrun
          · cases hrun
        · cases hrun
      · split at hrun
        · rename_i hlen
          subst hlen
          split at hrun
          · split at hrun
            · rename_i v oty ob hty
              cases hrun
              exact W.aret hx hb (hr.trans hty) (Or.inl ⟨_, rfl⟩) (Or.inr ⟨_, rfl⟩) (fun t ht hW => ⟨rfl, ⟨by rw [ht]; exact hP, va_K.moved hW.alike hK, hD⟩, hS.F ht⟩) hS.2.2 fd hlocks
            · cases hrun
          · cases hrun
        · cases hrun
      · split at hrun
        · rename_i hlen
          subst hlen
          split at hrun
          · split at hrun
            · rename_i hty
              cases hrun
              exact W.vret hx hb (hr.trans hty) (fun t ht hW => ⟨rfl, ⟨by rw [ht]; exact hP, va_K.moved hW.alike hK, hD⟩, hS.F ht⟩) hS.2.2 fd hlocks
            · cases hrun
          · cases hrun
        · cases hrun
      · split at hrun
        · rename_i i9 h79
          obtain ⟨h7, hem⟩ := h79
          split at hrun
          · cases hrun
            have hh := hs_nil hem
            obtain ⟨hcl9, hin9, hfit, ix, ik, j, ln, li, tx, hok, hsw, d1, d2, d3⟩ := fc h7
            have hstr := hC.2.2 j _ hsw
            rcases d3 with ⟨d3, d4, d5⟩ | ⟨d3, d4, d5⟩
            · exact xt_newR (D := D) (wf := fun _ : Unit => aW sh fk nC kA ad h) (post := fun _ : Unit => True) hx hb hfl hown hfit xE_fit hok hg hN hC hcl9 hin9 hstr hml hl.1 (tab_nil htab hh) hlocks (by show 2 + 3 < R.frames; omega) (by show 1 + (13 * (2 + 1) + 42) ≤ R.locals; omega) hRc hRs d1 d2 d3 d4 d5 hK () trivial hP hD hS (fun q h => h)
            · exact xt_newRw (D := D) (wf := fun _ : Unit => aW sh fk nC kA ad h) (post := fun _ : Unit => True) hx hb hfl hown hfit xE_fit hok hg hN hC hcl9 hin9 hstr hml hl.1 (tab_nil htab hh) hlocks (by show 2 + 3 < R.frames; omega) (by show 1 + (13 * (2 + 1) + 42) ≤ R.locals; omega) hRc hRs d1 d2 d3 d4 d5 hK () trivial hP hD hS (fun q h => h)
          · cases hrun
        · cases hrun
      · split at hrun
        · split at hrun
          · split at hrun
            · rename_i dflt lo hi offs v r oo off hoff ot t ht
              obtain ⟨e9, he9, hte⟩ := aIx_spec ht
              have hnext := SB d q t L r h o h' u hrun hq p l e R s m args below meth c A hctx H locs ls cells slots e9.1 (fun e he => by rw [he9] at he; cases he; rfl) hP hD hS hl hRf hRl hRc hRs
              unfold aTab at hoff
              split at hoff
              · rename_i hout
                cases hoff
                exact lv_tableOut hx hb fd hout hte.symm hnext
              · rename_i hin
                exact lv_tableIn hx hb fd (fun z => hin (Or.inl z)) (fun z => hin (Or.inr z)) hoff hte.symm hnext
            · cases hrun
          · cases hrun
        · cases hrun
      · split at hrun
        · rename_i dflt ps hsort
          split at hrun
          · split at hrun
            · rename_i v r ot t ht
              obtain ⟨e9, he9, hte⟩ := aIx_spec ht
              have hnext := SB d q t L r h o h' u hrun hq p l e R s m args below meth c A hctx H locs ls cells slots e9.1 (fun e he => by rw [he9] at he; cases he; rfl) hP hD hS hl hRf hRl hRc hRs
              exact lv_lookup hx hb fd hsort rfl hte.symm hnext
            · cases hrun
          · cases hrun
        · cases hrun
      · sorry
      · sorry
      · split at hrun
        · rename_i b L1 st1 h1 hs1
          refine sim1 (own := (mY q).cls) (tgt := ((mCd q)[x]?.map (·.1)).getD 0) hcl hsh hst hx hb hown hg hK hN hC hP hD hS fd ff hl (fun off hj => ?_) hs1 (fun H locs ls hP hD hS hl => ?_)
          · obtain ⟨e', h1, h2⟩ := fj off hj
            rw [h1]
            exact h2
          · refine SB d q (if b then x else k + 1) L1 st1 h1 o h' u hrun hq p l e R s m args below meth c A hctx H locs ls cells slots _ (fun e' he' => ?_) hP hD hS hl hRf hRl hRc hRs
            cases b with
            | true =>
              rw [if_pos rfl] at he' ⊢
              rw [he']
              rfl
            | false =>
              exact fn e' he'
        · cases hrun
end ASim4
