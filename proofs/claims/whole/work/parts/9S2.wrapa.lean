/-! the law's steps over the machine's world -/
section WrA0
variable {kA : Nat → ClassId} {ad : Nat → Nat} {D : va_G} {kS : Nat → Nat}
set_option maxHeartbeats 4000000 in
set_option maxRecDepth 100000 in
theorem wo_feed (SIM : xSim kA ad kS D) (l : Launch) (hfl : l.flags = flags0) (sz : Nat) (x1 x2 x3 x4 x5 : Int32) {t t1 : aT} {v : Int32} (hrun : fLk_feed 150 x1 x2 x3 x4 x5 t = rI v t1) : Met l y_La_feed w_La_feed { frames := 157, cells := 0, slots := 0, locals := 9141 } (xPreN D vC (tK kA) kS [.ref (ad 0), .int x1, .int x2, .int x3, .int x4, .int x5, .ref (ad 149)] (aV kA ad t) sz) (aQ D kA (aV kA ad (pL t1 149 0 v.toInt64)) (va_A (aV kA ad t) sz) (some (.int 0))) 0 0 (va_A (aV kA ad t) sz) := by
  refine va_MetW (cc := b_La_feed) (maxL := 8) (ret := (some .int)) (hh := [(0, 16, 19, 13)]) (by decide) rfl ?_
  intro p e s m args below meth c s₁ B hml hv
  obtain ⟨⟨rfl, hsz, hP, hK, hD0, hN, hC⟩, hnc⟩ := hv
  have hx := B.exec
  have hb := B.bytes
  have hr := B.returns
  have hts := atoms_spec (ws := w_La_feed) B.pre
  have hg : ∀ w ∈ gW, w.before _ s = true := fun w h => hts w (List.mem_cons_of_mem _ h)
  have hown : s.vm.findClass R_La = some m.cls := findClass_of_methodNamed B.named
  have htab := xt_table B (hts _ List.mem_cons_self)
  subst hsz
  have hD := hD0.self (sz := s.heap.size)
  generalize hAe : va_A (aV kA ad t) s.heap.size = A at hD hC ⊢
  have hA : ∀ q : Nat, s.heap.size ≤ q → A q := fun q h => by rw [← hAe]; exact Or.inr h
  have hS : va_S A s.heap s.heap [] := va_S.rf
  have hl := lv_entry ([.ref (ad 0), .int x1, .int x2, .int x3, .int x4, .int x5, .ref (ad 149)]) (n := 8) (Nat.le_of_ble_eq_true rfl)
  rw [lg_entry_eq]
  generalize (lg_sl ([.ref (ad 0), .int x1, .int x2, .int x3, .int x4, .int x5, .ref (ad 149)]) ++ List.replicate (8 - (lg_sl ([.ref (ad 0), .int x1, .int x2, .int x3, .int x4, .int x5, .ref (ad 149)])).length) Slot.unset).toArray = ls at hl ⊢
  have hl : lv_has ls 8 [(0, .ref (ad 0)), (1, .int x1), (2, .int x2), (3, .int x3), (4, .int x4), (5, .int x5), (6, .ref (ad 149))] := hl
  refine lv_aload hx hb d_La_feed_0 (lv_at hl 6 rfl) ?_
  refine lv_iconst (v := nI 0) hx hb d_La_feed_2 (by decide) ?_
  refine lv_aload_n hx hb d_La_feed_3 rfl (lv_at hl 0 rfl) ?_
  refine lv_iload_n hx hb d_La_feed_4 rfl (lv_at hl 1 rfl) ?_
  refine lv_iload_n hx hb d_La_feed_5 rfl (lv_at hl 2 rfl) ?_
  refine lv_iload_n hx hb d_La_feed_6 rfl (lv_at hl 3 rfl) ?_
  refine lv_iload hx hb d_La_feed_7 (lv_at hl 4 rfl) ?_
  refine lv_iload hx hb d_La_feed_9 (lv_at hl 5 rfl) ?_
  refine xa_call (rest := [.int (nI 0), .ref (ad 149)]) (rv := (some (.int v))) (t1 := t1) SIM hfl hx hb hml hown hg 82 rfl rfl rfl mw_970 0 11 (by decide) rfl rfl rfl [.int x1, .int x2, .int x3, .int x4, .int x5] rfl (Nat.le_of_ble_eq_true rfl) hrun 0 (ev_u0 (by decide) (rfl : aTB 82 = some _) hrun) hK hN hC hP hD hS hA hl.1 rfl (Nat.le_of_ble_eq_true rfl) d_La_feed_11 (Nat.le_of_ble_eq_true rfl) (Nat.le_of_ble_eq_true rfl) (Nat.le_of_ble_eq_true rfl) (Nat.le_of_ble_eq_true rfl) (fun H locs hP hD hS => ?_)
  refine W.eq (g2 := F0 m 14 ls [.int v, .int (nI 0), .ref (ad 149)]) rfl ?_
  refine lv_i2l hx hb d_La_feed_14 rfl ?_
  refine lv_topl (fun y ey => ?_)
  replace ey : y = v.toInt64 := ey.trans rfl
  subst ey
  refine xa_last hx hb hK hP hD hS d_La_feed_15 (fun H locs hP hD hS => ?_)
  refine lv_goto (tgt := 23) hx hb d_La_feed_16 (by decide) ?_
  refine lv_iconst (v := 0) hx hb d_La_feed_23 (by decide) ?_
  exact W.iret (v := 0) hx hb hr (fun t9 ht hW => ⟨rfl, ⟨by rw [ht]; exact hP, va_K.moved hW.alike hK, hD⟩, hS.F ht⟩) hS.2.2 d_La_feed_24
set_option maxHeartbeats 4000000 in
set_option maxRecDepth 100000 in
theorem wx_feed (SIM : xSim kA ad kS D) (l : Launch) (hfl : l.flags = flags0) (sz : Nat) (x1 x2 x3 x4 x5 : Int32) {t : aT} (hrun : fLk_feed 150 x1 x2 x3 x4 x5 t = rX 0 t) : Met l y_La_feed w_La_feed { frames := 157, cells := 1, slots := 6, locals := 9141 } (xPreN D vC (tK kA) kS [.ref (ad 0), .int x1, .int x2, .int x3, .int x4, .int x5, .ref (ad 149)] (aV kA ad t) sz) (aQ D kA (aV kA ad t) (va_A (aV kA ad t) sz) (some (.int 1))) 1 6 (va_A (aV kA ad t) sz) := by
  refine va_MetW (cc := b_La_feed) (maxL := 8) (ret := (some .int)) (hh := [(0, 16, 19, 13)]) (by decide) rfl ?_
  intro p e s m args below meth c s₁ B hml hv
  obtain ⟨⟨rfl, hsz, hP, hK, hD0, hN, hC⟩, hnc⟩ := hv
  have hx := B.exec
  have hb := B.bytes
  have hr := B.returns
  have hts := atoms_spec (ws := w_La_feed) B.pre
  have hg : ∀ w ∈ gW, w.before _ s = true := fun w h => hts w (List.mem_cons_of_mem _ h)
  have hown : s.vm.findClass R_La = some m.cls := findClass_of_methodNamed B.named
  have htab := xt_table B (hts _ List.mem_cons_self)
  subst hsz
  have hD := hD0.self (sz := s.heap.size)
  generalize hAe : va_A (aV kA ad t) s.heap.size = A at hD hC ⊢
  have hA : ∀ q : Nat, s.heap.size ≤ q → A q := fun q h => by rw [← hAe]; exact Or.inr h
  have hS : va_S A s.heap s.heap [] := va_S.rf
  have hl := lv_entry ([.ref (ad 0), .int x1, .int x2, .int x3, .int x4, .int x5, .ref (ad 149)]) (n := 8) (Nat.le_of_ble_eq_true rfl)
  rw [lg_entry_eq]
  generalize (lg_sl ([.ref (ad 0), .int x1, .int x2, .int x3, .int x4, .int x5, .ref (ad 149)]) ++ List.replicate (8 - (lg_sl ([.ref (ad 0), .int x1, .int x2, .int x3, .int x4, .int x5, .ref (ad 149)])).length) Slot.unset).toArray = ls at hl ⊢
  have hl : lv_has ls 8 [(0, .ref (ad 0)), (1, .int x1), (2, .int x2), (3, .int x3), (4, .int x4), (5, .int x5), (6, .ref (ad 149))] := hl
  refine lv_aload hx hb d_La_feed_0 (lv_at hl 6 rfl) ?_
  refine lv_iconst (v := nI 0) hx hb d_La_feed_2 (by decide) ?_
  refine lv_aload_n hx hb d_La_feed_3 rfl (lv_at hl 0 rfl) ?_
  refine lv_iload_n hx hb d_La_feed_4 rfl (lv_at hl 1 rfl) ?_
  refine lv_iload_n hx hb d_La_feed_5 rfl (lv_at hl 2 rfl) ?_
  refine lv_iload_n hx hb d_La_feed_6 rfl (lv_at hl 3 rfl) ?_
  refine lv_iload hx hb d_La_feed_7 (lv_at hl 4 rfl) ?_
  refine lv_iload hx hb d_La_feed_9 (lv_at hl 5 rfl) ?_
  refine xa_thr (rest := [.int (nI 0), .ref (ad 149)]) (E := 0) (hpc := 19) SIM hfl hx hb hml hown hg 82 rfl rfl rfl mw_970 0 11 (by decide) rfl rfl rfl [.int x1, .int x2, .int x3, .int x4, .int x5] rfl (Nat.le_of_ble_eq_true rfl) hrun hK hN hC hP hD hS hA hl.1 rfl (Nat.le_of_ble_eq_true rfl) d_La_feed_11 (Nat.le_of_ble_eq_true rfl) (Nat.le_of_ble_eq_true rfl) (Nat.le_of_ble_eq_true rfl) (Nat.le_of_ble_eq_true rfl) (xt_lead1 (E := "java/lang/IllegalStateException") hown htab (by decide) (by decide) (by decide) (hg _ mw_969) (hN.use nw_976)) (fun x9 H locs hP hD hS => ?_)
  refine lv_astore (lv' := [(7, .ref x9), (0, .ref (ad 0)), (1, .int x1), (2, .int x2), (3, .int x3), (4, .int x4), (5, .int x5), (6, .ref (ad 149))]) hx hb d_La_feed_19 hl (by decide) rfl (fun ls hl => ?_)
  refine lv_iconst (v := 1) hx hb d_La_feed_21 (by decide) ?_
  exact W.iret (v := 1) hx hb hr (fun t9 ht hW => ⟨rfl, ⟨by rw [ht]; exact hP, va_K.moved hW.alike hK, hD⟩, hS.F ht⟩) hS.2.2 d_La_feed_22
set_option maxHeartbeats 4000000 in
set_option maxRecDepth 100000 in
theorem wo_end (SIM : xSim kA ad kS D) (l : Launch) (hfl : l.flags = flags0) (sz : Nat) (x1 : Int32) {t t1 : aT} (hrun : fLk_end 150 x1 t = rV t1) : Met l y_La_end w_La_end { frames := 157, cells := 0, slots := 0, locals := 9141 } (xPreN D vC (tK kA) kS [.ref (ad 0), .int x1] (aV kA ad t) sz) (aQ D kA (aV kA ad t1) (va_A (aV kA ad t) sz) (some (.int 0))) 0 0 (va_A (aV kA ad t) sz) := by
  refine va_MetW (cc := b_La_end) (maxL := 3) (ret := (some .int)) (hh := [(0, 5, 8, 19)]) (by decide) rfl ?_
  intro p e s m args below meth c s₁ B hml hv
  obtain ⟨⟨rfl, hsz, hP, hK, hD0, hN, hC⟩, hnc⟩ := hv
  have hx := B.exec
  have hb := B.bytes
  have hr := B.returns
  have hts := atoms_spec (ws := w_La_end) B.pre
  have hg : ∀ w ∈ gW, w.before _ s = true := fun w h => hts w (List.mem_cons_of_mem _ h)
  have hown : s.vm.findClass R_La = some m.cls := findClass_of_methodNamed B.named
  have htab := xt_table B (hts _ List.mem_cons_self)
  subst hsz
  have hD := hD0.self (sz := s.heap.size)
  generalize hAe : va_A (aV kA ad t) s.heap.size = A at hD hC ⊢
  have hA : ∀ q : Nat, s.heap.size ≤ q → A q := fun q h => by rw [← hAe]; exact Or.inr h
  have hS : va_S A s.heap s.heap [] := va_S.rf
  have hl := lv_entry ([.ref (ad 0), .int x1]) (n := 3) (Nat.le_of_ble_eq_true rfl)
  rw [lg_entry_eq]
  generalize (lg_sl ([.ref (ad 0), .int x1]) ++ List.replicate (3 - (lg_sl ([.ref (ad 0), .int x1])).length) Slot.unset).toArray = ls at hl ⊢
  have hl : lv_has ls 3 [(0, .ref (ad 0)), (1, .int x1)] := hl
  refine lv_aload_n hx hb d_La_end_0 rfl (lv_at hl 0 rfl) ?_
  refine lv_iload_n hx hb d_La_end_1 rfl (lv_at hl 1 rfl) ?_
  refine xa_call (rest := []) (rv := none) (t1 := t1) SIM hfl hx hb hml hown hg 84 rfl rfl rfl mw_1049 0 11 (by decide) rfl rfl rfl [.int x1] rfl (Nat.le_of_ble_eq_true rfl) hrun 0 (ev_u0 (by decide) (rfl : aTB 84 = some _) hrun) hK hN hC hP hD hS hA hl.1 rfl (Nat.le_of_ble_eq_true rfl) d_La_end_2 (Nat.le_of_ble_eq_true rfl) (Nat.le_of_ble_eq_true rfl) (Nat.le_of_ble_eq_true rfl) (Nat.le_of_ble_eq_true rfl) (fun H locs hP hD hS => ?_)
  refine W.eq (g2 := F0 m 5 ls []) rfl ?_
  refine lv_goto (tgt := 11) hx hb d_La_end_5 (by decide) ?_
  refine lv_iconst (v := 0) hx hb d_La_end_11 (by decide) ?_
  exact W.iret (v := 0) hx hb hr (fun t9 ht hW => ⟨rfl, ⟨by rw [ht]; exact hP, va_K.moved hW.alike hK, hD⟩, hS.F ht⟩) hS.2.2 d_La_end_12
set_option maxHeartbeats 4000000 in
set_option maxRecDepth 100000 in
theorem wx_end (SIM : xSim kA ad kS D) (l : Launch) (hfl : l.flags = flags0) (sz : Nat) (x1 : Int32) {t : aT} (hrun : fLk_end 150 x1 t = rX 1 t) : Met l y_La_end w_La_end { frames := 157, cells := 1, slots := 6, locals := 9141 } (xPreN D vC (tK kA) kS [.ref (ad 0), .int x1] (aV kA ad t) sz) (aQ D kA (aV kA ad t) (va_A (aV kA ad t) sz) (some (.int 1))) 1 6 (va_A (aV kA ad t) sz) := by
  refine va_MetW (cc := b_La_end) (maxL := 3) (ret := (some .int)) (hh := [(0, 5, 8, 19)]) (by decide) rfl ?_
  intro p e s m args below meth c s₁ B hml hv
  obtain ⟨⟨rfl, hsz, hP, hK, hD0, hN, hC⟩, hnc⟩ := hv
  have hx := B.exec
  have hb := B.bytes
  have hr := B.returns
  have hts := atoms_spec (ws := w_La_end) B.pre
  have hg : ∀ w ∈ gW, w.before _ s = true := fun w h => hts w (List.mem_cons_of_mem _ h)
  have hown : s.vm.findClass R_La = some m.cls := findClass_of_methodNamed B.named
  have htab := xt_table B (hts _ List.mem_cons_self)
  subst hsz
  have hD := hD0.self (sz := s.heap.size)
  generalize hAe : va_A (aV kA ad t) s.heap.size = A at hD hC ⊢
  have hA : ∀ q : Nat, s.heap.size ≤ q → A q := fun q h => by rw [← hAe]; exact Or.inr h
  have hS : va_S A s.heap s.heap [] := va_S.rf
  have hl := lv_entry ([.ref (ad 0), .int x1]) (n := 3) (Nat.le_of_ble_eq_true rfl)
  rw [lg_entry_eq]
  generalize (lg_sl ([.ref (ad 0), .int x1]) ++ List.replicate (3 - (lg_sl ([.ref (ad 0), .int x1])).length) Slot.unset).toArray = ls at hl ⊢
  have hl : lv_has ls 3 [(0, .ref (ad 0)), (1, .int x1)] := hl
  refine lv_aload_n hx hb d_La_end_0 rfl (lv_at hl 0 rfl) ?_
  refine lv_iload_n hx hb d_La_end_1 rfl (lv_at hl 1 rfl) ?_
  refine xa_thr (rest := []) (E := 1) (hpc := 8) SIM hfl hx hb hml hown hg 84 rfl rfl rfl mw_1049 0 11 (by decide) rfl rfl rfl [.int x1] rfl (Nat.le_of_ble_eq_true rfl) hrun hK hN hC hP hD hS hA hl.1 rfl (Nat.le_of_ble_eq_true rfl) d_La_end_2 (Nat.le_of_ble_eq_true rfl) (Nat.le_of_ble_eq_true rfl) (Nat.le_of_ble_eq_true rfl) (Nat.le_of_ble_eq_true rfl) (xt_lead1 (E := "java/lang/IllegalArgumentException") hown htab (by decide) (by decide) (by decide) (hg _ mw_1048) (hN.use nw_1055)) (fun x9 H locs hP hD hS => ?_)
  refine lv_astore_n (lv' := [(2, .ref x9), (0, .ref (ad 0)), (1, .int x1)]) hx hb d_La_end_8 rfl hl (by decide) rfl (fun ls hl => ?_)
  refine lv_iconst (v := 1) hx hb d_La_end_9 (by decide) ?_
  exact W.iret (v := 1) hx hb hr (fun t9 ht hW => ⟨rfl, ⟨by rw [ht]; exact hP, va_K.moved hW.alike hK, hD⟩, hS.F ht⟩) hS.2.2 d_La_end_10
set_option maxHeartbeats 4000000 in
set_option maxRecDepth 100000 in
theorem wo_start (SIM : xSim kA ad kS D) (l : Launch) (hfl : l.flags = flags0) (sz : Nat) {t t1 : aT} {v : Int32} (hrun : fLk_start 150 t = rI v t1) : Met l y_La_start w_La_start { frames := 157, cells := 0, slots := 0, locals := 9141 } (xPreN D vC (tK kA) kS [.ref (ad 0), .ref (ad 149)] (aV kA ad t) sz) (aQ D kA (aV kA ad (pL t1 149 0 v.toInt64)) (va_A (aV kA ad t) sz) (some (.int 0))) 0 0 (va_A (aV kA ad t) sz) := by
  refine va_MetW (cc := b_La_start) (maxL := 3) (ret := (some .int)) (hh := [(0, 8, 11, 13)]) (by decide) rfl ?_
  intro p e s m args below meth c s₁ B hml hv
  obtain ⟨⟨rfl, hsz, hP, hK, hD0, hN, hC⟩, hnc⟩ := hv
  have hx := B.exec
  have hb := B.bytes
  have hr := B.returns
  have hts := atoms_spec (ws := w_La_start) B.pre
  have hg : ∀ w ∈ gW, w.before _ s = true := fun w h => hts w (List.mem_cons_of_mem _ h)
  have hown : s.vm.findClass R_La = some m.cls := findClass_of_methodNamed B.named
  have htab := xt_table B (hts _ List.mem_cons_self)
  subst hsz
  have hD := hD0.self (sz := s.heap.size)
  generalize hAe : va_A (aV kA ad t) s.heap.size = A at hD hC ⊢
  have hA : ∀ q : Nat, s.heap.size ≤ q → A q := fun q h => by rw [← hAe]; exact Or.inr h
  have hS : va_S A s.heap s.heap [] := va_S.rf
  have hl := lv_entry ([.ref (ad 0), .ref (ad 149)]) (n := 3) (Nat.le_of_ble_eq_true rfl)
  rw [lg_entry_eq]
  generalize (lg_sl ([.ref (ad 0), .ref (ad 149)]) ++ List.replicate (3 - (lg_sl ([.ref (ad 0), .ref (ad 149)])).length) Slot.unset).toArray = ls at hl ⊢
  have hl : lv_has ls 3 [(0, .ref (ad 0)), (1, .ref (ad 149))] := hl
  refine lv_aload_n hx hb d_La_start_0 rfl (lv_at hl 1 rfl) ?_
  refine lv_iconst (v := nI 0) hx hb d_La_start_1 (by decide) ?_
  refine lv_aload_n hx hb d_La_start_2 rfl (lv_at hl 0 rfl) ?_
  refine xa_call (rest := [.int (nI 0), .ref (ad 149)]) (rv := (some (.int v))) (t1 := t1) SIM hfl hx hb hml hown hg 181 rfl rfl rfl mw_1552 0 11 (by decide) rfl rfl rfl [] rfl (Nat.le_of_ble_eq_true rfl) hrun 0 (ev_u0 (by decide) (rfl : aTB 181 = some _) hrun) hK hN hC hP hD hS hA hl.1 rfl (Nat.le_of_ble_eq_true rfl) d_La_start_3 (Nat.le_of_ble_eq_true rfl) (Nat.le_of_ble_eq_true rfl) (Nat.le_of_ble_eq_true rfl) (Nat.le_of_ble_eq_true rfl) (fun H locs hP hD hS => ?_)
  refine W.eq (g2 := F0 m 6 ls [.int v, .int (nI 0), .ref (ad 149)]) rfl ?_
  refine lv_i2l hx hb d_La_start_6 rfl ?_
  refine lv_topl (fun y ey => ?_)
  replace ey : y = v.toInt64 := ey.trans rfl
  subst ey
  refine xa_last hx hb hK hP hD hS d_La_start_7 (fun H locs hP hD hS => ?_)
  refine lv_goto (tgt := 14) hx hb d_La_start_8 (by decide) ?_
  refine lv_iconst (v := 0) hx hb d_La_start_14 (by decide) ?_
  exact W.iret (v := 0) hx hb hr (fun t9 ht hW => ⟨rfl, ⟨by rw [ht]; exact hP, va_K.moved hW.alike hK, hD⟩, hS.F ht⟩) hS.2.2 d_La_start_15
set_option maxHeartbeats 4000000 in
set_option maxRecDepth 100000 in
theorem wx_start (SIM : xSim kA ad kS D) (l : Launch) (hfl : l.flags = flags0) (sz : Nat) {t : aT} (hrun : fLk_start 150 t = rX 0 t) : Met l y_La_start w_La_start { frames := 157, cells := 1, slots := 6, locals := 9141 } (xPreN D vC (tK kA) kS [.ref (ad 0), .ref (ad 149)] (aV kA ad t) sz) (aQ D kA (aV kA ad t) (va_A (aV kA ad t) sz) (some (.int 1))) 1 6 (va_A (aV kA ad t) sz) := by
  refine va_MetW (cc := b_La_start) (maxL := 3) (ret := (some .int)) (hh := [(0, 8, 11, 13)]) (by decide) rfl ?_
  intro p e s m args below meth c s₁ B hml hv
  obtain ⟨⟨rfl, hsz, hP, hK, hD0, hN, hC⟩, hnc⟩ := hv
  have hx := B.exec
  have hb := B.bytes
  have hr := B.returns
  have hts := atoms_spec (ws := w_La_start) B.pre
  have hg : ∀ w ∈ gW, w.before _ s = true := fun w h => hts w (List.mem_cons_of_mem _ h)
  have hown : s.vm.findClass R_La = some m.cls := findClass_of_methodNamed B.named
  have htab := xt_table B (hts _ List.mem_cons_self)
  subst hsz
  have hD := hD0.self (sz := s.heap.size)
  generalize hAe : va_A (aV kA ad t) s.heap.size = A at hD hC ⊢
  have hA : ∀ q : Nat, s.heap.size ≤ q → A q := fun q h => by rw [← hAe]; exact Or.inr h
  have hS : va_S A s.heap s.heap [] := va_S.rf
  have hl := lv_entry ([.ref (ad 0), .ref (ad 149)]) (n := 3) (Nat.le_of_ble_eq_true rfl)
  rw [lg_entry_eq]
  generalize (lg_sl ([.ref (ad 0), .ref (ad 149)]) ++ List.replicate (3 - (lg_sl ([.ref (ad 0), .ref (ad 149)])).length) Slot.unset).toArray = ls at hl ⊢
  have hl : lv_has ls 3 [(0, .ref (ad 0)), (1, .ref (ad 149))] := hl
  refine lv_aload_n hx hb d_La_start_0 rfl (lv_at hl 1 rfl) ?_
  refine lv_iconst (v := nI 0) hx hb d_La_start_1 (by decide) ?_
  refine lv_aload_n hx hb d_La_start_2 rfl (lv_at hl 0 rfl) ?_
  refine xa_thr (rest := [.int (nI 0), .ref (ad 149)]) (E := 0) (hpc := 11) SIM hfl hx hb hml hown hg 181 rfl rfl rfl mw_1552 0 11 (by decide) rfl rfl rfl [] rfl (Nat.le_of_ble_eq_true rfl) hrun hK hN hC hP hD hS hA hl.1 rfl (Nat.le_of_ble_eq_true rfl) d_La_start_3 (Nat.le_of_ble_eq_true rfl) (Nat.le_of_ble_eq_true rfl) (Nat.le_of_ble_eq_true rfl) (Nat.le_of_ble_eq_true rfl) (xt_lead1 (E := "java/lang/IllegalStateException") hown htab (by decide) (by decide) (by decide) (hg _ mw_969) (hN.use nw_976)) (fun x9 H locs hP hD hS => ?_)
  refine lv_astore_n (lv' := [(2, .ref x9), (0, .ref (ad 0)), (1, .ref (ad 149))]) hx hb d_La_start_11 rfl hl (by decide) rfl (fun ls hl => ?_)
  refine lv_iconst (v := 1) hx hb d_La_start_12 (by decide) ?_
  exact W.iret (v := 1) hx hb hr (fun t9 ht hW => ⟨rfl, ⟨by rw [ht]; exact hP, va_K.moved hW.alike hK, hD⟩, hS.F ht⟩) hS.2.2 d_La_start_13
end WrA0
