/-! the law's steps over the machine's world -/
section WrA3
variable {kA : Nat → ClassId} {ad : Nat → Nat} {D : va_G} {kS : Nat → Nat}
set_option maxHeartbeats 4000000 in
set_option maxRecDepth 100000 in
theorem wo_copy (SIM : xSim kA ad kS D) (l : Launch) (hfl : l.flags = flags0) (sz : Nat) (x1 x2 x3 : Int32) {t t1 : aT} {v : Int32} (hrun : fLk_copy 150 x1 x2 x3 t = rI v t1) : Met l y_La_copy w_La_copy { frames := 157, cells := 0, slots := 0, locals := 9141 } (xPreN D vC (tK kA) kS [.ref (ad 0), .int x1, .int x2, .int x3, .ref (ad 149)] (aV kA ad t) sz) (aQ D kA (aV kA ad (pL t1 149 0 v.toInt64)) (va_A (aV kA ad t) sz) (some (.int 0))) 0 0 (va_A (aV kA ad t) sz) := by
  refine va_MetW (cc := b_La_copy) (maxL := 6) (ret := (some .int)) (hh := [(0, 12, 15, 25)]) (by decide) rfl ?_
  intro p e s m args below meth c s₁ B hml hv
  obtain ⟨⟨rfl, hsz, hP, hK, hD0, hN, hC⟩, hnc⟩ := hv
  have hx := B.exec
  have hb := B.bytes
  have hr := B.returns
  have hts := atoms_spec (ws := w_La_copy) B.pre
  have hg : ∀ w ∈ gW, w.before _ s = true := fun w h => hts w (List.mem_cons_of_mem _ h)
  have hown : s.vm.findClass R_La = some m.cls := findClass_of_methodNamed B.named
  have htab := xt_table B (hts _ List.mem_cons_self)
  subst hsz
  have hD := hD0.self (sz := s.heap.size)
  generalize hAe : va_A (aV kA ad t) s.heap.size = A at hD hC ⊢
  have hA : ∀ q : Nat, s.heap.size ≤ q → A q := fun q h => by rw [← hAe]; exact Or.inr h
  have hS : va_S A s.heap s.heap [] := va_S.rf
  have hl := lv_entry ([.ref (ad 0), .int x1, .int x2, .int x3, .ref (ad 149)]) (n := 6) (Nat.le_of_ble_eq_true rfl)
  rw [lg_entry_eq]
  generalize (lg_sl ([.ref (ad 0), .int x1, .int x2, .int x3, .ref (ad 149)]) ++ List.replicate (6 - (lg_sl ([.ref (ad 0), .int x1, .int x2, .int x3, .ref (ad 149)])).length) Slot.unset).toArray = ls at hl ⊢
  have hl : lv_has ls 6 [(0, .ref (ad 0)), (1, .int x1), (2, .int x2), (3, .int x3), (4, .ref (ad 149))] := hl
  refine lv_aload hx hb d_La_copy_0 (lv_at hl 4 rfl) ?_
  refine lv_iconst (v := nI 0) hx hb d_La_copy_2 (by decide) ?_
  refine lv_aload_n hx hb d_La_copy_3 rfl (lv_at hl 0 rfl) ?_
  refine lv_iload_n hx hb d_La_copy_4 rfl (lv_at hl 1 rfl) ?_
  refine lv_iload_n hx hb d_La_copy_5 rfl (lv_at hl 2 rfl) ?_
  refine lv_iload_n hx hb d_La_copy_6 rfl (lv_at hl 3 rfl) ?_
  refine xa_call (rest := [.int (nI 0), .ref (ad 149)]) (rv := (some (.int v))) (t1 := t1) SIM hfl hx hb hml hown hg 155 rfl rfl rfl mw_1411 0 11 (by decide) rfl rfl rfl [.int x1, .int x2, .int x3] rfl (Nat.le_of_ble_eq_true rfl) hrun 0 (ev_u0 (by decide) (rfl : aTB 155 = some _) hrun) hK hN hC hP hD hS hA hl.1 rfl (Nat.le_of_ble_eq_true rfl) d_La_copy_7 (Nat.le_of_ble_eq_true rfl) (Nat.le_of_ble_eq_true rfl) (Nat.le_of_ble_eq_true rfl) (Nat.le_of_ble_eq_true rfl) (fun H locs hP hD hS => ?_)
  refine W.eq (g2 := F0 m 10 ls [.int v, .int (nI 0), .ref (ad 149)]) rfl ?_
  refine lv_i2l hx hb d_La_copy_10 rfl ?_
  refine lv_topl (fun y ey => ?_)
  replace ey : y = v.toInt64 := ey.trans rfl
  subst ey
  refine xa_last hx hb hK hP hD hS d_La_copy_11 (fun H locs hP hD hS => ?_)
  refine lv_goto (tgt := 19) hx hb d_La_copy_12 (by decide) ?_
  refine lv_iconst (v := 0) hx hb d_La_copy_19 (by decide) ?_
  exact W.iret (v := 0) hx hb hr (fun t9 ht hW => ⟨rfl, ⟨by rw [ht]; exact hP, va_K.moved hW.alike hK, hD⟩, hS.F ht⟩) hS.2.2 d_La_copy_20
set_option maxHeartbeats 4000000 in
set_option maxRecDepth 100000 in
theorem wx_copy (SIM : xSim kA ad kS D) (l : Launch) (hfl : l.flags = flags0) (sz : Nat) (x1 x2 x3 : Int32) {t : aT} (hrun : fLk_copy 150 x1 x2 x3 t = rX 2 t) : Met l y_La_copy w_La_copy { frames := 157, cells := 1, slots := 6, locals := 9141 } (xPreN D vC (tK kA) kS [.ref (ad 0), .int x1, .int x2, .int x3, .ref (ad 149)] (aV kA ad t) sz) (aQ D kA (aV kA ad t) (va_A (aV kA ad t) sz) (some (.int 1))) 1 6 (va_A (aV kA ad t) sz) := by
  refine va_MetW (cc := b_La_copy) (maxL := 6) (ret := (some .int)) (hh := [(0, 12, 15, 25)]) (by decide) rfl ?_
  intro p e s m args below meth c s₁ B hml hv
  obtain ⟨⟨rfl, hsz, hP, hK, hD0, hN, hC⟩, hnc⟩ := hv
  have hx := B.exec
  have hb := B.bytes
  have hr := B.returns
  have hts := atoms_spec (ws := w_La_copy) B.pre
  have hg : ∀ w ∈ gW, w.before _ s = true := fun w h => hts w (List.mem_cons_of_mem _ h)
  have hown : s.vm.findClass R_La = some m.cls := findClass_of_methodNamed B.named
  have htab := xt_table B (hts _ List.mem_cons_self)
  subst hsz
  have hD := hD0.self (sz := s.heap.size)
  generalize hAe : va_A (aV kA ad t) s.heap.size = A at hD hC ⊢
  have hA : ∀ q : Nat, s.heap.size ≤ q → A q := fun q h => by rw [← hAe]; exact Or.inr h
  have hS : va_S A s.heap s.heap [] := va_S.rf
  have hl := lv_entry ([.ref (ad 0), .int x1, .int x2, .int x3, .ref (ad 149)]) (n := 6) (Nat.le_of_ble_eq_true rfl)
  rw [lg_entry_eq]
  generalize (lg_sl ([.ref (ad 0), .int x1, .int x2, .int x3, .ref (ad 149)]) ++ List.replicate (6 - (lg_sl ([.ref (ad 0), .int x1, .int x2, .int x3, .ref (ad 149)])).length) Slot.unset).toArray = ls at hl ⊢
  have hl : lv_has ls 6 [(0, .ref (ad 0)), (1, .int x1), (2, .int x2), (3, .int x3), (4, .ref (ad 149))] := hl
  refine lv_aload hx hb d_La_copy_0 (lv_at hl 4 rfl) ?_
  refine lv_iconst (v := nI 0) hx hb d_La_copy_2 (by decide) ?_
  refine lv_aload_n hx hb d_La_copy_3 rfl (lv_at hl 0 rfl) ?_
  refine lv_iload_n hx hb d_La_copy_4 rfl (lv_at hl 1 rfl) ?_
  refine lv_iload_n hx hb d_La_copy_5 rfl (lv_at hl 2 rfl) ?_
  refine lv_iload_n hx hb d_La_copy_6 rfl (lv_at hl 3 rfl) ?_
  refine xa_thr (rest := [.int (nI 0), .ref (ad 149)]) (E := 2) (hpc := 15) SIM hfl hx hb hml hown hg 155 rfl rfl rfl mw_1411 0 11 (by decide) rfl rfl rfl [.int x1, .int x2, .int x3] rfl (Nat.le_of_ble_eq_true rfl) hrun hK hN hC hP hD hS hA hl.1 rfl (Nat.le_of_ble_eq_true rfl) d_La_copy_7 (Nat.le_of_ble_eq_true rfl) (Nat.le_of_ble_eq_true rfl) (Nat.le_of_ble_eq_true rfl) (Nat.le_of_ble_eq_true rfl) (xt_lead1 (E := "java/lang/IndexOutOfBoundsException") hown htab (by decide) (by decide) (by decide) (hg _ mw_1072) (hN.use nw_1082)) (fun x9 H locs hP hD hS => ?_)
  refine lv_astore (lv' := [(5, .ref x9), (0, .ref (ad 0)), (1, .int x1), (2, .int x2), (3, .int x3), (4, .ref (ad 149))]) hx hb d_La_copy_15 hl (by decide) rfl (fun ls hl => ?_)
  refine lv_iconst (v := 1) hx hb d_La_copy_17 (by decide) ?_
  exact W.iret (v := 1) hx hb hr (fun t9 ht hW => ⟨rfl, ⟨by rw [ht]; exact hP, va_K.moved hW.alike hK, hD⟩, hS.F ht⟩) hS.2.2 d_La_copy_18
set_option maxHeartbeats 4000000 in
set_option maxRecDepth 100000 in
theorem wo_compact (SIM : xSim kA ad kS D) (l : Launch) (hfl : l.flags = flags0) (sz : Nat) (x1 : Int32) {t t1 : aT} {v : Int32} (hrun : fLk_compact 150 x1 t = rI v t1) : Met l y_La_compact w_La_compact { frames := 157, cells := 0, slots := 0, locals := 9141 } (xPreN D vC (tK kA) kS [.ref (ad 0), .int x1, .ref (ad 149)] (aV kA ad t) sz) (aQ D kA (aV kA ad (pL t1 149 0 v.toInt64)) (va_A (aV kA ad t) sz) (some (.int 0))) 0 0 (va_A (aV kA ad t) sz) := by
  refine va_MetW (cc := b_La_compact) (maxL := 4) (ret := (some .int)) (hh := [(0, 9, 12, 25)]) (by decide) rfl ?_
  intro p e s m args below meth c s₁ B hml hv
  obtain ⟨⟨rfl, hsz, hP, hK, hD0, hN, hC⟩, hnc⟩ := hv
  have hx := B.exec
  have hb := B.bytes
  have hr := B.returns
  have hts := atoms_spec (ws := w_La_compact) B.pre
  have hg : ∀ w ∈ gW, w.before _ s = true := fun w h => hts w (List.mem_cons_of_mem _ h)
  have hown : s.vm.findClass R_La = some m.cls := findClass_of_methodNamed B.named
  have htab := xt_table B (hts _ List.mem_cons_self)
  subst hsz
  have hD := hD0.self (sz := s.heap.size)
  generalize hAe : va_A (aV kA ad t) s.heap.size = A at hD hC ⊢
  have hA : ∀ q : Nat, s.heap.size ≤ q → A q := fun q h => by rw [← hAe]; exact Or.inr h
  have hS : va_S A s.heap s.heap [] := va_S.rf
  have hl := lv_entry ([.ref (ad 0), .int x1, .ref (ad 149)]) (n := 4) (Nat.le_of_ble_eq_true rfl)
  rw [lg_entry_eq]
  generalize (lg_sl ([.ref (ad 0), .int x1, .ref (ad 149)]) ++ List.replicate (4 - (lg_sl ([.ref (ad 0), .int x1, .ref (ad 149)])).length) Slot.unset).toArray = ls at hl ⊢
  have hl : lv_has ls 4 [(0, .ref (ad 0)), (1, .int x1), (2, .ref (ad 149))] := hl
  refine lv_aload_n hx hb d_La_compact_0 rfl (lv_at hl 2 rfl) ?_
  refine lv_iconst (v := nI 0) hx hb d_La_compact_1 (by decide) ?_
  refine lv_aload_n hx hb d_La_compact_2 rfl (lv_at hl 0 rfl) ?_
  refine lv_iload_n hx hb d_La_compact_3 rfl (lv_at hl 1 rfl) ?_
  refine xa_call (rest := [.int (nI 0), .ref (ad 149)]) (rv := (some (.int v))) (t1 := t1) SIM hfl hx hb hml hown hg 158 rfl rfl rfl mw_1427 0 11 (by decide) rfl rfl rfl [.int x1] rfl (Nat.le_of_ble_eq_true rfl) hrun 0 (ev_u0 (by decide) (rfl : aTB 158 = some _) hrun) hK hN hC hP hD hS hA hl.1 rfl (Nat.le_of_ble_eq_true rfl) d_La_compact_4 (Nat.le_of_ble_eq_true rfl) (Nat.le_of_ble_eq_true rfl) (Nat.le_of_ble_eq_true rfl) (Nat.le_of_ble_eq_true rfl) (fun H locs hP hD hS => ?_)
  refine W.eq (g2 := F0 m 7 ls [.int v, .int (nI 0), .ref (ad 149)]) rfl ?_
  refine lv_i2l hx hb d_La_compact_7 rfl ?_
  refine lv_topl (fun y ey => ?_)
  replace ey : y = v.toInt64 := ey.trans rfl
  subst ey
  refine xa_last hx hb hK hP hD hS d_La_compact_8 (fun H locs hP hD hS => ?_)
  refine lv_goto (tgt := 15) hx hb d_La_compact_9 (by decide) ?_
  refine lv_iconst (v := 0) hx hb d_La_compact_15 (by decide) ?_
  exact W.iret (v := 0) hx hb hr (fun t9 ht hW => ⟨rfl, ⟨by rw [ht]; exact hP, va_K.moved hW.alike hK, hD⟩, hS.F ht⟩) hS.2.2 d_La_compact_16
set_option maxHeartbeats 4000000 in
set_option maxRecDepth 100000 in
theorem wx_compact (SIM : xSim kA ad kS D) (l : Launch) (hfl : l.flags = flags0) (sz : Nat) (x1 : Int32) {t : aT} (hrun : fLk_compact 150 x1 t = rX 2 t) : Met l y_La_compact w_La_compact { frames := 157, cells := 1, slots := 6, locals := 9141 } (xPreN D vC (tK kA) kS [.ref (ad 0), .int x1, .ref (ad 149)] (aV kA ad t) sz) (aQ D kA (aV kA ad t) (va_A (aV kA ad t) sz) (some (.int 1))) 1 6 (va_A (aV kA ad t) sz) := by
  refine va_MetW (cc := b_La_compact) (maxL := 4) (ret := (some .int)) (hh := [(0, 9, 12, 25)]) (by decide) rfl ?_
  intro p e s m args below meth c s₁ B hml hv
  obtain ⟨⟨rfl, hsz, hP, hK, hD0, hN, hC⟩, hnc⟩ := hv
  have hx := B.exec
  have hb := B.bytes
  have hr := B.returns
  have hts := atoms_spec (ws := w_La_compact) B.pre
  have hg : ∀ w ∈ gW, w.before _ s = true := fun w h => hts w (List.mem_cons_of_mem _ h)
  have hown : s.vm.findClass R_La = some m.cls := findClass_of_methodNamed B.named
  have htab := xt_table B (hts _ List.mem_cons_self)
  subst hsz
  have hD := hD0.self (sz := s.heap.size)
  generalize hAe : va_A (aV kA ad t) s.heap.size = A at hD hC ⊢
  have hA : ∀ q : Nat, s.heap.size ≤ q → A q := fun q h => by rw [← hAe]; exact Or.inr h
  have hS : va_S A s.heap s.heap [] := va_S.rf
  have hl := lv_entry ([.ref (ad 0), .int x1, .ref (ad 149)]) (n := 4) (Nat.le_of_ble_eq_true rfl)
  rw [lg_entry_eq]
  generalize (lg_sl ([.ref (ad 0), .int x1, .ref (ad 149)]) ++ List.replicate (4 - (lg_sl ([.ref (ad 0), .int x1, .ref (ad 149)])).length) Slot.unset).toArray = ls at hl ⊢
  have hl : lv_has ls 4 [(0, .ref (ad 0)), (1, .int x1), (2, .ref (ad 149))] := hl
  refine lv_aload_n hx hb d_La_compact_0 rfl (lv_at hl 2 rfl) ?_
  refine lv_iconst (v := nI 0) hx hb d_La_compact_1 (by decide) ?_
  refine lv_aload_n hx hb d_La_compact_2 rfl (lv_at hl 0 rfl) ?_
  refine lv_iload_n hx hb d_La_compact_3 rfl (lv_at hl 1 rfl) ?_
  refine xa_thr (rest := [.int (nI 0), .ref (ad 149)]) (E := 2) (hpc := 12) SIM hfl hx hb hml hown hg 158 rfl rfl rfl mw_1427 0 11 (by decide) rfl rfl rfl [.int x1] rfl (Nat.le_of_ble_eq_true rfl) hrun hK hN hC hP hD hS hA hl.1 rfl (Nat.le_of_ble_eq_true rfl) d_La_compact_4 (Nat.le_of_ble_eq_true rfl) (Nat.le_of_ble_eq_true rfl) (Nat.le_of_ble_eq_true rfl) (Nat.le_of_ble_eq_true rfl) (xt_lead1 (E := "java/lang/IndexOutOfBoundsException") hown htab (by decide) (by decide) (by decide) (hg _ mw_1072) (hN.use nw_1082)) (fun x9 H locs hP hD hS => ?_)
  refine lv_astore_n (lv' := [(3, .ref x9), (0, .ref (ad 0)), (1, .int x1), (2, .ref (ad 149))]) hx hb d_La_compact_12 rfl hl (by decide) rfl (fun ls hl => ?_)
  refine lv_iconst (v := 1) hx hb d_La_compact_13 (by decide) ?_
  exact W.iret (v := 1) hx hb hr (fun t9 ht hW => ⟨rfl, ⟨by rw [ht]; exact hP, va_K.moved hW.alike hK, hD⟩, hS.F ht⟩) hS.2.2 d_La_compact_14
set_option maxHeartbeats 4000000 in
set_option maxRecDepth 100000 in
theorem wo_clear (SIM : xSim kA ad kS D) (l : Launch) (hfl : l.flags = flags0) (sz : Nat) (x1 : Int32) {t t1 : aT} {v : Int32} (hrun : fLk_clear 150 x1 t = rI v t1) : Met l y_La_clear w_La_clear { frames := 157, cells := 0, slots := 0, locals := 9141 } (xPreN D vC (tK kA) kS [.ref (ad 0), .int x1, .ref (ad 149)] (aV kA ad t) sz) (aQ D kA (aV kA ad (pL t1 149 0 v.toInt64)) (va_A (aV kA ad t) sz) (some (.int 0))) 0 0 (va_A (aV kA ad t) sz) := by
  refine va_MetW (cc := b_La_clear) (maxL := 4) (ret := (some .int)) (hh := [(0, 9, 12, 25)]) (by decide) rfl ?_
  intro p e s m args below meth c s₁ B hml hv
  obtain ⟨⟨rfl, hsz, hP, hK, hD0, hN, hC⟩, hnc⟩ := hv
  have hx := B.exec
  have hb := B.bytes
  have hr := B.returns
  have hts := atoms_spec (ws := w_La_clear) B.pre
  have hg : ∀ w ∈ gW, w.before _ s = true := fun w h => hts w (List.mem_cons_of_mem _ h)
  have hown : s.vm.findClass R_La = some m.cls := findClass_of_methodNamed B.named
  have htab := xt_table B (hts _ List.mem_cons_self)
  subst hsz
  have hD := hD0.self (sz := s.heap.size)
  generalize hAe : va_A (aV kA ad t) s.heap.size = A at hD hC ⊢
  have hA : ∀ q : Nat, s.heap.size ≤ q → A q := fun q h => by rw [← hAe]; exact Or.inr h
  have hS : va_S A s.heap s.heap [] := va_S.rf
  have hl := lv_entry ([.ref (ad 0), .int x1, .ref (ad 149)]) (n := 4) (Nat.le_of_ble_eq_true rfl)
  rw [lg_entry_eq]
  generalize (lg_sl ([.ref (ad 0), .int x1, .ref (ad 149)]) ++ List.replicate (4 - (lg_sl ([.ref (ad 0), .int x1, .ref (ad 149)])).length) Slot.unset).toArray = ls at hl ⊢
  have hl : lv_has ls 4 [(0, .ref (ad 0)), (1, .int x1), (2, .ref (ad 149))] := hl
  refine lv_aload_n hx hb d_La_clear_0 rfl (lv_at hl 2 rfl) ?_
  refine lv_iconst (v := nI 0) hx hb d_La_clear_1 (by decide) ?_
  refine lv_aload_n hx hb d_La_clear_2 rfl (lv_at hl 0 rfl) ?_
  refine lv_iload_n hx hb d_La_clear_3 rfl (lv_at hl 1 rfl) ?_
  refine xa_call (rest := [.int (nI 0), .ref (ad 149)]) (rv := (some (.int v))) (t1 := t1) SIM hfl hx hb hml hown hg 168 rfl rfl rfl mw_1471 0 11 (by decide) rfl rfl rfl [.int x1] rfl (Nat.le_of_ble_eq_true rfl) hrun 0 (ev_u0 (by decide) (rfl : aTB 168 = some _) hrun) hK hN hC hP hD hS hA hl.1 rfl (Nat.le_of_ble_eq_true rfl) d_La_clear_4 (Nat.le_of_ble_eq_true rfl) (Nat.le_of_ble_eq_true rfl) (Nat.le_of_ble_eq_true rfl) (Nat.le_of_ble_eq_true rfl) (fun H locs hP hD hS => ?_)
  refine W.eq (g2 := F0 m 7 ls [.int v, .int (nI 0), .ref (ad 149)]) rfl ?_
  refine lv_i2l hx hb d_La_clear_7 rfl ?_
  refine lv_topl (fun y ey => ?_)
  replace ey : y = v.toInt64 := ey.trans rfl
  subst ey
  refine xa_last hx hb hK hP hD hS d_La_clear_8 (fun H locs hP hD hS => ?_)
  refine lv_goto (tgt := 15) hx hb d_La_clear_9 (by decide) ?_
  refine lv_iconst (v := 0) hx hb d_La_clear_15 (by decide) ?_
  exact W.iret (v := 0) hx hb hr (fun t9 ht hW => ⟨rfl, ⟨by rw [ht]; exact hP, va_K.moved hW.alike hK, hD⟩, hS.F ht⟩) hS.2.2 d_La_clear_16
set_option maxHeartbeats 4000000 in
set_option maxRecDepth 100000 in
theorem wx_clear (SIM : xSim kA ad kS D) (l : Launch) (hfl : l.flags = flags0) (sz : Nat) (x1 : Int32) {t : aT} (hrun : fLk_clear 150 x1 t = rX 2 t) : Met l y_La_clear w_La_clear { frames := 157, cells := 1, slots := 6, locals := 9141 } (xPreN D vC (tK kA) kS [.ref (ad 0), .int x1, .ref (ad 149)] (aV kA ad t) sz) (aQ D kA (aV kA ad t) (va_A (aV kA ad t) sz) (some (.int 1))) 1 6 (va_A (aV kA ad t) sz) := by
  refine va_MetW (cc := b_La_clear) (maxL := 4) (ret := (some .int)) (hh := [(0, 9, 12, 25)]) (by decide) rfl ?_
  intro p e s m args below meth c s₁ B hml hv
  obtain ⟨⟨rfl, hsz, hP, hK, hD0, hN, hC⟩, hnc⟩ := hv
  have hx := B.exec
  have hb := B.bytes
  have hr := B.returns
  have hts := atoms_spec (ws := w_La_clear) B.pre
  have hg : ∀ w ∈ gW, w.before _ s = true := fun w h => hts w (List.mem_cons_of_mem _ h)
  have hown : s.vm.findClass R_La = some m.cls := findClass_of_methodNamed B.named
  have htab := xt_table B (hts _ List.mem_cons_self)
  subst hsz
  have hD := hD0.self (sz := s.heap.size)
  generalize hAe : va_A (aV kA ad t) s.heap.size = A at hD hC ⊢
  have hA : ∀ q : Nat, s.heap.size ≤ q → A q := fun q h => by rw [← hAe]; exact Or.inr h
  have hS : va_S A s.heap s.heap [] := va_S.rf
  have hl := lv_entry ([.ref (ad 0), .int x1, .ref (ad 149)]) (n := 4) (Nat.le_of_ble_eq_true rfl)
  rw [lg_entry_eq]
  generalize (lg_sl ([.ref (ad 0), .int x1, .ref (ad 149)]) ++ List.replicate (4 - (lg_sl ([.ref (ad 0), .int x1, .ref (ad 149)])).length) Slot.unset).toArray = ls at hl ⊢
  have hl : lv_has ls 4 [(0, .ref (ad 0)), (1, .int x1), (2, .ref (ad 149))] := hl
  refine lv_aload_n hx hb d_La_clear_0 rfl (lv_at hl 2 rfl) ?_
  refine lv_iconst (v := nI 0) hx hb d_La_clear_1 (by decide) ?_
  refine lv_aload_n hx hb d_La_clear_2 rfl (lv_at hl 0 rfl) ?_
  refine lv_iload_n hx hb d_La_clear_3 rfl (lv_at hl 1 rfl) ?_
  refine xa_thr (rest := [.int (nI 0), .ref (ad 149)]) (E := 2) (hpc := 12) SIM hfl hx hb hml hown hg 168 rfl rfl rfl mw_1471 0 11 (by decide) rfl rfl rfl [.int x1] rfl (Nat.le_of_ble_eq_true rfl) hrun hK hN hC hP hD hS hA hl.1 rfl (Nat.le_of_ble_eq_true rfl) d_La_clear_4 (Nat.le_of_ble_eq_true rfl) (Nat.le_of_ble_eq_true rfl) (Nat.le_of_ble_eq_true rfl) (Nat.le_of_ble_eq_true rfl) (xt_lead1 (E := "java/lang/IndexOutOfBoundsException") hown htab (by decide) (by decide) (by decide) (hg _ mw_1072) (hN.use nw_1082)) (fun x9 H locs hP hD hS => ?_)
  refine lv_astore_n (lv' := [(3, .ref x9), (0, .ref (ad 0)), (1, .int x1), (2, .ref (ad 149))]) hx hb d_La_clear_12 rfl hl (by decide) rfl (fun ls hl => ?_)
  refine lv_iconst (v := 1) hx hb d_La_clear_13 (by decide) ?_
  exact W.iret (v := 1) hx hb hr (fun t9 ht hW => ⟨rfl, ⟨by rw [ht]; exact hP, va_K.moved hW.alike hK, hD⟩, hS.F ht⟩) hS.2.2 d_La_clear_14
set_option maxHeartbeats 4000000 in
set_option maxRecDepth 100000 in
theorem wo_fits1 (SIM : xSim kA ad kS D) (l : Launch) (hfl : l.flags = flags0) (sz : Nat) (x1 x2 x3 x4 : Int32) {t t1 : aT} (hrun : fLk_fits 150 x1 x2 x3 x4 t = rI 1 t1) : Met l y_La_fits w_La_fits { frames := 157, cells := 0, slots := 0, locals := 9141 } (xPreN D vC (tK kA) kS [.ref (ad 0), .int x1, .int x2, .int x3, .int x4, .ref (ad 149)] (aV kA ad t) sz) (aQ D kA (aV kA ad (pL t1 149 0 1)) (va_A (aV kA ad t) sz) (some (.int 0))) 0 0 (va_A (aV kA ad t) sz) := by
  refine va_MetW (cc := b_La_fits) (maxL := 7) (ret := (some .int)) (hh := [(0, 21, 24, 25)]) (by decide) rfl ?_
  intro p e s m args below meth c s₁ B hml hv
  obtain ⟨⟨rfl, hsz, hP, hK, hD0, hN, hC⟩, hnc⟩ := hv
  have hx := B.exec
  have hb := B.bytes
  have hr := B.returns
  have hts := atoms_spec (ws := w_La_fits) B.pre
  have hg : ∀ w ∈ gW, w.before _ s = true := fun w h => hts w (List.mem_cons_of_mem _ h)
  have hown : s.vm.findClass R_La = some m.cls := findClass_of_methodNamed B.named
  have htab := xt_table B (hts _ List.mem_cons_self)
  subst hsz
  have hD := hD0.self (sz := s.heap.size)
  generalize hAe : va_A (aV kA ad t) s.heap.size = A at hD hC ⊢
  have hA : ∀ q : Nat, s.heap.size ≤ q → A q := fun q h => by rw [← hAe]; exact Or.inr h
  have hS : va_S A s.heap s.heap [] := va_S.rf
  have hl := lv_entry ([.ref (ad 0), .int x1, .int x2, .int x3, .int x4, .ref (ad 149)]) (n := 7) (Nat.le_of_ble_eq_true rfl)
  rw [lg_entry_eq]
  generalize (lg_sl ([.ref (ad 0), .int x1, .int x2, .int x3, .int x4, .ref (ad 149)]) ++ List.replicate (7 - (lg_sl ([.ref (ad 0), .int x1, .int x2, .int x3, .int x4, .ref (ad 149)])).length) Slot.unset).toArray = ls at hl ⊢
  have hl : lv_has ls 7 [(0, .ref (ad 0)), (1, .int x1), (2, .int x2), (3, .int x3), (4, .int x4), (5, .ref (ad 149))] := hl
  refine lv_aload hx hb d_La_fits_0 (lv_at hl 5 rfl) ?_
  refine lv_iconst (v := nI 0) hx hb d_La_fits_2 (by decide) ?_
  refine lv_aload_n hx hb d_La_fits_3 rfl (lv_at hl 0 rfl) ?_
  refine lv_iload_n hx hb d_La_fits_4 rfl (lv_at hl 1 rfl) ?_
  refine lv_iload_n hx hb d_La_fits_5 rfl (lv_at hl 2 rfl) ?_
  refine lv_iload_n hx hb d_La_fits_6 rfl (lv_at hl 3 rfl) ?_
  refine lv_iload hx hb d_La_fits_7 (lv_at hl 4 rfl) ?_
  refine xa_call (rest := [.int (nI 0), .ref (ad 149)]) (rv := (some (.int 1))) (t1 := t1) SIM hfl hx hb hml hown hg 171 rfl rfl rfl mw_1486 0 11 (by decide) rfl rfl rfl [.int x1, .int x2, .int x3, .int x4] rfl (Nat.le_of_ble_eq_true rfl) hrun 0 (ev_u0 (by decide) (rfl : aTB 171 = some _) hrun) hK hN hC hP hD hS hA hl.1 rfl (Nat.le_of_ble_eq_true rfl) d_La_fits_9 (Nat.le_of_ble_eq_true rfl) (Nat.le_of_ble_eq_true rfl) (Nat.le_of_ble_eq_true rfl) (Nat.le_of_ble_eq_true rfl) (fun H locs hP hD hS => ?_)
  refine W.eq (g2 := F0 m 12 ls [.int 1, .int (nI 0), .ref (ad 149)]) rfl ?_
  refine lv_if_eq (tgt := 19) hx hb d_La_fits_12 (by decide) (fun cz => absurd cz (by decide)) (fun cz => ?_)
  refine lv_lconst (v := 1) hx hb d_La_fits_15 (by decide) ?_
  refine lv_goto (tgt := 20) hx hb d_La_fits_16 (by decide) ?_
  refine xa_last hx hb hK hP hD hS d_La_fits_20 (fun H locs hP hD hS => ?_)
  refine lv_goto (tgt := 28) hx hb d_La_fits_21 (by decide) ?_
  refine lv_iconst (v := 0) hx hb d_La_fits_28 (by decide) ?_
  exact W.iret (v := 0) hx hb hr (fun t9 ht hW => ⟨rfl, ⟨by rw [ht]; exact hP, va_K.moved hW.alike hK, hD⟩, hS.F ht⟩) hS.2.2 d_La_fits_29
set_option maxHeartbeats 4000000 in
set_option maxRecDepth 100000 in
theorem wo_fits0 (SIM : xSim kA ad kS D) (l : Launch) (hfl : l.flags = flags0) (sz : Nat) (x1 x2 x3 x4 : Int32) {t t1 : aT} (hrun : fLk_fits 150 x1 x2 x3 x4 t = rI 0 t1) : Met l y_La_fits w_La_fits { frames := 157, cells := 0, slots := 0, locals := 9141 } (xPreN D vC (tK kA) kS [.ref (ad 0), .int x1, .int x2, .int x3, .int x4, .ref (ad 149)] (aV kA ad t) sz) (aQ D kA (aV kA ad (pL t1 149 0 0)) (va_A (aV kA ad t) sz) (some (.int 0))) 0 0 (va_A (aV kA ad t) sz) := by
  refine va_MetW (cc := b_La_fits) (maxL := 7) (ret := (some .int)) (hh := [(0, 21, 24, 25)]) (by decide) rfl ?_
  intro p e s m args below meth c s₁ B hml hv
  obtain ⟨⟨rfl, hsz, hP, hK, hD0, hN, hC⟩, hnc⟩ := hv
  have hx := B.exec
  have hb := B.bytes
  have hr := B.returns
  have hts := atoms_spec (ws := w_La_fits) B.pre
  have hg : ∀ w ∈ gW, w.before _ s = true := fun w h => hts w (List.mem_cons_of_mem _ h)
  have hown : s.vm.findClass R_La = some m.cls := findClass_of_methodNamed B.named
  have htab := xt_table B (hts _ List.mem_cons_self)
  subst hsz
  have hD := hD0.self (sz := s.heap.size)
  generalize hAe : va_A (aV kA ad t) s.heap.size = A at hD hC ⊢
  have hA : ∀ q : Nat, s.heap.size ≤ q → A q := fun q h => by rw [← hAe]; exact Or.inr h
  have hS : va_S A s.heap s.heap [] := va_S.rf
  have hl := lv_entry ([.ref (ad 0), .int x1, .int x2, .int x3, .int x4, .ref (ad 149)]) (n := 7) (Nat.le_of_ble_eq_true rfl)
  rw [lg_entry_eq]
  generalize (lg_sl ([.ref (ad 0), .int x1, .int x2, .int x3, .int x4, .ref (ad 149)]) ++ List.replicate (7 - (lg_sl ([.ref (ad 0), .int x1, .int x2, .int x3, .int x4, .ref (ad 149)])).length) Slot.unset).toArray = ls at hl ⊢
  have hl : lv_has ls 7 [(0, .ref (ad 0)), (1, .int x1), (2, .int x2), (3, .int x3), (4, .int x4), (5, .ref (ad 149))] := hl
  refine lv_aload hx hb d_La_fits_0 (lv_at hl 5 rfl) ?_
  refine lv_iconst (v := nI 0) hx hb d_La_fits_2 (by decide) ?_
  refine lv_aload_n hx hb d_La_fits_3 rfl (lv_at hl 0 rfl) ?_
  refine lv_iload_n hx hb d_La_fits_4 rfl (lv_at hl 1 rfl) ?_
  refine lv_iload_n hx hb d_La_fits_5 rfl (lv_at hl 2 rfl) ?_
  refine lv_iload_n hx hb d_La_fits_6 rfl (lv_at hl 3 rfl) ?_
  refine lv_iload hx hb d_La_fits_7 (lv_at hl 4 rfl) ?_
  refine xa_call (rest := [.int (nI 0), .ref (ad 149)]) (rv := (some (.int 0))) (t1 := t1) SIM hfl hx hb hml hown hg 171 rfl rfl rfl mw_1486 0 11 (by decide) rfl rfl rfl [.int x1, .int x2, .int x3, .int x4] rfl (Nat.le_of_ble_eq_true rfl) hrun 0 (ev_u0 (by decide) (rfl : aTB 171 = some _) hrun) hK hN hC hP hD hS hA hl.1 rfl (Nat.le_of_ble_eq_true rfl) d_La_fits_9 (Nat.le_of_ble_eq_true rfl) (Nat.le_of_ble_eq_true rfl) (Nat.le_of_ble_eq_true rfl) (Nat.le_of_ble_eq_true rfl) (fun H locs hP hD hS => ?_)
  refine W.eq (g2 := F0 m 12 ls [.int 0, .int (nI 0), .ref (ad 149)]) rfl ?_
  refine lv_if_eq (tgt := 19) hx hb d_La_fits_12 (by decide) (fun cz => ?_) (fun cz => absurd rfl cz)
  refine lv_lconst (v := 0) hx hb d_La_fits_19 (by decide) ?_
  refine xa_last hx hb hK hP hD hS d_La_fits_20 (fun H locs hP hD hS => ?_)
  refine lv_goto (tgt := 28) hx hb d_La_fits_21 (by decide) ?_
  refine lv_iconst (v := 0) hx hb d_La_fits_28 (by decide) ?_
  exact W.iret (v := 0) hx hb hr (fun t9 ht hW => ⟨rfl, ⟨by rw [ht]; exact hP, va_K.moved hW.alike hK, hD⟩, hS.F ht⟩) hS.2.2 d_La_fits_29
set_option maxHeartbeats 4000000 in
set_option maxRecDepth 100000 in
theorem wx_fits (SIM : xSim kA ad kS D) (l : Launch) (hfl : l.flags = flags0) (sz : Nat) (x1 x2 x3 x4 : Int32) {t : aT} (hrun : fLk_fits 150 x1 x2 x3 x4 t = rX 2 t) : Met l y_La_fits w_La_fits { frames := 157, cells := 1, slots := 6, locals := 9141 } (xPreN D vC (tK kA) kS [.ref (ad 0), .int x1, .int x2, .int x3, .int x4, .ref (ad 149)] (aV kA ad t) sz) (aQ D kA (aV kA ad t) (va_A (aV kA ad t) sz) (some (.int 1))) 1 6 (va_A (aV kA ad t) sz) := by
  refine va_MetW (cc := b_La_fits) (maxL := 7) (ret := (some .int)) (hh := [(0, 21, 24, 25)]) (by decide) rfl ?_
  intro p e s m args below meth c s₁ B hml hv
  obtain ⟨⟨rfl, hsz, hP, hK, hD0, hN, hC⟩, hnc⟩ := hv
  have hx := B.exec
  have hb := B.bytes
  have hr := B.returns
  have hts := atoms_spec (ws := w_La_fits) B.pre
  have hg : ∀ w ∈ gW, w.before _ s = true := fun w h => hts w (List.mem_cons_of_mem _ h)
  have hown : s.vm.findClass R_La = some m.cls := findClass_of_methodNamed B.named
  have htab := xt_table B (hts _ List.mem_cons_self)
  subst hsz
  have hD := hD0.self (sz := s.heap.size)
  generalize hAe : va_A (aV kA ad t) s.heap.size = A at hD hC ⊢
  have hA : ∀ q : Nat, s.heap.size ≤ q → A q := fun q h => by rw [← hAe]; exact Or.inr h
  have hS : va_S A s.heap s.heap [] := va_S.rf
  have hl := lv_entry ([.ref (ad 0), .int x1, .int x2, .int x3, .int x4, .ref (ad 149)]) (n := 7) (Nat.le_of_ble_eq_true rfl)
  rw [lg_entry_eq]
  generalize (lg_sl ([.ref (ad 0), .int x1, .int x2, .int x3, .int x4, .ref (ad 149)]) ++ List.replicate (7 - (lg_sl ([.ref (ad 0), .int x1, .int x2, .int x3, .int x4, .ref (ad 149)])).length) Slot.unset).toArray = ls at hl ⊢
  have hl : lv_has ls 7 [(0, .ref (ad 0)), (1, .int x1), (2, .int x2), (3, .int x3), (4, .int x4), (5, .ref (ad 149))] := hl
  refine lv_aload hx hb d_La_fits_0 (lv_at hl 5 rfl) ?_
  refine lv_iconst (v := nI 0) hx hb d_La_fits_2 (by decide) ?_
  refine lv_aload_n hx hb d_La_fits_3 rfl (lv_at hl 0 rfl) ?_
  refine lv_iload_n hx hb d_La_fits_4 rfl (lv_at hl 1 rfl) ?_
  refine lv_iload_n hx hb d_La_fits_5 rfl (lv_at hl 2 rfl) ?_
  refine lv_iload_n hx hb d_La_fits_6 rfl (lv_at hl 3 rfl) ?_
  refine lv_iload hx hb d_La_fits_7 (lv_at hl 4 rfl) ?_
  refine xa_thr (rest := [.int (nI 0), .ref (ad 149)]) (E := 2) (hpc := 24) SIM hfl hx hb hml hown hg 171 rfl rfl rfl mw_1486 0 11 (by decide) rfl rfl rfl [.int x1, .int x2, .int x3, .int x4] rfl (Nat.le_of_ble_eq_true rfl) hrun hK hN hC hP hD hS hA hl.1 rfl (Nat.le_of_ble_eq_true rfl) d_La_fits_9 (Nat.le_of_ble_eq_true rfl) (Nat.le_of_ble_eq_true rfl) (Nat.le_of_ble_eq_true rfl) (Nat.le_of_ble_eq_true rfl) (xt_lead1 (E := "java/lang/IndexOutOfBoundsException") hown htab (by decide) (by decide) (by decide) (hg _ mw_1072) (hN.use nw_1082)) (fun x9 H locs hP hD hS => ?_)
  refine lv_astore (lv' := [(6, .ref x9), (0, .ref (ad 0)), (1, .int x1), (2, .int x2), (3, .int x3), (4, .int x4), (5, .ref (ad 149))]) hx hb d_La_fits_24 hl (by decide) rfl (fun ls hl => ?_)
  refine lv_iconst (v := 1) hx hb d_La_fits_26 (by decide) ?_
  exact W.iret (v := 1) hx hb hr (fun t9 ht hW => ⟨rfl, ⟨by rw [ht]; exact hP, va_K.moved hW.alike hK, hD⟩, hS.F ht⟩) hS.2.2 d_La_fits_27
end WrA3
