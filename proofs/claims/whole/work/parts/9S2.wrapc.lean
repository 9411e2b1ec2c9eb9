/-! the law's steps over the machine's world -/
section WrA2
variable {kA : Nat → ClassId} {ad : Nat → Nat} {D : va_G} {kS : Nat → Nat}
set_option maxHeartbeats 4000000 in
set_option maxRecDepth 100000 in
theorem wo_register (SIM : xSim kA ad kS D) (l : Launch) (hfl : l.flags = flags0) (sz : Nat) (x1 : Int32) {t t1 : aT} {v : Int32} (hrun : fLk_register 150 x1 t = rI v t1) : Met l y_La_register w_La_register { frames := 157, cells := 0, slots := 0, locals := 9141 } (xPreN D vC (tK kA) kS [.ref (ad 0), .int x1, .ref (ad 149)] (aV kA ad t) sz) (aQ D kA (aV kA ad (pL t1 149 0 v.toInt64)) (va_A (aV kA ad t) sz) (some (.int 0))) 0 0 (va_A (aV kA ad t) sz) := by
  refine va_MetW (cc := b_La_register) (maxL := 4) (ret := (some .int)) (hh := [(0, 9, 12, 25)]) (by decide) rfl ?_
  intro p e s m args below meth c s₁ B hml hv
  obtain ⟨⟨rfl, hsz, hP, hK, hD0, hN, hC⟩, hnc⟩ := hv
  have hx := B.exec
  have hb := B.bytes
  have hr := B.returns
  have hts := atoms_spec (ws := w_La_register) B.pre
  have hg : ∀ w ∈ gW, w.before _ s = true := fun w h => hts w (List.mem_cons_of_mem _ h)
  have hown : s.vm.findClass R_La = some m.cls := findClass_of_methodNamed B.named
  have htab := xt_table B (hts _ List.mem_cons_self)
  subst hsz
  have hD := hD0.self (sz := s.heap.size)
  generalize hAe : va_A (aV kA ad t) s.heap.size = A at hD hC ⊢
  have hA : ∀ q : Nat, s.heap.size ≤ q → A q := fun q h => by rw [← hAe]; exact Or.inr h
  have hS : va_S A s.heap s.heap [] := va_S.rf
  have hl := lv_entry ([.ref (ad 0), .int x1, .ref (ad 149)]) (n := 4) (Nat.le_of_ble_eq_true rfl)
  rw [lg_entry_eq]
  generalize (lg_sl ([.ref (ad 0), .int x1, .ref (ad 149)]) ++ List.replicate (4 - (lg_sl ([.ref (ad 0), .int x1, .ref (ad 149)])).length) Slot.unset).toArray = ls at hl ⊢
  have hl : lv_has ls 4 [(0, .ref (ad 0)), (1, .int x1), (2, .ref (ad 149))] := hl
  refine lv_aload_n hx hb d_La_register_0 rfl (lv_at hl 2 rfl) ?_
  refine lv_iconst (v := nI 0) hx hb d_La_register_1 (by decide) ?_
  refine lv_aload_n hx hb d_La_register_2 rfl (lv_at hl 0 rfl) ?_
  refine lv_iload_n hx hb d_La_register_3 rfl (lv_at hl 1 rfl) ?_
  refine xa_call (rest := [.int (nI 0), .ref (ad 149)]) (rv := (some (.int v))) (t1 := t1) SIM hfl hx hb hml hown hg 85 rfl rfl rfl mw_1073 0 11 (by decide) rfl rfl rfl [.int x1] rfl (Nat.le_of_ble_eq_true rfl) hrun 0 (ev_u0 (by decide) (rfl : aTB 85 = some _) hrun) hK hN hC hP hD hS hA hl.1 rfl (Nat.le_of_ble_eq_true rfl) d_La_register_4 (Nat.le_of_ble_eq_true rfl) (Nat.le_of_ble_eq_true rfl) (Nat.le_of_ble_eq_true rfl) (Nat.le_of_ble_eq_true rfl) (fun H locs hP hD hS => ?_)
  refine W.eq (g2 := F0 m 7 ls [.int v, .int (nI 0), .ref (ad 149)]) rfl ?_
  refine lv_i2l hx hb d_La_register_7 rfl ?_
  refine lv_topl (fun y ey => ?_)
  replace ey : y = v.toInt64 := ey.trans rfl
  subst ey
  refine xa_last hx hb hK hP hD hS d_La_register_8 (fun H locs hP hD hS => ?_)
  refine lv_goto (tgt := 15) hx hb d_La_register_9 (by decide) ?_
  refine lv_iconst (v := 0) hx hb d_La_register_15 (by decide) ?_
  exact W.iret (v := 0) hx hb hr (fun t9 ht hW => ⟨rfl, ⟨by rw [ht]; exact hP, va_K.moved hW.alike hK, hD⟩, hS.F ht⟩) hS.2.2 d_La_register_16
set_option maxHeartbeats 4000000 in
set_option maxRecDepth 100000 in
theorem wx_register (SIM : xSim kA ad kS D) (l : Launch) (hfl : l.flags = flags0) (sz : Nat) (x1 : Int32) {t : aT} (hrun : fLk_register 150 x1 t = rX 2 t) : Met l y_La_register w_La_register { frames := 157, cells := 1, slots := 6, locals := 9141 } (xPreN D vC (tK kA) kS [.ref (ad 0), .int x1, .ref (ad 149)] (aV kA ad t) sz) (aQ D kA (aV kA ad t) (va_A (aV kA ad t) sz) (some (.int 1))) 1 6 (va_A (aV kA ad t) sz) := by
  refine va_MetW (cc := b_La_register) (maxL := 4) (ret := (some .int)) (hh := [(0, 9, 12, 25)]) (by decide) rfl ?_
  intro p e s m args below meth c s₁ B hml hv
  obtain ⟨⟨rfl, hsz, hP, hK, hD0, hN, hC⟩, hnc⟩ := hv
  have hx := B.exec
  have hb := B.bytes
  have hr := B.returns
  have hts := atoms_spec (ws := w_La_register) B.pre
  have hg : ∀ w ∈ gW, w.before _ s = true := fun w h => hts w (List.mem_cons_of_mem _ h)
  have hown : s.vm.findClass R_La = some m.cls := findClass_of_methodNamed B.named
  have htab := xt_table B (hts _ List.mem_cons_self)
  subst hsz
  have hD := hD0.self (sz := s.heap.size)
  generalize hAe : va_A (aV kA ad t) s.heap.size = A at hD hC ⊢
  have hA : ∀ q : Nat, s.heap.size ≤ q → A q := fun q h => by rw [← hAe]; exact Or.inr h
  have hS : va_S A s.heap s.heap [] := va_S.rf
  have hl := lv_entry ([.ref (ad 0), .int x1, .ref (ad 149)]) (n := 4) (Nat.le_of_ble_eq_true rfl)
  rw [lg_entry_eq]
  generalize (lg_sl ([.ref (ad 0), .int x1, .ref (ad 149)]) ++ List.replicate (4 - (lg_sl ([.ref (ad 0), .int x1, .ref (ad 149)])).length) Slot.unset).toArray = ls at hl ⊢
  have hl : lv_has ls 4 [(0, .ref (ad 0)), (1, .int x1), (2, .ref (ad 149))] := hl
  refine lv_aload_n hx hb d_La_register_0 rfl (lv_at hl 2 rfl) ?_
  refine lv_iconst (v := nI 0) hx hb d_La_register_1 (by decide) ?_
  refine lv_aload_n hx hb d_La_register_2 rfl (lv_at hl 0 rfl) ?_
  refine lv_iload_n hx hb d_La_register_3 rfl (lv_at hl 1 rfl) ?_
  refine xa_thr (rest := [.int (nI 0), .ref (ad 149)]) (E := 2) (hpc := 12) SIM hfl hx hb hml hown hg 85 rfl rfl rfl mw_1073 0 11 (by decide) rfl rfl rfl [.int x1] rfl (Nat.le_of_ble_eq_true rfl) hrun hK hN hC hP hD hS hA hl.1 rfl (Nat.le_of_ble_eq_true rfl) d_La_register_4 (Nat.le_of_ble_eq_true rfl) (Nat.le_of_ble_eq_true rfl) (Nat.le_of_ble_eq_true rfl) (Nat.le_of_ble_eq_true rfl) (xt_lead1 (E := "java/lang/IndexOutOfBoundsException") hown htab (by decide) (by decide) (by decide) (hg _ mw_1072) (hN.use nw_1082)) (fun x9 H locs hP hD hS => ?_)
  refine lv_astore_n (lv' := [(3, .ref x9), (0, .ref (ad 0)), (1, .int x1), (2, .ref (ad 149))]) hx hb d_La_register_12 rfl hl (by decide) rfl (fun ls hl => ?_)
  refine lv_iconst (v := 1) hx hb d_La_register_13 (by decide) ?_
  exact W.iret (v := 1) hx hb hr (fun t9 ht hW => ⟨rfl, ⟨by rw [ht]; exact hP, va_K.moved hW.alike hK, hD⟩, hS.F ht⟩) hS.2.2 d_La_register_14
set_option maxHeartbeats 4000000 in
set_option maxRecDepth 100000 in
theorem wo_look (SIM : xSim kA ad kS D) (l : Launch) (hfl : l.flags = flags0) (sz : Nat) (x1 x2 : Int32) {t t1 : aT} {v : Int32} (hrun : fLk_look 150 x1 x2 t = rI v t1) : Met l y_La_look w_La_look { frames := 157, cells := 0, slots := 0, locals := 9141 } (xPreN D vC (tK kA) kS [.ref (ad 0), .int x1, .int x2, .ref (ad 149)] (aV kA ad t) sz) (aQ D kA (aV kA ad (pL t1 149 0 v.toInt64)) (va_A (aV kA ad t) sz) (some (.int 0))) 0 0 (va_A (aV kA ad t) sz) := by
  refine va_MetW (cc := b_La_look) (maxL := 5) (ret := (some .int)) (hh := [(0, 10, 13, 25)]) (by decide) rfl ?_
  intro p e s m args below meth c s₁ B hml hv
  obtain ⟨⟨rfl, hsz, hP, hK, hD0, hN, hC⟩, hnc⟩ := hv
  have hx := B.exec
  have hb := B.bytes
  have hr := B.returns
  have hts := atoms_spec (ws := w_La_look) B.pre
  have hg : ∀ w ∈ gW, w.before _ s = true := fun w h => hts w (List.mem_cons_of_mem _ h)
  have hown : s.vm.findClass R_La = some m.cls := findClass_of_methodNamed B.named
  have htab := xt_table B (hts _ List.mem_cons_self)
  subst hsz
  have hD := hD0.self (sz := s.heap.size)
  generalize hAe : va_A (aV kA ad t) s.heap.size = A at hD hC ⊢
  have hA : ∀ q : Nat, s.heap.size ≤ q → A q := fun q h => by rw [← hAe]; exact Or.inr h
  have hS : va_S A s.heap s.heap [] := va_S.rf
  have hl := lv_entry ([.ref (ad 0), .int x1, .int x2, .ref (ad 149)]) (n := 5) (Nat.le_of_ble_eq_true rfl)
  rw [lg_entry_eq]
  generalize (lg_sl ([.ref (ad 0), .int x1, .int x2, .ref (ad 149)]) ++ List.replicate (5 - (lg_sl ([.ref (ad 0), .int x1, .int x2, .ref (ad 149)])).length) Slot.unset).toArray = ls at hl ⊢
  have hl : lv_has ls 5 [(0, .ref (ad 0)), (1, .int x1), (2, .int x2), (3, .ref (ad 149))] := hl
  refine lv_aload_n hx hb d_La_look_0 rfl (lv_at hl 3 rfl) ?_
  refine lv_iconst (v := nI 0) hx hb d_La_look_1 (by decide) ?_
  refine lv_aload_n hx hb d_La_look_2 rfl (lv_at hl 0 rfl) ?_
  refine lv_iload_n hx hb d_La_look_3 rfl (lv_at hl 1 rfl) ?_
  refine lv_iload_n hx hb d_La_look_4 rfl (lv_at hl 2 rfl) ?_
  refine xa_call (rest := [.int (nI 0), .ref (ad 149)]) (rv := (some (.int v))) (t1 := t1) SIM hfl hx hb hml hown hg 116 rfl rfl rfl mw_1226 0 11 (by decide) rfl rfl rfl [.int x1, .int x2] rfl (Nat.le_of_ble_eq_true rfl) hrun 0 (ev_u0 (by decide) (rfl : aTB 116 = some _) hrun) hK hN hC hP hD hS hA hl.1 rfl (Nat.le_of_ble_eq_true rfl) d_La_look_5 (Nat.le_of_ble_eq_true rfl) (Nat.le_of_ble_eq_true rfl) (Nat.le_of_ble_eq_true rfl) (Nat.le_of_ble_eq_true rfl) (fun H locs hP hD hS => ?_)
  refine W.eq (g2 := F0 m 8 ls [.int v, .int (nI 0), .ref (ad 149)]) rfl ?_
  refine lv_i2l hx hb d_La_look_8 rfl ?_
  refine lv_topl (fun y ey => ?_)
  replace ey : y = v.toInt64 := ey.trans rfl
  subst ey
  refine xa_last hx hb hK hP hD hS d_La_look_9 (fun H locs hP hD hS => ?_)
  refine lv_goto (tgt := 17) hx hb d_La_look_10 (by decide) ?_
  refine lv_iconst (v := 0) hx hb d_La_look_17 (by decide) ?_
  exact W.iret (v := 0) hx hb hr (fun t9 ht hW => ⟨rfl, ⟨by rw [ht]; exact hP, va_K.moved hW.alike hK, hD⟩, hS.F ht⟩) hS.2.2 d_La_look_18
set_option maxHeartbeats 4000000 in
set_option maxRecDepth 100000 in
theorem wx_look (SIM : xSim kA ad kS D) (l : Launch) (hfl : l.flags = flags0) (sz : Nat) (x1 x2 : Int32) {t : aT} (hrun : fLk_look 150 x1 x2 t = rX 2 t) : Met l y_La_look w_La_look { frames := 157, cells := 1, slots := 6, locals := 9141 } (xPreN D vC (tK kA) kS [.ref (ad 0), .int x1, .int x2, .ref (ad 149)] (aV kA ad t) sz) (aQ D kA (aV kA ad t) (va_A (aV kA ad t) sz) (some (.int 1))) 1 6 (va_A (aV kA ad t) sz) := by
  refine va_MetW (cc := b_La_look) (maxL := 5) (ret := (some .int)) (hh := [(0, 10, 13, 25)]) (by decide) rfl ?_
  intro p e s m args below meth c s₁ B hml hv
  obtain ⟨⟨rfl, hsz, hP, hK, hD0, hN, hC⟩, hnc⟩ := hv
  have hx := B.exec
  have hb := B.bytes
  have hr := B.returns
  have hts := atoms_spec (ws := w_La_look) B.pre
  have hg : ∀ w ∈ gW, w.before _ s = true := fun w h => hts w (List.mem_cons_of_mem _ h)
  have hown : s.vm.findClass R_La = some m.cls := findClass_of_methodNamed B.named
  have htab := xt_table B (hts _ List.mem_cons_self)
  subst hsz
  have hD := hD0.self (sz := s.heap.size)
  generalize hAe : va_A (aV kA ad t) s.heap.size = A at hD hC ⊢
  have hA : ∀ q : Nat, s.heap.size ≤ q → A q := fun q h => by rw [← hAe]; exact Or.inr h
  have hS : va_S A s.heap s.heap [] := va_S.rf
  have hl := lv_entry ([.ref (ad 0), .int x1, .int x2, .ref (ad 149)]) (n := 5) (Nat.le_of_ble_eq_true rfl)
  rw [lg_entry_eq]
  generalize (lg_sl ([.ref (ad 0), .int x1, .int x2, .ref (ad 149)]) ++ List.replicate (5 - (lg_sl ([.ref (ad 0), .int x1, .int x2, .ref (ad 149)])).length) Slot.unset).toArray = ls at hl ⊢
  have hl : lv_has ls 5 [(0, .ref (ad 0)), (1, .int x1), (2, .int x2), (3, .ref (ad 149))] := hl
  refine lv_aload_n hx hb d_La_look_0 rfl (lv_at hl 3 rfl) ?_
  refine lv_iconst (v := nI 0) hx hb d_La_look_1 (by decide) ?_
  refine lv_aload_n hx hb d_La_look_2 rfl (lv_at hl 0 rfl) ?_
  refine lv_iload_n hx hb d_La_look_3 rfl (lv_at hl 1 rfl) ?_
  refine lv_iload_n hx hb d_La_look_4 rfl (lv_at hl 2 rfl) ?_
  refine xa_thr (rest := [.int (nI 0), .ref (ad 149)]) (E := 2) (hpc := 13) SIM hfl hx hb hml hown hg 116 rfl rfl rfl mw_1226 0 11 (by decide) rfl rfl rfl [.int x1, .int x2] rfl (Nat.le_of_ble_eq_true rfl) hrun hK hN hC hP hD hS hA hl.1 rfl (Nat.le_of_ble_eq_true rfl) d_La_look_5 (Nat.le_of_ble_eq_true rfl) (Nat.le_of_ble_eq_true rfl) (Nat.le_of_ble_eq_true rfl) (Nat.le_of_ble_eq_true rfl) (xt_lead1 (E := "java/lang/IndexOutOfBoundsException") hown htab (by decide) (by decide) (by decide) (hg _ mw_1072) (hN.use nw_1082)) (fun x9 H locs hP hD hS => ?_)
  refine lv_astore (lv' := [(4, .ref x9), (0, .ref (ad 0)), (1, .int x1), (2, .int x2), (3, .ref (ad 149))]) hx hb d_La_look_13 hl (by decide) rfl (fun ls hl => ?_)
  refine lv_iconst (v := 1) hx hb d_La_look_15 (by decide) ?_
  exact W.iret (v := 1) hx hb hr (fun t9 ht hW => ⟨rfl, ⟨by rw [ht]; exact hP, va_K.moved hW.alike hK, hD⟩, hS.F ht⟩) hS.2.2 d_La_look_16
set_option maxHeartbeats 4000000 in
set_option maxRecDepth 100000 in
theorem wo_load (SIM : xSim kA ad kS D) (l : Launch) (hfl : l.flags = flags0) (sz : Nat) (x1 x2 : Int32) {t t1 : aT} {v : Int32} (hrun : fLk_load 150 x1 x2 t = rI v t1) : Met l y_La_load w_La_load { frames := 157, cells := 0, slots := 0, locals := 9141 } (xPreN D vC (tK kA) kS [.ref (ad 0), .int x1, .int x2, .ref (ad 149)] (aV kA ad t) sz) (aQ D kA (aV kA ad (pL t1 149 0 v.toInt64)) (va_A (aV kA ad t) sz) (some (.int 0))) 0 0 (va_A (aV kA ad t) sz) := by
  refine va_MetW (cc := b_La_load) (maxL := 5) (ret := (some .int)) (hh := [(0, 10, 13, 25)]) (by decide) rfl ?_
  intro p e s m args below meth c s₁ B hml hv
  obtain ⟨⟨rfl, hsz, hP, hK, hD0, hN, hC⟩, hnc⟩ := hv
  have hx := B.exec
  have hb := B.bytes
  have hr := B.returns
  have hts := atoms_spec (ws := w_La_load) B.pre
  have hg : ∀ w ∈ gW, w.before _ s = true := fun w h => hts w (List.mem_cons_of_mem _ h)
  have hown : s.vm.findClass R_La = some m.cls := findClass_of_methodNamed B.named
  have htab := xt_table B (hts _ List.mem_cons_self)
  subst hsz
  have hD := hD0.self (sz := s.heap.size)
  generalize hAe : va_A (aV kA ad t) s.heap.size = A at hD hC ⊢
  have hA : ∀ q : Nat, s.heap.size ≤ q → A q := fun q h => by rw [← hAe]; exact Or.inr h
  have hS : va_S A s.heap s.heap [] := va_S.rf
  have hl := lv_entry ([.ref (ad 0), .int x1, .int x2, .ref (ad 149)]) (n := 5) (Nat.le_of_ble_eq_true rfl)
  rw [lg_entry_eq]
  generalize (lg_sl ([.ref (ad 0), .int x1, .int x2, .ref (ad 149)]) ++ List.replicate (5 - (lg_sl ([.ref (ad 0), .int x1, .int x2, .ref (ad 149)])).length) Slot.unset).toArray = ls at hl ⊢
  have hl : lv_has ls 5 [(0, .ref (ad 0)), (1, .int x1), (2, .int x2), (3, .ref (ad 149))] := hl
  refine lv_aload_n hx hb d_La_load_0 rfl (lv_at hl 3 rfl) ?_
  refine lv_iconst (v := nI 0) hx hb d_La_load_1 (by decide) ?_
  refine lv_aload_n hx hb d_La_load_2 rfl (lv_at hl 0 rfl) ?_
  refine lv_iload_n hx hb d_La_load_3 rfl (lv_at hl 1 rfl) ?_
  refine lv_iload_n hx hb d_La_load_4 rfl (lv_at hl 2 rfl) ?_
  refine xa_call (rest := [.int (nI 0), .ref (ad 149)]) (rv := (some (.int v))) (t1 := t1) SIM hfl hx hb hml hown hg 134 rfl rfl rfl mw_1311 0 11 (by decide) rfl rfl rfl [.int x1, .int x2] rfl (Nat.le_of_ble_eq_true rfl) hrun 0 (ev_u0 (by decide) (rfl : aTB 134 = some _) hrun) hK hN hC hP hD hS hA hl.1 rfl (Nat.le_of_ble_eq_true rfl) d_La_load_5 (Nat.le_of_ble_eq_true rfl) (Nat.le_of_ble_eq_true rfl) (Nat.le_of_ble_eq_true rfl) (Nat.le_of_ble_eq_true rfl) (fun H locs hP hD hS => ?_)
  refine W.eq (g2 := F0 m 8 ls [.int v, .int (nI 0), .ref (ad 149)]) rfl ?_
  refine lv_i2l hx hb d_La_load_8 rfl ?_
  refine lv_topl (fun y ey => ?_)
  replace ey : y = v.toInt64 := ey.trans rfl
  subst ey
  refine xa_last hx hb hK hP hD hS d_La_load_9 (fun H locs hP hD hS => ?_)
  refine lv_goto (tgt := 17) hx hb d_La_load_10 (by decide) ?_
  refine lv_iconst (v := 0) hx hb d_La_load_17 (by decide) ?_
  exact W.iret (v := 0) hx hb hr (fun t9 ht hW => ⟨rfl, ⟨by rw [ht]; exact hP, va_K.moved hW.alike hK, hD⟩, hS.F ht⟩) hS.2.2 d_La_load_18
set_option maxHeartbeats 4000000 in
set_option maxRecDepth 100000 in
theorem wx_load (SIM : xSim kA ad kS D) (l : Launch) (hfl : l.flags = flags0) (sz : Nat) (x1 x2 : Int32) {t : aT} (hrun : fLk_load 150 x1 x2 t = rX 2 t) : Met l y_La_load w_La_load { frames := 157, cells := 1, slots := 6, locals := 9141 } (xPreN D vC (tK kA) kS [.ref (ad 0), .int x1, .int x2, .ref (ad 149)] (aV kA ad t) sz) (aQ D kA (aV kA ad t) (va_A (aV kA ad t) sz) (some (.int 1))) 1 6 (va_A (aV kA ad t) sz) := by
  refine va_MetW (cc := b_La_load) (maxL := 5) (ret := (some .int)) (hh := [(0, 10, 13, 25)]) (by decide) rfl ?_
  intro p e s m args below meth c s₁ B hml hv
  obtain ⟨⟨rfl, hsz, hP, hK, hD0, hN, hC⟩, hnc⟩ := hv
  have hx := B.exec
  have hb := B.bytes
  have hr := B.returns
  have hts := atoms_spec (ws := w_La_load) B.pre
  have hg : ∀ w ∈ gW, w.before _ s = true := fun w h => hts w (List.mem_cons_of_mem _ h)
  have hown : s.vm.findClass R_La = some m.cls := findClass_of_methodNamed B.named
  have htab := xt_table B (hts _ List.mem_cons_self)
  subst hsz
  have hD := hD0.self (sz := s.heap.size)
  generalize hAe : va_A (aV kA ad t) s.heap.size = A at hD hC ⊢
  have hA : ∀ q : Nat, s.heap.size ≤ q → A q := fun q h => by rw [← hAe]; exact Or.inr h
  have hS : va_S A s.heap s.heap [] := va_S.rf
  have hl := lv_entry ([.ref (ad 0), .int x1, .int x2, .ref (ad 149)]) (n := 5) (Nat.le_of_ble_eq_true rfl)
  rw [lg_entry_eq]
  generalize (lg_sl ([.ref (ad 0), .int x1, .int x2, .ref (ad 149)]) ++ List.replicate (5 - (lg_sl ([.ref (ad 0), .int x1, .int x2, .ref (ad 149)])).length) Slot.unset).toArray = ls at hl ⊢
  have hl : lv_has ls 5 [(0, .ref (ad 0)), (1, .int x1), (2, .int x2), (3, .ref (ad 149))] := hl
  refine lv_aload_n hx hb d_La_load_0 rfl (lv_at hl 3 rfl) ?_
  refine lv_iconst (v := nI 0) hx hb d_La_load_1 (by decide) ?_
  refine lv_aload_n hx hb d_La_load_2 rfl (lv_at hl 0 rfl) ?_
  refine lv_iload_n hx hb d_La_load_3 rfl (lv_at hl 1 rfl) ?_
  refine lv_iload_n hx hb d_La_load_4 rfl (lv_at hl 2 rfl) ?_
  refine xa_thr (rest := [.int (nI 0), .ref (ad 149)]) (E := 2) (hpc := 13) SIM hfl hx hb hml hown hg 134 rfl rfl rfl mw_1311 0 11 (by decide) rfl rfl rfl [.int x1, .int x2] rfl (Nat.le_of_ble_eq_true rfl) hrun hK hN hC hP hD hS hA hl.1 rfl (Nat.le_of_ble_eq_true rfl) d_La_load_5 (Nat.le_of_ble_eq_true rfl) (Nat.le_of_ble_eq_true rfl) (Nat.le_of_ble_eq_true rfl) (Nat.le_of_ble_eq_true rfl) (xt_lead1 (E := "java/lang/IndexOutOfBoundsException") hown htab (by decide) (by decide) (by decide) (hg _ mw_1072) (hN.use nw_1082)) (fun x9 H locs hP hD hS => ?_)
  refine lv_astore (lv' := [(4, .ref x9), (0, .ref (ad 0)), (1, .int x1), (2, .int x2), (3, .ref (ad 149))]) hx hb d_La_load_13 hl (by decide) rfl (fun ls hl => ?_)
  refine lv_iconst (v := 1) hx hb d_La_load_15 (by decide) ?_
  exact W.iret (v := 1) hx hb hr (fun t9 ht hW => ⟨rfl, ⟨by rw [ht]; exact hP, va_K.moved hW.alike hK, hD⟩, hS.F ht⟩) hS.2.2 d_La_load_16
set_option maxHeartbeats 4000000 in
set_option maxRecDepth 100000 in
theorem wo_read (SIM : xSim kA ad kS D) (l : Launch) (hfl : l.flags = flags0) (sz : Nat) (x1 x2 x3 : Int32) {t t1 : aT} {v : Int32} (hrun : fLk_read 150 x1 x2 x3 t = rI v t1) : Met l y_La_read w_La_read { frames := 157, cells := 0, slots := 0, locals := 9141 } (xPreN D vC (tK kA) kS [.ref (ad 0), .int x1, .int x2, .int x3, .ref (ad 149)] (aV kA ad t) sz) (aQ D kA (aV kA ad (pL t1 149 0 v.toInt64)) (va_A (aV kA ad t) sz) (some (.int 0))) 0 0 (va_A (aV kA ad t) sz) := by
  refine va_MetW (cc := b_La_read) (maxL := 6) (ret := (some .int)) (hh := [(0, 12, 15, 25)]) (by decide) rfl ?_
  intro p e s m args below meth c s₁ B hml hv
  obtain ⟨⟨rfl, hsz, hP, hK, hD0, hN, hC⟩, hnc⟩ := hv
  have hx := B.exec
  have hb := B.bytes
  have hr := B.returns
  have hts := atoms_spec (ws := w_La_read) B.pre
  have hg : ∀ w ∈ gW, w.before _ s = true := fun w h => hts w (List.mem_cons_of_mem _ h)
  have hown : s.vm.findClass R_La = some m.cls := findClass_of_methodNamed B.named
  have htab := xt_table B (hts _ List.mem_cons_self)
  subst hsz
  have hD := hD0.self (sz := s.heap.size)
  generalize hAe : va_A (aV kA ad t) s.heap.size = A at hD hC ⊢
  have hA : ∀ q : Nat, s.heap.size ≤ q → A q := fun q h => by rw [← hAe]; exact Or.inr h
  have hS : va_S A s.heap s.heap [] := va_S.rf
  have hl := lv_entry ([.ref (ad 0), .int x1, .int x2, .int x3, .ref (ad 149)]) (n := 6) (Nat.le_of_ble_eq_true rfl)
  rw [lg_entry_eq]
  generalize (lg_sl ([.ref (ad 0), .int x1, .int x2, .int x3, .ref (ad 149)]) ++ List.replicate (6 - (lg_sl ([.ref (ad 0), .int x1, .int x2, .int x3, .ref (ad 149)])).length) Slot.unset).toArray = ls at hl ⊢
  have hl : lv_has ls 6 [(0, .ref (ad 0)), (1, .int x1), (2, .int x2), (3, .int x3), (4, .ref (ad 149))] := hl
  refine lv_aload hx hb d_La_read_0 (lv_at hl 4 rfl) ?_
  refine lv_iconst (v := nI 0) hx hb d_La_read_2 (by decide) ?_
  refine lv_aload_n hx hb d_La_read_3 rfl (lv_at hl 0 rfl) ?_
  refine lv_iload_n hx hb d_La_read_4 rfl (lv_at hl 1 rfl) ?_
  refine lv_iload_n hx hb d_La_read_5 rfl (lv_at hl 2 rfl) ?_
  refine lv_iload_n hx hb d_La_read_6 rfl (lv_at hl 3 rfl) ?_
  refine xa_call (rest := [.int (nI 0), .ref (ad 149)]) (rv := (some (.int v))) (t1 := t1) SIM hfl hx hb hml hown hg 136 rfl rfl rfl mw_1324 0 11 (by decide) rfl rfl rfl [.int x1, .int x2, .int x3] rfl (Nat.le_of_ble_eq_true rfl) hrun 0 (ev_u0 (by decide) (rfl : aTB 136 = some _) hrun) hK hN hC hP hD hS hA hl.1 rfl (Nat.le_of_ble_eq_true rfl) d_La_read_7 (Nat.le_of_ble_eq_true rfl) (Nat.le_of_ble_eq_true rfl) (Nat.le_of_ble_eq_true rfl) (Nat.le_of_ble_eq_true rfl) (fun H locs hP hD hS => ?_)
  refine W.eq (g2 := F0 m 10 ls [.int v, .int (nI 0), .ref (ad 149)]) rfl ?_
  refine lv_i2l hx hb d_La_read_10 rfl ?_
  refine lv_topl (fun y ey => ?_)
  replace ey : y = v.toInt64 := ey.trans rfl
  subst ey
  refine xa_last hx hb hK hP hD hS d_La_read_11 (fun H locs hP hD hS => ?_)
  refine lv_goto (tgt := 19) hx hb d_La_read_12 (by decide) ?_
  refine lv_iconst (v := 0) hx hb d_La_read_19 (by decide) ?_
  exact W.iret (v := 0) hx hb hr (fun t9 ht hW => ⟨rfl, ⟨by rw [ht]; exact hP, va_K.moved hW.alike hK, hD⟩, hS.F ht⟩) hS.2.2 d_La_read_20
set_option maxHeartbeats 4000000 in
set_option maxRecDepth 100000 in
theorem wx_read (SIM : xSim kA ad kS D) (l : Launch) (hfl : l.flags = flags0) (sz : Nat) (x1 x2 x3 : Int32) {t : aT} (hrun : fLk_read 150 x1 x2 x3 t = rX 2 t) : Met l y_La_read w_La_read { frames := 157, cells := 1, slots := 6, locals := 9141 } (xPreN D vC (tK kA) kS [.ref (ad 0), .int x1, .int x2, .int x3, .ref (ad 149)] (aV kA ad t) sz) (aQ D kA (aV kA ad t) (va_A (aV kA ad t) sz) (some (.int 1))) 1 6 (va_A (aV kA ad t) sz) := by
  refine va_MetW (cc := b_La_read) (maxL := 6) (ret := (some .int)) (hh := [(0, 12, 15, 25)]) (by decide) rfl ?_
  intro p e s m args below meth c s₁ B hml hv
  obtain ⟨⟨rfl, hsz, hP, hK, hD0, hN, hC⟩, hnc⟩ := hv
  have hx := B.exec
  have hb := B.bytes
  have hr := B.returns
  have hts := atoms_spec (ws := w_La_read) B.pre
  have hg : ∀ w ∈ gW, w.before _ s = true := fun w h => hts w (List.mem_cons_of_mem _ h)
  have hown : s.vm.findClass R_La = some m.cls := findClass_of_methodNamed B.named
  have htab := xt_table B (hts _ List.mem_cons_self)
  subst hsz
  have hD := hD0.self (sz := s.heap.size)
  generalize hAe : va_A (aV kA ad t) s.heap.size = A at hD hC ⊢
  have hA : ∀ q : Nat, s.heap.size ≤ q → A q := fun q h => by rw [← hAe]; exact Or.inr h
  have hS : va_S A s.heap s.heap [] := va_S.rf
  have hl := lv_entry ([.ref (ad 0), .int x1, .int x2, .int x3, .ref (ad 149)]) (n := 6) (Nat.le_of_ble_eq_true rfl)
  rw [lg_entry_eq]
  generalize (lg_sl ([.ref (ad 0), .int x1, .int x2, .int x3, .ref (ad 149)]) ++ List.replicate (6 - (lg_sl ([.ref (ad 0), .int x1, .int x2, .int x3, .ref (ad 149)])).length) Slot.unset).toArray = ls at hl ⊢
  have hl : lv_has ls 6 [(0, .ref (ad 0)), (1, .int x1), (2, .int x2), (3, .int x3), (4, .ref (ad 149))] := hl
  refine lv_aload hx hb d_La_read_0 (lv_at hl 4 rfl) ?_
  refine lv_iconst (v := nI 0) hx hb d_La_read_2 (by decide) ?_
  refine lv_aload_n hx hb d_La_read_3 rfl (lv_at hl 0 rfl) ?_
  refine lv_iload_n hx hb d_La_read_4 rfl (lv_at hl 1 rfl) ?_
  refine lv_iload_n hx hb d_La_read_5 rfl (lv_at hl 2 rfl) ?_
  refine lv_iload_n hx hb d_La_read_6 rfl (lv_at hl 3 rfl) ?_
  refine xa_thr (rest := [.int (nI 0), .ref (ad 149)]) (E := 2) (hpc := 15) SIM hfl hx hb hml hown hg 136 rfl rfl rfl mw_1324 0 11 (by decide) rfl rfl rfl [.int x1, .int x2, .int x3] rfl (Nat.le_of_ble_eq_true rfl) hrun hK hN hC hP hD hS hA hl.1 rfl (Nat.le_of_ble_eq_true rfl) d_La_read_7 (Nat.le_of_ble_eq_true rfl) (Nat.le_of_ble_eq_true rfl) (Nat.le_of_ble_eq_true rfl) (Nat.le_of_ble_eq_true rfl) (xt_lead1 (E := "java/lang/IndexOutOfBoundsException") hown htab (by decide) (by decide) (by decide) (hg _ mw_1072) (hN.use nw_1082)) (fun x9 H locs hP hD hS => ?_)
  refine lv_astore (lv' := [(5, .ref x9), (0, .ref (ad 0)), (1, .int x1), (2, .int x2), (3, .int x3), (4, .ref (ad 149))]) hx hb d_La_read_15 hl (by decide) rfl (fun ls hl => ?_)
  refine lv_iconst (v := 1) hx hb d_La_read_17 (by decide) ?_
  exact W.iret (v := 1) hx hb hr (fun t9 ht hW => ⟨rfl, ⟨by rw [ht]; exact hP, va_K.moved hW.alike hK, hD⟩, hS.F ht⟩) hS.2.2 d_La_read_18
end WrA2
