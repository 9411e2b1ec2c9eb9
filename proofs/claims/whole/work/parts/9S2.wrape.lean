/-! the law's steps over the machine's world -/
section WrA4
variable {kA : Nat → ClassId} {ad : Nat → Nat} {D : va_G} {kS : Nat → Nat}
set_option maxHeartbeats 4000000 in
set_option maxRecDepth 100000 in
theorem wo_letter (SIM : xSim kA ad kS D) (l : Launch) (hfl : l.flags = flags0) (sz : Nat) (x1 x2 : Int32) {t t1 : aT} {v : Int32} (hrun : fLk_letter 150 x1 x2 t = rI v t1) : Met l y_La_letter w_La_letter { frames := 157, cells := 0, slots := 0, locals := 9141 } (xPreN D vC (tK kA) kS [.ref (ad 0), .int x1, .int x2, .ref (ad 149)] (aV kA ad t) sz) (aQ D kA (aV kA ad (pL t1 149 0 v.toInt64)) (va_A (aV kA ad t) sz) (some (.int 0))) 0 0 (va_A (aV kA ad t) sz) := by
  refine va_MetW (cc := b_La_letter) (maxL := 5) (ret := (some .int)) (hh := [(0, 10, 13, 25), (0, 10, 17, 19)]) (by decide) rfl ?_
  intro p e s m args below meth c s₁ B hml hv
  obtain ⟨⟨rfl, hsz, hP, hK, hD0, hN, hC⟩, hnc⟩ := hv
  have hx := B.exec
  have hb := B.bytes
  have hr := B.returns
  have hts := atoms_spec (ws := w_La_letter) B.pre
  have hg : ∀ w ∈ gW, w.before _ s = true := fun w h => hts w (List.mem_cons_of_mem _ h)
  have hown : s.vm.findClass R_La = some m.cls := findClass_of_methodNamed B.named
  have htab := xt_table B (hts _ List.mem_cons_self)
  subst hsz
  have hD := hD0.self (sz := s.heap.size)
  generalize hAe : va_A (aV kA ad t) s.heap.size = A at hD hC ⊢
  have hA : ∀ q : Nat, s.heap.size ≤ q → A q := fun q h => by rw [← hAe]; exact Or.inr h
  have hS : va_S A s.heap s.heap [] := va_S.rf
  have hl := lv_entry ([.ref (ad 0), .int x1, .int x2, .ref (ad 149)]) (n := 5) (Nat.le_of_ble_eq_true rfl)
  rw [lg_entry_eq]
  generalize (lg_sl ([.ref (ad 0), .int x1, .int x2, .ref (ad 149)]) ++ List.replicate (5 - (lg_sl ([.ref (ad 0), .int x1, .int x2, .ref (ad 149)])).length) Slot.unset).toArray = ls at hl ⊢
  have hl : lv_has ls 5 [(0, .ref (ad 0)), (1, .int x1), (2, .int x2), (3, .ref (ad 149))] := hl
  refine lv_aload_n hx hb d_La_letter_0 rfl (lv_at hl 3 rfl) ?_
  refine lv_iconst (v := nI 0) hx hb d_La_letter_1 (by decide) ?_
  refine lv_aload_n hx hb d_La_letter_2 rfl (lv_at hl 0 rfl) ?_
  refine lv_iload_n hx hb d_La_letter_3 rfl (lv_at hl 1 rfl) ?_
  refine lv_iload_n hx hb d_La_letter_4 rfl (lv_at hl 2 rfl) ?_
  refine xa_call (rest := [.int (nI 0), .ref (ad 149)]) (rv := (some (.int v))) (t1 := t1) SIM hfl hx hb hml hown hg 177 rfl rfl rfl mw_1520 0 11 (by decide) rfl rfl rfl [.int x1, .int x2] rfl (Nat.le_of_ble_eq_true rfl) hrun 0 (ev_u0 (by decide) (rfl : aTB 177 = some _) hrun) hK hN hC hP hD hS hA hl.1 rfl (Nat.le_of_ble_eq_true rfl) d_La_letter_5 (Nat.le_of_ble_eq_true rfl) (Nat.le_of_ble_eq_true rfl) (Nat.le_of_ble_eq_true rfl) (Nat.le_of_ble_eq_true rfl) (fun H locs hP hD hS => ?_)
  refine W.eq (g2 := F0 m 8 ls [.int v, .int (nI 0), .ref (ad 149)]) rfl ?_
  refine lv_i2l hx hb d_La_letter_8 rfl ?_
  refine lv_topl (fun y ey => ?_)
  replace ey : y = v.toInt64 := ey.trans rfl
  subst ey
  refine xa_last hx hb hK hP hD hS d_La_letter_9 (fun H locs hP hD hS => ?_)
  refine lv_goto (tgt := 21) hx hb d_La_letter_10 (by decide) ?_
  refine lv_iconst (v := 0) hx hb d_La_letter_21 (by decide) ?_
  exact W.iret (v := 0) hx hb hr (fun t9 ht hW => ⟨rfl, ⟨by rw [ht]; exact hP, va_K.moved hW.alike hK, hD⟩, hS.F ht⟩) hS.2.2 d_La_letter_22
set_option maxHeartbeats 4000000 in
set_option maxRecDepth 100000 in
theorem wx_letter (SIM : xSim kA ad kS D) (l : Launch) (hfl : l.flags = flags0) (sz : Nat) (x1 x2 : Int32) {t : aT} (hrun : fLk_letter 150 x1 x2 t = rX 2 t) : Met l y_La_letter w_La_letter { frames := 157, cells := 1, slots := 6, locals := 9141 } (xPreN D vC (tK kA) kS [.ref (ad 0), .int x1, .int x2, .ref (ad 149)] (aV kA ad t) sz) (aQ D kA (aV kA ad t) (va_A (aV kA ad t) sz) (some (.int 1))) 1 6 (va_A (aV kA ad t) sz) := by
  refine va_MetW (cc := b_La_letter) (maxL := 5) (ret := (some .int)) (hh := [(0, 10, 13, 25), (0, 10, 17, 19)]) (by decide) rfl ?_
  intro p e s m args below meth c s₁ B hml hv
  obtain ⟨⟨rfl, hsz, hP, hK, hD0, hN, hC⟩, hnc⟩ := hv
  have hx := B.exec
  have hb := B.bytes
  have hr := B.returns
  have hts := atoms_spec (ws := w_La_letter) B.pre
  have hg : ∀ w ∈ gW, w.before _ s = true := fun w h => hts w (List.mem_cons_of_mem _ h)
  have hown : s.vm.findClass R_La = some m.cls := findClass_of_methodNamed B.named
  have htab := xt_table B (hts _ List.mem_cons_self)
  subst hsz
  have hD := hD0.self (sz := s.heap.size)
  generalize hAe : va_A (aV kA ad t) s.heap.size = A at hD hC ⊢
  have hA : ∀ q : Nat, s.heap.size ≤ q → A q := fun q h => by rw [← hAe]; exact Or.inr h
  have hS : va_S A s.heap s.heap [] := va_S.rf
  have hl := lv_entry ([.ref (ad 0), .int x1, .int x2, .ref (ad 149)]) (n := 5) (Nat.le_of_ble_eq_true rfl)
  rw [lg_entry_eq]
  generalize (lg_sl ([.ref (ad 0), .int x1, .int x2, .ref (ad 149)]) ++ List.replicate (5 - (lg_sl ([.ref (ad 0), .int x1, .int x2, .ref (ad 149)])).length) Slot.unset).toArray = ls at hl ⊢
  have hl : lv_has ls 5 [(0, .ref (ad 0)), (1, .int x1), (2, .int x2), (3, .ref (ad 149))] := hl
  refine lv_aload_n hx hb d_La_letter_0 rfl (lv_at hl 3 rfl) ?_
  refine lv_iconst (v := nI 0) hx hb d_La_letter_1 (by decide) ?_
  refine lv_aload_n hx hb d_La_letter_2 rfl (lv_at hl 0 rfl) ?_
  refine lv_iload_n hx hb d_La_letter_3 rfl (lv_at hl 1 rfl) ?_
  refine lv_iload_n hx hb d_La_letter_4 rfl (lv_at hl 2 rfl) ?_
  refine xa_thr (rest := [.int (nI 0), .ref (ad 149)]) (E := 2) (hpc := 13) SIM hfl hx hb hml hown hg 177 rfl rfl rfl mw_1520 0 11 (by decide) rfl rfl rfl [.int x1, .int x2] rfl (Nat.le_of_ble_eq_true rfl) hrun hK hN hC hP hD hS hA hl.1 rfl (Nat.le_of_ble_eq_true rfl) d_La_letter_5 (Nat.le_of_ble_eq_true rfl) (Nat.le_of_ble_eq_true rfl) (Nat.le_of_ble_eq_true rfl) (Nat.le_of_ble_eq_true rfl) (xt_lead2a (E := "java/lang/IndexOutOfBoundsException") hown htab (by decide) (by decide) (by decide) (hg _ mw_1072) (hN.use nw_1082)) (fun x9 H locs hP hD hS => ?_)
  refine lv_astore (lv' := [(4, .ref x9), (0, .ref (ad 0)), (1, .int x1), (2, .int x2), (3, .ref (ad 149))]) hx hb d_La_letter_13 hl (by decide) rfl (fun ls hl => ?_)
  refine lv_iconst (v := 1) hx hb d_La_letter_15 (by decide) ?_
  exact W.iret (v := 1) hx hb hr (fun t9 ht hW => ⟨rfl, ⟨by rw [ht]; exact hP, va_K.moved hW.alike hK, hD⟩, hS.F ht⟩) hS.2.2 d_La_letter_16
set_option maxHeartbeats 4000000 in
set_option maxRecDepth 100000 in
theorem wx_letter2 (SIM : xSim kA ad kS D) (l : Launch) (hfl : l.flags = flags0) (sz : Nat) (x1 x2 : Int32) {t : aT} (hrun : fLk_letter 150 x1 x2 t = rX 1 t) : Met l y_La_letter w_La_letter { frames := 157, cells := 1, slots := 6, locals := 9141 } (xPreN D vC (tK kA) kS [.ref (ad 0), .int x1, .int x2, .ref (ad 149)] (aV kA ad t) sz) (aQ D kA (aV kA ad t) (va_A (aV kA ad t) sz) (some (.int 2))) 1 6 (va_A (aV kA ad t) sz) := by
  refine va_MetW (cc := b_La_letter) (maxL := 5) (ret := (some .int)) (hh := [(0, 10, 13, 25), (0, 10, 17, 19)]) (by decide) rfl ?_
  intro p e s m args below meth c s₁ B hml hv
  obtain ⟨⟨rfl, hsz, hP, hK, hD0, hN, hC⟩, hnc⟩ := hv
  have hx := B.exec
  have hb := B.bytes
  have hr := B.returns
  have hts := atoms_spec (ws := w_La_letter) B.pre
  have hg : ∀ w ∈ gW, w.before _ s = true := fun w h => hts w (List.mem_cons_of_mem _ h)
  have hown : s.vm.findClass R_La = some m.cls := findClass_of_methodNamed B.named
  have htab := xt_table B (hts _ List.mem_cons_self)
  subst hsz
  have hD := hD0.self (sz := s.heap.size)
  generalize hAe : va_A (aV kA ad t) s.heap.size = A at hD hC ⊢
  have hA : ∀ q : Nat, s.heap.size ≤ q → A q := fun q h => by rw [← hAe]; exact Or.inr h
  have hS : va_S A s.heap s.heap [] := va_S.rf
  have hl := lv_entry ([.ref (ad 0), .int x1, .int x2, .ref (ad 149)]) (n := 5) (Nat.le_of_ble_eq_true rfl)
  rw [lg_entry_eq]
  generalize (lg_sl ([.ref (ad 0), .int x1, .int x2, .ref (ad 149)]) ++ List.replicate (5 - (lg_sl ([.ref (ad 0), .int x1, .int x2, .ref (ad 149)])).length) Slot.unset).toArray = ls at hl ⊢
  have hl : lv_has ls 5 [(0, .ref (ad 0)), (1, .int x1), (2, .int x2), (3, .ref (ad 149))] := hl
  refine lv_aload_n hx hb d_La_letter_0 rfl (lv_at hl 3 rfl) ?_
  refine lv_iconst (v := nI 0) hx hb d_La_letter_1 (by decide) ?_
  refine lv_aload_n hx hb d_La_letter_2 rfl (lv_at hl 0 rfl) ?_
  refine lv_iload_n hx hb d_La_letter_3 rfl (lv_at hl 1 rfl) ?_
  refine lv_iload_n hx hb d_La_letter_4 rfl (lv_at hl 2 rfl) ?_
  refine xa_thr (rest := [.int (nI 0), .ref (ad 149)]) (E := 1) (hpc := 17) SIM hfl hx hb hml hown hg 177 rfl rfl rfl mw_1520 0 11 (by decide) rfl rfl rfl [.int x1, .int x2] rfl (Nat.le_of_ble_eq_true rfl) hrun hK hN hC hP hD hS hA hl.1 rfl (Nat.le_of_ble_eq_true rfl) d_La_letter_5 (Nat.le_of_ble_eq_true rfl) (Nat.le_of_ble_eq_true rfl) (Nat.le_of_ble_eq_true rfl) (Nat.le_of_ble_eq_true rfl) (xt_lead2b (E := "java/lang/IllegalArgumentException") hown htab (by decide) (by decide) (by decide) (by decide) (hg _ mw_1072) hnc (hg _ mw_1048) (hN.use nw_1055)) (fun x9 H locs hP hD hS => ?_)
  refine lv_astore (lv' := [(4, .ref x9), (0, .ref (ad 0)), (1, .int x1), (2, .int x2), (3, .ref (ad 149))]) hx hb d_La_letter_17 hl (by decide) rfl (fun ls hl => ?_)
  refine lv_iconst (v := 2) hx hb d_La_letter_19 (by decide) ?_
  exact W.iret (v := 2) hx hb hr (fun t9 ht hW => ⟨rfl, ⟨by rw [ht]; exact hP, va_K.moved hW.alike hK, hD⟩, hS.F ht⟩) hS.2.2 d_La_letter_20
set_option maxHeartbeats 4000000 in
set_option maxRecDepth 100000 in
theorem wo_file (SIM : xSim kA ad kS D) (l : Launch) (hfl : l.flags = flags0) (sz : Nat) (x1 x2 : Int32) {t t1 : aT} {v : Int32} (hrun : fLk_file 150 x1 x2 t = rI v t1) : Met l y_La_file w_La_file { frames := 157, cells := 0, slots := 0, locals := 9141 } (xPreN D vC (tK kA) kS [.ref (ad 0), .int x1, .int x2, .ref (ad 149)] (aV kA ad t) sz) (aQ D kA (aV kA ad (pL t1 149 0 v.toInt64)) (va_A (aV kA ad t) sz) (some (.int 0))) 0 0 (va_A (aV kA ad t) sz) := by
  refine va_MetW (cc := b_La_file) (maxL := 5) (ret := (some .int)) (hh := [(0, 10, 13, 25), (0, 10, 17, 19)]) (by decide) rfl ?_
  intro p e s m args below meth c s₁ B hml hv
  obtain ⟨⟨rfl, hsz, hP, hK, hD0, hN, hC⟩, hnc⟩ := hv
  have hx := B.exec
  have hb := B.bytes
  have hr := B.returns
  have hts := atoms_spec (ws := w_La_file) B.pre
  have hg : ∀ w ∈ gW, w.before _ s = true := fun w h => hts w (List.mem_cons_of_mem _ h)
  have hown : s.vm.findClass R_La = some m.cls := findClass_of_methodNamed B.named
  have htab := xt_table B (hts _ List.mem_cons_self)
  subst hsz
  have hD := hD0.self (sz := s.heap.size)
  generalize hAe : va_A (aV kA ad t) s.heap.size = A at hD hC ⊢
  have hA : ∀ q : Nat, s.heap.size ≤ q → A q := fun q h => by rw [← hAe]; exact Or.inr h
  have hS : va_S A s.heap s.heap [] := va_S.rf
  have hl := lv_entry ([.ref (ad 0), .int x1, .int x2, .ref (ad 149)]) (n := 5) (Nat.le_of_ble_eq_true rfl)
  rw [lg_entry_eq]
  generalize (lg_sl ([.ref (ad 0), .int x1, .int x2, .ref (ad 149)]) ++ List.replicate (5 - (lg_sl ([.ref (ad 0), .int x1, .int x2, .ref (ad 149)])).length) Slot.unset).toArray = ls at hl ⊢
  have hl : lv_has ls 5 [(0, .ref (ad 0)), (1, .int x1), (2, .int x2), (3, .ref (ad 149))] := hl
  refine lv_aload_n hx hb d_La_file_0 rfl (lv_at hl 3 rfl) ?_
  refine lv_iconst (v := nI 0) hx hb d_La_file_1 (by decide) ?_
  refine lv_aload_n hx hb d_La_file_2 rfl (lv_at hl 0 rfl) ?_
  refine lv_iload_n hx hb d_La_file_3 rfl (lv_at hl 1 rfl) ?_
  refine lv_iload_n hx hb d_La_file_4 rfl (lv_at hl 2 rfl) ?_
  refine xa_call (rest := [.int (nI 0), .ref (ad 149)]) (rv := (some (.int v))) (t1 := t1) SIM hfl hx hb hml hown hg 179 rfl rfl rfl mw_1536 0 11 (by decide) rfl rfl rfl [.int x1, .int x2] rfl (Nat.le_of_ble_eq_true rfl) hrun 0 (ev_u0 (by decide) (rfl : aTB 179 = some _) hrun) hK hN hC hP hD hS hA hl.1 rfl (Nat.le_of_ble_eq_true rfl) d_La_file_5 (Nat.le_of_ble_eq_true rfl) (Nat.le_of_ble_eq_true rfl) (Nat.le_of_ble_eq_true rfl) (Nat.le_of_ble_eq_true rfl) (fun H locs hP hD hS => ?_)
  refine W.eq (g2 := F0 m 8 ls [.int v, .int (nI 0), .ref (ad 149)]) rfl ?_
  refine lv_i2l hx hb d_La_file_8 rfl ?_
  refine lv_topl (fun y ey => ?_)
  replace ey : y = v.toInt64 := ey.trans rfl
  subst ey
  refine xa_last hx hb hK hP hD hS d_La_file_9 (fun H locs hP hD hS => ?_)
  refine lv_goto (tgt := 21) hx hb d_La_file_10 (by decide) ?_
  refine lv_iconst (v := 0) hx hb d_La_file_21 (by decide) ?_
  exact W.iret (v := 0) hx hb hr (fun t9 ht hW => ⟨rfl, ⟨by rw [ht]; exact hP, va_K.moved hW.alike hK, hD⟩, hS.F ht⟩) hS.2.2 d_La_file_22
set_option maxHeartbeats 4000000 in
set_option maxRecDepth 100000 in
theorem wx_file (SIM : xSim kA ad kS D) (l : Launch) (hfl : l.flags = flags0) (sz : Nat) (x1 x2 : Int32) {t : aT} (hrun : fLk_file 150 x1 x2 t = rX 2 t) : Met l y_La_file w_La_file { frames := 157, cells := 1, slots := 6, locals := 9141 } (xPreN D vC (tK kA) kS [.ref (ad 0), .int x1, .int x2, .ref (ad 149)] (aV kA ad t) sz) (aQ D kA (aV kA ad t) (va_A (aV kA ad t) sz) (some (.int 1))) 1 6 (va_A (aV kA ad t) sz) := by
  refine va_MetW (cc := b_La_file) (maxL := 5) (ret := (some .int)) (hh := [(0, 10, 13, 25), (0, 10, 17, 19)]) (by decide) rfl ?_
  intro p e s m args below meth c s₁ B hml hv
  obtain ⟨⟨rfl, hsz, hP, hK, hD0, hN, hC⟩, hnc⟩ := hv
  have hx := B.exec
  have hb := B.bytes
  have hr := B.returns
  have hts := atoms_spec (ws := w_La_file) B.pre
  have hg : ∀ w ∈ gW, w.before _ s = true := fun w h => hts w (List.mem_cons_of_mem _ h)
  have hown : s.vm.findClass R_La = some m.cls := findClass_of_methodNamed B.named
  have htab := xt_table B (hts _ List.mem_cons_self)
  subst hsz
  have hD := hD0.self (sz := s.heap.size)
  generalize hAe : va_A (aV kA ad t) s.heap.size = A at hD hC ⊢
  have hA : ∀ q : Nat, s.heap.size ≤ q → A q := fun q h => by rw [← hAe]; exact Or.inr h
  have hS : va_S A s.heap s.heap [] := va_S.rf
  have hl := lv_entry ([.ref (ad 0), .int x1, .int x2, .ref (ad 149)]) (n := 5) (Nat.le_of_ble_eq_true rfl)
  rw [lg_entry_eq]
  generalize (lg_sl ([.ref (ad 0), .int x1, .int x2, .ref (ad 149)]) ++ List.replicate (5 - (lg_sl ([.ref (ad 0), .int x1, .int x2, .ref (ad 149)])).length) Slot.unset).toArray = ls at hl ⊢
  have hl : lv_has ls 5 [(0, .ref (ad 0)), (1, .int x1), (2, .int x2), (3, .ref (ad 149))] := hl
  refine lv_aload_n hx hb d_La_file_0 rfl (lv_at hl 3 rfl) ?_
  refine lv_iconst (v := nI 0) hx hb d_La_file_1 (by decide) ?_
  refine lv_aload_n hx hb d_La_file_2 rfl (lv_at hl 0 rfl) ?_
  refine lv_iload_n hx hb d_La_file_3 rfl (lv_at hl 1 rfl) ?_
  refine lv_iload_n hx hb d_La_file_4 rfl (lv_at hl 2 rfl) ?_
  refine xa_thr (rest := [.int (nI 0), .ref (ad 149)]) (E := 2) (hpc := 13) SIM hfl hx hb hml hown hg 179 rfl rfl rfl mw_1536 0 11 (by decide) rfl rfl rfl [.int x1, .int x2] rfl (Nat.le_of_ble_eq_true rfl) hrun hK hN hC hP hD hS hA hl.1 rfl (Nat.le_of_ble_eq_true rfl) d_La_file_5 (Nat.le_of_ble_eq_true rfl) (Nat.le_of_ble_eq_true rfl) (Nat.le_of_ble_eq_true rfl) (Nat.le_of_ble_eq_true rfl) (xt_lead2a (E := "java/lang/IndexOutOfBoundsException") hown htab (by decide) (by decide) (by decide) (hg _ mw_1072) (hN.use nw_1082)) (fun x9 H locs hP hD hS => ?_)
  refine lv_astore (lv' := [(4, .ref x9), (0, .ref (ad 0)), (1, .int x1), (2, .int x2), (3, .ref (ad 149))]) hx hb d_La_file_13 hl (by decide) rfl (fun ls hl => ?_)
  refine lv_iconst (v := 1) hx hb d_La_file_15 (by decide) ?_
  exact W.iret (v := 1) hx hb hr (fun t9 ht hW => ⟨rfl, ⟨by rw [ht]; exact hP, va_K.moved hW.alike hK, hD⟩, hS.F ht⟩) hS.2.2 d_La_file_16
set_option maxHeartbeats 4000000 in
set_option maxRecDepth 100000 in
theorem wx_file2 (SIM : xSim kA ad kS D) (l : Launch) (hfl : l.flags = flags0) (sz : Nat) (x1 x2 : Int32) {t : aT} (hrun : fLk_file 150 x1 x2 t = rX 1 t) : Met l y_La_file w_La_file { frames := 157, cells := 1, slots := 6, locals := 9141 } (xPreN D vC (tK kA) kS [.ref (ad 0), .int x1, .int x2, .ref (ad 149)] (aV kA ad t) sz) (aQ D kA (aV kA ad t) (va_A (aV kA ad t) sz) (some (.int 2))) 1 6 (va_A (aV kA ad t) sz) := by
  refine va_MetW (cc := b_La_file) (maxL := 5) (ret := (some .int)) (hh := [(0, 10, 13, 25), (0, 10, 17, 19)]) (by decide) rfl ?_
  intro p e s m args below meth c s₁ B hml hv
  obtain ⟨⟨rfl, hsz, hP, hK, hD0, hN, hC⟩, hnc⟩ := hv
  have hx := B.exec
  have hb := B.bytes
  have hr := B.returns
  have hts := atoms_spec (ws := w_La_file) B.pre
  have hg : ∀ w ∈ gW, w.before _ s = true := fun w h => hts w (List.mem_cons_of_mem _ h)
  have hown : s.vm.findClass R_La = some m.cls := findClass_of_methodNamed B.named
  have htab := xt_table B (hts _ List.mem_cons_self)
  subst hsz
  have hD := hD0.self (sz := s.heap.size)
  generalize hAe : va_A (aV kA ad t) s.heap.size = A at hD hC ⊢
  have hA : ∀ q : Nat, s.heap.size ≤ q → A q := fun q h => by rw [← hAe]; exact Or.inr h
  have hS : va_S A s.heap s.heap [] := va_S.rf
  have hl := lv_entry ([.ref (ad 0), .int x1, .int x2, .ref (ad 149)]) (n := 5) (Nat.le_of_ble_eq_true rfl)
  rw [lg_entry_eq]
  generalize (lg_sl ([.ref (ad 0), .int x1, .int x2, .ref (ad 149)]) ++ List.replicate (5 - (lg_sl ([.ref (ad 0), .int x1, .int x2, .ref (ad 149)])).length) Slot.unset).toArray = ls at hl ⊢
  have hl : lv_has ls 5 [(0, .ref (ad 0)), (1, .int x1), (2, .int x2), (3, .ref (ad 149))] := hl
  refine lv_aload_n hx hb d_La_file_0 rfl (lv_at hl 3 rfl) ?_
  refine lv_iconst (v := nI 0) hx hb d_La_file_1 (by decide) ?_
  refine lv_aload_n hx hb d_La_file_2 rfl (lv_at hl 0 rfl) ?_
  refine lv_iload_n hx hb d_La_file_3 rfl (lv_at hl 1 rfl) ?_
  refine lv_iload_n hx hb d_La_file_4 rfl (lv_at hl 2 rfl) ?_
  refine xa_thr (rest := [.int (nI 0), .ref (ad 149)]) (E := 1) (hpc := 17) SIM hfl hx hb hml hown hg 179 rfl rfl rfl mw_1536 0 11 (by decide) rfl rfl rfl [.int x1, .int x2] rfl (Nat.le_of_ble_eq_true rfl) hrun hK hN hC hP hD hS hA hl.1 rfl (Nat.le_of_ble_eq_true rfl) d_La_file_5 (Nat.le_of_ble_eq_true rfl) (Nat.le_of_ble_eq_true rfl) (Nat.le_of_ble_eq_true rfl) (Nat.le_of_ble_eq_true rfl) (xt_lead2b (E := "java/lang/IllegalArgumentException") hown htab (by decide) (by decide) (by decide) (by decide) (hg _ mw_1072) hnc (hg _ mw_1048) (hN.use nw_1055)) (fun x9 H locs hP hD hS => ?_)
  refine lv_astore (lv' := [(4, .ref x9), (0, .ref (ad 0)), (1, .int x1), (2, .int x2), (3, .ref (ad 149))]) hx hb d_La_file_17 hl (by decide) rfl (fun ls hl => ?_)
  refine lv_iconst (v := 2) hx hb d_La_file_19 (by decide) ?_
  exact W.iret (v := 2) hx hb hr (fun t9 ht hW => ⟨rfl, ⟨by rw [ht]; exact hP, va_K.moved hW.alike hK, hD⟩, hS.F ht⟩) hS.2.2 d_La_file_20
set_option maxHeartbeats 4000000 in
set_option maxRecDepth 100000 in
theorem wo_power (SIM : xSim kA ad kS D) (l : Launch) (hfl : l.flags = flags0) (sz : Nat) (x1 : Int32) {t t1 : aT} (hrun : fLk_power 150 x1 t = rV t1) : Met l y_La_power w_La_power { frames := 157, cells := 0, slots := 0, locals := 9141 } (xPreN D vC (tK kA) kS [.ref (ad 0), .int x1] (aV kA ad t) sz) (aQ D kA (aV kA ad t1) (va_A (aV kA ad t) sz) (some (.int 0))) 0 0 (va_A (aV kA ad t) sz) := by
  refine va_MetW (cc := b_La_power) (maxL := 3) (ret := (some .int)) (hh := [(0, 5, 8, 19)]) (by decide) rfl ?_
  intro p e s m args below meth c s₁ B hml hv
  obtain ⟨⟨rfl, hsz, hP, hK, hD0, hN, hC⟩, hnc⟩ := hv
  have hx := B.exec
  have hb := B.bytes
  have hr := B.returns
  have hts := atoms_spec (ws := w_La_power) B.pre
  have hg : ∀ w ∈ gW, w.before _ s = true := fun w h => hts w (List.mem_cons_of_mem _ h)
  have hown : s.vm.findClass R_La = some m.cls := findClass_of_methodNamed B.named
  have htab := xt_table B (hts _ List.mem_cons_self)
  subst hsz
  have hD := hD0.self (sz := s.heap.size)
  generalize hAe : va_A (aV kA ad t) s.heap.size = A at hD hC ⊢
  have hA : ∀ q : Nat, s.heap.size ≤ q → A q := fun q h => by rw [← hAe]; exact Or.inr h
  have hS : va_S A s.heap s.heap [] := va_S.rf
  have hl := lv_entry ([.ref (ad 0), .int x1]) (n := 3) (Nat.le_of_ble_eq_true rfl)
  rw [lg_entry_eq]
  generalize (lg_sl ([.ref (ad 0), .int x1]) ++ List.replicate (3 - (lg_sl ([.ref (ad 0), .int x1])).length) Slot.unset).toArray = ls at hl ⊢
  have hl : lv_has ls 3 [(0, .ref (ad 0)), (1, .int x1)] := hl
  refine lv_aload_n hx hb d_La_power_0 rfl (lv_at hl 0 rfl) ?_
  refine lv_iload_n hx hb d_La_power_1 rfl (lv_at hl 1 rfl) ?_
  refine xa_call (rest := []) (rv := none) (t1 := t1) SIM hfl hx hb hml hown hg 180 rfl rfl rfl mw_1544 0 11 (by decide) rfl rfl rfl [.int x1] rfl (Nat.le_of_ble_eq_true rfl) hrun 0 (ev_u0 (by decide) (rfl : aTB 180 = some _) hrun) hK hN hC hP hD hS hA hl.1 rfl (Nat.le_of_ble_eq_true rfl) d_La_power_2 (Nat.le_of_ble_eq_true rfl) (Nat.le_of_ble_eq_true rfl) (Nat.le_of_ble_eq_true rfl) (Nat.le_of_ble_eq_true rfl) (fun H locs hP hD hS => ?_)
  refine W.eq (g2 := F0 m 5 ls []) rfl ?_
  refine lv_goto (tgt := 11) hx hb d_La_power_5 (by decide) ?_
  refine lv_iconst (v := 0) hx hb d_La_power_11 (by decide) ?_
  exact W.iret (v := 0) hx hb hr (fun t9 ht hW => ⟨rfl, ⟨by rw [ht]; exact hP, va_K.moved hW.alike hK, hD⟩, hS.F ht⟩) hS.2.2 d_La_power_12
set_option maxHeartbeats 4000000 in
set_option maxRecDepth 100000 in
theorem wx_power (SIM : xSim kA ad kS D) (l : Launch) (hfl : l.flags = flags0) (sz : Nat) (x1 : Int32) {t : aT} (hrun : fLk_power 150 x1 t = rX 1 t) : Met l y_La_power w_La_power { frames := 157, cells := 1, slots := 6, locals := 9141 } (xPreN D vC (tK kA) kS [.ref (ad 0), .int x1] (aV kA ad t) sz) (aQ D kA (aV kA ad t) (va_A (aV kA ad t) sz) (some (.int 1))) 1 6 (va_A (aV kA ad t) sz) := by
  refine va_MetW (cc := b_La_power) (maxL := 3) (ret := (some .int)) (hh := [(0, 5, 8, 19)]) (by decide) rfl ?_
  intro p e s m args below meth c s₁ B hml hv
  obtain ⟨⟨rfl, hsz, hP, hK, hD0, hN, hC⟩, hnc⟩ := hv
  have hx := B.exec
  have hb := B.bytes
  have hr := B.returns
  have hts := atoms_spec (ws := w_La_power) B.pre
  have hg : ∀ w ∈ gW, w.before _ s = true := fun w h => hts w (List.mem_cons_of_mem _ h)
  have hown : s.vm.findClass R_La = some m.cls := findClass_of_methodNamed B.named
  have htab := xt_table B (hts _ List.mem_cons_self)
  subst hsz
  have hD := hD0.self (sz := s.heap.size)
  generalize hAe : va_A (aV kA ad t) s.heap.size = A at hD hC ⊢
  have hA : ∀ q : Nat, s.heap.size ≤ q → A q := fun q h => by rw [← hAe]; exact Or.inr h
  have hS : va_S A s.heap s.heap [] := va_S.rf
  have hl := lv_entry ([.ref (ad 0), .int x1]) (n := 3) (Nat.le_of_ble_eq_true rfl)
  rw [lg_entry_eq]
  generalize (lg_sl ([.ref (ad 0), .int x1]) ++ List.replicate (3 - (lg_sl ([.ref (ad 0), .int x1])).length) Slot.unset).toArray = ls at hl ⊢
  have hl : lv_has ls 3 [(0, .ref (ad 0)), (1, .int x1)] := hl
  refine lv_aload_n hx hb d_La_power_0 rfl (lv_at hl 0 rfl) ?_
  refine lv_iload_n hx hb d_La_power_1 rfl (lv_at hl 1 rfl) ?_
  refine xa_thr (rest := []) (E := 1) (hpc := 8) SIM hfl hx hb hml hown hg 180 rfl rfl rfl mw_1544 0 11 (by decide) rfl rfl rfl [.int x1] rfl (Nat.le_of_ble_eq_true rfl) hrun hK hN hC hP hD hS hA hl.1 rfl (Nat.le_of_ble_eq_true rfl) d_La_power_2 (Nat.le_of_ble_eq_true rfl) (Nat.le_of_ble_eq_true rfl) (Nat.le_of_ble_eq_true rfl) (Nat.le_of_ble_eq_true rfl) (xt_lead1 (E := "java/lang/IllegalArgumentException") hown htab (by decide) (by decide) (by decide) (hg _ mw_1048) (hN.use nw_1055)) (fun x9 H locs hP hD hS => ?_)
  refine lv_astore_n (lv' := [(2, .ref x9), (0, .ref (ad 0)), (1, .int x1)]) hx hb d_La_power_8 rfl hl (by decide) rfl (fun ls hl => ?_)
  refine lv_iconst (v := 1) hx hb d_La_power_9 (by decide) ?_
  exact W.iret (v := 1) hx hb hr (fun t9 ht hW => ⟨rfl, ⟨by rw [ht]; exact hP, va_K.moved hW.alike hK, hD⟩, hS.F ht⟩) hS.2.2 d_La_power_10
end WrA4
