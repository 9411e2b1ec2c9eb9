/-! the reference: end, place, files, power, start, size, letter, file, count, clear, compact on an empty lake -/
theorem mo_in_1 {v a b : Int32} (h1 : ¬ v < a) (h2 : ¬ b < v) : mo_in v a b = 1 := by unfold mo_in; rw [if_neg h1, if_neg h2]
theorem mo_in_0 {v a b : Int32} (h : v < a ∨ b < v) : mo_in v a b = 0 := by
  unfold mo_in
  by_cases h1 : v < a
  · rw [if_pos h1]
  · rw [if_neg h1, if_pos (h.resolve_left h1)]
theorem mo_m1 (i : Int32) : i < 0 ∨ (0 : Int32) - 1 < i := by
  by_cases h : i < 0
  · exact Or.inl h
  · refine Or.inr ?_
    have h1 : ((0 : Int32) - 1).toInt = -1 := by decide +kernel
    have h2 : ((0 : Int32)).toInt = 0 := by decide +kernel
    rw [Int32.lt_iff_toInt_lt] at h ⊢
    omega
set_option maxHeartbeats 4000000 in
set_option maxRecDepth 100000 in
/-- place() -/
theorem c_Mo_place (l : Launch) (D : va_G) (kA : Nat → ClassId) (kS : Nat → Nat) (sz : Nat) (h0 : Nat) (r : Nat → Nat) (z : Nat → Int32) (y : Nat → Int64)  : Met l y_Mo_place w_Mo_place { frames := 0, cells := 0, slots := 0, locals := 0 } (xPre D vC (tK kA) kS [.ref h0] ([oMo h0 r z y]) sz) (va_Qi (fun (x : Int32) (_ : Unit) => x = z 3) (xB D vC (tK kA) (fun _ => [oMo h0 r (upd z 0 0) y]) (va_A ([oMo h0 r z y]) sz)) (va_A ([oMo h0 r z y]) sz)) 0 0 (va_A ([oMo h0 r z y]) sz) := by
  refine Met.ofW (cc := b_Mo_place) (maxL := 1) (ret := (some .int)) (by decide) rfl ?_
  intro p e s m args below meth c s₁ B hml hv
  obtain ⟨rfl, hsz, hP, hK, hD0, hN, hC⟩ := hv
  have hx := B.exec
  have hb := B.bytes
  have hr := B.returns
  have hts := atoms_spec (ws := w_Mo_place) B.pre
  have hg : ∀ w ∈ gW, w.before _ s = true := fun w h => hts w (List.mem_cons_of_mem _ h)
  have hown : s.vm.findClass R_Mo = some m.cls := findClass_of_methodNamed B.named
  have hlocks := B.notSynchronized
  subst hsz
  have hD := hD0.self (sz := s.heap.size)
  generalize hAe : va_A ([oMo h0 r z y]) s.heap.size = A at hD hC ⊢
  have hA : ∀ q : Nat, s.heap.size ≤ q → A q := fun q h => by rw [← hAe]; exact Or.inr h
  have hS : va_S A s.heap s.heap [] := va_S.rf
  have hP : va_P D vC [(h0, .inr (13, [.int (z 0), .ref (r 1), .int (z 2), .int (z 3), .ref (r 4), .ref (r 5), .ref (r 6), .ref (r 7), .int (z 8), .ref (r 9), .int (z 10), .int (z 11), .int (z 12), .int (z 13), .ref (r 14), .ref (r 15), .ref (r 16), .ref (r 17), .ref (r 18), .ref (r 19), .ref (r 20), .ref (r 21), .int (z 22), .int (z 23), .int (z 24), .int (z 25), .int (z 26), .int (z 27), .ref (r 28), .ref (r 29), .int (z 30), .int (z 31), .int (z 32), .ref (r 33), .ref (r 34)]))] s.heap := hP
  have hD : va_D A [(h0, .inr (13, [.int (z 0), .ref (r 1), .int (z 2), .int (z 3), .ref (r 4), .ref (r 5), .ref (r 6), .ref (r 7), .int (z 8), .ref (r 9), .int (z 10), .int (z 11), .int (z 12), .int (z 13), .ref (r 14), .ref (r 15), .ref (r 16), .ref (r 17), .ref (r 18), .ref (r 19), .ref (r 20), .ref (r 21), .int (z 22), .int (z 23), .int (z 24), .int (z 25), .int (z 26), .int (z 27), .ref (r 28), .ref (r 29), .int (z 30), .int (z 31), .int (z 32), .ref (r 33), .ref (r 34)]))] := hD
  have hl := lv_entry ([.ref h0]) (n := 1) (Nat.le_of_ble_eq_true rfl)
  rw [lg_entry_eq]
  generalize (lg_sl ([.ref h0]) ++ List.replicate (1 - (lg_sl ([.ref h0])).length) Slot.unset).toArray = ls at hl ⊢
  have hl : lv_has ls 1 [(0, .ref h0)] := hl
  refine lv_aload_n hx hb d_Mo_place_0 rfl (lv_at hl 0 rfl) ?_
  refine lv_iconst (v := 0) hx hb d_Mo_place_1 (by decide) ?_
  refine va_put (D := D) (ci := 13) (v := .int 0) (ty := .int) (C := R_Mo) (T := F_Mo) (N := 35) hx hb hg i_Mo t_Mo t_Mo_ok n_Mo hown hK hP hD hS 0 rfl rfl 0 (by decide) (hg _ mw_1716) (fun _ h9 => h9) rfl (by decide +kernel) rfl rfl (Nat.le_of_ble_eq_true rfl) d_Mo_place_2 (fun H locs hP hD hS => ?_)
  have hP : va_P D vC [(h0, .inr (13, [.int 0, .ref (r 1), .int (z 2), .int (z 3), .ref (r 4), .ref (r 5), .ref (r 6), .ref (r 7), .int (z 8), .ref (r 9), .int (z 10), .int (z 11), .int (z 12), .int (z 13), .ref (r 14), .ref (r 15), .ref (r 16), .ref (r 17), .ref (r 18), .ref (r 19), .ref (r 20), .ref (r 21), .int (z 22), .int (z 23), .int (z 24), .int (z 25), .int (z 26), .int (z 27), .ref (r 28), .ref (r 29), .int (z 30), .int (z 31), .int (z 32), .ref (r 33), .ref (r 34)]))] H := hP
  have hD : va_D A [(h0, .inr (13, [.int 0, .ref (r 1), .int (z 2), .int (z 3), .ref (r 4), .ref (r 5), .ref (r 6), .ref (r 7), .int (z 8), .ref (r 9), .int (z 10), .int (z 11), .int (z 12), .int (z 13), .ref (r 14), .ref (r 15), .ref (r 16), .ref (r 17), .ref (r 18), .ref (r 19), .ref (r 20), .ref (r 21), .int (z 22), .int (z 23), .int (z 24), .int (z 25), .int (z 26), .int (z 27), .ref (r 28), .ref (r 29), .int (z 30), .int (z 31), .int (z 32), .ref (r 33), .ref (r 34)]))] := hD
  refine lv_aload_n hx hb d_Mo_place_5 rfl (lv_at hl 0 rfl) ?_
  refine va_get (D := D) (ci := 13) (v := .int (z 3)) (C := R_Mo) (T := F_Mo) (N := 35) hx hb hg i_Mo hown hK hP 0 rfl rfl 3 (by decide) (hg _ mw_1719) (fun _ h9 => h9) rfl d_Mo_place_6 ?_
  exact W.iret (v := z 3) hx hb hr (fun t ht hW => ⟨⟨z 3, (), rfl, rfl, by rw [ht]; exact hP, va_K.moved hW.alike hK, hD⟩, hS.F ht⟩) hS.2.2 d_Mo_place_9

set_option maxHeartbeats 4000000 in
set_option maxRecDepth 100000 in
/-- files(): not down -/
theorem c_Mo_files0 (l : Launch) (D : va_G) (kA : Nat → ClassId) (kS : Nat → Nat) (sz : Nat) (h0 : Nat) (r : Nat → Nat) (z : Nat → Int32) (y : Nat → Int64) (hz11 : z 11 = 0) : Met l y_Mo_files w_Mo_files { frames := 0, cells := 0, slots := 0, locals := 0 } (xPre D vC (tK kA) kS [.ref h0] ([oMo h0 r z y]) sz) (va_Qi (fun (x : Int32) (_ : Unit) => x = z 13) (xB D vC (tK kA) (fun _ => [oMo h0 r (upd z 0 0) y]) (va_A ([oMo h0 r z y]) sz)) (va_A ([oMo h0 r z y]) sz)) 0 0 (va_A ([oMo h0 r z y]) sz) := by
  refine Met.ofW (cc := b_Mo_files) (maxL := 1) (ret := (some .int)) (by decide) rfl ?_
  intro p e s m args below meth c s₁ B hml hv
  obtain ⟨rfl, hsz, hP, hK, hD0, hN, hC⟩ := hv
  have hx := B.exec
  have hb := B.bytes
  have hr := B.returns
  have hts := atoms_spec (ws := w_Mo_files) B.pre
  have hg : ∀ w ∈ gW, w.before _ s = true := fun w h => hts w (List.mem_cons_of_mem _ h)
  have hown : s.vm.findClass R_Mo = some m.cls := findClass_of_methodNamed B.named
  have hlocks := B.notSynchronized
  subst hsz
  have hD := hD0.self (sz := s.heap.size)
  generalize hAe : va_A ([oMo h0 r z y]) s.heap.size = A at hD hC ⊢
  have hA : ∀ q : Nat, s.heap.size ≤ q → A q := fun q h => by rw [← hAe]; exact Or.inr h
  have hS : va_S A s.heap s.heap [] := va_S.rf
  have hP : va_P D vC [(h0, .inr (13, [.int (z 0), .ref (r 1), .int (z 2), .int (z 3), .ref (r 4), .ref (r 5), .ref (r 6), .ref (r 7), .int (z 8), .ref (r 9), .int (z 10), .int (z 11), .int (z 12), .int (z 13), .ref (r 14), .ref (r 15), .ref (r 16), .ref (r 17), .ref (r 18), .ref (r 19), .ref (r 20), .ref (r 21), .int (z 22), .int (z 23), .int (z 24), .int (z 25), .int (z 26), .int (z 27), .ref (r 28), .ref (r 29), .int (z 30), .int (z 31), .int (z 32), .ref (r 33), .ref (r 34)]))] s.heap := hP
  have hD : va_D A [(h0, .inr (13, [.int (z 0), .ref (r 1), .int (z 2), .int (z 3), .ref (r 4), .ref (r 5), .ref (r 6), .ref (r 7), .int (z 8), .ref (r 9), .int (z 10), .int (z 11), .int (z 12), .int (z 13), .ref (r 14), .ref (r 15), .ref (r 16), .ref (r 17), .ref (r 18), .ref (r 19), .ref (r 20), .ref (r 21), .int (z 22), .int (z 23), .int (z 24), .int (z 25), .int (z 26), .int (z 27), .ref (r 28), .ref (r 29), .int (z 30), .int (z 31), .int (z 32), .ref (r 33), .ref (r 34)]))] := hD
  have hl := lv_entry ([.ref h0]) (n := 1) (Nat.le_of_ble_eq_true rfl)
  rw [lg_entry_eq]
  generalize (lg_sl ([.ref h0]) ++ List.replicate (1 - (lg_sl ([.ref h0])).length) Slot.unset).toArray = ls at hl ⊢
  have hl : lv_has ls 1 [(0, .ref h0)] := hl
  refine lv_aload_n hx hb d_Mo_files_0 rfl (lv_at hl 0 rfl) ?_
  refine lv_iconst (v := 0) hx hb d_Mo_files_1 (by decide) ?_
  refine va_put (D := D) (ci := 13) (v := .int 0) (ty := .int) (C := R_Mo) (T := F_Mo) (N := 35) hx hb hg i_Mo t_Mo t_Mo_ok n_Mo hown hK hP hD hS 0 rfl rfl 0 (by decide) (hg _ mw_1716) (fun _ h9 => h9) rfl (by decide +kernel) rfl rfl (Nat.le_of_ble_eq_true rfl) d_Mo_files_2 (fun H locs hP hD hS => ?_)
  have hP : va_P D vC [(h0, .inr (13, [.int 0, .ref (r 1), .int (z 2), .int (z 3), .ref (r 4), .ref (r 5), .ref (r 6), .ref (r 7), .int (z 8), .ref (r 9), .int (z 10), .int (z 11), .int (z 12), .int (z 13), .ref (r 14), .ref (r 15), .ref (r 16), .ref (r 17), .ref (r 18), .ref (r 19), .ref (r 20), .ref (r 21), .int (z 22), .int (z 23), .int (z 24), .int (z 25), .int (z 26), .int (z 27), .ref (r 28), .ref (r 29), .int (z 30), .int (z 31), .int (z 32), .ref (r 33), .ref (r 34)]))] H := hP
  have hD : va_D A [(h0, .inr (13, [.int 0, .ref (r 1), .int (z 2), .int (z 3), .ref (r 4), .ref (r 5), .ref (r 6), .ref (r 7), .int (z 8), .ref (r 9), .int (z 10), .int (z 11), .int (z 12), .int (z 13), .ref (r 14), .ref (r 15), .ref (r 16), .ref (r 17), .ref (r 18), .ref (r 19), .ref (r 20), .ref (r 21), .int (z 22), .int (z 23), .int (z 24), .int (z 25), .int (z 26), .int (z 27), .ref (r 28), .ref (r 29), .int (z 30), .int (z 31), .int (z 32), .ref (r 33), .ref (r 34)]))] := hD
  refine lv_aload_n hx hb d_Mo_files_5 rfl (lv_at hl 0 rfl) ?_
  refine va_get (D := D) (ci := 13) (v := .int (z 11)) (C := R_Mo) (T := F_Mo) (N := 35) hx hb hg i_Mo hown hK hP 0 rfl rfl 11 (by decide) (hg _ mw_1727) (fun _ h9 => h9) rfl d_Mo_files_6 ?_
  refine lv_if_eq (tgt := 17) hx hb d_Mo_files_9 (by decide) (fun c_9 => ?_) (fun c_9 => absurd hz11 c_9)
  refine lv_aload_n hx hb d_Mo_files_17 rfl (lv_at hl 0 rfl) ?_
  refine va_get (D := D) (ci := 13) (v := .int (z 13)) (C := R_Mo) (T := F_Mo) (N := 35) hx hb hg i_Mo hown hK hP 0 rfl rfl 13 (by decide) (hg _ mw_1729) (fun _ h9 => h9) rfl d_Mo_files_18 ?_
  exact W.iret (v := z 13) hx hb hr (fun t ht hW => ⟨⟨z 13, (), rfl, rfl, by rw [ht]; exact hP, va_K.moved hW.alike hK, hD⟩, hS.F ht⟩) hS.2.2 d_Mo_files_21

set_option maxHeartbeats 4000000 in
set_option maxRecDepth 100000 in
/-- start: not down -/
theorem c_Mo_start0 (l : Launch) (D : va_G) (kA : Nat → ClassId) (kS : Nat → Nat) (sz : Nat) (h0 : Nat) (r : Nat → Nat) (z : Nat → Int32) (y : Nat → Int64) (hz11 : z 11 = 0) : Met l y_Mo_start w_Mo_start { frames := 1, cells := 0, slots := 0, locals := 22 } (xPre D vC (tK kA) kS [.ref h0] ([oMo h0 r z y]) sz) (va_Qi (fun (x : Int32) (_ : Unit) => x = 0) (xB D vC (tK kA) (fun _ => [oMo h0 r (upd z 0 1) y]) (va_A ([oMo h0 r z y]) sz)) (va_A ([oMo h0 r z y]) sz)) 0 0 (va_A ([oMo h0 r z y]) sz) := by
  refine Met.ofW (cc := b_Mo_start) (maxL := 1) (ret := (some .int)) (by decide) rfl ?_
  intro p e s m args below meth c s₁ B hml hv
  obtain ⟨rfl, hsz, hP, hK, hD0, hN, hC⟩ := hv
  have hx := B.exec
  have hb := B.bytes
  have hr := B.returns
  have hts := atoms_spec (ws := w_Mo_start) B.pre
  have hg : ∀ w ∈ gW, w.before _ s = true := fun w h => hts w (List.mem_cons_of_mem _ h)
  have hown : s.vm.findClass R_Mo = some m.cls := findClass_of_methodNamed B.named
  have hlocks := B.notSynchronized
  subst hsz
  have hD := hD0.self (sz := s.heap.size)
  generalize hAe : va_A ([oMo h0 r z y]) s.heap.size = A at hD hC ⊢
  have hA : ∀ q : Nat, s.heap.size ≤ q → A q := fun q h => by rw [← hAe]; exact Or.inr h
  have hS : va_S A s.heap s.heap [] := va_S.rf
  have hP : va_P D vC [(h0, .inr (13, [.int (z 0), .ref (r 1), .int (z 2), .int (z 3), .ref (r 4), .ref (r 5), .ref (r 6), .ref (r 7), .int (z 8), .ref (r 9), .int (z 10), .int (z 11), .int (z 12), .int (z 13), .ref (r 14), .ref (r 15), .ref (r 16), .ref (r 17), .ref (r 18), .ref (r 19), .ref (r 20), .ref (r 21), .int (z 22), .int (z 23), .int (z 24), .int (z 25), .int (z 26), .int (z 27), .ref (r 28), .ref (r 29), .int (z 30), .int (z 31), .int (z 32), .ref (r 33), .ref (r 34)]))] s.heap := hP
  have hD : va_D A [(h0, .inr (13, [.int (z 0), .ref (r 1), .int (z 2), .int (z 3), .ref (r 4), .ref (r 5), .ref (r 6), .ref (r 7), .int (z 8), .ref (r 9), .int (z 10), .int (z 11), .int (z 12), .int (z 13), .ref (r 14), .ref (r 15), .ref (r 16), .ref (r 17), .ref (r 18), .ref (r 19), .ref (r 20), .ref (r 21), .int (z 22), .int (z 23), .int (z 24), .int (z 25), .int (z 26), .int (z 27), .ref (r 28), .ref (r 29), .int (z 30), .int (z 31), .int (z 32), .ref (r 33), .ref (r 34)]))] := hD
  have hl := lv_entry ([.ref h0]) (n := 1) (Nat.le_of_ble_eq_true rfl)
  rw [lg_entry_eq]
  generalize (lg_sl ([.ref h0]) ++ List.replicate (1 - (lg_sl ([.ref h0])).length) Slot.unset).toArray = ls at hl ⊢
  have hl : lv_has ls 1 [(0, .ref h0)] := hl
  refine lv_aload_n hx hb d_Mo_start_0 rfl (lv_at hl 0 rfl) ?_
  refine lv_aload_n hx hb d_Mo_start_1 rfl (lv_at hl 0 rfl) ?_
  refine va_get (D := D) (ci := 13) (v := .int (z 11)) (C := R_Mo) (T := F_Mo) (N := 35) hx hb hg i_Mo hown hK hP 0 rfl rfl 11 (by decide) (hg _ mw_1727) (fun _ h9 => h9) rfl d_Mo_start_2 ?_
  refine lv_if_ne (tgt := 12) hx hb d_Mo_start_5 (by decide) (fun c_5 => absurd hz11 c_5) (fun c_5 => ?_)
  refine lv_iconst (v := 1) hx hb d_Mo_start_8 (by decide) ?_
  refine lv_goto (tgt := 13) hx hb d_Mo_start_9 (by decide) ?_
  refine lv_iconst (v := 0) hx hb d_Mo_start_13 (by decide) ?_
  refine xc_i (wr := []) (va_runV (As := [.int 1, .int 0]) (rest := []) ⟨hx, hb, hml, hown, hg⟩ (c_Mo_refused l D kA kS s.heap.size h0 r z y 1 0) (cwV 2 hg (xg_V mw_1830 mw_1832 ms_96 mw_13 mw_1833) rfl rfl rfl (by decide +kernel) ⟨Nat.le_of_ble_eq_true rfl, Nat.le_of_ble_eq_true rfl⟩) (xc_preV hK hN hC hP hD hS hA [0] (by decide) rfl 0 rfl rfl) rfl rfl hl.1 rfl (lv_room (Nat.le_of_ble_eq_true rfl)) d_Mo_start_14 ⟨Nat.le_of_ble_eq_true rfl, Nat.le_of_ble_eq_true rfl⟩) hP hD hS hA [0] [] rfl rfl (by decide) (by decide) (fun r_14 u9 H locs hw14 hP hD hS => ?_)
  have hP : va_P D vC [(h0, .inr (13, [.int (mo_th 1 0), .ref (r 1), .int (z 2), .int (z 3), .ref (r 4), .ref (r 5), .ref (r 6), .ref (r 7), .int (z 8), .ref (r 9), .int (z 10), .int (z 11), .int (z 12), .int (z 13), .ref (r 14), .ref (r 15), .ref (r 16), .ref (r 17), .ref (r 18), .ref (r 19), .ref (r 20), .ref (r 21), .int (z 22), .int (z 23), .int (z 24), .int (z 25), .int (z 26), .int (z 27), .ref (r 28), .ref (r 29), .int (z 30), .int (z 31), .int (z 32), .ref (r 33), .ref (r 34)]))] H := hP
  have hD : va_D A [(h0, .inr (13, [.int (mo_th 1 0), .ref (r 1), .int (z 2), .int (z 3), .ref (r 4), .ref (r 5), .ref (r 6), .ref (r 7), .int (z 8), .ref (r 9), .int (z 10), .int (z 11), .int (z 12), .int (z 13), .ref (r 14), .ref (r 15), .ref (r 16), .ref (r 17), .ref (r 18), .ref (r 19), .ref (r 20), .ref (r 21), .int (z 22), .int (z 23), .int (z 24), .int (z 25), .int (z 26), .int (z 27), .ref (r 28), .ref (r 29), .int (z 30), .int (z 31), .int (z 32), .ref (r 33), .ref (r 34)]))] := hD
  rw [show mo_th 1 0 = (1 : Int32) from by decide +kernel] at hP hD
  refine lv_if_eq (tgt := 22) hx hb d_Mo_start_17 (by decide) (fun c_17 => absurd (hw14.symm.trans c_17) (by decide)) (fun c_17 => ?_)
  refine lv_iconst (v := 0) hx hb d_Mo_start_20 (by decide) ?_
  exact W.iret (v := 0) hx hb hr (fun t ht hW => ⟨⟨0, (), rfl, rfl, by rw [ht]; exact hP, va_K.moved hW.alike hK, hD⟩, hS.F ht⟩) hS.2.2 d_Mo_start_21

set_option maxHeartbeats 4000000 in
set_option maxRecDepth 100000 in
/-- end: refused -/
theorem c_Mo_end_no (l : Launch) (D : va_G) (kA : Nat → ClassId) (kS : Nat → Nat) (sz : Nat) (h0 : Nat) (r : Nat → Nat) (z : Nat → Int32) (y : Nat → Int64) (n : Int32) (h1 : n < 0 ∨ z 2 < n) : Met l y_Mo_end w_Mo_end { frames := 1, cells := 0, slots := 0, locals := 22 } (xPre D vC (tK kA) kS [.ref h0, .int n] ([oMo h0 r z y]) sz) (va_Qv (fun (_ : Unit) => True) (xB D vC (tK kA) (fun _ => [oMo h0 r (upd z 0 1) y]) (va_A ([oMo h0 r z y]) sz)) (va_A ([oMo h0 r z y]) sz)) 0 0 (va_A ([oMo h0 r z y]) sz) := by
  refine Met.ofW (cc := b_Mo_end) (maxL := 2) (ret := none) (by decide) rfl ?_
  intro p e s m args below meth c s₁ B hml hv
  obtain ⟨rfl, hsz, hP, hK, hD0, hN, hC⟩ := hv
  have hx := B.exec
  have hb := B.bytes
  have hr := B.returns
  have hts := atoms_spec (ws := w_Mo_end) B.pre
  have hg : ∀ w ∈ gW, w.before _ s = true := fun w h => hts w (List.mem_cons_of_mem _ h)
  have hown : s.vm.findClass R_Mo = some m.cls := findClass_of_methodNamed B.named
  have hlocks := B.notSynchronized
  subst hsz
  have hD := hD0.self (sz := s.heap.size)
  generalize hAe : va_A ([oMo h0 r z y]) s.heap.size = A at hD hC ⊢
  have hA : ∀ q : Nat, s.heap.size ≤ q → A q := fun q h => by rw [← hAe]; exact Or.inr h
  have hS : va_S A s.heap s.heap [] := va_S.rf
  have hP : va_P D vC [(h0, .inr (13, [.int (z 0), .ref (r 1), .int (z 2), .int (z 3), .ref (r 4), .ref (r 5), .ref (r 6), .ref (r 7), .int (z 8), .ref (r 9), .int (z 10), .int (z 11), .int (z 12), .int (z 13), .ref (r 14), .ref (r 15), .ref (r 16), .ref (r 17), .ref (r 18), .ref (r 19), .ref (r 20), .ref (r 21), .int (z 22), .int (z 23), .int (z 24), .int (z 25), .int (z 26), .int (z 27), .ref (r 28), .ref (r 29), .int (z 30), .int (z 31), .int (z 32), .ref (r 33), .ref (r 34)]))] s.heap := hP
  have hD : va_D A [(h0, .inr (13, [.int (z 0), .ref (r 1), .int (z 2), .int (z 3), .ref (r 4), .ref (r 5), .ref (r 6), .ref (r 7), .int (z 8), .ref (r 9), .int (z 10), .int (z 11), .int (z 12), .int (z 13), .ref (r 14), .ref (r 15), .ref (r 16), .ref (r 17), .ref (r 18), .ref (r 19), .ref (r 20), .ref (r 21), .int (z 22), .int (z 23), .int (z 24), .int (z 25), .int (z 26), .int (z 27), .ref (r 28), .ref (r 29), .int (z 30), .int (z 31), .int (z 32), .ref (r 33), .ref (r 34)]))] := hD
  have hl := lv_entry ([.ref h0, .int n]) (n := 2) (Nat.le_of_ble_eq_true rfl)
  rw [lg_entry_eq]
  generalize (lg_sl ([.ref h0, .int n]) ++ List.replicate (2 - (lg_sl ([.ref h0, .int n])).length) Slot.unset).toArray = ls at hl ⊢
  have hl : lv_has ls 2 [(0, .ref h0), (1, .int n)] := hl
  refine lv_aload_n hx hb d_Mo_end_0 rfl (lv_at hl 0 rfl) ?_
  refine lv_iload_n hx hb d_Mo_end_1 rfl (lv_at hl 1 rfl) ?_
  refine lv_iconst (v := 0) hx hb d_Mo_end_2 (by decide) ?_
  refine lv_aload_n hx hb d_Mo_end_3 rfl (lv_at hl 0 rfl) ?_
  refine va_get (D := D) (ci := 13) (v := .int (z 2)) (C := R_Mo) (T := F_Mo) (N := 35) hx hb hg i_Mo hown hK hP 0 rfl rfl 2 (by decide) (hg _ mw_1718) (fun _ h9 => h9) rfl d_Mo_end_4 ?_
  refine xc_pi (va_runS (As := [.int n, .int 0, .int (z 2)]) (rest := [.ref h0]) ⟨hx, hb, hml, hown, hg⟩ (p_Mo_within l D kA kS s.heap.size n 0 (z 2)) (cwS 3 hg (xg_S mw_1842 mw_1843 mw_13 mw_1844) rfl rfl rfl (by decide +kernel) ⟨Nat.le_of_ble_eq_true rfl, Nat.le_of_ble_eq_true rfl⟩) (xc_pre hK hN hC hP hD hS hA [] (by decide) rfl) rfl rfl hl.1 rfl (lv_room (Nat.le_of_ble_eq_true rfl)) d_Mo_end_7 ⟨Nat.le_of_ble_eq_true rfl, Nat.le_of_ble_eq_true rfl⟩) (fun r_7 hw7 => ?_)
  refine lv_if_ne (tgt := 17) hx hb d_Mo_end_10 (by decide) (fun c_10 => absurd (hw7.trans (mo_in_0 h1)) c_10) (fun c_10 => ?_)
  refine lv_iconst (v := 1) hx hb d_Mo_end_13 (by decide) ?_
  refine lv_goto (tgt := 18) hx hb d_Mo_end_14 (by decide) ?_
  refine lv_iconst (v := 0) hx hb d_Mo_end_18 (by decide) ?_
  refine xc_i (wr := []) (va_runV (As := [.int 1, .int 0]) (rest := []) ⟨hx, hb, hml, hown, hg⟩ (c_Mo_refused l D kA kS s.heap.size h0 r z y 1 0) (cwV 2 hg (xg_V mw_1830 mw_1832 ms_96 mw_13 mw_1833) rfl rfl rfl (by decide +kernel) ⟨Nat.le_of_ble_eq_true rfl, Nat.le_of_ble_eq_true rfl⟩) (xc_preV hK hN hC hP hD hS hA [0] (by decide) rfl 0 rfl rfl) rfl rfl hl.1 rfl (lv_room (Nat.le_of_ble_eq_true rfl)) d_Mo_end_19 ⟨Nat.le_of_ble_eq_true rfl, Nat.le_of_ble_eq_true rfl⟩) hP hD hS hA [0] [] rfl rfl (by decide) (by decide) (fun r_19 u9 H locs hw19 hP hD hS => ?_)
  have hP : va_P D vC [(h0, .inr (13, [.int (mo_th 1 0), .ref (r 1), .int (z 2), .int (z 3), .ref (r 4), .ref (r 5), .ref (r 6), .ref (r 7), .int (z 8), .ref (r 9), .int (z 10), .int (z 11), .int (z 12), .int (z 13), .ref (r 14), .ref (r 15), .ref (r 16), .ref (r 17), .ref (r 18), .ref (r 19), .ref (r 20), .ref (r 21), .int (z 22), .int (z 23), .int (z 24), .int (z 25), .int (z 26), .int (z 27), .ref (r 28), .ref (r 29), .int (z 30), .int (z 31), .int (z 32), .ref (r 33), .ref (r 34)]))] H := hP
  have hD : va_D A [(h0, .inr (13, [.int (mo_th 1 0), .ref (r 1), .int (z 2), .int (z 3), .ref (r 4), .ref (r 5), .ref (r 6), .ref (r 7), .int (z 8), .ref (r 9), .int (z 10), .int (z 11), .int (z 12), .int (z 13), .ref (r 14), .ref (r 15), .ref (r 16), .ref (r 17), .ref (r 18), .ref (r 19), .ref (r 20), .ref (r 21), .int (z 22), .int (z 23), .int (z 24), .int (z 25), .int (z 26), .int (z 27), .ref (r 28), .ref (r 29), .int (z 30), .int (z 31), .int (z 32), .ref (r 33), .ref (r 34)]))] := hD
  rw [show mo_th 1 0 = (1 : Int32) from by decide +kernel] at hP hD
  refine lv_if_ne (tgt := 30) hx hb d_Mo_end_22 (by decide) (fun c_22 => ?_) (fun c_22 => absurd (hw19.symm.trans c_22) (by decide))
  exact W.vret hx hb hr (fun t ht hW => ⟨⟨(), rfl, trivial, by rw [ht]; exact hP, va_K.moved hW.alike hK, hD⟩, hS.F ht⟩) hS.2.2 d_Mo_end_30

set_option maxHeartbeats 4000000 in
set_option maxRecDepth 100000 in
/-- end(n) -/
theorem c_Mo_end (l : Launch) (D : va_G) (kA : Nat → ClassId) (kS : Nat → Nat) (sz : Nat) (h0 : Nat) (r : Nat → Nat) (z : Nat → Int32) (y : Nat → Int64) (n : Int32) (h1 : ¬ n < 0) (h2 : ¬ (z 2) < n) : Met l y_Mo_end w_Mo_end { frames := 1, cells := 0, slots := 0, locals := 22 } (xPre D vC (tK kA) kS [.ref h0, .int n] ([oMo h0 r z y]) sz) (va_Qv (fun (_ : Unit) => True) (xB D vC (tK kA) (fun _ => [oMo h0 r (upd (upd z 0 0) 2 n) y]) (va_A ([oMo h0 r z y]) sz)) (va_A ([oMo h0 r z y]) sz)) 0 0 (va_A ([oMo h0 r z y]) sz) := by
  refine Met.ofW (cc := b_Mo_end) (maxL := 2) (ret := none) (by decide) rfl ?_
  intro p e s m args below meth c s₁ B hml hv
  obtain ⟨rfl, hsz, hP, hK, hD0, hN, hC⟩ := hv
  have hx := B.exec
  have hb := B.bytes
  have hr := B.returns
  have hts := atoms_spec (ws := w_Mo_end) B.pre
  have hg : ∀ w ∈ gW, w.before _ s = true := fun w h => hts w (List.mem_cons_of_mem _ h)
  have hown : s.vm.findClass R_Mo = some m.cls := findClass_of_methodNamed B.named
  have hlocks := B.notSynchronized
  subst hsz
  have hD := hD0.self (sz := s.heap.size)
  generalize hAe : va_A ([oMo h0 r z y]) s.heap.size = A at hD hC ⊢
  have hA : ∀ q : Nat, s.heap.size ≤ q → A q := fun q h => by rw [← hAe]; exact Or.inr h
  have hS : va_S A s.heap s.heap [] := va_S.rf
  have hP : va_P D vC [(h0, .inr (13, [.int (z 0), .ref (r 1), .int (z 2), .int (z 3), .ref (r 4), .ref (r 5), .ref (r 6), .ref (r 7), .int (z 8), .ref (r 9), .int (z 10), .int (z 11), .int (z 12), .int (z 13), .ref (r 14), .ref (r 15), .ref (r 16), .ref (r 17), .ref (r 18), .ref (r 19), .ref (r 20), .ref (r 21), .int (z 22), .int (z 23), .int (z 24), .int (z 25), .int (z 26), .int (z 27), .ref (r 28), .ref (r 29), .int (z 30), .int (z 31), .int (z 32), .ref (r 33), .ref (r 34)]))] s.heap := hP
  have hD : va_D A [(h0, .inr (13, [.int (z 0), .ref (r 1), .int (z 2), .int (z 3), .ref (r 4), .ref (r 5), .ref (r 6), .ref (r 7), .int (z 8), .ref (r 9), .int (z 10), .int (z 11), .int (z 12), .int (z 13), .ref (r 14), .ref (r 15), .ref (r 16), .ref (r 17), .ref (r 18), .ref (r 19), .ref (r 20), .ref (r 21), .int (z 22), .int (z 23), .int (z 24), .int (z 25), .int (z 26), .int (z 27), .ref (r 28), .ref (r 29), .int (z 30), .int (z 31), .int (z 32), .ref (r 33), .ref (r 34)]))] := hD
  have hl := lv_entry ([.ref h0, .int n]) (n := 2) (Nat.le_of_ble_eq_true rfl)
  rw [lg_entry_eq]
  generalize (lg_sl ([.ref h0, .int n]) ++ List.replicate (2 - (lg_sl ([.ref h0, .int n])).length) Slot.unset).toArray = ls at hl ⊢
  have hl : lv_has ls 2 [(0, .ref h0), (1, .int n)] := hl
  refine lv_aload_n hx hb d_Mo_end_0 rfl (lv_at hl 0 rfl) ?_
  refine lv_iload_n hx hb d_Mo_end_1 rfl (lv_at hl 1 rfl) ?_
  refine lv_iconst (v := 0) hx hb d_Mo_end_2 (by decide) ?_
  refine lv_aload_n hx hb d_Mo_end_3 rfl (lv_at hl 0 rfl) ?_
  refine va_get (D := D) (ci := 13) (v := .int (z 2)) (C := R_Mo) (T := F_Mo) (N := 35) hx hb hg i_Mo hown hK hP 0 rfl rfl 2 (by decide) (hg _ mw_1718) (fun _ h9 => h9) rfl d_Mo_end_4 ?_
  refine xc_pi (va_runS (As := [.int n, .int 0, .int (z 2)]) (rest := [.ref h0]) ⟨hx, hb, hml, hown, hg⟩ (p_Mo_within l D kA kS s.heap.size n 0 (z 2)) (cwS 3 hg (xg_S mw_1842 mw_1843 mw_13 mw_1844) rfl rfl rfl (by decide +kernel) ⟨Nat.le_of_ble_eq_true rfl, Nat.le_of_ble_eq_true rfl⟩) (xc_pre hK hN hC hP hD hS hA [] (by decide) rfl) rfl rfl hl.1 rfl (lv_room (Nat.le_of_ble_eq_true rfl)) d_Mo_end_7 ⟨Nat.le_of_ble_eq_true rfl, Nat.le_of_ble_eq_true rfl⟩) (fun r_7 hw7 => ?_)
  refine lv_if_ne (tgt := 17) hx hb d_Mo_end_10 (by decide) (fun c_10 => ?_) (fun c_10 => absurd (hw7.symm.trans c_10) (by rw [mo_in_1 h1 h2]; decide))
  refine lv_iconst (v := 0) hx hb d_Mo_end_17 (by decide) ?_
  refine lv_iconst (v := 0) hx hb d_Mo_end_18 (by decide) ?_
  refine xc_i (wr := []) (va_runV (As := [.int 0, .int 0]) (rest := []) ⟨hx, hb, hml, hown, hg⟩ (c_Mo_refused l D kA kS s.heap.size h0 r z y 0 0) (cwV 2 hg (xg_V mw_1830 mw_1832 ms_96 mw_13 mw_1833) rfl rfl rfl (by decide +kernel) ⟨Nat.le_of_ble_eq_true rfl, Nat.le_of_ble_eq_true rfl⟩) (xc_preV hK hN hC hP hD hS hA [0] (by decide) rfl 0 rfl rfl) rfl rfl hl.1 rfl (lv_room (Nat.le_of_ble_eq_true rfl)) d_Mo_end_19 ⟨Nat.le_of_ble_eq_true rfl, Nat.le_of_ble_eq_true rfl⟩) hP hD hS hA [0] [] rfl rfl (by decide) (by decide) (fun r_19 u9 H locs hw19 hP hD hS => ?_)
  have hP : va_P D vC [(h0, .inr (13, [.int (mo_th 0 0), .ref (r 1), .int (z 2), .int (z 3), .ref (r 4), .ref (r 5), .ref (r 6), .ref (r 7), .int (z 8), .ref (r 9), .int (z 10), .int (z 11), .int (z 12), .int (z 13), .ref (r 14), .ref (r 15), .ref (r 16), .ref (r 17), .ref (r 18), .ref (r 19), .ref (r 20), .ref (r 21), .int (z 22), .int (z 23), .int (z 24), .int (z 25), .int (z 26), .int (z 27), .ref (r 28), .ref (r 29), .int (z 30), .int (z 31), .int (z 32), .ref (r 33), .ref (r 34)]))] H := hP
  have hD : va_D A [(h0, .inr (13, [.int (mo_th 0 0), .ref (r 1), .int (z 2), .int (z 3), .ref (r 4), .ref (r 5), .ref (r 6), .ref (r 7), .int (z 8), .ref (r 9), .int (z 10), .int (z 11), .int (z 12), .int (z 13), .ref (r 14), .ref (r 15), .ref (r 16), .ref (r 17), .ref (r 18), .ref (r 19), .ref (r 20), .ref (r 21), .int (z 22), .int (z 23), .int (z 24), .int (z 25), .int (z 26), .int (z 27), .ref (r 28), .ref (r 29), .int (z 30), .int (z 31), .int (z 32), .ref (r 33), .ref (r 34)]))] := hD
  rw [show mo_th 0 0 = (0 : Int32) from by decide +kernel] at hP hD
  refine lv_if_ne (tgt := 30) hx hb d_Mo_end_22 (by decide) (fun c_22 => absurd (hw19.trans (by decide)) c_22) (fun c_22 => ?_)
  refine lv_aload_n hx hb d_Mo_end_25 rfl (lv_at hl 0 rfl) ?_
  refine lv_iload_n hx hb d_Mo_end_26 rfl (lv_at hl 1 rfl) ?_
  refine va_put (D := D) (ci := 13) (v := .int n) (ty := .int) (C := R_Mo) (T := F_Mo) (N := 35) hx hb hg i_Mo t_Mo t_Mo_ok n_Mo hown hK hP hD hS 0 rfl rfl 2 (by decide) (hg _ mw_1718) (fun _ h9 => h9) rfl (by decide +kernel) rfl rfl (Nat.le_of_ble_eq_true rfl) d_Mo_end_27 (fun H locs hP hD hS => ?_)
  have hP : va_P D vC [(h0, .inr (13, [.int 0, .ref (r 1), .int n, .int (z 3), .ref (r 4), .ref (r 5), .ref (r 6), .ref (r 7), .int (z 8), .ref (r 9), .int (z 10), .int (z 11), .int (z 12), .int (z 13), .ref (r 14), .ref (r 15), .ref (r 16), .ref (r 17), .ref (r 18), .ref (r 19), .ref (r 20), .ref (r 21), .int (z 22), .int (z 23), .int (z 24), .int (z 25), .int (z 26), .int (z 27), .ref (r 28), .ref (r 29), .int (z 30), .int (z 31), .int (z 32), .ref (r 33), .ref (r 34)]))] H := hP
  have hD : va_D A [(h0, .inr (13, [.int 0, .ref (r 1), .int n, .int (z 3), .ref (r 4), .ref (r 5), .ref (r 6), .ref (r 7), .int (z 8), .ref (r 9), .int (z 10), .int (z 11), .int (z 12), .int (z 13), .ref (r 14), .ref (r 15), .ref (r 16), .ref (r 17), .ref (r 18), .ref (r 19), .ref (r 20), .ref (r 21), .int (z 22), .int (z 23), .int (z 24), .int (z 25), .int (z 26), .int (z 27), .ref (r 28), .ref (r 29), .int (z 30), .int (z 31), .int (z 32), .ref (r 33), .ref (r 34)]))] := hD
  exact W.vret hx hb hr (fun t ht hW => ⟨⟨(), rfl, trivial, by rw [ht]; exact hP, va_K.moved hW.alike hK, hD⟩, hS.F ht⟩) hS.2.2 d_Mo_end_30

set_option maxHeartbeats 4000000 in
set_option maxRecDepth 100000 in
/-- power: refused -/
theorem c_Mo_power_no (l : Launch) (D : va_G) (kA : Nat → ClassId) (kS : Nat → Nat) (sz : Nat) (h0 : Nat) (r : Nat → Nat) (z : Nat → Int32) (y : Nat → Int64) (n : Int32) (h1 : n < (-1) ∨ 1000 < n) : Met l y_Mo_power w_Mo_power { frames := 1, cells := 0, slots := 0, locals := 22 } (xPre D vC (tK kA) kS [.ref h0, .int n] ([oMo h0 r z y]) sz) (va_Qv (fun (_ : Unit) => True) (xB D vC (tK kA) (fun _ => [oMo h0 r (upd z 0 1) y]) (va_A ([oMo h0 r z y]) sz)) (va_A ([oMo h0 r z y]) sz)) 0 0 (va_A ([oMo h0 r z y]) sz) := by
  refine Met.ofW (cc := b_Mo_power) (maxL := 2) (ret := none) (by decide) rfl ?_
  intro p e s m args below meth c s₁ B hml hv
  obtain ⟨rfl, hsz, hP, hK, hD0, hN, hC⟩ := hv
  have hx := B.exec
  have hb := B.bytes
  have hr := B.returns
  have hts := atoms_spec (ws := w_Mo_power) B.pre
  have hg : ∀ w ∈ gW, w.before _ s = true := fun w h => hts w (List.mem_cons_of_mem _ h)
  have hown : s.vm.findClass R_Mo = some m.cls := findClass_of_methodNamed B.named
  have hlocks := B.notSynchronized
  subst hsz
  have hD := hD0.self (sz := s.heap.size)
  generalize hAe : va_A ([oMo h0 r z y]) s.heap.size = A at hD hC ⊢
  have hA : ∀ q : Nat, s.heap.size ≤ q → A q := fun q h => by rw [← hAe]; exact Or.inr h
  have hS : va_S A s.heap s.heap [] := va_S.rf
  have hP : va_P D vC [(h0, .inr (13, [.int (z 0), .ref (r 1), .int (z 2), .int (z 3), .ref (r 4), .ref (r 5), .ref (r 6), .ref (r 7), .int (z 8), .ref (r 9), .int (z 10), .int (z 11), .int (z 12), .int (z 13), .ref (r 14), .ref (r 15), .ref (r 16), .ref (r 17), .ref (r 18), .ref (r 19), .ref (r 20), .ref (r 21), .int (z 22), .int (z 23), .int (z 24), .int (z 25), .int (z 26), .int (z 27), .ref (r 28), .ref (r 29), .int (z 30), .int (z 31), .int (z 32), .ref (r 33), .ref (r 34)]))] s.heap := hP
  have hD : va_D A [(h0, .inr (13, [.int (z 0), .ref (r 1), .int (z 2), .int (z 3), .ref (r 4), .ref (r 5), .ref (r 6), .ref (r 7), .int (z 8), .ref (r 9), .int (z 10), .int (z 11), .int (z 12), .int (z 13), .ref (r 14), .ref (r 15), .ref (r 16), .ref (r 17), .ref (r 18), .ref (r 19), .ref (r 20), .ref (r 21), .int (z 22), .int (z 23), .int (z 24), .int (z 25), .int (z 26), .int (z 27), .ref (r 28), .ref (r 29), .int (z 30), .int (z 31), .int (z 32), .ref (r 33), .ref (r 34)]))] := hD
  have hl := lv_entry ([.ref h0, .int n]) (n := 2) (Nat.le_of_ble_eq_true rfl)
  rw [lg_entry_eq]
  generalize (lg_sl ([.ref h0, .int n]) ++ List.replicate (2 - (lg_sl ([.ref h0, .int n])).length) Slot.unset).toArray = ls at hl ⊢
  have hl : lv_has ls 2 [(0, .ref h0), (1, .int n)] := hl
  refine lv_aload_n hx hb d_Mo_power_0 rfl (lv_at hl 0 rfl) ?_
  refine lv_iload_n hx hb d_Mo_power_1 rfl (lv_at hl 1 rfl) ?_
  refine lv_iconst (v := (-1)) hx hb d_Mo_power_2 (by decide) ?_
  refine lv_sipush (v := 1000) hx hb d_Mo_power_3 (by decide) ?_
  refine xc_pi (va_runS (As := [.int n, .int (-1), .int 1000]) (rest := [.ref h0]) ⟨hx, hb, hml, hown, hg⟩ (p_Mo_within l D kA kS s.heap.size n (-1) 1000) (cwS 3 hg (xg_S mw_1842 mw_1843 mw_13 mw_1844) rfl rfl rfl (by decide +kernel) ⟨Nat.le_of_ble_eq_true rfl, Nat.le_of_ble_eq_true rfl⟩) (xc_pre hK hN hC hP hD hS hA [] (by decide) rfl) rfl rfl hl.1 rfl (lv_room (Nat.le_of_ble_eq_true rfl)) d_Mo_power_6 ⟨Nat.le_of_ble_eq_true rfl, Nat.le_of_ble_eq_true rfl⟩) (fun r_6 hw6 => ?_)
  refine lv_if_ne (tgt := 16) hx hb d_Mo_power_9 (by decide) (fun c_9 => absurd (hw6.trans (mo_in_0 h1)) c_9) (fun c_9 => ?_)
  refine lv_iconst (v := 1) hx hb d_Mo_power_12 (by decide) ?_
  refine lv_goto (tgt := 17) hx hb d_Mo_power_13 (by decide) ?_
  refine lv_iconst (v := 0) hx hb d_Mo_power_17 (by decide) ?_
  refine xc_i (wr := []) (va_runV (As := [.int 1, .int 0]) (rest := []) ⟨hx, hb, hml, hown, hg⟩ (c_Mo_refused l D kA kS s.heap.size h0 r z y 1 0) (cwV 2 hg (xg_V mw_1830 mw_1832 ms_96 mw_13 mw_1833) rfl rfl rfl (by decide +kernel) ⟨Nat.le_of_ble_eq_true rfl, Nat.le_of_ble_eq_true rfl⟩) (xc_preV hK hN hC hP hD hS hA [0] (by decide) rfl 0 rfl rfl) rfl rfl hl.1 rfl (lv_room (Nat.le_of_ble_eq_true rfl)) d_Mo_power_18 ⟨Nat.le_of_ble_eq_true rfl, Nat.le_of_ble_eq_true rfl⟩) hP hD hS hA [0] [] rfl rfl (by decide) (by decide) (fun r_18 u9 H locs hw18 hP hD hS => ?_)
  have hP : va_P D vC [(h0, .inr (13, [.int (mo_th 1 0), .ref (r 1), .int (z 2), .int (z 3), .ref (r 4), .ref (r 5), .ref (r 6), .ref (r 7), .int (z 8), .ref (r 9), .int (z 10), .int (z 11), .int (z 12), .int (z 13), .ref (r 14), .ref (r 15), .ref (r 16), .ref (r 17), .ref (r 18), .ref (r 19), .ref (r 20), .ref (r 21), .int (z 22), .int (z 23), .int (z 24), .int (z 25), .int (z 26), .int (z 27), .ref (r 28), .ref (r 29), .int (z 30), .int (z 31), .int (z 32), .ref (r 33), .ref (r 34)]))] H := hP
  have hD : va_D A [(h0, .inr (13, [.int (mo_th 1 0), .ref (r 1), .int (z 2), .int (z 3), .ref (r 4), .ref (r 5), .ref (r 6), .ref (r 7), .int (z 8), .ref (r 9), .int (z 10), .int (z 11), .int (z 12), .int (z 13), .ref (r 14), .ref (r 15), .ref (r 16), .ref (r 17), .ref (r 18), .ref (r 19), .ref (r 20), .ref (r 21), .int (z 22), .int (z 23), .int (z 24), .int (z 25), .int (z 26), .int (z 27), .ref (r 28), .ref (r 29), .int (z 30), .int (z 31), .int (z 32), .ref (r 33), .ref (r 34)]))] := hD
  rw [show mo_th 1 0 = (1 : Int32) from by decide +kernel] at hP hD
  refine lv_if_ne (tgt := 29) hx hb d_Mo_power_21 (by decide) (fun c_21 => ?_) (fun c_21 => absurd (hw18.symm.trans c_21) (by decide))
  exact W.vret hx hb hr (fun t ht hW => ⟨⟨(), rfl, trivial, by rw [ht]; exact hP, va_K.moved hW.alike hK, hD⟩, hS.F ht⟩) hS.2.2 d_Mo_power_29

set_option maxHeartbeats 4000000 in
set_option maxRecDepth 100000 in
/-- power(n) -/
theorem c_Mo_power (l : Launch) (D : va_G) (kA : Nat → ClassId) (kS : Nat → Nat) (sz : Nat) (h0 : Nat) (r : Nat → Nat) (z : Nat → Int32) (y : Nat → Int64) (n : Int32) (h1 : ¬ n < (-1)) (h2 : ¬ 1000 < n) : Met l y_Mo_power w_Mo_power { frames := 1, cells := 0, slots := 0, locals := 22 } (xPre D vC (tK kA) kS [.ref h0, .int n] ([oMo h0 r z y]) sz) (va_Qv (fun (_ : Unit) => True) (xB D vC (tK kA) (fun _ => [oMo h0 r (upd (upd z 0 0) 12 n) y]) (va_A ([oMo h0 r z y]) sz)) (va_A ([oMo h0 r z y]) sz)) 0 0 (va_A ([oMo h0 r z y]) sz) := by
  refine Met.ofW (cc := b_Mo_power) (maxL := 2) (ret := none) (by decide) rfl ?_
  intro p e s m args below meth c s₁ B hml hv
  obtain ⟨rfl, hsz, hP, hK, hD0, hN, hC⟩ := hv
  have hx := B.exec
  have hb := B.bytes
  have hr := B.returns
  have hts := atoms_spec (ws := w_Mo_power) B.pre
  have hg : ∀ w ∈ gW, w.before _ s = true := fun w h => hts w (List.mem_cons_of_mem _ h)
  have hown : s.vm.findClass R_Mo = some m.cls := findClass_of_methodNamed B.named
  have hlocks := B.notSynchronized
  subst hsz
  have hD := hD0.self (sz := s.heap.size)
  generalize hAe : va_A ([oMo h0 r z y]) s.heap.size = A at hD hC ⊢
  have hA : ∀ q : Nat, s.heap.size ≤ q → A q := fun q h => by rw [← hAe]; exact Or.inr h
  have hS : va_S A s.heap s.heap [] := va_S.rf
  have hP : va_P D vC [(h0, .inr (13, [.int (z 0), .ref (r 1), .int (z 2), .int (z 3), .ref (r 4), .ref (r 5), .ref (r 6), .ref (r 7), .int (z 8), .ref (r 9), .int (z 10), .int (z 11), .int (z 12), .int (z 13), .ref (r 14), .ref (r 15), .ref (r 16), .ref (r 17), .ref (r 18), .ref (r 19), .ref (r 20), .ref (r 21), .int (z 22), .int (z 23), .int (z 24), .int (z 25), .int (z 26), .int (z 27), .ref (r 28), .ref (r 29), .int (z 30), .int (z 31), .int (z 32), .ref (r 33), .ref (r 34)]))] s.heap := hP
  have hD : va_D A [(h0, .inr (13, [.int (z 0), .ref (r 1), .int (z 2), .int (z 3), .ref (r 4), .ref (r 5), .ref (r 6), .ref (r 7), .int (z 8), .ref (r 9), .int (z 10), .int (z 11), .int (z 12), .int (z 13), .ref (r 14), .ref (r 15), .ref (r 16), .ref (r 17), .ref (r 18), .ref (r 19), .ref (r 20), .ref (r 21), .int (z 22), .int (z 23), .int (z 24), .int (z 25), .int (z 26), .int (z 27), .ref (r 28), .ref (r 29), .int (z 30), .int (z 31), .int (z 32), .ref (r 33), .ref (r 34)]))] := hD
  have hl := lv_entry ([.ref h0, .int n]) (n := 2) (Nat.le_of_ble_eq_true rfl)
  rw [lg_entry_eq]
  generalize (lg_sl ([.ref h0, .int n]) ++ List.replicate (2 - (lg_sl ([.ref h0, .int n])).length) Slot.unset).toArray = ls at hl ⊢
  have hl : lv_has ls 2 [(0, .ref h0), (1, .int n)] := hl
  refine lv_aload_n hx hb d_Mo_power_0 rfl (lv_at hl 0 rfl) ?_
  refine lv_iload_n hx hb d_Mo_power_1 rfl (lv_at hl 1 rfl) ?_
  refine lv_iconst (v := (-1)) hx hb d_Mo_power_2 (by decide) ?_
  refine lv_sipush (v := 1000) hx hb d_Mo_power_3 (by decide) ?_
  refine xc_pi (va_runS (As := [.int n, .int (-1), .int 1000]) (rest := [.ref h0]) ⟨hx, hb, hml, hown, hg⟩ (p_Mo_within l D kA kS s.heap.size n (-1) 1000) (cwS 3 hg (xg_S mw_1842 mw_1843 mw_13 mw_1844) rfl rfl rfl (by decide +kernel) ⟨Nat.le_of_ble_eq_true rfl, Nat.le_of_ble_eq_true rfl⟩) (xc_pre hK hN hC hP hD hS hA [] (by decide) rfl) rfl rfl hl.1 rfl (lv_room (Nat.le_of_ble_eq_true rfl)) d_Mo_power_6 ⟨Nat.le_of_ble_eq_true rfl, Nat.le_of_ble_eq_true rfl⟩) (fun r_6 hw6 => ?_)
  refine lv_if_ne (tgt := 16) hx hb d_Mo_power_9 (by decide) (fun c_9 => ?_) (fun c_9 => absurd (hw6.symm.trans c_9) (by rw [mo_in_1 h1 h2]; decide))
  refine lv_iconst (v := 0) hx hb d_Mo_power_16 (by decide) ?_
  refine lv_iconst (v := 0) hx hb d_Mo_power_17 (by decide) ?_
  refine xc_i (wr := []) (va_runV (As := [.int 0, .int 0]) (rest := []) ⟨hx, hb, hml, hown, hg⟩ (c_Mo_refused l D kA kS s.heap.size h0 r z y 0 0) (cwV 2 hg (xg_V mw_1830 mw_1832 ms_96 mw_13 mw_1833) rfl rfl rfl (by decide +kernel) ⟨Nat.le_of_ble_eq_true rfl, Nat.le_of_ble_eq_true rfl⟩) (xc_preV hK hN hC hP hD hS hA [0] (by decide) rfl 0 rfl rfl) rfl rfl hl.1 rfl (lv_room (Nat.le_of_ble_eq_true rfl)) d_Mo_power_18 ⟨Nat.le_of_ble_eq_true rfl, Nat.le_of_ble_eq_true rfl⟩) hP hD hS hA [0] [] rfl rfl (by decide) (by decide) (fun r_18 u9 H locs hw18 hP hD hS => ?_)
  have hP : va_P D vC [(h0, .inr (13, [.int (mo_th 0 0), .ref (r 1), .int (z 2), .int (z 3), .ref (r 4), .ref (r 5), .ref (r 6), .ref (r 7), .int (z 8), .ref (r 9), .int (z 10), .int (z 11), .int (z 12), .int (z 13), .ref (r 14), .ref (r 15), .ref (r 16), .ref (r 17), .ref (r 18), .ref (r 19), .ref (r 20), .ref (r 21), .int (z 22), .int (z 23), .int (z 24), .int (z 25), .int (z 26), .int (z 27), .ref (r 28), .ref (r 29), .int (z 30), .int (z 31), .int (z 32), .ref (r 33), .ref (r 34)]))] H := hP
  have hD : va_D A [(h0, .inr (13, [.int (mo_th 0 0), .ref (r 1), .int (z 2), .int (z 3), .ref (r 4), .ref (r 5), .ref (r 6), .ref (r 7), .int (z 8), .ref (r 9), .int (z 10), .int (z 11), .int (z 12), .int (z 13), .ref (r 14), .ref (r 15), .ref (r 16), .ref (r 17), .ref (r 18), .ref (r 19), .ref (r 20), .ref (r 21), .int (z 22), .int (z 23), .int (z 24), .int (z 25), .int (z 26), .int (z 27), .ref (r 28), .ref (r 29), .int (z 30), .int (z 31), .int (z 32), .ref (r 33), .ref (r 34)]))] := hD
  rw [show mo_th 0 0 = (0 : Int32) from by decide +kernel] at hP hD
  refine lv_if_ne (tgt := 29) hx hb d_Mo_power_21 (by decide) (fun c_21 => absurd (hw18.trans (by decide)) c_21) (fun c_21 => ?_)
  refine lv_aload_n hx hb d_Mo_power_24 rfl (lv_at hl 0 rfl) ?_
  refine lv_iload_n hx hb d_Mo_power_25 rfl (lv_at hl 1 rfl) ?_
  refine va_put (D := D) (ci := 13) (v := .int n) (ty := .int) (C := R_Mo) (T := F_Mo) (N := 35) hx hb hg i_Mo t_Mo t_Mo_ok n_Mo hown hK hP hD hS 0 rfl rfl 12 (by decide) (hg _ mw_1728) (fun _ h9 => h9) rfl (by decide +kernel) rfl rfl (Nat.le_of_ble_eq_true rfl) d_Mo_power_26 (fun H locs hP hD hS => ?_)
  have hP : va_P D vC [(h0, .inr (13, [.int 0, .ref (r 1), .int (z 2), .int (z 3), .ref (r 4), .ref (r 5), .ref (r 6), .ref (r 7), .int (z 8), .ref (r 9), .int (z 10), .int (z 11), .int n, .int (z 13), .ref (r 14), .ref (r 15), .ref (r 16), .ref (r 17), .ref (r 18), .ref (r 19), .ref (r 20), .ref (r 21), .int (z 22), .int (z 23), .int (z 24), .int (z 25), .int (z 26), .int (z 27), .ref (r 28), .ref (r 29), .int (z 30), .int (z 31), .int (z 32), .ref (r 33), .ref (r 34)]))] H := hP
  have hD : va_D A [(h0, .inr (13, [.int 0, .ref (r 1), .int (z 2), .int (z 3), .ref (r 4), .ref (r 5), .ref (r 6), .ref (r 7), .int (z 8), .ref (r 9), .int (z 10), .int (z 11), .int n, .int (z 13), .ref (r 14), .ref (r 15), .ref (r 16), .ref (r 17), .ref (r 18), .ref (r 19), .ref (r 20), .ref (r 21), .int (z 22), .int (z 23), .int (z 24), .int (z 25), .int (z 26), .int (z 27), .ref (r 28), .ref (r 29), .int (z 30), .int (z 31), .int (z 32), .ref (r 33), .ref (r 34)]))] := hD
  exact W.vret hx hb hr (fun t ht hW => ⟨⟨(), rfl, trivial, by rw [ht]; exact hP, va_K.moved hW.alike hK, hD⟩, hS.F ht⟩) hS.2.2 d_Mo_power_29

set_option maxHeartbeats 4000000 in
set_option maxRecDepth 100000 in
/-- size: refused -/
theorem c_Mo_size_no (l : Launch) (D : va_G) (kA : Nat → ClassId) (kS : Nat → Nat) (sz : Nat) (h0 : Nat) (r : Nat → Nat) (z : Nat → Int32) (y : Nat → Int64) (n : Int32) (h1 : n < 0 ∨ 1 < n) : Met l y_Mo_size w_Mo_size { frames := 1, cells := 0, slots := 0, locals := 22 } (xPre D vC (tK kA) kS [.ref h0, .int n] ([oMo h0 r z y]) sz) (va_Qi (fun (x : Int32) (_ : Unit) => x = 0) (xB D vC (tK kA) (fun _ => [oMo h0 r (upd z 0 1) y]) (va_A ([oMo h0 r z y]) sz)) (va_A ([oMo h0 r z y]) sz)) 0 0 (va_A ([oMo h0 r z y]) sz) := by
  refine Met.ofW (cc := b_Mo_size) (maxL := 2) (ret := (some .int)) (by decide) rfl ?_
  intro p e s m args below meth c s₁ B hml hv
  obtain ⟨rfl, hsz, hP, hK, hD0, hN, hC⟩ := hv
  have hx := B.exec
  have hb := B.bytes
  have hr := B.returns
  have hts := atoms_spec (ws := w_Mo_size) B.pre
  have hg : ∀ w ∈ gW, w.before _ s = true := fun w h => hts w (List.mem_cons_of_mem _ h)
  have hown : s.vm.findClass R_Mo = some m.cls := findClass_of_methodNamed B.named
  have hlocks := B.notSynchronized
  subst hsz
  have hD := hD0.self (sz := s.heap.size)
  generalize hAe : va_A ([oMo h0 r z y]) s.heap.size = A at hD hC ⊢
  have hA : ∀ q : Nat, s.heap.size ≤ q → A q := fun q h => by rw [← hAe]; exact Or.inr h
  have hS : va_S A s.heap s.heap [] := va_S.rf
  have hP : va_P D vC [(h0, .inr (13, [.int (z 0), .ref (r 1), .int (z 2), .int (z 3), .ref (r 4), .ref (r 5), .ref (r 6), .ref (r 7), .int (z 8), .ref (r 9), .int (z 10), .int (z 11), .int (z 12), .int (z 13), .ref (r 14), .ref (r 15), .ref (r 16), .ref (r 17), .ref (r 18), .ref (r 19), .ref (r 20), .ref (r 21), .int (z 22), .int (z 23), .int (z 24), .int (z 25), .int (z 26), .int (z 27), .ref (r 28), .ref (r 29), .int (z 30), .int (z 31), .int (z 32), .ref (r 33), .ref (r 34)]))] s.heap := hP
  have hD : va_D A [(h0, .inr (13, [.int (z 0), .ref (r 1), .int (z 2), .int (z 3), .ref (r 4), .ref (r 5), .ref (r 6), .ref (r 7), .int (z 8), .ref (r 9), .int (z 10), .int (z 11), .int (z 12), .int (z 13), .ref (r 14), .ref (r 15), .ref (r 16), .ref (r 17), .ref (r 18), .ref (r 19), .ref (r 20), .ref (r 21), .int (z 22), .int (z 23), .int (z 24), .int (z 25), .int (z 26), .int (z 27), .ref (r 28), .ref (r 29), .int (z 30), .int (z 31), .int (z 32), .ref (r 33), .ref (r 34)]))] := hD
  have hl := lv_entry ([.ref h0, .int n]) (n := 2) (Nat.le_of_ble_eq_true rfl)
  rw [lg_entry_eq]
  generalize (lg_sl ([.ref h0, .int n]) ++ List.replicate (2 - (lg_sl ([.ref h0, .int n])).length) Slot.unset).toArray = ls at hl ⊢
  have hl : lv_has ls 2 [(0, .ref h0), (1, .int n)] := hl
  refine lv_aload_n hx hb d_Mo_size_0 rfl (lv_at hl 0 rfl) ?_
  refine lv_iload_n hx hb d_Mo_size_1 rfl (lv_at hl 1 rfl) ?_
  refine lv_iconst (v := 0) hx hb d_Mo_size_2 (by decide) ?_
  refine lv_iconst (v := 1) hx hb d_Mo_size_3 (by decide) ?_
  refine xc_pi (va_runS (As := [.int n, .int 0, .int 1]) (rest := [.ref h0]) ⟨hx, hb, hml, hown, hg⟩ (p_Mo_within l D kA kS s.heap.size n 0 1) (cwS 3 hg (xg_S mw_1842 mw_1843 mw_13 mw_1844) rfl rfl rfl (by decide +kernel) ⟨Nat.le_of_ble_eq_true rfl, Nat.le_of_ble_eq_true rfl⟩) (xc_pre hK hN hC hP hD hS hA [] (by decide) rfl) rfl rfl hl.1 rfl (lv_room (Nat.le_of_ble_eq_true rfl)) d_Mo_size_4 ⟨Nat.le_of_ble_eq_true rfl, Nat.le_of_ble_eq_true rfl⟩) (fun r_4 hw4 => ?_)
  refine lv_if_ne (tgt := 14) hx hb d_Mo_size_7 (by decide) (fun c_7 => absurd (hw4.trans (mo_in_0 h1)) c_7) (fun c_7 => ?_)
  refine lv_iconst (v := 1) hx hb d_Mo_size_10 (by decide) ?_
  refine lv_goto (tgt := 15) hx hb d_Mo_size_11 (by decide) ?_
  refine lv_iconst (v := 0) hx hb d_Mo_size_15 (by decide) ?_
  refine xc_i (wr := []) (va_runV (As := [.int 1, .int 0]) (rest := []) ⟨hx, hb, hml, hown, hg⟩ (c_Mo_refused l D kA kS s.heap.size h0 r z y 1 0) (cwV 2 hg (xg_V mw_1830 mw_1832 ms_96 mw_13 mw_1833) rfl rfl rfl (by decide +kernel) ⟨Nat.le_of_ble_eq_true rfl, Nat.le_of_ble_eq_true rfl⟩) (xc_preV hK hN hC hP hD hS hA [0] (by decide) rfl 0 rfl rfl) rfl rfl hl.1 rfl (lv_room (Nat.le_of_ble_eq_true rfl)) d_Mo_size_16 ⟨Nat.le_of_ble_eq_true rfl, Nat.le_of_ble_eq_true rfl⟩) hP hD hS hA [0] [] rfl rfl (by decide) (by decide) (fun r_16 u9 H locs hw16 hP hD hS => ?_)
  have hP : va_P D vC [(h0, .inr (13, [.int (mo_th 1 0), .ref (r 1), .int (z 2), .int (z 3), .ref (r 4), .ref (r 5), .ref (r 6), .ref (r 7), .int (z 8), .ref (r 9), .int (z 10), .int (z 11), .int (z 12), .int (z 13), .ref (r 14), .ref (r 15), .ref (r 16), .ref (r 17), .ref (r 18), .ref (r 19), .ref (r 20), .ref (r 21), .int (z 22), .int (z 23), .int (z 24), .int (z 25), .int (z 26), .int (z 27), .ref (r 28), .ref (r 29), .int (z 30), .int (z 31), .int (z 32), .ref (r 33), .ref (r 34)]))] H := hP
  have hD : va_D A [(h0, .inr (13, [.int (mo_th 1 0), .ref (r 1), .int (z 2), .int (z 3), .ref (r 4), .ref (r 5), .ref (r 6), .ref (r 7), .int (z 8), .ref (r 9), .int (z 10), .int (z 11), .int (z 12), .int (z 13), .ref (r 14), .ref (r 15), .ref (r 16), .ref (r 17), .ref (r 18), .ref (r 19), .ref (r 20), .ref (r 21), .int (z 22), .int (z 23), .int (z 24), .int (z 25), .int (z 26), .int (z 27), .ref (r 28), .ref (r 29), .int (z 30), .int (z 31), .int (z 32), .ref (r 33), .ref (r 34)]))] := hD
  rw [show mo_th 1 0 = (1 : Int32) from by decide +kernel] at hP hD
  refine lv_if_eq (tgt := 26) hx hb d_Mo_size_19 (by decide) (fun c_19 => absurd (hw16.symm.trans c_19) (by decide)) (fun c_19 => ?_)
  refine lv_iconst (v := 0) hx hb d_Mo_size_22 (by decide) ?_
  refine lv_goto (tgt := 41) hx hb d_Mo_size_23 (by decide) ?_
  exact W.iret (v := 0) hx hb hr (fun t ht hW => ⟨⟨0, (), rfl, rfl, by rw [ht]; exact hP, va_K.moved hW.alike hK, hD⟩, hS.F ht⟩) hS.2.2 d_Mo_size_41

set_option maxHeartbeats 4000000 in
set_option maxRecDepth 100000 in
/-- size(n) -/
theorem c_Mo_size (l : Launch) (D : va_G) (kA : Nat → ClassId) (kS : Nat → Nat) (sz : Nat) (h0 : Nat) (r : Nat → Nat) (z : Nat → Int32) (y : Nat → Int64) (n : Int32) (h1 : ¬ n < 0) (h2 : ¬ 1 < n) : Met l y_Mo_size w_Mo_size { frames := 1, cells := 0, slots := 0, locals := 22 } (xPre D vC (tK kA) kS [.ref h0, .int n] ([oMo h0 r z y]) sz) (va_Qi (fun (x : Int32) (_ : Unit) => x = if n = 0 then z 8 else z 10) (xB D vC (tK kA) (fun _ => [oMo h0 r (upd z 0 0) y]) (va_A ([oMo h0 r z y]) sz)) (va_A ([oMo h0 r z y]) sz)) 0 0 (va_A ([oMo h0 r z y]) sz) := by
  refine Met.ofW (cc := b_Mo_size) (maxL := 2) (ret := (some .int)) (by decide) rfl ?_
  intro p e s m args below meth c s₁ B hml hv
  obtain ⟨rfl, hsz, hP, hK, hD0, hN, hC⟩ := hv
  have hx := B.exec
  have hb := B.bytes
  have hr := B.returns
  have hts := atoms_spec (ws := w_Mo_size) B.pre
  have hg : ∀ w ∈ gW, w.before _ s = true := fun w h => hts w (List.mem_cons_of_mem _ h)
  have hown : s.vm.findClass R_Mo = some m.cls := findClass_of_methodNamed B.named
  have hlocks := B.notSynchronized
  subst hsz
  have hD := hD0.self (sz := s.heap.size)
  generalize hAe : va_A ([oMo h0 r z y]) s.heap.size = A at hD hC ⊢
  have hA : ∀ q : Nat, s.heap.size ≤ q → A q := fun q h => by rw [← hAe]; exact Or.inr h
  have hS : va_S A s.heap s.heap [] := va_S.rf
  have hP : va_P D vC [(h0, .inr (13, [.int (z 0), .ref (r 1), .int (z 2), .int (z 3), .ref (r 4), .ref (r 5), .ref (r 6), .ref (r 7), .int (z 8), .ref (r 9), .int (z 10), .int (z 11), .int (z 12), .int (z 13), .ref (r 14), .ref (r 15), .ref (r 16), .ref (r 17), .ref (r 18), .ref (r 19), .ref (r 20), .ref (r 21), .int (z 22), .int (z 23), .int (z 24), .int (z 25), .int (z 26), .int (z 27), .ref (r 28), .ref (r 29), .int (z 30), .int (z 31), .int (z 32), .ref (r 33), .ref (r 34)]))] s.heap := hP
  have hD : va_D A [(h0, .inr (13, [.int (z 0), .ref (r 1), .int (z 2), .int (z 3), .ref (r 4), .ref (r 5), .ref (r 6), .ref (r 7), .int (z 8), .ref (r 9), .int (z 10), .int (z 11), .int (z 12), .int (z 13), .ref (r 14), .ref (r 15), .ref (r 16), .ref (r 17), .ref (r 18), .ref (r 19), .ref (r 20), .ref (r 21), .int (z 22), .int (z 23), .int (z 24), .int (z 25), .int (z 26), .int (z 27), .ref (r 28), .ref (r 29), .int (z 30), .int (z 31), .int (z 32), .ref (r 33), .ref (r 34)]))] := hD
  have hl := lv_entry ([.ref h0, .int n]) (n := 2) (Nat.le_of_ble_eq_true rfl)
  rw [lg_entry_eq]
  generalize (lg_sl ([.ref h0, .int n]) ++ List.replicate (2 - (lg_sl ([.ref h0, .int n])).length) Slot.unset).toArray = ls at hl ⊢
  have hl : lv_has ls 2 [(0, .ref h0), (1, .int n)] := hl
  refine lv_aload_n hx hb d_Mo_size_0 rfl (lv_at hl 0 rfl) ?_
  refine lv_iload_n hx hb d_Mo_size_1 rfl (lv_at hl 1 rfl) ?_
  refine lv_iconst (v := 0) hx hb d_Mo_size_2 (by decide) ?_
  refine lv_iconst (v := 1) hx hb d_Mo_size_3 (by decide) ?_
  refine xc_pi (va_runS (As := [.int n, .int 0, .int 1]) (rest := [.ref h0]) ⟨hx, hb, hml, hown, hg⟩ (p_Mo_within l D kA kS s.heap.size n 0 1) (cwS 3 hg (xg_S mw_1842 mw_1843 mw_13 mw_1844) rfl rfl rfl (by decide +kernel) ⟨Nat.le_of_ble_eq_true rfl, Nat.le_of_ble_eq_true rfl⟩) (xc_pre hK hN hC hP hD hS hA [] (by decide) rfl) rfl rfl hl.1 rfl (lv_room (Nat.le_of_ble_eq_true rfl)) d_Mo_size_4 ⟨Nat.le_of_ble_eq_true rfl, Nat.le_of_ble_eq_true rfl⟩) (fun r_4 hw4 => ?_)
  refine lv_if_ne (tgt := 14) hx hb d_Mo_size_7 (by decide) (fun c_7 => ?_) (fun c_7 => absurd (hw4.symm.trans c_7) (by rw [mo_in_1 h1 h2]; decide))
  refine lv_iconst (v := 0) hx hb d_Mo_size_14 (by decide) ?_
  refine lv_iconst (v := 0) hx hb d_Mo_size_15 (by decide) ?_
  refine xc_i (wr := []) (va_runV (As := [.int 0, .int 0]) (rest := []) ⟨hx, hb, hml, hown, hg⟩ (c_Mo_refused l D kA kS s.heap.size h0 r z y 0 0) (cwV 2 hg (xg_V mw_1830 mw_1832 ms_96 mw_13 mw_1833) rfl rfl rfl (by decide +kernel) ⟨Nat.le_of_ble_eq_true rfl, Nat.le_of_ble_eq_true rfl⟩) (xc_preV hK hN hC hP hD hS hA [0] (by decide) rfl 0 rfl rfl) rfl rfl hl.1 rfl (lv_room (Nat.le_of_ble_eq_true rfl)) d_Mo_size_16 ⟨Nat.le_of_ble_eq_true rfl, Nat.le_of_ble_eq_true rfl⟩) hP hD hS hA [0] [] rfl rfl (by decide) (by decide) (fun r_16 u9 H locs hw16 hP hD hS => ?_)
  have hP : va_P D vC [(h0, .inr (13, [.int (mo_th 0 0), .ref (r 1), .int (z 2), .int (z 3), .ref (r 4), .ref (r 5), .ref (r 6), .ref (r 7), .int (z 8), .ref (r 9), .int (z 10), .int (z 11), .int (z 12), .int (z 13), .ref (r 14), .ref (r 15), .ref (r 16), .ref (r 17), .ref (r 18), .ref (r 19), .ref (r 20), .ref (r 21), .int (z 22), .int (z 23), .int (z 24), .int (z 25), .int (z 26), .int (z 27), .ref (r 28), .ref (r 29), .int (z 30), .int (z 31), .int (z 32), .ref (r 33), .ref (r 34)]))] H := hP
  have hD : va_D A [(h0, .inr (13, [.int (mo_th 0 0), .ref (r 1), .int (z 2), .int (z 3), .ref (r 4), .ref (r 5), .ref (r 6), .ref (r 7), .int (z 8), .ref (r 9), .int (z 10), .int (z 11), .int (z 12), .int (z 13), .ref (r 14), .ref (r 15), .ref (r 16), .ref (r 17), .ref (r 18), .ref (r 19), .ref (r 20), .ref (r 21), .int (z 22), .int (z 23), .int (z 24), .int (z 25), .int (z 26), .int (z 27), .ref (r 28), .ref (r 29), .int (z 30), .int (z 31), .int (z 32), .ref (r 33), .ref (r 34)]))] := hD
  rw [show mo_th 0 0 = (0 : Int32) from by decide +kernel] at hP hD
  refine lv_if_eq (tgt := 26) hx hb d_Mo_size_19 (by decide) (fun c_19 => ?_) (fun c_19 => absurd (hw16.trans (by decide)) c_19)
  refine lv_iload_n hx hb d_Mo_size_26 rfl (lv_at hl 1 rfl) ?_
  refine lv_if_ne (tgt := 37) hx hb d_Mo_size_27 (by decide) (fun c_27 => ?_) (fun c_27 => ?_)
  · skip
    refine lv_aload_n hx hb d_Mo_size_37 rfl (lv_at hl 0 rfl) ?_
    refine va_get (D := D) (ci := 13) (v := .int (z 10)) (C := R_Mo) (T := F_Mo) (N := 35) hx hb hg i_Mo hown hK hP 0 rfl rfl 10 (by decide) (hg _ mw_1726) (fun _ h9 => h9) rfl d_Mo_size_38 ?_
    exact W.iret (v := z 10) hx hb hr (fun t ht hW => ⟨⟨z 10, (), rfl, (if_neg c_27).symm, by rw [ht]; exact hP, va_K.moved hW.alike hK, hD⟩, hS.F ht⟩) hS.2.2 d_Mo_size_41
  · skip
    refine lv_aload_n hx hb d_Mo_size_30 rfl (lv_at hl 0 rfl) ?_
    refine va_get (D := D) (ci := 13) (v := .int (z 8)) (C := R_Mo) (T := F_Mo) (N := 35) hx hb hg i_Mo hown hK hP 0 rfl rfl 8 (by decide) (hg _ mw_1724) (fun _ h9 => h9) rfl d_Mo_size_31 ?_
    refine lv_goto (tgt := 41) hx hb d_Mo_size_34 (by decide) ?_
    exact W.iret (v := z 8) hx hb hr (fun t ht hW => ⟨⟨z 8, (), rfl, (if_pos c_27).symm, by rw [ht]; exact hP, va_K.moved hW.alike hK, hD⟩, hS.F ht⟩) hS.2.2 d_Mo_size_41

set_option maxHeartbeats 4000000 in
set_option maxRecDepth 100000 in
/-- letter: no such thing -/
theorem c_Mo_letter_no (l : Launch) (D : va_G) (kA : Nat → ClassId) (kS : Nat → Nat) (sz : Nat) (h0 : Nat) (r : Nat → Nat) (z : Nat → Int32) (y : Nat → Int64) (i n : Int32) (h1 : n < 0 ∨ 1 < n) : Met l y_Mo_letter w_Mo_letter { frames := 1, cells := 0, slots := 0, locals := 22 } (xPre D vC (tK kA) kS [.ref h0, .int i, .int n] ([oMo h0 r z y]) sz) (va_Qi (fun (x : Int32) (_ : Unit) => x = 0) (xB D vC (tK kA) (fun _ => [oMo h0 r (upd z 0 2) y]) (va_A ([oMo h0 r z y]) sz)) (va_A ([oMo h0 r z y]) sz)) 0 0 (va_A ([oMo h0 r z y]) sz) := by
  refine Met.ofW (cc := b_Mo_letter) (maxL := 4) (ret := (some .int)) (by decide) rfl ?_
  intro p e s m args below meth c s₁ B hml hv
  obtain ⟨rfl, hsz, hP, hK, hD0, hN, hC⟩ := hv
  have hx := B.exec
  have hb := B.bytes
  have hr := B.returns
  have hts := atoms_spec (ws := w_Mo_letter) B.pre
  have hg : ∀ w ∈ gW, w.before _ s = true := fun w h => hts w (List.mem_cons_of_mem _ h)
  have hown : s.vm.findClass R_Mo = some m.cls := findClass_of_methodNamed B.named
  have hlocks := B.notSynchronized
  subst hsz
  have hD := hD0.self (sz := s.heap.size)
  generalize hAe : va_A ([oMo h0 r z y]) s.heap.size = A at hD hC ⊢
  have hA : ∀ q : Nat, s.heap.size ≤ q → A q := fun q h => by rw [← hAe]; exact Or.inr h
  have hS : va_S A s.heap s.heap [] := va_S.rf
  have hP : va_P D vC [(h0, .inr (13, [.int (z 0), .ref (r 1), .int (z 2), .int (z 3), .ref (r 4), .ref (r 5), .ref (r 6), .ref (r 7), .int (z 8), .ref (r 9), .int (z 10), .int (z 11), .int (z 12), .int (z 13), .ref (r 14), .ref (r 15), .ref (r 16), .ref (r 17), .ref (r 18), .ref (r 19), .ref (r 20), .ref (r 21), .int (z 22), .int (z 23), .int (z 24), .int (z 25), .int (z 26), .int (z 27), .ref (r 28), .ref (r 29), .int (z 30), .int (z 31), .int (z 32), .ref (r 33), .ref (r 34)]))] s.heap := hP
  have hD : va_D A [(h0, .inr (13, [.int (z 0), .ref (r 1), .int (z 2), .int (z 3), .ref (r 4), .ref (r 5), .ref (r 6), .ref (r 7), .int (z 8), .ref (r 9), .int (z 10), .int (z 11), .int (z 12), .int (z 13), .ref (r 14), .ref (r 15), .ref (r 16), .ref (r 17), .ref (r 18), .ref (r 19), .ref (r 20), .ref (r 21), .int (z 22), .int (z 23), .int (z 24), .int (z 25), .int (z 26), .int (z 27), .ref (r 28), .ref (r 29), .int (z 30), .int (z 31), .int (z 32), .ref (r 33), .ref (r 34)]))] := hD
  have hl := lv_entry ([.ref h0, .int i, .int n]) (n := 4) (Nat.le_of_ble_eq_true rfl)
  rw [lg_entry_eq]
  generalize (lg_sl ([.ref h0, .int i, .int n]) ++ List.replicate (4 - (lg_sl ([.ref h0, .int i, .int n])).length) Slot.unset).toArray = ls at hl ⊢
  have hl : lv_has ls 4 [(0, .ref h0), (1, .int i), (2, .int n)] := hl
  refine lv_iload_n hx hb d_Mo_letter_0 rfl (lv_at hl 2 rfl) ?_
  refine lv_iconst (v := 0) hx hb d_Mo_letter_1 (by decide) ?_
  refine lv_iconst (v := 1) hx hb d_Mo_letter_2 (by decide) ?_
  refine xc_pi (va_runS (As := [.int n, .int 0, .int 1]) (rest := []) ⟨hx, hb, hml, hown, hg⟩ (p_Mo_within l D kA kS s.heap.size n 0 1) (cwS 3 hg (xg_S mw_1842 mw_1843 mw_13 mw_1844) rfl rfl rfl (by decide +kernel) ⟨Nat.le_of_ble_eq_true rfl, Nat.le_of_ble_eq_true rfl⟩) (xc_pre hK hN hC hP hD hS hA [] (by decide) rfl) rfl rfl hl.1 rfl (lv_room (Nat.le_of_ble_eq_true rfl)) d_Mo_letter_3 ⟨Nat.le_of_ble_eq_true rfl, Nat.le_of_ble_eq_true rfl⟩) (fun r_3 hw3 => ?_)
  refine lv_if_ne (tgt := 13) hx hb d_Mo_letter_6 (by decide) (fun c_6 => absurd (hw3.trans (mo_in_0 h1)) c_6) (fun c_6 => ?_)
  refine lv_iconst (v := 1) hx hb d_Mo_letter_9 (by decide) ?_
  refine lv_goto (tgt := 14) hx hb d_Mo_letter_10 (by decide) ?_
  refine lv_istore_n (lv' := [(3, .int 1), (0, .ref h0), (1, .int i), (2, .int n)]) hx hb d_Mo_letter_14 rfl hl (by decide) rfl (fun ls hl => ?_)
  refine lv_aload_n hx hb d_Mo_letter_15 rfl (lv_at hl 1 rfl) ?_
  refine lv_iload_n hx hb d_Mo_letter_16 rfl (lv_at hl 0 rfl) ?_
  refine lv_if_ne (tgt := 49) hx hb d_Mo_letter_17 (by decide) (fun c_17 => ?_) (fun c_17 => absurd c_17 (by decide))
  refine lv_iconst (v := 0) hx hb d_Mo_letter_49 (by decide) ?_
  refine lv_iload_n hx hb d_Mo_letter_50 rfl (lv_at hl 0 rfl) ?_
  refine xc_i (wr := []) (va_runV (As := [.int 0, .int 1]) (rest := []) ⟨hx, hb, hml, hown, hg⟩ (c_Mo_refused l D kA kS s.heap.size h0 r z y 0 1) (cwV 2 hg (xg_V mw_1830 mw_1832 ms_96 mw_13 mw_1833) rfl rfl rfl (by decide +kernel) ⟨Nat.le_of_ble_eq_true rfl, Nat.le_of_ble_eq_true rfl⟩) (xc_preV hK hN hC hP hD hS hA [0] (by decide) rfl 0 rfl rfl) rfl rfl hl.1 rfl (lv_room (Nat.le_of_ble_eq_true rfl)) d_Mo_letter_51 ⟨Nat.le_of_ble_eq_true rfl, Nat.le_of_ble_eq_true rfl⟩) hP hD hS hA [0] [] rfl rfl (by decide) (by decide) (fun r_51 u9 H locs hw51 hP hD hS => ?_)
  have hP : va_P D vC [(h0, .inr (13, [.int (mo_th 0 1), .ref (r 1), .int (z 2), .int (z 3), .ref (r 4), .ref (r 5), .ref (r 6), .ref (r 7), .int (z 8), .ref (r 9), .int (z 10), .int (z 11), .int (z 12), .int (z 13), .ref (r 14), .ref (r 15), .ref (r 16), .ref (r 17), .ref (r 18), .ref (r 19), .ref (r 20), .ref (r 21), .int (z 22), .int (z 23), .int (z 24), .int (z 25), .int (z 26), .int (z 27), .ref (r 28), .ref (r 29), .int (z 30), .int (z 31), .int (z 32), .ref (r 33), .ref (r 34)]))] H := hP
  have hD : va_D A [(h0, .inr (13, [.int (mo_th 0 1), .ref (r 1), .int (z 2), .int (z 3), .ref (r 4), .ref (r 5), .ref (r 6), .ref (r 7), .int (z 8), .ref (r 9), .int (z 10), .int (z 11), .int (z 12), .int (z 13), .ref (r 14), .ref (r 15), .ref (r 16), .ref (r 17), .ref (r 18), .ref (r 19), .ref (r 20), .ref (r 21), .int (z 22), .int (z 23), .int (z 24), .int (z 25), .int (z 26), .int (z 27), .ref (r 28), .ref (r 29), .int (z 30), .int (z 31), .int (z 32), .ref (r 33), .ref (r 34)]))] := hD
  rw [show mo_th 0 1 = (2 : Int32) from by decide +kernel] at hP hD
  refine lv_if_eq (tgt := 59) hx hb d_Mo_letter_54 (by decide) (fun c_54 => absurd (hw51.symm.trans c_54) (by decide)) (fun c_54 => ?_)
  refine lv_iconst (v := 0) hx hb d_Mo_letter_57 (by decide) ?_
  exact W.iret (v := 0) hx hb hr (fun t ht hW => ⟨⟨0, (), rfl, rfl, by rw [ht]; exact hP, va_K.moved hW.alike hK, hD⟩, hS.F ht⟩) hS.2.2 d_Mo_letter_58

set_option maxHeartbeats 4000000 in
set_option maxRecDepth 100000 in
/-- letter: nothing told -/
theorem c_Mo_letter0 (l : Launch) (D : va_G) (kA : Nat → ClassId) (kS : Nat → Nat) (sz : Nat) (h0 : Nat) (r : Nat → Nat) (z : Nat → Int32) (y : Nat → Int64) (i n : Int32) (h1 : ¬ n < 0) (h2 : ¬ 1 < n) (hp : z 8 = 0) (ho : z 10 = 0) : Met l y_Mo_letter w_Mo_letter { frames := 1, cells := 0, slots := 0, locals := 22 } (xPre D vC (tK kA) kS [.ref h0, .int i, .int n] ([oMo h0 r z y]) sz) (va_Qi (fun (x : Int32) (_ : Unit) => x = 0) (xB D vC (tK kA) (fun _ => [oMo h0 r (upd z 0 1) y]) (va_A ([oMo h0 r z y]) sz)) (va_A ([oMo h0 r z y]) sz)) 0 0 (va_A ([oMo h0 r z y]) sz) := by
  refine Met.ofW (cc := b_Mo_letter) (maxL := 4) (ret := (some .int)) (by decide) rfl ?_
  intro p e s m args below meth c s₁ B hml hv
  obtain ⟨rfl, hsz, hP, hK, hD0, hN, hC⟩ := hv
  have hx := B.exec
  have hb := B.bytes
  have hr := B.returns
  have hts := atoms_spec (ws := w_Mo_letter) B.pre
  have hg : ∀ w ∈ gW, w.before _ s = true := fun w h => hts w (List.mem_cons_of_mem _ h)
  have hown : s.vm.findClass R_Mo = some m.cls := findClass_of_methodNamed B.named
  have hlocks := B.notSynchronized
  subst hsz
  have hD := hD0.self (sz := s.heap.size)
  generalize hAe : va_A ([oMo h0 r z y]) s.heap.size = A at hD hC ⊢
  have hA : ∀ q : Nat, s.heap.size ≤ q → A q := fun q h => by rw [← hAe]; exact Or.inr h
  have hS : va_S A s.heap s.heap [] := va_S.rf
  have hP : va_P D vC [(h0, .inr (13, [.int (z 0), .ref (r 1), .int (z 2), .int (z 3), .ref (r 4), .ref (r 5), .ref (r 6), .ref (r 7), .int (z 8), .ref (r 9), .int (z 10), .int (z 11), .int (z 12), .int (z 13), .ref (r 14), .ref (r 15), .ref (r 16), .ref (r 17), .ref (r 18), .ref (r 19), .ref (r 20), .ref (r 21), .int (z 22), .int (z 23), .int (z 24), .int (z 25), .int (z 26), .int (z 27), .ref (r 28), .ref (r 29), .int (z 30), .int (z 31), .int (z 32), .ref (r 33), .ref (r 34)]))] s.heap := hP
  have hD : va_D A [(h0, .inr (13, [.int (z 0), .ref (r 1), .int (z 2), .int (z 3), .ref (r 4), .ref (r 5), .ref (r 6), .ref (r 7), .int (z 8), .ref (r 9), .int (z 10), .int (z 11), .int (z 12), .int (z 13), .ref (r 14), .ref (r 15), .ref (r 16), .ref (r 17), .ref (r 18), .ref (r 19), .ref (r 20), .ref (r 21), .int (z 22), .int (z 23), .int (z 24), .int (z 25), .int (z 26), .int (z 27), .ref (r 28), .ref (r 29), .int (z 30), .int (z 31), .int (z 32), .ref (r 33), .ref (r 34)]))] := hD
  have hl := lv_entry ([.ref h0, .int i, .int n]) (n := 4) (Nat.le_of_ble_eq_true rfl)
  rw [lg_entry_eq]
  generalize (lg_sl ([.ref h0, .int i, .int n]) ++ List.replicate (4 - (lg_sl ([.ref h0, .int i, .int n])).length) Slot.unset).toArray = ls at hl ⊢
  have hl : lv_has ls 4 [(0, .ref h0), (1, .int i), (2, .int n)] := hl
  refine lv_iload_n hx hb d_Mo_letter_0 rfl (lv_at hl 2 rfl) ?_
  refine lv_iconst (v := 0) hx hb d_Mo_letter_1 (by decide) ?_
  refine lv_iconst (v := 1) hx hb d_Mo_letter_2 (by decide) ?_
  refine xc_pi (va_runS (As := [.int n, .int 0, .int 1]) (rest := []) ⟨hx, hb, hml, hown, hg⟩ (p_Mo_within l D kA kS s.heap.size n 0 1) (cwS 3 hg (xg_S mw_1842 mw_1843 mw_13 mw_1844) rfl rfl rfl (by decide +kernel) ⟨Nat.le_of_ble_eq_true rfl, Nat.le_of_ble_eq_true rfl⟩) (xc_pre hK hN hC hP hD hS hA [] (by decide) rfl) rfl rfl hl.1 rfl (lv_room (Nat.le_of_ble_eq_true rfl)) d_Mo_letter_3 ⟨Nat.le_of_ble_eq_true rfl, Nat.le_of_ble_eq_true rfl⟩) (fun r_3 hw3 => ?_)
  refine lv_if_ne (tgt := 13) hx hb d_Mo_letter_6 (by decide) (fun c_6 => ?_) (fun c_6 => absurd (hw3.symm.trans c_6) (by rw [mo_in_1 h1 h2]; decide))
  refine lv_iconst (v := 0) hx hb d_Mo_letter_13 (by decide) ?_
  refine lv_istore_n (lv' := [(3, .int 0), (0, .ref h0), (1, .int i), (2, .int n)]) hx hb d_Mo_letter_14 rfl hl (by decide) rfl (fun ls hl => ?_)
  refine lv_aload_n hx hb d_Mo_letter_15 rfl (lv_at hl 1 rfl) ?_
  refine lv_iload_n hx hb d_Mo_letter_16 rfl (lv_at hl 0 rfl) ?_
  refine lv_if_ne (tgt := 49) hx hb d_Mo_letter_17 (by decide) (fun c_17 => absurd rfl c_17) (fun c_17 => ?_)
  refine lv_iload_n hx hb d_Mo_letter_20 rfl (lv_at hl 2 rfl) ?_
  refine lv_iconst (v := 0) hx hb d_Mo_letter_21 (by decide) ?_
  refine lv_iload_n hx hb d_Mo_letter_22 rfl (lv_at hl 3 rfl) ?_
  refine lv_if_ne (tgt := 33) hx hb d_Mo_letter_23 (by decide) (fun c_23 => ?_) (fun c_23 => ?_)
  · skip
    refine lv_aload_n hx hb d_Mo_letter_33 rfl (lv_at hl 1 rfl) ?_
    refine va_get (D := D) (ci := 13) (v := .int (z 10)) (C := R_Mo) (T := F_Mo) (N := 35) hx hb hg i_Mo hown hK hP 0 rfl rfl 10 (by decide) (hg _ mw_1726) (fun _ h9 => h9) rfl d_Mo_letter_34 ?_
    refine lv_iconst (v := 1) hx hb d_Mo_letter_37 (by decide) ?_
    refine lv_isub hx hb d_Mo_letter_38 ?_
    refine lv_topi (fun x_38 ex_38 => ?_)
    refine xc_pi (va_runS (As := [.int i, .int 0, .int x_38]) (rest := [.ref h0]) ⟨hx, hb, hml, hown, hg⟩ (p_Mo_within l D kA kS s.heap.size i 0 x_38) (cwS 3 hg (xg_S mw_1842 mw_1843 mw_13 mw_1844) rfl rfl rfl (by decide +kernel) ⟨Nat.le_of_ble_eq_true rfl, Nat.le_of_ble_eq_true rfl⟩) (xc_pre hK hN hC hP hD hS hA [] (by decide) rfl) rfl rfl hl.1 rfl (lv_room (Nat.le_of_ble_eq_true rfl)) d_Mo_letter_39 ⟨Nat.le_of_ble_eq_true rfl, Nat.le_of_ble_eq_true rfl⟩) (fun r_39 hw39 => ?_)
    refine lv_if_ne (tgt := 49) hx hb d_Mo_letter_42 (by decide) (fun c_42 => absurd (hw39.trans (mo_in_0 (by rw [ex_38, ho]; exact mo_m1 i))) c_42) (fun c_42 => ?_)
    refine lv_iconst (v := 1) hx hb d_Mo_letter_45 (by decide) ?_
    refine lv_goto (tgt := 50) hx hb d_Mo_letter_46 (by decide) ?_
    refine lv_iload_n hx hb d_Mo_letter_50 rfl (lv_at hl 0 rfl) ?_
    refine xc_i (wr := []) (va_runV (As := [.int 1, .int 0]) (rest := []) ⟨hx, hb, hml, hown, hg⟩ (c_Mo_refused l D kA kS s.heap.size h0 r z y 1 0) (cwV 2 hg (xg_V mw_1830 mw_1832 ms_96 mw_13 mw_1833) rfl rfl rfl (by decide +kernel) ⟨Nat.le_of_ble_eq_true rfl, Nat.le_of_ble_eq_true rfl⟩) (xc_preV hK hN hC hP hD hS hA [0] (by decide) rfl 0 rfl rfl) rfl rfl hl.1 rfl (lv_room (Nat.le_of_ble_eq_true rfl)) d_Mo_letter_51 ⟨Nat.le_of_ble_eq_true rfl, Nat.le_of_ble_eq_true rfl⟩) hP hD hS hA [0] [] rfl rfl (by decide) (by decide) (fun r_51 u9 H locs hw51 hP hD hS => ?_)
    have hP : va_P D vC [(h0, .inr (13, [.int (mo_th 1 0), .ref (r 1), .int (z 2), .int (z 3), .ref (r 4), .ref (r 5), .ref (r 6), .ref (r 7), .int (z 8), .ref (r 9), .int (z 10), .int (z 11), .int (z 12), .int (z 13), .ref (r 14), .ref (r 15), .ref (r 16), .ref (r 17), .ref (r 18), .ref (r 19), .ref (r 20), .ref (r 21), .int (z 22), .int (z 23), .int (z 24), .int (z 25), .int (z 26), .int (z 27), .ref (r 28), .ref (r 29), .int (z 30), .int (z 31), .int (z 32), .ref (r 33), .ref (r 34)]))] H := hP
    have hD : va_D A [(h0, .inr (13, [.int (mo_th 1 0), .ref (r 1), .int (z 2), .int (z 3), .ref (r 4), .ref (r 5), .ref (r 6), .ref (r 7), .int (z 8), .ref (r 9), .int (z 10), .int (z 11), .int (z 12), .int (z 13), .ref (r 14), .ref (r 15), .ref (r 16), .ref (r 17), .ref (r 18), .ref (r 19), .ref (r 20), .ref (r 21), .int (z 22), .int (z 23), .int (z 24), .int (z 25), .int (z 26), .int (z 27), .ref (r 28), .ref (r 29), .int (z 30), .int (z 31), .int (z 32), .ref (r 33), .ref (r 34)]))] := hD
    rw [show mo_th 1 0 = (1 : Int32) from by decide +kernel] at hP hD
    refine lv_if_eq (tgt := 59) hx hb d_Mo_letter_54 (by decide) (fun c_54 => absurd (hw51.symm.trans c_54) (by decide)) (fun c_54 => ?_)
    refine lv_iconst (v := 0) hx hb d_Mo_letter_57 (by decide) ?_
    exact W.iret (v := 0) hx hb hr (fun t ht hW => ⟨⟨0, (), rfl, rfl, by rw [ht]; exact hP, va_K.moved hW.alike hK, hD⟩, hS.F ht⟩) hS.2.2 d_Mo_letter_58
  · skip
    refine lv_aload_n hx hb d_Mo_letter_26 rfl (lv_at hl 1 rfl) ?_
    refine va_get (D := D) (ci := 13) (v := .int (z 8)) (C := R_Mo) (T := F_Mo) (N := 35) hx hb hg i_Mo hown hK hP 0 rfl rfl 8 (by decide) (hg _ mw_1724) (fun _ h9 => h9) rfl d_Mo_letter_27 ?_
    refine lv_goto (tgt := 37) hx hb d_Mo_letter_30 (by decide) ?_
    refine lv_iconst (v := 1) hx hb d_Mo_letter_37 (by decide) ?_
    refine lv_isub hx hb d_Mo_letter_38 ?_
    refine lv_topi (fun x_38 ex_38 => ?_)
    refine xc_pi (va_runS (As := [.int i, .int 0, .int x_38]) (rest := [.ref h0]) ⟨hx, hb, hml, hown, hg⟩ (p_Mo_within l D kA kS s.heap.size i 0 x_38) (cwS 3 hg (xg_S mw_1842 mw_1843 mw_13 mw_1844) rfl rfl rfl (by decide +kernel) ⟨Nat.le_of_ble_eq_true rfl, Nat.le_of_ble_eq_true rfl⟩) (xc_pre hK hN hC hP hD hS hA [] (by decide) rfl) rfl rfl hl.1 rfl (lv_room (Nat.le_of_ble_eq_true rfl)) d_Mo_letter_39 ⟨Nat.le_of_ble_eq_true rfl, Nat.le_of_ble_eq_true rfl⟩) (fun r_39 hw39 => ?_)
    refine lv_if_ne (tgt := 49) hx hb d_Mo_letter_42 (by decide) (fun c_42 => absurd (hw39.trans (mo_in_0 (by rw [ex_38, hp]; exact mo_m1 i))) c_42) (fun c_42 => ?_)
    refine lv_iconst (v := 1) hx hb d_Mo_letter_45 (by decide) ?_
    refine lv_goto (tgt := 50) hx hb d_Mo_letter_46 (by decide) ?_
    refine lv_iload_n hx hb d_Mo_letter_50 rfl (lv_at hl 0 rfl) ?_
    refine xc_i (wr := []) (va_runV (As := [.int 1, .int 0]) (rest := []) ⟨hx, hb, hml, hown, hg⟩ (c_Mo_refused l D kA kS s.heap.size h0 r z y 1 0) (cwV 2 hg (xg_V mw_1830 mw_1832 ms_96 mw_13 mw_1833) rfl rfl rfl (by decide +kernel) ⟨Nat.le_of_ble_eq_true rfl, Nat.le_of_ble_eq_true rfl⟩) (xc_preV hK hN hC hP hD hS hA [0] (by decide) rfl 0 rfl rfl) rfl rfl hl.1 rfl (lv_room (Nat.le_of_ble_eq_true rfl)) d_Mo_letter_51 ⟨Nat.le_of_ble_eq_true rfl, Nat.le_of_ble_eq_true rfl⟩) hP hD hS hA [0] [] rfl rfl (by decide) (by decide) (fun r_51 u9 H locs hw51 hP hD hS => ?_)
    have hP : va_P D vC [(h0, .inr (13, [.int (mo_th 1 0), .ref (r 1), .int (z 2), .int (z 3), .ref (r 4), .ref (r 5), .ref (r 6), .ref (r 7), .int (z 8), .ref (r 9), .int (z 10), .int (z 11), .int (z 12), .int (z 13), .ref (r 14), .ref (r 15), .ref (r 16), .ref (r 17), .ref (r 18), .ref (r 19), .ref (r 20), .ref (r 21), .int (z 22), .int (z 23), .int (z 24), .int (z 25), .int (z 26), .int (z 27), .ref (r 28), .ref (r 29), .int (z 30), .int (z 31), .int (z 32), .ref (r 33), .ref (r 34)]))] H := hP
    have hD : va_D A [(h0, .inr (13, [.int (mo_th 1 0), .ref (r 1), .int (z 2), .int (z 3), .ref (r 4), .ref (r 5), .ref (r 6), .ref (r 7), .int (z 8), .ref (r 9), .int (z 10), .int (z 11), .int (z 12), .int (z 13), .ref (r 14), .ref (r 15), .ref (r 16), .ref (r 17), .ref (r 18), .ref (r 19), .ref (r 20), .ref (r 21), .int (z 22), .int (z 23), .int (z 24), .int (z 25), .int (z 26), .int (z 27), .ref (r 28), .ref (r 29), .int (z 30), .int (z 31), .int (z 32), .ref (r 33), .ref (r 34)]))] := hD
    rw [show mo_th 1 0 = (1 : Int32) from by decide +kernel] at hP hD
    refine lv_if_eq (tgt := 59) hx hb d_Mo_letter_54 (by decide) (fun c_54 => absurd (hw51.symm.trans c_54) (by decide)) (fun c_54 => ?_)
    refine lv_iconst (v := 0) hx hb d_Mo_letter_57 (by decide) ?_
    exact W.iret (v := 0) hx hb hr (fun t ht hW => ⟨⟨0, (), rfl, rfl, by rw [ht]; exact hP, va_K.moved hW.alike hK, hD⟩, hS.F ht⟩) hS.2.2 d_Mo_letter_58

set_option maxHeartbeats 4000000 in
set_option maxRecDepth 100000 in
/-- clear: no such subject -/
theorem c_Mo_clear_no (l : Launch) (D : va_G) (kA : Nat → ClassId) (kS : Nat → Nat) (sz : Nat) (h0 : Nat) (r : Nat → Nat) (z : Nat → Int32) (y : Nat → Int64) (n : Int32) (h1 : n < 0 ∨ 3 < n) : Met l y_Mo_clear w_Mo_clear { frames := 2, cells := 0, slots := 0, locals := 42 } (xPre D vC (tK kA) kS [.ref h0, .int n] ([oMo h0 r z y]) sz) (va_Qi (fun (x : Int32) (_ : Unit) => x = 0) (xB D vC (tK kA) (fun _ => [oMo h0 r (upd z 0 1) y]) (va_A ([oMo h0 r z y]) sz)) (va_A ([oMo h0 r z y]) sz)) 0 0 (va_A ([oMo h0 r z y]) sz) := by
  refine Met.ofW (cc := b_Mo_clear) (maxL := 4) (ret := (some .int)) (by decide) rfl ?_
  intro p e s m args below meth c s₁ B hml hv
  obtain ⟨rfl, hsz, hP, hK, hD0, hN, hC⟩ := hv
  have hx := B.exec
  have hb := B.bytes
  have hr := B.returns
  have hts := atoms_spec (ws := w_Mo_clear) B.pre
  have hg : ∀ w ∈ gW, w.before _ s = true := fun w h => hts w (List.mem_cons_of_mem _ h)
  have hown : s.vm.findClass R_Mo = some m.cls := findClass_of_methodNamed B.named
  have hlocks := B.notSynchronized
  subst hsz
  have hD := hD0.self (sz := s.heap.size)
  generalize hAe : va_A ([oMo h0 r z y]) s.heap.size = A at hD hC ⊢
  have hA : ∀ q : Nat, s.heap.size ≤ q → A q := fun q h => by rw [← hAe]; exact Or.inr h
  have hS : va_S A s.heap s.heap [] := va_S.rf
  have hP : va_P D vC [(h0, .inr (13, [.int (z 0), .ref (r 1), .int (z 2), .int (z 3), .ref (r 4), .ref (r 5), .ref (r 6), .ref (r 7), .int (z 8), .ref (r 9), .int (z 10), .int (z 11), .int (z 12), .int (z 13), .ref (r 14), .ref (r 15), .ref (r 16), .ref (r 17), .ref (r 18), .ref (r 19), .ref (r 20), .ref (r 21), .int (z 22), .int (z 23), .int (z 24), .int (z 25), .int (z 26), .int (z 27), .ref (r 28), .ref (r 29), .int (z 30), .int (z 31), .int (z 32), .ref (r 33), .ref (r 34)]))] s.heap := hP
  have hD : va_D A [(h0, .inr (13, [.int (z 0), .ref (r 1), .int (z 2), .int (z 3), .ref (r 4), .ref (r 5), .ref (r 6), .ref (r 7), .int (z 8), .ref (r 9), .int (z 10), .int (z 11), .int (z 12), .int (z 13), .ref (r 14), .ref (r 15), .ref (r 16), .ref (r 17), .ref (r 18), .ref (r 19), .ref (r 20), .ref (r 21), .int (z 22), .int (z 23), .int (z 24), .int (z 25), .int (z 26), .int (z 27), .ref (r 28), .ref (r 29), .int (z 30), .int (z 31), .int (z 32), .ref (r 33), .ref (r 34)]))] := hD
  have hl := lv_entry ([.ref h0, .int n]) (n := 4) (Nat.le_of_ble_eq_true rfl)
  rw [lg_entry_eq]
  generalize (lg_sl ([.ref h0, .int n]) ++ List.replicate (4 - (lg_sl ([.ref h0, .int n])).length) Slot.unset).toArray = ls at hl ⊢
  have hl : lv_has ls 4 [(0, .ref h0), (1, .int n)] := hl
  refine lv_aload_n hx hb d_Mo_clear_0 rfl (lv_at hl 0 rfl) ?_
  refine lv_iload_n hx hb d_Mo_clear_1 rfl (lv_at hl 1 rfl) ?_
  refine xc_pi (va_runS (As := [.int n]) (rest := [.ref h0]) ⟨hx, hb, hml, hown, hg⟩ (p_Mo_isSubject l D kA kS s.heap.size n) (cwS 1 hg (xg_S mw_2103 mw_2104 mw_13 mw_2105) rfl rfl rfl (by decide +kernel) ⟨Nat.le_of_ble_eq_true rfl, Nat.le_of_ble_eq_true rfl⟩) (xc_pre hK hN hC hP hD hS hA [] (by decide) rfl) rfl rfl hl.1 rfl (lv_room (Nat.le_of_ble_eq_true rfl)) d_Mo_clear_2 ⟨Nat.le_of_ble_eq_true rfl, Nat.le_of_ble_eq_true rfl⟩) (fun r_2 hw2 => ?_)
  refine lv_if_ne (tgt := 12) hx hb d_Mo_clear_5 (by decide) (fun c_5 => absurd (hw2.trans (mo_in_0 h1)) c_5) (fun c_5 => ?_)
  refine lv_iconst (v := 1) hx hb d_Mo_clear_8 (by decide) ?_
  refine lv_goto (tgt := 13) hx hb d_Mo_clear_9 (by decide) ?_
  refine lv_iconst (v := 0) hx hb d_Mo_clear_13 (by decide) ?_
  refine xc_i (wr := []) (va_runV (As := [.int 1, .int 0]) (rest := []) ⟨hx, hb, hml, hown, hg⟩ (c_Mo_refused l D kA kS s.heap.size h0 r z y 1 0) (cwV 2 hg (xg_V mw_1830 mw_1832 ms_96 mw_13 mw_1833) rfl rfl rfl (by decide +kernel) ⟨Nat.le_of_ble_eq_true rfl, Nat.le_of_ble_eq_true rfl⟩) (xc_preV hK hN hC hP hD hS hA [0] (by decide) rfl 0 rfl rfl) rfl rfl hl.1 rfl (lv_room (Nat.le_of_ble_eq_true rfl)) d_Mo_clear_14 ⟨Nat.le_of_ble_eq_true rfl, Nat.le_of_ble_eq_true rfl⟩) hP hD hS hA [0] [] rfl rfl (by decide) (by decide) (fun r_14 u9 H locs hw14 hP hD hS => ?_)
  have hP : va_P D vC [(h0, .inr (13, [.int (mo_th 1 0), .ref (r 1), .int (z 2), .int (z 3), .ref (r 4), .ref (r 5), .ref (r 6), .ref (r 7), .int (z 8), .ref (r 9), .int (z 10), .int (z 11), .int (z 12), .int (z 13), .ref (r 14), .ref (r 15), .ref (r 16), .ref (r 17), .ref (r 18), .ref (r 19), .ref (r 20), .ref (r 21), .int (z 22), .int (z 23), .int (z 24), .int (z 25), .int (z 26), .int (z 27), .ref (r 28), .ref (r 29), .int (z 30), .int (z 31), .int (z 32), .ref (r 33), .ref (r 34)]))] H := hP
  have hD : va_D A [(h0, .inr (13, [.int (mo_th 1 0), .ref (r 1), .int (z 2), .int (z 3), .ref (r 4), .ref (r 5), .ref (r 6), .ref (r 7), .int (z 8), .ref (r 9), .int (z 10), .int (z 11), .int (z 12), .int (z 13), .ref (r 14), .ref (r 15), .ref (r 16), .ref (r 17), .ref (r 18), .ref (r 19), .ref (r 20), .ref (r 21), .int (z 22), .int (z 23), .int (z 24), .int (z 25), .int (z 26), .int (z 27), .ref (r 28), .ref (r 29), .int (z 30), .int (z 31), .int (z 32), .ref (r 33), .ref (r 34)]))] := hD
  rw [show mo_th 1 0 = (1 : Int32) from by decide +kernel] at hP hD
  refine lv_if_eq (tgt := 22) hx hb d_Mo_clear_17 (by decide) (fun c_17 => absurd (hw14.symm.trans c_17) (by decide)) (fun c_17 => ?_)
  refine lv_iconst (v := 0) hx hb d_Mo_clear_20 (by decide) ?_
  exact W.iret (v := 0) hx hb hr (fun t ht hW => ⟨⟨0, (), rfl, rfl, by rw [ht]; exact hP, va_K.moved hW.alike hK, hD⟩, hS.F ht⟩) hS.2.2 d_Mo_clear_21

set_option maxHeartbeats 4000000 in
set_option maxRecDepth 100000 in
/-- clear on an empty lake -/
theorem c_Mo_clear0 (l : Launch) (D : va_G) (kA : Nat → ClassId) (kS : Nat → Nat) (sz : Nat) (h0 : Nat) (r : Nat → Nat) (z : Nat → Int32) (y : Nat → Int64) (n : Int32) (h1 : ¬ n < 0) (h2 : ¬ 3 < n) (hz11 : z 11 = 0) (hz13 : z 13 = 0) : Met l y_Mo_clear w_Mo_clear { frames := 2, cells := 0, slots := 0, locals := 42 } (xPre D vC (tK kA) kS [.ref h0, .int n] ([oMo h0 r z y]) sz) (va_Qi (fun (x : Int32) (_ : Unit) => x = 0) (xB D vC (tK kA) (fun _ => [oMo h0 r (upd z 0 0) y]) (va_A ([oMo h0 r z y]) sz)) (va_A ([oMo h0 r z y]) sz)) 0 0 (va_A ([oMo h0 r z y]) sz) := by
  refine Met.ofW (cc := b_Mo_clear) (maxL := 4) (ret := (some .int)) (by decide) rfl ?_
  intro p e s m args below meth c s₁ B hml hv
  obtain ⟨rfl, hsz, hP, hK, hD0, hN, hC⟩ := hv
  have hx := B.exec
  have hb := B.bytes
  have hr := B.returns
  have hts := atoms_spec (ws := w_Mo_clear) B.pre
  have hg : ∀ w ∈ gW, w.before _ s = true := fun w h => hts w (List.mem_cons_of_mem _ h)
  have hown : s.vm.findClass R_Mo = some m.cls := findClass_of_methodNamed B.named
  have hlocks := B.notSynchronized
  subst hsz
  have hD := hD0.self (sz := s.heap.size)
  generalize hAe : va_A ([oMo h0 r z y]) s.heap.size = A at hD hC ⊢
  have hA : ∀ q : Nat, s.heap.size ≤ q → A q := fun q h => by rw [← hAe]; exact Or.inr h
  have hS : va_S A s.heap s.heap [] := va_S.rf
  have hP : va_P D vC [(h0, .inr (13, [.int (z 0), .ref (r 1), .int (z 2), .int (z 3), .ref (r 4), .ref (r 5), .ref (r 6), .ref (r 7), .int (z 8), .ref (r 9), .int (z 10), .int (z 11), .int (z 12), .int (z 13), .ref (r 14), .ref (r 15), .ref (r 16), .ref (r 17), .ref (r 18), .ref (r 19), .ref (r 20), .ref (r 21), .int (z 22), .int (z 23), .int (z 24), .int (z 25), .int (z 26), .int (z 27), .ref (r 28), .ref (r 29), .int (z 30), .int (z 31), .int (z 32), .ref (r 33), .ref (r 34)]))] s.heap := hP
  have hD : va_D A [(h0, .inr (13, [.int (z 0), .ref (r 1), .int (z 2), .int (z 3), .ref (r 4), .ref (r 5), .ref (r 6), .ref (r 7), .int (z 8), .ref (r 9), .int (z 10), .int (z 11), .int (z 12), .int (z 13), .ref (r 14), .ref (r 15), .ref (r 16), .ref (r 17), .ref (r 18), .ref (r 19), .ref (r 20), .ref (r 21), .int (z 22), .int (z 23), .int (z 24), .int (z 25), .int (z 26), .int (z 27), .ref (r 28), .ref (r 29), .int (z 30), .int (z 31), .int (z 32), .ref (r 33), .ref (r 34)]))] := hD
  have hl := lv_entry ([.ref h0, .int n]) (n := 4) (Nat.le_of_ble_eq_true rfl)
  rw [lg_entry_eq]
  generalize (lg_sl ([.ref h0, .int n]) ++ List.replicate (4 - (lg_sl ([.ref h0, .int n])).length) Slot.unset).toArray = ls at hl ⊢
  have hl : lv_has ls 4 [(0, .ref h0), (1, .int n)] := hl
  refine lv_aload_n hx hb d_Mo_clear_0 rfl (lv_at hl 0 rfl) ?_
  refine lv_iload_n hx hb d_Mo_clear_1 rfl (lv_at hl 1 rfl) ?_
  refine xc_pi (va_runS (As := [.int n]) (rest := [.ref h0]) ⟨hx, hb, hml, hown, hg⟩ (p_Mo_isSubject l D kA kS s.heap.size n) (cwS 1 hg (xg_S mw_2103 mw_2104 mw_13 mw_2105) rfl rfl rfl (by decide +kernel) ⟨Nat.le_of_ble_eq_true rfl, Nat.le_of_ble_eq_true rfl⟩) (xc_pre hK hN hC hP hD hS hA [] (by decide) rfl) rfl rfl hl.1 rfl (lv_room (Nat.le_of_ble_eq_true rfl)) d_Mo_clear_2 ⟨Nat.le_of_ble_eq_true rfl, Nat.le_of_ble_eq_true rfl⟩) (fun r_2 hw2 => ?_)
  refine lv_if_ne (tgt := 12) hx hb d_Mo_clear_5 (by decide) (fun c_5 => ?_) (fun c_5 => absurd (hw2.symm.trans c_5) (by rw [mo_in_1 h1 h2]; decide))
  refine lv_iconst (v := 0) hx hb d_Mo_clear_12 (by decide) ?_
  refine lv_iconst (v := 0) hx hb d_Mo_clear_13 (by decide) ?_
  refine xc_i (wr := []) (va_runV (As := [.int 0, .int 0]) (rest := []) ⟨hx, hb, hml, hown, hg⟩ (c_Mo_refused l D kA kS s.heap.size h0 r z y 0 0) (cwV 2 hg (xg_V mw_1830 mw_1832 ms_96 mw_13 mw_1833) rfl rfl rfl (by decide +kernel) ⟨Nat.le_of_ble_eq_true rfl, Nat.le_of_ble_eq_true rfl⟩) (xc_preV hK hN hC hP hD hS hA [0] (by decide) rfl 0 rfl rfl) rfl rfl hl.1 rfl (lv_room (Nat.le_of_ble_eq_true rfl)) d_Mo_clear_14 ⟨Nat.le_of_ble_eq_true rfl, Nat.le_of_ble_eq_true rfl⟩) hP hD hS hA [0] [] rfl rfl (by decide) (by decide) (fun r_14 u9 H locs hw14 hP hD hS => ?_)
  have hP : va_P D vC [(h0, .inr (13, [.int (mo_th 0 0), .ref (r 1), .int (z 2), .int (z 3), .ref (r 4), .ref (r 5), .ref (r 6), .ref (r 7), .int (z 8), .ref (r 9), .int (z 10), .int (z 11), .int (z 12), .int (z 13), .ref (r 14), .ref (r 15), .ref (r 16), .ref (r 17), .ref (r 18), .ref (r 19), .ref (r 20), .ref (r 21), .int (z 22), .int (z 23), .int (z 24), .int (z 25), .int (z 26), .int (z 27), .ref (r 28), .ref (r 29), .int (z 30), .int (z 31), .int (z 32), .ref (r 33), .ref (r 34)]))] H := hP
  have hD : va_D A [(h0, .inr (13, [.int (mo_th 0 0), .ref (r 1), .int (z 2), .int (z 3), .ref (r 4), .ref (r 5), .ref (r 6), .ref (r 7), .int (z 8), .ref (r 9), .int (z 10), .int (z 11), .int (z 12), .int (z 13), .ref (r 14), .ref (r 15), .ref (r 16), .ref (r 17), .ref (r 18), .ref (r 19), .ref (r 20), .ref (r 21), .int (z 22), .int (z 23), .int (z 24), .int (z 25), .int (z 26), .int (z 27), .ref (r 28), .ref (r 29), .int (z 30), .int (z 31), .int (z 32), .ref (r 33), .ref (r 34)]))] := hD
  rw [show mo_th 0 0 = (0 : Int32) from by decide +kernel] at hP hD
  refine lv_if_eq (tgt := 22) hx hb d_Mo_clear_17 (by decide) (fun c_17 => ?_) (fun c_17 => absurd (hw14.trans (by decide)) c_17)
  refine lv_aload_n hx hb d_Mo_clear_22 rfl (lv_at hl 0 rfl) ?_
  refine va_get (D := D) (ci := 13) (v := .int (z 11)) (C := R_Mo) (T := F_Mo) (N := 35) hx hb hg i_Mo hown hK hP 0 rfl rfl 11 (by decide) (hg _ mw_1727) (fun _ h9 => h9) rfl d_Mo_clear_23 ?_
  refine lv_if_eq (tgt := 32) hx hb d_Mo_clear_26 (by decide) (fun c_26 => ?_) (fun c_26 => absurd hz11 c_26)
  refine lv_aload_n hx hb d_Mo_clear_32 rfl (lv_at hl 0 rfl) ?_
  refine lv_iload_n hx hb d_Mo_clear_33 rfl (lv_at hl 1 rfl) ?_
  refine xc_pi (va_runV (As := [.int n]) (rest := []) ⟨hx, hb, hml, hown, hg⟩ (p_Mo_rows0 l D kA kS H.size h0 r (upd z 0 0) y n hz13) (cwV 1 hg (xg_V mw_2254 mw_2256 ms_158 mw_13 mw_2257) rfl rfl rfl (by decide +kernel) ⟨Nat.le_of_ble_eq_true rfl, Nat.le_of_ble_eq_true rfl⟩) (xc_preV hK hN hC hP hD hS hA [0] (by decide) rfl 0 rfl rfl) rfl rfl hl.1 rfl (lv_room (Nat.le_of_ble_eq_true rfl)) d_Mo_clear_34 ⟨Nat.le_of_ble_eq_true rfl, Nat.le_of_ble_eq_true rfl⟩) (fun r_34 hw34 => ?_)
  refine lv_istore_n (lv' := [(2, .int r_34), (0, .ref h0), (1, .int n)]) hx hb d_Mo_clear_37 rfl hl (by decide) rfl (fun ls hl => ?_)
  refine lv_iload_n hx hb d_Mo_clear_38 rfl (lv_at hl 0 rfl) ?_
  refine lv_if_ne (tgt := 44) hx hb d_Mo_clear_39 (by decide) (fun c_39 => absurd hw34 c_39) (fun c_39 => ?_)
  refine lv_iconst (v := 0) hx hb d_Mo_clear_42 (by decide) ?_
  exact W.iret (v := 0) hx hb hr (fun t ht hW => ⟨⟨0, (), rfl, rfl, by rw [ht]; exact hP, va_K.moved hW.alike hK, hD⟩, hS.F ht⟩) hS.2.2 d_Mo_clear_43

set_option maxHeartbeats 4000000 in
set_option maxRecDepth 100000 in
/-- compact: no such subject -/
theorem c_Mo_compact_no (l : Launch) (D : va_G) (kA : Nat → ClassId) (kS : Nat → Nat) (sz : Nat) (h0 : Nat) (r : Nat → Nat) (z : Nat → Int32) (y : Nat → Int64) (n : Int32) (h1 : n < 0 ∨ 3 < n) : Met l y_Mo_compact w_Mo_compact { frames := 2, cells := 0, slots := 0, locals := 42 } (xPre D vC (tK kA) kS [.ref h0, .int n] ([oMo h0 r z y]) sz) (va_Qi (fun (x : Int32) (_ : Unit) => x = 0) (xB D vC (tK kA) (fun _ => [oMo h0 r (upd z 0 1) y]) (va_A ([oMo h0 r z y]) sz)) (va_A ([oMo h0 r z y]) sz)) 0 0 (va_A ([oMo h0 r z y]) sz) := by
  refine Met.ofW (cc := b_Mo_compact) (maxL := 6) (ret := (some .int)) (by decide) rfl ?_
  intro p e s m args below meth c s₁ B hml hv
  obtain ⟨rfl, hsz, hP, hK, hD0, hN, hC⟩ := hv
  have hx := B.exec
  have hb := B.bytes
  have hr := B.returns
  have hts := atoms_spec (ws := w_Mo_compact) B.pre
  have hg : ∀ w ∈ gW, w.before _ s = true := fun w h => hts w (List.mem_cons_of_mem _ h)
  have hown : s.vm.findClass R_Mo = some m.cls := findClass_of_methodNamed B.named
  have hlocks := B.notSynchronized
  subst hsz
  have hD := hD0.self (sz := s.heap.size)
  generalize hAe : va_A ([oMo h0 r z y]) s.heap.size = A at hD hC ⊢
  have hA : ∀ q : Nat, s.heap.size ≤ q → A q := fun q h => by rw [← hAe]; exact Or.inr h
  have hS : va_S A s.heap s.heap [] := va_S.rf
  have hP : va_P D vC [(h0, .inr (13, [.int (z 0), .ref (r 1), .int (z 2), .int (z 3), .ref (r 4), .ref (r 5), .ref (r 6), .ref (r 7), .int (z 8), .ref (r 9), .int (z 10), .int (z 11), .int (z 12), .int (z 13), .ref (r 14), .ref (r 15), .ref (r 16), .ref (r 17), .ref (r 18), .ref (r 19), .ref (r 20), .ref (r 21), .int (z 22), .int (z 23), .int (z 24), .int (z 25), .int (z 26), .int (z 27), .ref (r 28), .ref (r 29), .int (z 30), .int (z 31), .int (z 32), .ref (r 33), .ref (r 34)]))] s.heap := hP
  have hD : va_D A [(h0, .inr (13, [.int (z 0), .ref (r 1), .int (z 2), .int (z 3), .ref (r 4), .ref (r 5), .ref (r 6), .ref (r 7), .int (z 8), .ref (r 9), .int (z 10), .int (z 11), .int (z 12), .int (z 13), .ref (r 14), .ref (r 15), .ref (r 16), .ref (r 17), .ref (r 18), .ref (r 19), .ref (r 20), .ref (r 21), .int (z 22), .int (z 23), .int (z 24), .int (z 25), .int (z 26), .int (z 27), .ref (r 28), .ref (r 29), .int (z 30), .int (z 31), .int (z 32), .ref (r 33), .ref (r 34)]))] := hD
  have hl := lv_entry ([.ref h0, .int n]) (n := 6) (Nat.le_of_ble_eq_true rfl)
  rw [lg_entry_eq]
  generalize (lg_sl ([.ref h0, .int n]) ++ List.replicate (6 - (lg_sl ([.ref h0, .int n])).length) Slot.unset).toArray = ls at hl ⊢
  have hl : lv_has ls 6 [(0, .ref h0), (1, .int n)] := hl
  refine lv_aload_n hx hb d_Mo_compact_0 rfl (lv_at hl 0 rfl) ?_
  refine lv_iload_n hx hb d_Mo_compact_1 rfl (lv_at hl 1 rfl) ?_
  refine xc_pi (va_runS (As := [.int n]) (rest := [.ref h0]) ⟨hx, hb, hml, hown, hg⟩ (p_Mo_isSubject l D kA kS s.heap.size n) (cwS 1 hg (xg_S mw_2103 mw_2104 mw_13 mw_2105) rfl rfl rfl (by decide +kernel) ⟨Nat.le_of_ble_eq_true rfl, Nat.le_of_ble_eq_true rfl⟩) (xc_pre hK hN hC hP hD hS hA [] (by decide) rfl) rfl rfl hl.1 rfl (lv_room (Nat.le_of_ble_eq_true rfl)) d_Mo_compact_2 ⟨Nat.le_of_ble_eq_true rfl, Nat.le_of_ble_eq_true rfl⟩) (fun r_2 hw2 => ?_)
  refine lv_if_ne (tgt := 12) hx hb d_Mo_compact_5 (by decide) (fun c_5 => absurd (hw2.trans (mo_in_0 h1)) c_5) (fun c_5 => ?_)
  refine lv_iconst (v := 1) hx hb d_Mo_compact_8 (by decide) ?_
  refine lv_goto (tgt := 13) hx hb d_Mo_compact_9 (by decide) ?_
  refine lv_iconst (v := 0) hx hb d_Mo_compact_13 (by decide) ?_
  refine xc_i (wr := []) (va_runV (As := [.int 1, .int 0]) (rest := []) ⟨hx, hb, hml, hown, hg⟩ (c_Mo_refused l D kA kS s.heap.size h0 r z y 1 0) (cwV 2 hg (xg_V mw_1830 mw_1832 ms_96 mw_13 mw_1833) rfl rfl rfl (by decide +kernel) ⟨Nat.le_of_ble_eq_true rfl, Nat.le_of_ble_eq_true rfl⟩) (xc_preV hK hN hC hP hD hS hA [0] (by decide) rfl 0 rfl rfl) rfl rfl hl.1 rfl (lv_room (Nat.le_of_ble_eq_true rfl)) d_Mo_compact_14 ⟨Nat.le_of_ble_eq_true rfl, Nat.le_of_ble_eq_true rfl⟩) hP hD hS hA [0] [] rfl rfl (by decide) (by decide) (fun r_14 u9 H locs hw14 hP hD hS => ?_)
  have hP : va_P D vC [(h0, .inr (13, [.int (mo_th 1 0), .ref (r 1), .int (z 2), .int (z 3), .ref (r 4), .ref (r 5), .ref (r 6), .ref (r 7), .int (z 8), .ref (r 9), .int (z 10), .int (z 11), .int (z 12), .int (z 13), .ref (r 14), .ref (r 15), .ref (r 16), .ref (r 17), .ref (r 18), .ref (r 19), .ref (r 20), .ref (r 21), .int (z 22), .int (z 23), .int (z 24), .int (z 25), .int (z 26), .int (z 27), .ref (r 28), .ref (r 29), .int (z 30), .int (z 31), .int (z 32), .ref (r 33), .ref (r 34)]))] H := hP
  have hD : va_D A [(h0, .inr (13, [.int (mo_th 1 0), .ref (r 1), .int (z 2), .int (z 3), .ref (r 4), .ref (r 5), .ref (r 6), .ref (r 7), .int (z 8), .ref (r 9), .int (z 10), .int (z 11), .int (z 12), .int (z 13), .ref (r 14), .ref (r 15), .ref (r 16), .ref (r 17), .ref (r 18), .ref (r 19), .ref (r 20), .ref (r 21), .int (z 22), .int (z 23), .int (z 24), .int (z 25), .int (z 26), .int (z 27), .ref (r 28), .ref (r 29), .int (z 30), .int (z 31), .int (z 32), .ref (r 33), .ref (r 34)]))] := hD
  rw [show mo_th 1 0 = (1 : Int32) from by decide +kernel] at hP hD
  refine lv_if_eq (tgt := 22) hx hb d_Mo_compact_17 (by decide) (fun c_17 => absurd (hw14.symm.trans c_17) (by decide)) (fun c_17 => ?_)
  refine lv_iconst (v := 0) hx hb d_Mo_compact_20 (by decide) ?_
  exact W.iret (v := 0) hx hb hr (fun t ht hW => ⟨⟨0, (), rfl, rfl, by rw [ht]; exact hP, va_K.moved hW.alike hK, hD⟩, hS.F ht⟩) hS.2.2 d_Mo_compact_21

set_option maxHeartbeats 4000000 in
set_option maxRecDepth 100000 in
/-- compact on an empty lake -/
theorem c_Mo_compact0 (l : Launch) (D : va_G) (kA : Nat → ClassId) (kS : Nat → Nat) (sz : Nat) (h0 : Nat) (r : Nat → Nat) (z : Nat → Int32) (y : Nat → Int64) (n : Int32) (h1 : ¬ n < 0) (h2 : ¬ 3 < n) (hz11 : z 11 = 0) (hz13 : z 13 = 0) : Met l y_Mo_compact w_Mo_compact { frames := 2, cells := 0, slots := 0, locals := 42 } (xPre D vC (tK kA) kS [.ref h0, .int n] ([oMo h0 r z y]) sz) (va_Qi (fun (x : Int32) (_ : Unit) => x = 0) (xB D vC (tK kA) (fun _ => [oMo h0 r (upd z 0 0) y]) (va_A ([oMo h0 r z y]) sz)) (va_A ([oMo h0 r z y]) sz)) 0 0 (va_A ([oMo h0 r z y]) sz) := by
  refine Met.ofW (cc := b_Mo_compact) (maxL := 6) (ret := (some .int)) (by decide) rfl ?_
  intro p e s m args below meth c s₁ B hml hv
  obtain ⟨rfl, hsz, hP, hK, hD0, hN, hC⟩ := hv
  have hx := B.exec
  have hb := B.bytes
  have hr := B.returns
  have hts := atoms_spec (ws := w_Mo_compact) B.pre
  have hg : ∀ w ∈ gW, w.before _ s = true := fun w h => hts w (List.mem_cons_of_mem _ h)
  have hown : s.vm.findClass R_Mo = some m.cls := findClass_of_methodNamed B.named
  have hlocks := B.notSynchronized
  subst hsz
  have hD := hD0.self (sz := s.heap.size)
  generalize hAe : va_A ([oMo h0 r z y]) s.heap.size = A at hD hC ⊢
  have hA : ∀ q : Nat, s.heap.size ≤ q → A q := fun q h => by rw [← hAe]; exact Or.inr h
  have hS : va_S A s.heap s.heap [] := va_S.rf
  have hP : va_P D vC [(h0, .inr (13, [.int (z 0), .ref (r 1), .int (z 2), .int (z 3), .ref (r 4), .ref (r 5), .ref (r 6), .ref (r 7), .int (z 8), .ref (r 9), .int (z 10), .int (z 11), .int (z 12), .int (z 13), .ref (r 14), .ref (r 15), .ref (r 16), .ref (r 17), .ref (r 18), .ref (r 19), .ref (r 20), .ref (r 21), .int (z 22), .int (z 23), .int (z 24), .int (z 25), .int (z 26), .int (z 27), .ref (r 28), .ref (r 29), .int (z 30), .int (z 31), .int (z 32), .ref (r 33), .ref (r 34)]))] s.heap := hP
  have hD : va_D A [(h0, .inr (13, [.int (z 0), .ref (r 1), .int (z 2), .int (z 3), .ref (r 4), .ref (r 5), .ref (r 6), .ref (r 7), .int (z 8), .ref (r 9), .int (z 10), .int (z 11), .int (z 12), .int (z 13), .ref (r 14), .ref (r 15), .ref (r 16), .ref (r 17), .ref (r 18), .ref (r 19), .ref (r 20), .ref (r 21), .int (z 22), .int (z 23), .int (z 24), .int (z 25), .int (z 26), .int (z 27), .ref (r 28), .ref (r 29), .int (z 30), .int (z 31), .int (z 32), .ref (r 33), .ref (r 34)]))] := hD
  have hl := lv_entry ([.ref h0, .int n]) (n := 6) (Nat.le_of_ble_eq_true rfl)
  rw [lg_entry_eq]
  generalize (lg_sl ([.ref h0, .int n]) ++ List.replicate (6 - (lg_sl ([.ref h0, .int n])).length) Slot.unset).toArray = ls at hl ⊢
  have hl : lv_has ls 6 [(0, .ref h0), (1, .int n)] := hl
  refine lv_aload_n hx hb d_Mo_compact_0 rfl (lv_at hl 0 rfl) ?_
  refine lv_iload_n hx hb d_Mo_compact_1 rfl (lv_at hl 1 rfl) ?_
  refine xc_pi (va_runS (As := [.int n]) (rest := [.ref h0]) ⟨hx, hb, hml, hown, hg⟩ (p_Mo_isSubject l D kA kS s.heap.size n) (cwS 1 hg (xg_S mw_2103 mw_2104 mw_13 mw_2105) rfl rfl rfl (by decide +kernel) ⟨Nat.le_of_ble_eq_true rfl, Nat.le_of_ble_eq_true rfl⟩) (xc_pre hK hN hC hP hD hS hA [] (by decide) rfl) rfl rfl hl.1 rfl (lv_room (Nat.le_of_ble_eq_true rfl)) d_Mo_compact_2 ⟨Nat.le_of_ble_eq_true rfl, Nat.le_of_ble_eq_true rfl⟩) (fun r_2 hw2 => ?_)
  refine lv_if_ne (tgt := 12) hx hb d_Mo_compact_5 (by decide) (fun c_5 => ?_) (fun c_5 => absurd (hw2.symm.trans c_5) (by rw [mo_in_1 h1 h2]; decide))
  refine lv_iconst (v := 0) hx hb d_Mo_compact_12 (by decide) ?_
  refine lv_iconst (v := 0) hx hb d_Mo_compact_13 (by decide) ?_
  refine xc_i (wr := []) (va_runV (As := [.int 0, .int 0]) (rest := []) ⟨hx, hb, hml, hown, hg⟩ (c_Mo_refused l D kA kS s.heap.size h0 r z y 0 0) (cwV 2 hg (xg_V mw_1830 mw_1832 ms_96 mw_13 mw_1833) rfl rfl rfl (by decide +kernel) ⟨Nat.le_of_ble_eq_true rfl, Nat.le_of_ble_eq_true rfl⟩) (xc_preV hK hN hC hP hD hS hA [0] (by decide) rfl 0 rfl rfl) rfl rfl hl.1 rfl (lv_room (Nat.le_of_ble_eq_true rfl)) d_Mo_compact_14 ⟨Nat.le_of_ble_eq_true rfl, Nat.le_of_ble_eq_true rfl⟩) hP hD hS hA [0] [] rfl rfl (by decide) (by decide) (fun r_14 u9 H locs hw14 hP hD hS => ?_)
  have hP : va_P D vC [(h0, .inr (13, [.int (mo_th 0 0), .ref (r 1), .int (z 2), .int (z 3), .ref (r 4), .ref (r 5), .ref (r 6), .ref (r 7), .int (z 8), .ref (r 9), .int (z 10), .int (z 11), .int (z 12), .int (z 13), .ref (r 14), .ref (r 15), .ref (r 16), .ref (r 17), .ref (r 18), .ref (r 19), .ref (r 20), .ref (r 21), .int (z 22), .int (z 23), .int (z 24), .int (z 25), .int (z 26), .int (z 27), .ref (r 28), .ref (r 29), .int (z 30), .int (z 31), .int (z 32), .ref (r 33), .ref (r 34)]))] H := hP
  have hD : va_D A [(h0, .inr (13, [.int (mo_th 0 0), .ref (r 1), .int (z 2), .int (z 3), .ref (r 4), .ref (r 5), .ref (r 6), .ref (r 7), .int (z 8), .ref (r 9), .int (z 10), .int (z 11), .int (z 12), .int (z 13), .ref (r 14), .ref (r 15), .ref (r 16), .ref (r 17), .ref (r 18), .ref (r 19), .ref (r 20), .ref (r 21), .int (z 22), .int (z 23), .int (z 24), .int (z 25), .int (z 26), .int (z 27), .ref (r 28), .ref (r 29), .int (z 30), .int (z 31), .int (z 32), .ref (r 33), .ref (r 34)]))] := hD
  rw [show mo_th 0 0 = (0 : Int32) from by decide +kernel] at hP hD
  refine lv_if_eq (tgt := 22) hx hb d_Mo_compact_17 (by decide) (fun c_17 => ?_) (fun c_17 => absurd (hw14.trans (by decide)) c_17)
  refine lv_aload_n hx hb d_Mo_compact_22 rfl (lv_at hl 0 rfl) ?_
  refine va_get (D := D) (ci := 13) (v := .int (z 11)) (C := R_Mo) (T := F_Mo) (N := 35) hx hb hg i_Mo hown hK hP 0 rfl rfl 11 (by decide) (hg _ mw_1727) (fun _ h9 => h9) rfl d_Mo_compact_23 ?_
  refine lv_if_eq (tgt := 32) hx hb d_Mo_compact_26 (by decide) (fun c_26 => ?_) (fun c_26 => absurd hz11 c_26)
  refine lv_iconst (v := (-1)) hx hb d_Mo_compact_32 (by decide) ?_
  refine lv_istore_n (lv' := [(2, .int (-1)), (0, .ref h0), (1, .int n)]) hx hb d_Mo_compact_33 rfl hl (by decide) rfl (fun ls hl => ?_)
  refine lv_iconst (v := 0) hx hb d_Mo_compact_34 (by decide) ?_
  refine lv_istore_n (lv' := [(3, .int 0), (2, .int (-1)), (0, .ref h0), (1, .int n)]) hx hb d_Mo_compact_35 rfl hl (by decide) rfl (fun ls hl => ?_)
  refine lv_iload_n hx hb d_Mo_compact_36 rfl (lv_at hl 0 rfl) ?_
  refine lv_aload_n hx hb d_Mo_compact_37 rfl (lv_at hl 2 rfl) ?_
  refine va_get (D := D) (ci := 13) (v := .int (z 13)) (C := R_Mo) (T := F_Mo) (N := 35) hx hb hg i_Mo hown hK hP 0 rfl rfl 13 (by decide) (hg _ mw_1729) (fun _ h9 => h9) rfl d_Mo_compact_38 ?_
  refine lv_icmp_ge (tgt := 149) hx hb d_Mo_compact_41 (by decide) (fun c_41 => ?_) (fun c_41 => absurd (by rw [hz13]; decide) c_41)
  refine lv_iconst (v := 0) hx hb d_Mo_compact_149 (by decide) ?_
  exact W.iret (v := 0) hx hb hr (fun t ht hW => ⟨⟨0, (), rfl, rfl, by rw [ht]; exact hP, va_K.moved hW.alike hK, hD⟩, hS.F ht⟩) hS.2.2 d_Mo_compact_150

set_option maxHeartbeats 4000000 in
set_option maxRecDepth 100000 in
/-- count: no such subject -/
theorem c_Mo_count_no (l : Launch) (D : va_G) (kA : Nat → ClassId) (kS : Nat → Nat) (sz : Nat) (h0 : Nat) (r : Nat → Nat) (z : Nat → Int32) (y : Nat → Int64) (n x : Int32) (h1 : n < 0 ∨ 3 < n) : Met l y_Mo_count w_Mo_count { frames := 2, cells := 0, slots := 0, locals := 42 } (xPre D vC (tK kA) kS [.ref h0, .int n, .int x] ([oMo h0 r z y]) sz) (va_Qi (fun (x : Int32) (_ : Unit) => x = 0) (xB D vC (tK kA) (fun _ => [oMo h0 r (upd z 0 1) y]) (va_A ([oMo h0 r z y]) sz)) (va_A ([oMo h0 r z y]) sz)) 0 0 (va_A ([oMo h0 r z y]) sz) := by
  refine Met.ofW (cc := b_Mo_count) (maxL := 5) (ret := (some .int)) (by decide) rfl ?_
  intro p e s m args below meth c s₁ B hml hv
  obtain ⟨rfl, hsz, hP, hK, hD0, hN, hC⟩ := hv
  have hx := B.exec
  have hb := B.bytes
  have hr := B.returns
  have hts := atoms_spec (ws := w_Mo_count) B.pre
  have hg : ∀ w ∈ gW, w.before _ s = true := fun w h => hts w (List.mem_cons_of_mem _ h)
  have hown : s.vm.findClass R_Mo = some m.cls := findClass_of_methodNamed B.named
  have hlocks := B.notSynchronized
  subst hsz
  have hD := hD0.self (sz := s.heap.size)
  generalize hAe : va_A ([oMo h0 r z y]) s.heap.size = A at hD hC ⊢
  have hA : ∀ q : Nat, s.heap.size ≤ q → A q := fun q h => by rw [← hAe]; exact Or.inr h
  have hS : va_S A s.heap s.heap [] := va_S.rf
  have hP : va_P D vC [(h0, .inr (13, [.int (z 0), .ref (r 1), .int (z 2), .int (z 3), .ref (r 4), .ref (r 5), .ref (r 6), .ref (r 7), .int (z 8), .ref (r 9), .int (z 10), .int (z 11), .int (z 12), .int (z 13), .ref (r 14), .ref (r 15), .ref (r 16), .ref (r 17), .ref (r 18), .ref (r 19), .ref (r 20), .ref (r 21), .int (z 22), .int (z 23), .int (z 24), .int (z 25), .int (z 26), .int (z 27), .ref (r 28), .ref (r 29), .int (z 30), .int (z 31), .int (z 32), .ref (r 33), .ref (r 34)]))] s.heap := hP
  have hD : va_D A [(h0, .inr (13, [.int (z 0), .ref (r 1), .int (z 2), .int (z 3), .ref (r 4), .ref (r 5), .ref (r 6), .ref (r 7), .int (z 8), .ref (r 9), .int (z 10), .int (z 11), .int (z 12), .int (z 13), .ref (r 14), .ref (r 15), .ref (r 16), .ref (r 17), .ref (r 18), .ref (r 19), .ref (r 20), .ref (r 21), .int (z 22), .int (z 23), .int (z 24), .int (z 25), .int (z 26), .int (z 27), .ref (r 28), .ref (r 29), .int (z 30), .int (z 31), .int (z 32), .ref (r 33), .ref (r 34)]))] := hD
  have hl := lv_entry ([.ref h0, .int n, .int x]) (n := 5) (Nat.le_of_ble_eq_true rfl)
  rw [lg_entry_eq]
  generalize (lg_sl ([.ref h0, .int n, .int x]) ++ List.replicate (5 - (lg_sl ([.ref h0, .int n, .int x])).length) Slot.unset).toArray = ls at hl ⊢
  have hl : lv_has ls 5 [(0, .ref h0), (1, .int n), (2, .int x)] := hl
  refine lv_aload_n hx hb d_Mo_count_0 rfl (lv_at hl 0 rfl) ?_
  refine lv_iload_n hx hb d_Mo_count_1 rfl (lv_at hl 1 rfl) ?_
  refine xc_pi (va_runS (As := [.int n]) (rest := [.ref h0]) ⟨hx, hb, hml, hown, hg⟩ (p_Mo_isSubject l D kA kS s.heap.size n) (cwS 1 hg (xg_S mw_2103 mw_2104 mw_13 mw_2105) rfl rfl rfl (by decide +kernel) ⟨Nat.le_of_ble_eq_true rfl, Nat.le_of_ble_eq_true rfl⟩) (xc_pre hK hN hC hP hD hS hA [] (by decide) rfl) rfl rfl hl.1 rfl (lv_room (Nat.le_of_ble_eq_true rfl)) d_Mo_count_2 ⟨Nat.le_of_ble_eq_true rfl, Nat.le_of_ble_eq_true rfl⟩) (fun r_2 hw2 => ?_)
  refine lv_if_ne (tgt := 12) hx hb d_Mo_count_5 (by decide) (fun c_5 => absurd (hw2.trans (mo_in_0 h1)) c_5) (fun c_5 => ?_)
  refine lv_iconst (v := 1) hx hb d_Mo_count_8 (by decide) ?_
  refine lv_goto (tgt := 13) hx hb d_Mo_count_9 (by decide) ?_
  refine lv_iload_n hx hb d_Mo_count_13 rfl (lv_at hl 2 rfl) ?_
  refine lv_iconst (v := 0) hx hb d_Mo_count_14 (by decide) ?_
  refine lv_iconst (v := 2) hx hb d_Mo_count_15 (by decide) ?_
  refine xc_pi (va_runS (As := [.int x, .int 0, .int 2]) (rest := [.int 1, .ref h0]) ⟨hx, hb, hml, hown, hg⟩ (p_Mo_within l D kA kS s.heap.size x 0 2) (cwS 3 hg (xg_S mw_1842 mw_1843 mw_13 mw_1844) rfl rfl rfl (by decide +kernel) ⟨Nat.le_of_ble_eq_true rfl, Nat.le_of_ble_eq_true rfl⟩) (xc_pre hK hN hC hP hD hS hA [] (by decide) rfl) rfl rfl hl.1 rfl (lv_room (Nat.le_of_ble_eq_true rfl)) d_Mo_count_16 ⟨Nat.le_of_ble_eq_true rfl, Nat.le_of_ble_eq_true rfl⟩) (fun r_16 hw16 => ?_)
  refine lv_if_ne (tgt := 26) hx hb d_Mo_count_19 (by decide) (fun c_19 => ?_) (fun c_19 => ?_)
  · skip
    refine lv_iconst (v := 0) hx hb d_Mo_count_26 (by decide) ?_
    refine xc_i (wr := []) (va_runV (As := [.int 1, .int 0]) (rest := []) ⟨hx, hb, hml, hown, hg⟩ (c_Mo_refused l D kA kS s.heap.size h0 r z y 1 0) (cwV 2 hg (xg_V mw_1830 mw_1832 ms_96 mw_13 mw_1833) rfl rfl rfl (by decide +kernel) ⟨Nat.le_of_ble_eq_true rfl, Nat.le_of_ble_eq_true rfl⟩) (xc_preV hK hN hC hP hD hS hA [0] (by decide) rfl 0 rfl rfl) rfl rfl hl.1 rfl (lv_room (Nat.le_of_ble_eq_true rfl)) d_Mo_count_27 ⟨Nat.le_of_ble_eq_true rfl, Nat.le_of_ble_eq_true rfl⟩) hP hD hS hA [0] [] rfl rfl (by decide) (by decide) (fun r_27 u9 H locs hw27 hP hD hS => ?_)
    have hP : va_P D vC [(h0, .inr (13, [.int (mo_th 1 0), .ref (r 1), .int (z 2), .int (z 3), .ref (r 4), .ref (r 5), .ref (r 6), .ref (r 7), .int (z 8), .ref (r 9), .int (z 10), .int (z 11), .int (z 12), .int (z 13), .ref (r 14), .ref (r 15), .ref (r 16), .ref (r 17), .ref (r 18), .ref (r 19), .ref (r 20), .ref (r 21), .int (z 22), .int (z 23), .int (z 24), .int (z 25), .int (z 26), .int (z 27), .ref (r 28), .ref (r 29), .int (z 30), .int (z 31), .int (z 32), .ref (r 33), .ref (r 34)]))] H := hP
    have hD : va_D A [(h0, .inr (13, [.int (mo_th 1 0), .ref (r 1), .int (z 2), .int (z 3), .ref (r 4), .ref (r 5), .ref (r 6), .ref (r 7), .int (z 8), .ref (r 9), .int (z 10), .int (z 11), .int (z 12), .int (z 13), .ref (r 14), .ref (r 15), .ref (r 16), .ref (r 17), .ref (r 18), .ref (r 19), .ref (r 20), .ref (r 21), .int (z 22), .int (z 23), .int (z 24), .int (z 25), .int (z 26), .int (z 27), .ref (r 28), .ref (r 29), .int (z 30), .int (z 31), .int (z 32), .ref (r 33), .ref (r 34)]))] := hD
    rw [show mo_th 1 0 = (1 : Int32) from by decide +kernel] at hP hD
    refine lv_if_eq (tgt := 35) hx hb d_Mo_count_30 (by decide) (fun c_30 => absurd (hw27.symm.trans c_30) (by decide)) (fun c_30 => ?_)
    refine lv_iconst (v := 0) hx hb d_Mo_count_33 (by decide) ?_
    exact W.iret (v := 0) hx hb hr (fun t ht hW => ⟨⟨0, (), rfl, rfl, by rw [ht]; exact hP, va_K.moved hW.alike hK, hD⟩, hS.F ht⟩) hS.2.2 d_Mo_count_34
  · skip
    refine lv_iconst (v := 1) hx hb d_Mo_count_22 (by decide) ?_
    refine lv_goto (tgt := 27) hx hb d_Mo_count_23 (by decide) ?_
    refine xc_i (wr := []) (va_runV (As := [.int 1, .int 1]) (rest := []) ⟨hx, hb, hml, hown, hg⟩ (c_Mo_refused l D kA kS s.heap.size h0 r z y 1 1) (cwV 2 hg (xg_V mw_1830 mw_1832 ms_96 mw_13 mw_1833) rfl rfl rfl (by decide +kernel) ⟨Nat.le_of_ble_eq_true rfl, Nat.le_of_ble_eq_true rfl⟩) (xc_preV hK hN hC hP hD hS hA [0] (by decide) rfl 0 rfl rfl) rfl rfl hl.1 rfl (lv_room (Nat.le_of_ble_eq_true rfl)) d_Mo_count_27 ⟨Nat.le_of_ble_eq_true rfl, Nat.le_of_ble_eq_true rfl⟩) hP hD hS hA [0] [] rfl rfl (by decide) (by decide) (fun r_27 u9 H locs hw27 hP hD hS => ?_)
    have hP : va_P D vC [(h0, .inr (13, [.int (mo_th 1 1), .ref (r 1), .int (z 2), .int (z 3), .ref (r 4), .ref (r 5), .ref (r 6), .ref (r 7), .int (z 8), .ref (r 9), .int (z 10), .int (z 11), .int (z 12), .int (z 13), .ref (r 14), .ref (r 15), .ref (r 16), .ref (r 17), .ref (r 18), .ref (r 19), .ref (r 20), .ref (r 21), .int (z 22), .int (z 23), .int (z 24), .int (z 25), .int (z 26), .int (z 27), .ref (r 28), .ref (r 29), .int (z 30), .int (z 31), .int (z 32), .ref (r 33), .ref (r 34)]))] H := hP
    have hD : va_D A [(h0, .inr (13, [.int (mo_th 1 1), .ref (r 1), .int (z 2), .int (z 3), .ref (r 4), .ref (r 5), .ref (r 6), .ref (r 7), .int (z 8), .ref (r 9), .int (z 10), .int (z 11), .int (z 12), .int (z 13), .ref (r 14), .ref (r 15), .ref (r 16), .ref (r 17), .ref (r 18), .ref (r 19), .ref (r 20), .ref (r 21), .int (z 22), .int (z 23), .int (z 24), .int (z 25), .int (z 26), .int (z 27), .ref (r 28), .ref (r 29), .int (z 30), .int (z 31), .int (z 32), .ref (r 33), .ref (r 34)]))] := hD
    rw [show mo_th 1 1 = (1 : Int32) from by decide +kernel] at hP hD
    refine lv_if_eq (tgt := 35) hx hb d_Mo_count_30 (by decide) (fun c_30 => absurd (hw27.symm.trans c_30) (by decide)) (fun c_30 => ?_)
    refine lv_iconst (v := 0) hx hb d_Mo_count_33 (by decide) ?_
    exact W.iret (v := 0) hx hb hr (fun t ht hW => ⟨⟨0, (), rfl, rfl, by rw [ht]; exact hP, va_K.moved hW.alike hK, hD⟩, hS.F ht⟩) hS.2.2 d_Mo_count_34

set_option maxHeartbeats 4000000 in
set_option maxRecDepth 100000 in
/-- count: no such thing -/
theorem c_Mo_count_no2 (l : Launch) (D : va_G) (kA : Nat → ClassId) (kS : Nat → Nat) (sz : Nat) (h0 : Nat) (r : Nat → Nat) (z : Nat → Int32) (y : Nat → Int64) (n x : Int32) (h1 : ¬ n < 0) (h2 : ¬ 3 < n) (h3 : x < 0 ∨ 2 < x) : Met l y_Mo_count w_Mo_count { frames := 2, cells := 0, slots := 0, locals := 42 } (xPre D vC (tK kA) kS [.ref h0, .int n, .int x] ([oMo h0 r z y]) sz) (va_Qi (fun (x : Int32) (_ : Unit) => x = 0) (xB D vC (tK kA) (fun _ => [oMo h0 r (upd z 0 2) y]) (va_A ([oMo h0 r z y]) sz)) (va_A ([oMo h0 r z y]) sz)) 0 0 (va_A ([oMo h0 r z y]) sz) := by
  refine Met.ofW (cc := b_Mo_count) (maxL := 5) (ret := (some .int)) (by decide) rfl ?_
  intro p e s m args below meth c s₁ B hml hv
  obtain ⟨rfl, hsz, hP, hK, hD0, hN, hC⟩ := hv
  have hx := B.exec
  have hb := B.bytes
  have hr := B.returns
  have hts := atoms_spec (ws := w_Mo_count) B.pre
  have hg : ∀ w ∈ gW, w.before _ s = true := fun w h => hts w (List.mem_cons_of_mem _ h)
  have hown : s.vm.findClass R_Mo = some m.cls := findClass_of_methodNamed B.named
  have hlocks := B.notSynchronized
  subst hsz
  have hD := hD0.self (sz := s.heap.size)
  generalize hAe : va_A ([oMo h0 r z y]) s.heap.size = A at hD hC ⊢
  have hA : ∀ q : Nat, s.heap.size ≤ q → A q := fun q h => by rw [← hAe]; exact Or.inr h
  have hS : va_S A s.heap s.heap [] := va_S.rf
  have hP : va_P D vC [(h0, .inr (13, [.int (z 0), .ref (r 1), .int (z 2), .int (z 3), .ref (r 4), .ref (r 5), .ref (r 6), .ref (r 7), .int (z 8), .ref (r 9), .int (z 10), .int (z 11), .int (z 12), .int (z 13), .ref (r 14), .ref (r 15), .ref (r 16), .ref (r 17), .ref (r 18), .ref (r 19), .ref (r 20), .ref (r 21), .int (z 22), .int (z 23), .int (z 24), .int (z 25), .int (z 26), .int (z 27), .ref (r 28), .ref (r 29), .int (z 30), .int (z 31), .int (z 32), .ref (r 33), .ref (r 34)]))] s.heap := hP
  have hD : va_D A [(h0, .inr (13, [.int (z 0), .ref (r 1), .int (z 2), .int (z 3), .ref (r 4), .ref (r 5), .ref (r 6), .ref (r 7), .int (z 8), .ref (r 9), .int (z 10), .int (z 11), .int (z 12), .int (z 13), .ref (r 14), .ref (r 15), .ref (r 16), .ref (r 17), .ref (r 18), .ref (r 19), .ref (r 20), .ref (r 21), .int (z 22), .int (z 23), .int (z 24), .int (z 25), .int (z 26), .int (z 27), .ref (r 28), .ref (r 29), .int (z 30), .int (z 31), .int (z 32), .ref (r 33), .ref (r 34)]))] := hD
  have hl := lv_entry ([.ref h0, .int n, .int x]) (n := 5) (Nat.le_of_ble_eq_true rfl)
  rw [lg_entry_eq]
  generalize (lg_sl ([.ref h0, .int n, .int x]) ++ List.replicate (5 - (lg_sl ([.ref h0, .int n, .int x])).length) Slot.unset).toArray = ls at hl ⊢
  have hl : lv_has ls 5 [(0, .ref h0), (1, .int n), (2, .int x)] := hl
  refine lv_aload_n hx hb d_Mo_count_0 rfl (lv_at hl 0 rfl) ?_
  refine lv_iload_n hx hb d_Mo_count_1 rfl (lv_at hl 1 rfl) ?_
  refine xc_pi (va_runS (As := [.int n]) (rest := [.ref h0]) ⟨hx, hb, hml, hown, hg⟩ (p_Mo_isSubject l D kA kS s.heap.size n) (cwS 1 hg (xg_S mw_2103 mw_2104 mw_13 mw_2105) rfl rfl rfl (by decide +kernel) ⟨Nat.le_of_ble_eq_true rfl, Nat.le_of_ble_eq_true rfl⟩) (xc_pre hK hN hC hP hD hS hA [] (by decide) rfl) rfl rfl hl.1 rfl (lv_room (Nat.le_of_ble_eq_true rfl)) d_Mo_count_2 ⟨Nat.le_of_ble_eq_true rfl, Nat.le_of_ble_eq_true rfl⟩) (fun r_2 hw2 => ?_)
  refine lv_if_ne (tgt := 12) hx hb d_Mo_count_5 (by decide) (fun c_5 => ?_) (fun c_5 => absurd (hw2.symm.trans c_5) (by rw [mo_in_1 h1 h2]; decide))
  refine lv_iconst (v := 0) hx hb d_Mo_count_12 (by decide) ?_
  refine lv_iload_n hx hb d_Mo_count_13 rfl (lv_at hl 2 rfl) ?_
  refine lv_iconst (v := 0) hx hb d_Mo_count_14 (by decide) ?_
  refine lv_iconst (v := 2) hx hb d_Mo_count_15 (by decide) ?_
  refine xc_pi (va_runS (As := [.int x, .int 0, .int 2]) (rest := [.int 0, .ref h0]) ⟨hx, hb, hml, hown, hg⟩ (p_Mo_within l D kA kS s.heap.size x 0 2) (cwS 3 hg (xg_S mw_1842 mw_1843 mw_13 mw_1844) rfl rfl rfl (by decide +kernel) ⟨Nat.le_of_ble_eq_true rfl, Nat.le_of_ble_eq_true rfl⟩) (xc_pre hK hN hC hP hD hS hA [] (by decide) rfl) rfl rfl hl.1 rfl (lv_room (Nat.le_of_ble_eq_true rfl)) d_Mo_count_16 ⟨Nat.le_of_ble_eq_true rfl, Nat.le_of_ble_eq_true rfl⟩) (fun r_16 hw16 => ?_)
  refine lv_if_ne (tgt := 26) hx hb d_Mo_count_19 (by decide) (fun c_19 => absurd (hw16.trans (mo_in_0 h3)) c_19) (fun c_19 => ?_)
  refine lv_iconst (v := 1) hx hb d_Mo_count_22 (by decide) ?_
  refine lv_goto (tgt := 27) hx hb d_Mo_count_23 (by decide) ?_
  refine xc_i (wr := []) (va_runV (As := [.int 0, .int 1]) (rest := []) ⟨hx, hb, hml, hown, hg⟩ (c_Mo_refused l D kA kS s.heap.size h0 r z y 0 1) (cwV 2 hg (xg_V mw_1830 mw_1832 ms_96 mw_13 mw_1833) rfl rfl rfl (by decide +kernel) ⟨Nat.le_of_ble_eq_true rfl, Nat.le_of_ble_eq_true rfl⟩) (xc_preV hK hN hC hP hD hS hA [0] (by decide) rfl 0 rfl rfl) rfl rfl hl.1 rfl (lv_room (Nat.le_of_ble_eq_true rfl)) d_Mo_count_27 ⟨Nat.le_of_ble_eq_true rfl, Nat.le_of_ble_eq_true rfl⟩) hP hD hS hA [0] [] rfl rfl (by decide) (by decide) (fun r_27 u9 H locs hw27 hP hD hS => ?_)
  have hP : va_P D vC [(h0, .inr (13, [.int (mo_th 0 1), .ref (r 1), .int (z 2), .int (z 3), .ref (r 4), .ref (r 5), .ref (r 6), .ref (r 7), .int (z 8), .ref (r 9), .int (z 10), .int (z 11), .int (z 12), .int (z 13), .ref (r 14), .ref (r 15), .ref (r 16), .ref (r 17), .ref (r 18), .ref (r 19), .ref (r 20), .ref (r 21), .int (z 22), .int (z 23), .int (z 24), .int (z 25), .int (z 26), .int (z 27), .ref (r 28), .ref (r 29), .int (z 30), .int (z 31), .int (z 32), .ref (r 33), .ref (r 34)]))] H := hP
  have hD : va_D A [(h0, .inr (13, [.int (mo_th 0 1), .ref (r 1), .int (z 2), .int (z 3), .ref (r 4), .ref (r 5), .ref (r 6), .ref (r 7), .int (z 8), .ref (r 9), .int (z 10), .int (z 11), .int (z 12), .int (z 13), .ref (r 14), .ref (r 15), .ref (r 16), .ref (r 17), .ref (r 18), .ref (r 19), .ref (r 20), .ref (r 21), .int (z 22), .int (z 23), .int (z 24), .int (z 25), .int (z 26), .int (z 27), .ref (r 28), .ref (r 29), .int (z 30), .int (z 31), .int (z 32), .ref (r 33), .ref (r 34)]))] := hD
  rw [show mo_th 0 1 = (2 : Int32) from by decide +kernel] at hP hD
  refine lv_if_eq (tgt := 35) hx hb d_Mo_count_30 (by decide) (fun c_30 => absurd (hw27.symm.trans c_30) (by decide)) (fun c_30 => ?_)
  refine lv_iconst (v := 0) hx hb d_Mo_count_33 (by decide) ?_
  exact W.iret (v := 0) hx hb hr (fun t ht hW => ⟨⟨0, (), rfl, rfl, by rw [ht]; exact hP, va_K.moved hW.alike hK, hD⟩, hS.F ht⟩) hS.2.2 d_Mo_count_34

set_option maxHeartbeats 4000000 in
set_option maxRecDepth 100000 in
/-- count on an empty lake -/
theorem c_Mo_count0 (l : Launch) (D : va_G) (kA : Nat → ClassId) (kS : Nat → Nat) (sz : Nat) (h0 : Nat) (r : Nat → Nat) (z : Nat → Int32) (y : Nat → Int64) (n x : Int32) (h1 : ¬ n < 0) (h2 : ¬ 3 < n) (h3 : ¬ x < 0) (h4 : ¬ 2 < x) (hz11 : z 11 = 0) (hz13 : z 13 = 0) : Met l y_Mo_count w_Mo_count { frames := 2, cells := 0, slots := 0, locals := 42 } (xPre D vC (tK kA) kS [.ref h0, .int n, .int x] ([oMo h0 r z y]) sz) (va_Qi (fun (x : Int32) (_ : Unit) => x = 0) (xB D vC (tK kA) (fun _ => [oMo h0 r (upd z 0 0) y]) (va_A ([oMo h0 r z y]) sz)) (va_A ([oMo h0 r z y]) sz)) 0 0 (va_A ([oMo h0 r z y]) sz) := by
  refine Met.ofW (cc := b_Mo_count) (maxL := 5) (ret := (some .int)) (by decide) rfl ?_
  intro p e s m args below meth c s₁ B hml hv
  obtain ⟨rfl, hsz, hP, hK, hD0, hN, hC⟩ := hv
  have hx := B.exec
  have hb := B.bytes
  have hr := B.returns
  have hts := atoms_spec (ws := w_Mo_count) B.pre
  have hg : ∀ w ∈ gW, w.before _ s = true := fun w h => hts w (List.mem_cons_of_mem _ h)
  have hown : s.vm.findClass R_Mo = some m.cls := findClass_of_methodNamed B.named
  have hlocks := B.notSynchronized
  subst hsz
  have hD := hD0.self (sz := s.heap.size)
  generalize hAe : va_A ([oMo h0 r z y]) s.heap.size = A at hD hC ⊢
  have hA : ∀ q : Nat, s.heap.size ≤ q → A q := fun q h => by rw [← hAe]; exact Or.inr h
  have hS : va_S A s.heap s.heap [] := va_S.rf
  have hP : va_P D vC [(h0, .inr (13, [.int (z 0), .ref (r 1), .int (z 2), .int (z 3), .ref (r 4), .ref (r 5), .ref (r 6), .ref (r 7), .int (z 8), .ref (r 9), .int (z 10), .int (z 11), .int (z 12), .int (z 13), .ref (r 14), .ref (r 15), .ref (r 16), .ref (r 17), .ref (r 18), .ref (r 19), .ref (r 20), .ref (r 21), .int (z 22), .int (z 23), .int (z 24), .int (z 25), .int (z 26), .int (z 27), .ref (r 28), .ref (r 29), .int (z 30), .int (z 31), .int (z 32), .ref (r 33), .ref (r 34)]))] s.heap := hP
  have hD : va_D A [(h0, .inr (13, [.int (z 0), .ref (r 1), .int (z 2), .int (z 3), .ref (r 4), .ref (r 5), .ref (r 6), .ref (r 7), .int (z 8), .ref (r 9), .int (z 10), .int (z 11), .int (z 12), .int (z 13), .ref (r 14), .ref (r 15), .ref (r 16), .ref (r 17), .ref (r 18), .ref (r 19), .ref (r 20), .ref (r 21), .int (z 22), .int (z 23), .int (z 24), .int (z 25), .int (z 26), .int (z 27), .ref (r 28), .ref (r 29), .int (z 30), .int (z 31), .int (z 32), .ref (r 33), .ref (r 34)]))] := hD
  have hl := lv_entry ([.ref h0, .int n, .int x]) (n := 5) (Nat.le_of_ble_eq_true rfl)
  rw [lg_entry_eq]
  generalize (lg_sl ([.ref h0, .int n, .int x]) ++ List.replicate (5 - (lg_sl ([.ref h0, .int n, .int x])).length) Slot.unset).toArray = ls at hl ⊢
  have hl : lv_has ls 5 [(0, .ref h0), (1, .int n), (2, .int x)] := hl
  refine lv_aload_n hx hb d_Mo_count_0 rfl (lv_at hl 0 rfl) ?_
  refine lv_iload_n hx hb d_Mo_count_1 rfl (lv_at hl 1 rfl) ?_
  refine xc_pi (va_runS (As := [.int n]) (rest := [.ref h0]) ⟨hx, hb, hml, hown, hg⟩ (p_Mo_isSubject l D kA kS s.heap.size n) (cwS 1 hg (xg_S mw_2103 mw_2104 mw_13 mw_2105) rfl rfl rfl (by decide +kernel) ⟨Nat.le_of_ble_eq_true rfl, Nat.le_of_ble_eq_true rfl⟩) (xc_pre hK hN hC hP hD hS hA [] (by decide) rfl) rfl rfl hl.1 rfl (lv_room (Nat.le_of_ble_eq_true rfl)) d_Mo_count_2 ⟨Nat.le_of_ble_eq_true rfl, Nat.le_of_ble_eq_true rfl⟩) (fun r_2 hw2 => ?_)
  refine lv_if_ne (tgt := 12) hx hb d_Mo_count_5 (by decide) (fun c_5 => ?_) (fun c_5 => absurd (hw2.symm.trans c_5) (by rw [mo_in_1 h1 h2]; decide))
  refine lv_iconst (v := 0) hx hb d_Mo_count_12 (by decide) ?_
  refine lv_iload_n hx hb d_Mo_count_13 rfl (lv_at hl 2 rfl) ?_
  refine lv_iconst (v := 0) hx hb d_Mo_count_14 (by decide) ?_
  refine lv_iconst (v := 2) hx hb d_Mo_count_15 (by decide) ?_
  refine xc_pi (va_runS (As := [.int x, .int 0, .int 2]) (rest := [.int 0, .ref h0]) ⟨hx, hb, hml, hown, hg⟩ (p_Mo_within l D kA kS s.heap.size x 0 2) (cwS 3 hg (xg_S mw_1842 mw_1843 mw_13 mw_1844) rfl rfl rfl (by decide +kernel) ⟨Nat.le_of_ble_eq_true rfl, Nat.le_of_ble_eq_true rfl⟩) (xc_pre hK hN hC hP hD hS hA [] (by decide) rfl) rfl rfl hl.1 rfl (lv_room (Nat.le_of_ble_eq_true rfl)) d_Mo_count_16 ⟨Nat.le_of_ble_eq_true rfl, Nat.le_of_ble_eq_true rfl⟩) (fun r_16 hw16 => ?_)
  refine lv_if_ne (tgt := 26) hx hb d_Mo_count_19 (by decide) (fun c_19 => ?_) (fun c_19 => absurd (hw16.symm.trans c_19) (by rw [mo_in_1 h3 h4]; decide))
  refine lv_iconst (v := 0) hx hb d_Mo_count_26 (by decide) ?_
  refine xc_i (wr := []) (va_runV (As := [.int 0, .int 0]) (rest := []) ⟨hx, hb, hml, hown, hg⟩ (c_Mo_refused l D kA kS s.heap.size h0 r z y 0 0) (cwV 2 hg (xg_V mw_1830 mw_1832 ms_96 mw_13 mw_1833) rfl rfl rfl (by decide +kernel) ⟨Nat.le_of_ble_eq_true rfl, Nat.le_of_ble_eq_true rfl⟩) (xc_preV hK hN hC hP hD hS hA [0] (by decide) rfl 0 rfl rfl) rfl rfl hl.1 rfl (lv_room (Nat.le_of_ble_eq_true rfl)) d_Mo_count_27 ⟨Nat.le_of_ble_eq_true rfl, Nat.le_of_ble_eq_true rfl⟩) hP hD hS hA [0] [] rfl rfl (by decide) (by decide) (fun r_27 u9 H locs hw27 hP hD hS => ?_)
  have hP : va_P D vC [(h0, .inr (13, [.int (mo_th 0 0), .ref (r 1), .int (z 2), .int (z 3), .ref (r 4), .ref (r 5), .ref (r 6), .ref (r 7), .int (z 8), .ref (r 9), .int (z 10), .int (z 11), .int (z 12), .int (z 13), .ref (r 14), .ref (r 15), .ref (r 16), .ref (r 17), .ref (r 18), .ref (r 19), .ref (r 20), .ref (r 21), .int (z 22), .int (z 23), .int (z 24), .int (z 25), .int (z 26), .int (z 27), .ref (r 28), .ref (r 29), .int (z 30), .int (z 31), .int (z 32), .ref (r 33), .ref (r 34)]))] H := hP
  have hD : va_D A [(h0, .inr (13, [.int (mo_th 0 0), .ref (r 1), .int (z 2), .int (z 3), .ref (r 4), .ref (r 5), .ref (r 6), .ref (r 7), .int (z 8), .ref (r 9), .int (z 10), .int (z 11), .int (z 12), .int (z 13), .ref (r 14), .ref (r 15), .ref (r 16), .ref (r 17), .ref (r 18), .ref (r 19), .ref (r 20), .ref (r 21), .int (z 22), .int (z 23), .int (z 24), .int (z 25), .int (z 26), .int (z 27), .ref (r 28), .ref (r 29), .int (z 30), .int (z 31), .int (z 32), .ref (r 33), .ref (r 34)]))] := hD
  rw [show mo_th 0 0 = (0 : Int32) from by decide +kernel] at hP hD
  refine lv_if_eq (tgt := 35) hx hb d_Mo_count_30 (by decide) (fun c_30 => ?_) (fun c_30 => absurd (hw27.trans (by decide)) c_30)
  refine lv_aload_n hx hb d_Mo_count_35 rfl (lv_at hl 0 rfl) ?_
  refine va_get (D := D) (ci := 13) (v := .int (z 11)) (C := R_Mo) (T := F_Mo) (N := 35) hx hb hg i_Mo hown hK hP 0 rfl rfl 11 (by decide) (hg _ mw_1727) (fun _ h9 => h9) rfl d_Mo_count_36 ?_
  refine lv_if_eq (tgt := 45) hx hb d_Mo_count_39 (by decide) (fun c_39 => ?_) (fun c_39 => absurd hz11 c_39)
  refine lv_iconst (v := 0) hx hb d_Mo_count_45 (by decide) ?_
  refine lv_istore_n (lv' := [(3, .int 0), (0, .ref h0), (1, .int n), (2, .int x)]) hx hb d_Mo_count_46 rfl hl (by decide) rfl (fun ls hl => ?_)
  refine lv_iconst (v := 0) hx hb d_Mo_count_47 (by decide) ?_
  refine lv_istore (lv' := [(4, .int 0), (3, .int 0), (0, .ref h0), (1, .int n), (2, .int x)]) hx hb d_Mo_count_48 hl (by decide) rfl (fun ls hl => ?_)
  refine lv_iload hx hb d_Mo_count_50 (lv_at hl 0 rfl) ?_
  refine lv_aload_n hx hb d_Mo_count_52 rfl (lv_at hl 2 rfl) ?_
  refine va_get (D := D) (ci := 13) (v := .int (z 13)) (C := R_Mo) (T := F_Mo) (N := 35) hx hb hg i_Mo hown hK hP 0 rfl rfl 13 (by decide) (hg _ mw_1729) (fun _ h9 => h9) rfl d_Mo_count_53 ?_
  refine lv_icmp_ge (tgt := 94) hx hb d_Mo_count_56 (by decide) (fun c_56 => ?_) (fun c_56 => absurd (by rw [hz13]; decide) c_56)
  refine lv_iload_n hx hb d_Mo_count_94 rfl (lv_at hl 4 rfl) ?_
  refine lv_if_ne (tgt := 106) hx hb d_Mo_count_95 (by decide) (fun c_95 => ?_) (fun c_95 => ?_)
  · skip
    refine lv_iload_n hx hb d_Mo_count_106 rfl (lv_at hl 4 rfl) ?_
    refine lv_iconst (v := 1) hx hb d_Mo_count_107 (by decide) ?_
    refine lv_icmp_ne (tgt := 115) hx hb d_Mo_count_108 (by decide) (fun c_108 => ?_) (fun c_108 => ?_)
    · skip
      refine lv_aload_n hx hb d_Mo_count_115 rfl (lv_at hl 2 rfl) ?_
      refine lv_iload_n hx hb d_Mo_count_116 rfl (lv_at hl 3 rfl) ?_
      refine xc_pi (va_runV (As := [.int n]) (rest := []) ⟨hx, hb, hml, hown, hg⟩ (p_Mo_rows0 l D kA kS H.size h0 r (upd z 0 0) y n hz13) (cwV 1 hg (xg_V mw_2254 mw_2256 ms_158 mw_13 mw_2257) rfl rfl rfl (by decide +kernel) ⟨Nat.le_of_ble_eq_true rfl, Nat.le_of_ble_eq_true rfl⟩) (xc_preV hK hN hC hP hD hS hA [0] (by decide) rfl 0 rfl rfl) rfl rfl hl.1 rfl (lv_room (Nat.le_of_ble_eq_true rfl)) d_Mo_count_117 ⟨Nat.le_of_ble_eq_true rfl, Nat.le_of_ble_eq_true rfl⟩) (fun r_117 hw117 => ?_)
      exact W.iret (v := r_117) hx hb hr (fun t ht hW => ⟨⟨r_117, (), rfl, hw117, by rw [ht]; exact hP, va_K.moved hW.alike hK, hD⟩, hS.F ht⟩) hS.2.2 d_Mo_count_120
    · skip
      refine lv_iload_n hx hb d_Mo_count_111 rfl (lv_at hl 1 rfl) ?_
      refine lv_goto (tgt := 120) hx hb d_Mo_count_112 (by decide) ?_
      exact W.iret (v := 0) hx hb hr (fun t ht hW => ⟨⟨0, (), rfl, rfl, by rw [ht]; exact hP, va_K.moved hW.alike hK, hD⟩, hS.F ht⟩) hS.2.2 d_Mo_count_120
  · skip
    refine lv_aload_n hx hb d_Mo_count_98 rfl (lv_at hl 2 rfl) ?_
    refine lv_iload_n hx hb d_Mo_count_99 rfl (lv_at hl 3 rfl) ?_
    refine xc_pi (va_runV (As := [.int n]) (rest := []) ⟨hx, hb, hml, hown, hg⟩ (p_Mo_versions0 l D kA kS H.size h0 r (upd z 0 0) y n hz13) (cwV 1 hg (xg_V mw_2106 mw_2108 ms_134 mw_13 mw_2109) rfl rfl rfl (by decide +kernel) ⟨Nat.le_of_ble_eq_true rfl, Nat.le_of_ble_eq_true rfl⟩) (xc_preV hK hN hC hP hD hS hA [0] (by decide) rfl 0 rfl rfl) rfl rfl hl.1 rfl (lv_room (Nat.le_of_ble_eq_true rfl)) d_Mo_count_100 ⟨Nat.le_of_ble_eq_true rfl, Nat.le_of_ble_eq_true rfl⟩) (fun r_100 hw100 => ?_)
    refine lv_goto (tgt := 120) hx hb d_Mo_count_103 (by decide) ?_
    exact W.iret (v := r_100) hx hb hr (fun t ht hW => ⟨⟨r_100, (), rfl, hw100, by rw [ht]; exact hP, va_K.moved hW.alike hK, hD⟩, hS.F ht⟩) hS.2.2 d_Mo_count_120

set_option maxHeartbeats 4000000 in
set_option maxRecDepth 100000 in
/-- file: none -/
theorem c_Mo_file0 (l : Launch) (D : va_G) (kA : Nat → ClassId) (kS : Nat → Nat) (sz : Nat) (h0 : Nat) (r : Nat → Nat) (z : Nat → Int32) (y : Nat → Int64) (k x : Int32) (hz11 : z 11 = 0) (hz13 : z 13 = 0) : Met l y_Mo_file w_Mo_file { frames := 1, cells := 0, slots := 0, locals := 22 } (xPre D vC (tK kA) kS [.ref h0, .int k, .int x] ([oMo h0 r z y]) sz) (va_Qi (fun (x : Int32) (_ : Unit) => x = 0) (xB D vC (tK kA) (fun _ => [oMo h0 r (upd z 0 1) y]) (va_A ([oMo h0 r z y]) sz)) (va_A ([oMo h0 r z y]) sz)) 0 0 (va_A ([oMo h0 r z y]) sz) := by
  refine Met.ofW (cc := b_Mo_file) (maxL := 3) (ret := (some .int)) (by decide) rfl ?_
  intro p e s m args below meth c s₁ B hml hv
  obtain ⟨rfl, hsz, hP, hK, hD0, hN, hC⟩ := hv
  have hx := B.exec
  have hb := B.bytes
  have hr := B.returns
  have hts := atoms_spec (ws := w_Mo_file) B.pre
  have hg : ∀ w ∈ gW, w.before _ s = true := fun w h => hts w (List.mem_cons_of_mem _ h)
  have hown : s.vm.findClass R_Mo = some m.cls := findClass_of_methodNamed B.named
  have hlocks := B.notSynchronized
  subst hsz
  have hD := hD0.self (sz := s.heap.size)
  generalize hAe : va_A ([oMo h0 r z y]) s.heap.size = A at hD hC ⊢
  have hA : ∀ q : Nat, s.heap.size ≤ q → A q := fun q h => by rw [← hAe]; exact Or.inr h
  have hS : va_S A s.heap s.heap [] := va_S.rf
  have hP : va_P D vC [(h0, .inr (13, [.int (z 0), .ref (r 1), .int (z 2), .int (z 3), .ref (r 4), .ref (r 5), .ref (r 6), .ref (r 7), .int (z 8), .ref (r 9), .int (z 10), .int (z 11), .int (z 12), .int (z 13), .ref (r 14), .ref (r 15), .ref (r 16), .ref (r 17), .ref (r 18), .ref (r 19), .ref (r 20), .ref (r 21), .int (z 22), .int (z 23), .int (z 24), .int (z 25), .int (z 26), .int (z 27), .ref (r 28), .ref (r 29), .int (z 30), .int (z 31), .int (z 32), .ref (r 33), .ref (r 34)]))] s.heap := hP
  have hD : va_D A [(h0, .inr (13, [.int (z 0), .ref (r 1), .int (z 2), .int (z 3), .ref (r 4), .ref (r 5), .ref (r 6), .ref (r 7), .int (z 8), .ref (r 9), .int (z 10), .int (z 11), .int (z 12), .int (z 13), .ref (r 14), .ref (r 15), .ref (r 16), .ref (r 17), .ref (r 18), .ref (r 19), .ref (r 20), .ref (r 21), .int (z 22), .int (z 23), .int (z 24), .int (z 25), .int (z 26), .int (z 27), .ref (r 28), .ref (r 29), .int (z 30), .int (z 31), .int (z 32), .ref (r 33), .ref (r 34)]))] := hD
  have hl := lv_entry ([.ref h0, .int k, .int x]) (n := 3) (Nat.le_of_ble_eq_true rfl)
  rw [lg_entry_eq]
  generalize (lg_sl ([.ref h0, .int k, .int x]) ++ List.replicate (3 - (lg_sl ([.ref h0, .int k, .int x])).length) Slot.unset).toArray = ls at hl ⊢
  have hl : lv_has ls 3 [(0, .ref h0), (1, .int k), (2, .int x)] := hl
  refine lv_aload_n hx hb d_Mo_file_0 rfl (lv_at hl 0 rfl) ?_
  refine lv_aload_n hx hb d_Mo_file_1 rfl (lv_at hl 0 rfl) ?_
  refine va_get (D := D) (ci := 13) (v := .int (z 11)) (C := R_Mo) (T := F_Mo) (N := 35) hx hb hg i_Mo hown hK hP 0 rfl rfl 11 (by decide) (hg _ mw_1727) (fun _ h9 => h9) rfl d_Mo_file_2 ?_
  refine lv_if_ne (tgt := 26) hx hb d_Mo_file_5 (by decide) (fun c_5 => absurd hz11 c_5) (fun c_5 => ?_)
  refine lv_iload_n hx hb d_Mo_file_8 rfl (lv_at hl 1 rfl) ?_
  refine lv_iconst (v := 0) hx hb d_Mo_file_9 (by decide) ?_
  refine lv_aload_n hx hb d_Mo_file_10 rfl (lv_at hl 0 rfl) ?_
  refine va_get (D := D) (ci := 13) (v := .int (z 13)) (C := R_Mo) (T := F_Mo) (N := 35) hx hb hg i_Mo hown hK hP 0 rfl rfl 13 (by decide) (hg _ mw_1729) (fun _ h9 => h9) rfl d_Mo_file_11 ?_
  refine lv_iconst (v := 1) hx hb d_Mo_file_14 (by decide) ?_
  refine lv_isub hx hb d_Mo_file_15 ?_
  refine lv_topi (fun x_15 ex_15 => ?_)
  refine xc_pi (va_runS (As := [.int k, .int 0, .int x_15]) (rest := [.ref h0]) ⟨hx, hb, hml, hown, hg⟩ (p_Mo_within l D kA kS s.heap.size k 0 x_15) (cwS 3 hg (xg_S mw_1842 mw_1843 mw_13 mw_1844) rfl rfl rfl (by decide +kernel) ⟨Nat.le_of_ble_eq_true rfl, Nat.le_of_ble_eq_true rfl⟩) (xc_pre hK hN hC hP hD hS hA [] (by decide) rfl) rfl rfl hl.1 rfl (lv_room (Nat.le_of_ble_eq_true rfl)) d_Mo_file_16 ⟨Nat.le_of_ble_eq_true rfl, Nat.le_of_ble_eq_true rfl⟩) (fun r_16 hw16 => ?_)
  refine lv_if_ne (tgt := 26) hx hb d_Mo_file_19 (by decide) (fun c_19 => absurd (hw16.trans (mo_in_0 (by rw [ex_15, hz13]; exact mo_m1 k))) c_19) (fun c_19 => ?_)
  refine lv_iconst (v := 1) hx hb d_Mo_file_22 (by decide) ?_
  refine lv_goto (tgt := 27) hx hb d_Mo_file_23 (by decide) ?_
  refine lv_iload_n hx hb d_Mo_file_27 rfl (lv_at hl 2 rfl) ?_
  refine lv_iconst (v := 0) hx hb d_Mo_file_28 (by decide) ?_
  refine lv_iconst (v := 4) hx hb d_Mo_file_29 (by decide) ?_
  refine xc_pi (va_runS (As := [.int x, .int 0, .int 4]) (rest := [.int 1, .ref h0]) ⟨hx, hb, hml, hown, hg⟩ (p_Mo_within l D kA kS s.heap.size x 0 4) (cwS 3 hg (xg_S mw_1842 mw_1843 mw_13 mw_1844) rfl rfl rfl (by decide +kernel) ⟨Nat.le_of_ble_eq_true rfl, Nat.le_of_ble_eq_true rfl⟩) (xc_pre hK hN hC hP hD hS hA [] (by decide) rfl) rfl rfl hl.1 rfl (lv_room (Nat.le_of_ble_eq_true rfl)) d_Mo_file_30 ⟨Nat.le_of_ble_eq_true rfl, Nat.le_of_ble_eq_true rfl⟩) (fun r_30 hw30 => ?_)
  refine lv_if_ne (tgt := 40) hx hb d_Mo_file_33 (by decide) (fun c_33 => ?_) (fun c_33 => ?_)
  · skip
    refine lv_iconst (v := 0) hx hb d_Mo_file_40 (by decide) ?_
    refine xc_i (wr := []) (va_runV (As := [.int 1, .int 0]) (rest := []) ⟨hx, hb, hml, hown, hg⟩ (c_Mo_refused l D kA kS s.heap.size h0 r z y 1 0) (cwV 2 hg (xg_V mw_1830 mw_1832 ms_96 mw_13 mw_1833) rfl rfl rfl (by decide +kernel) ⟨Nat.le_of_ble_eq_true rfl, Nat.le_of_ble_eq_true rfl⟩) (xc_preV hK hN hC hP hD hS hA [0] (by decide) rfl 0 rfl rfl) rfl rfl hl.1 rfl (lv_room (Nat.le_of_ble_eq_true rfl)) d_Mo_file_41 ⟨Nat.le_of_ble_eq_true rfl, Nat.le_of_ble_eq_true rfl⟩) hP hD hS hA [0] [] rfl rfl (by decide) (by decide) (fun r_41 u9 H locs hw41 hP hD hS => ?_)
    have hP : va_P D vC [(h0, .inr (13, [.int (mo_th 1 0), .ref (r 1), .int (z 2), .int (z 3), .ref (r 4), .ref (r 5), .ref (r 6), .ref (r 7), .int (z 8), .ref (r 9), .int (z 10), .int (z 11), .int (z 12), .int (z 13), .ref (r 14), .ref (r 15), .ref (r 16), .ref (r 17), .ref (r 18), .ref (r 19), .ref (r 20), .ref (r 21), .int (z 22), .int (z 23), .int (z 24), .int (z 25), .int (z 26), .int (z 27), .ref (r 28), .ref (r 29), .int (z 30), .int (z 31), .int (z 32), .ref (r 33), .ref (r 34)]))] H := hP
    have hD : va_D A [(h0, .inr (13, [.int (mo_th 1 0), .ref (r 1), .int (z 2), .int (z 3), .ref (r 4), .ref (r 5), .ref (r 6), .ref (r 7), .int (z 8), .ref (r 9), .int (z 10), .int (z 11), .int (z 12), .int (z 13), .ref (r 14), .ref (r 15), .ref (r 16), .ref (r 17), .ref (r 18), .ref (r 19), .ref (r 20), .ref (r 21), .int (z 22), .int (z 23), .int (z 24), .int (z 25), .int (z 26), .int (z 27), .ref (r 28), .ref (r 29), .int (z 30), .int (z 31), .int (z 32), .ref (r 33), .ref (r 34)]))] := hD
    rw [show mo_th 1 0 = (1 : Int32) from by decide +kernel] at hP hD
    refine lv_if_eq (tgt := 49) hx hb d_Mo_file_44 (by decide) (fun c_44 => absurd (hw41.symm.trans c_44) (by decide)) (fun c_44 => ?_)
    refine lv_iconst (v := 0) hx hb d_Mo_file_47 (by decide) ?_
    exact W.iret (v := 0) hx hb hr (fun t ht hW => ⟨⟨0, (), rfl, rfl, by rw [ht]; exact hP, va_K.moved hW.alike hK, hD⟩, hS.F ht⟩) hS.2.2 d_Mo_file_48
  · skip
    refine lv_iconst (v := 1) hx hb d_Mo_file_36 (by decide) ?_
    refine lv_goto (tgt := 41) hx hb d_Mo_file_37 (by decide) ?_
    refine xc_i (wr := []) (va_runV (As := [.int 1, .int 1]) (rest := []) ⟨hx, hb, hml, hown, hg⟩ (c_Mo_refused l D kA kS s.heap.size h0 r z y 1 1) (cwV 2 hg (xg_V mw_1830 mw_1832 ms_96 mw_13 mw_1833) rfl rfl rfl (by decide +kernel) ⟨Nat.le_of_ble_eq_true rfl, Nat.le_of_ble_eq_true rfl⟩) (xc_preV hK hN hC hP hD hS hA [0] (by decide) rfl 0 rfl rfl) rfl rfl hl.1 rfl (lv_room (Nat.le_of_ble_eq_true rfl)) d_Mo_file_41 ⟨Nat.le_of_ble_eq_true rfl, Nat.le_of_ble_eq_true rfl⟩) hP hD hS hA [0] [] rfl rfl (by decide) (by decide) (fun r_41 u9 H locs hw41 hP hD hS => ?_)
    have hP : va_P D vC [(h0, .inr (13, [.int (mo_th 1 1), .ref (r 1), .int (z 2), .int (z 3), .ref (r 4), .ref (r 5), .ref (r 6), .ref (r 7), .int (z 8), .ref (r 9), .int (z 10), .int (z 11), .int (z 12), .int (z 13), .ref (r 14), .ref (r 15), .ref (r 16), .ref (r 17), .ref (r 18), .ref (r 19), .ref (r 20), .ref (r 21), .int (z 22), .int (z 23), .int (z 24), .int (z 25), .int (z 26), .int (z 27), .ref (r 28), .ref (r 29), .int (z 30), .int (z 31), .int (z 32), .ref (r 33), .ref (r 34)]))] H := hP
    have hD : va_D A [(h0, .inr (13, [.int (mo_th 1 1), .ref (r 1), .int (z 2), .int (z 3), .ref (r 4), .ref (r 5), .ref (r 6), .ref (r 7), .int (z 8), .ref (r 9), .int (z 10), .int (z 11), .int (z 12), .int (z 13), .ref (r 14), .ref (r 15), .ref (r 16), .ref (r 17), .ref (r 18), .ref (r 19), .ref (r 20), .ref (r 21), .int (z 22), .int (z 23), .int (z 24), .int (z 25), .int (z 26), .int (z 27), .ref (r 28), .ref (r 29), .int (z 30), .int (z 31), .int (z 32), .ref (r 33), .ref (r 34)]))] := hD
    rw [show mo_th 1 1 = (1 : Int32) from by decide +kernel] at hP hD
    refine lv_if_eq (tgt := 49) hx hb d_Mo_file_44 (by decide) (fun c_44 => absurd (hw41.symm.trans c_44) (by decide)) (fun c_44 => ?_)
    refine lv_iconst (v := 0) hx hb d_Mo_file_47 (by decide) ?_
    exact W.iret (v := 0) hx hb hr (fun t ht hW => ⟨⟨0, (), rfl, rfl, by rw [ht]; exact hP, va_K.moved hW.alike hK, hD⟩, hS.F ht⟩) hS.2.2 d_Mo_file_48
