/-! Schemas.open, drop; Defaults.forget -/
abbrev sc_open (z : Nat → Int32) (pn : Int32) : Nat → Int32 := upd (upd (upd z 11 (z 14)) 16 (z 15)) 17 pn
abbrev sc_drop (z : Nat → Int32) : Nat → Int32 := upd (upd z 14 (z 11)) 15 (z 16)
abbrev oDe (h0 : Nat) (q : Nat → Nat) (z : Nat → Int32) : Nat × va_E := (h0, .inr (4, [.ref (q 0), .ref (q 1), .ref (q 2), .ref (q 3), .int (z 4)]))
set_option maxHeartbeats 4000000 in
set_option maxRecDepth 100000 in
/-- Schemas.open -/
theorem c_Sc_open (l : Launch) (D : va_G) (kA : Nat → ClassId) (kS : Nat → Nat) (sz : Nat) (h0 t1 : Nat) (q : Nat → Nat) (z : Nat → Int32) (pn : Int32) : Met l y_Sc_open w_Sc_open { frames := 0, cells := 0, slots := 0, locals := 0 } (xPre D vC (tK kA) kS [.ref h0] ([oSc h0 q (z), (q 9, .inr (0, [.ref t1, .int pn]))]) sz) (va_Qv (fun (_ : Unit) => True) (xB D vC (tK kA) (fun _ => [oSc h0 q (sc_open z pn), (q 9, .inr (0, [.ref t1, .int pn]))]) (va_A ([oSc h0 q (z), (q 9, .inr (0, [.ref t1, .int pn]))]) sz)) (va_A ([oSc h0 q (z), (q 9, .inr (0, [.ref t1, .int pn]))]) sz)) 0 0 (va_A ([oSc h0 q (z), (q 9, .inr (0, [.ref t1, .int pn]))]) sz) := by
  refine Met.ofW (cc := b_Sc_open) (maxL := 1) (ret := none) (by decide) rfl ?_
  intro p e s m args below meth c s₁ B hml hv
  obtain ⟨rfl, hsz, hP, hK, hD0, hN, hC⟩ := hv
  have hx := B.exec
  have hb := B.bytes
  have hr := B.returns
  have hts := atoms_spec (ws := w_Sc_open) B.pre
  have hg : ∀ w ∈ gW, w.before _ s = true := fun w h => hts w (List.mem_cons_of_mem _ h)
  have hown : s.vm.findClass R_Sc = some m.cls := findClass_of_methodNamed B.named
  have hlocks := B.notSynchronized
  subst hsz
  have hD := hD0.self (sz := s.heap.size)
  generalize hAe : va_A ([oSc h0 q (z), (q 9, .inr (0, [.ref t1, .int pn]))]) s.heap.size = A at hD hC ⊢
  have hA : ∀ q : Nat, s.heap.size ≤ q → A q := fun q h => by rw [← hAe]; exact Or.inr h
  have hS : va_S A s.heap s.heap [] := va_S.rf
  have hP : va_P D vC [(h0, .inr (2, [.ref (q 0), .ref (q 1), .ref (q 2), .ref (q 3), .ref (q 4), .ref (q 5), .ref (q 6), .ref (q 7), .ref (q 8), .ref (q 9), .ref (q 10), .int (z 11), .ref (q 12), .ref (q 13), .int (z 14), .int (z 15), .int (z 16), .int (z 17)])), (q 9, .inr (0, [.ref t1, .int pn]))] s.heap := hP
  have hD : va_D A [(h0, .inr (2, [.ref (q 0), .ref (q 1), .ref (q 2), .ref (q 3), .ref (q 4), .ref (q 5), .ref (q 6), .ref (q 7), .ref (q 8), .ref (q 9), .ref (q 10), .int (z 11), .ref (q 12), .ref (q 13), .int (z 14), .int (z 15), .int (z 16), .int (z 17)])), (q 9, .inr (0, [.ref t1, .int pn]))] := hD
  have hl := lv_entry ([.ref h0]) (n := 1) (Nat.le_of_ble_eq_true rfl)
  rw [lg_entry_eq]
  generalize (lg_sl ([.ref h0]) ++ List.replicate (1 - (lg_sl ([.ref h0])).length) Slot.unset).toArray = ls at hl ⊢
  have hl : lv_has ls 1 [(0, .ref h0)] := hl
  refine lv_aload_n hx hb d_Sc_open_0 rfl (lv_at hl 0 rfl) ?_
  refine lv_aload_n hx hb d_Sc_open_1 rfl (lv_at hl 0 rfl) ?_
  refine va_get (D := D) (ci := 2) (v := .int (z 14)) (C := R_Sc) (T := F_Sc) (N := 18) hx hb hg i_Sc hown hK hP 0 rfl rfl 14 (by decide) (hg _ mw_206) (fun _ h9 => h9) rfl d_Sc_open_2 ?_
  refine va_put (D := D) (ci := 2) (v := .int (z 14)) (ty := .int) (C := R_Sc) (T := F_Sc) (N := 18) hx hb hg i_Sc t_Sc t_Sc_ok n_Sc hown hK hP hD hS 0 rfl rfl 11 (by decide) (hg _ mw_202) (fun _ h9 => h9) rfl (by decide +kernel) rfl rfl (Nat.le_of_ble_eq_true rfl) d_Sc_open_5 (fun H locs hP hD hS => ?_)
  have hP : va_P D vC [(h0, .inr (2, [.ref (q 0), .ref (q 1), .ref (q 2), .ref (q 3), .ref (q 4), .ref (q 5), .ref (q 6), .ref (q 7), .ref (q 8), .ref (q 9), .ref (q 10), .int (z 14), .ref (q 12), .ref (q 13), .int (z 14), .int (z 15), .int (z 16), .int (z 17)])), (q 9, .inr (0, [.ref t1, .int pn]))] H := hP
  have hD : va_D A [(h0, .inr (2, [.ref (q 0), .ref (q 1), .ref (q 2), .ref (q 3), .ref (q 4), .ref (q 5), .ref (q 6), .ref (q 7), .ref (q 8), .ref (q 9), .ref (q 10), .int (z 14), .ref (q 12), .ref (q 13), .int (z 14), .int (z 15), .int (z 16), .int (z 17)])), (q 9, .inr (0, [.ref t1, .int pn]))] := hD
  refine lv_aload_n hx hb d_Sc_open_8 rfl (lv_at hl 0 rfl) ?_
  refine lv_aload_n hx hb d_Sc_open_9 rfl (lv_at hl 0 rfl) ?_
  refine va_get (D := D) (ci := 2) (v := .int (z 15)) (C := R_Sc) (T := F_Sc) (N := 18) hx hb hg i_Sc hown hK hP 0 rfl rfl 15 (by decide) (hg _ mw_207) (fun _ h9 => h9) rfl d_Sc_open_10 ?_
  refine va_put (D := D) (ci := 2) (v := .int (z 15)) (ty := .int) (C := R_Sc) (T := F_Sc) (N := 18) hx hb hg i_Sc t_Sc t_Sc_ok n_Sc hown hK hP hD hS 0 rfl rfl 16 (by decide) (hg _ mw_208) (fun _ h9 => h9) rfl (by decide +kernel) rfl rfl (Nat.le_of_ble_eq_true rfl) d_Sc_open_13 (fun H locs hP hD hS => ?_)
  have hP : va_P D vC [(h0, .inr (2, [.ref (q 0), .ref (q 1), .ref (q 2), .ref (q 3), .ref (q 4), .ref (q 5), .ref (q 6), .ref (q 7), .ref (q 8), .ref (q 9), .ref (q 10), .int (z 14), .ref (q 12), .ref (q 13), .int (z 14), .int (z 15), .int (z 15), .int (z 17)])), (q 9, .inr (0, [.ref t1, .int pn]))] H := hP
  have hD : va_D A [(h0, .inr (2, [.ref (q 0), .ref (q 1), .ref (q 2), .ref (q 3), .ref (q 4), .ref (q 5), .ref (q 6), .ref (q 7), .ref (q 8), .ref (q 9), .ref (q 10), .int (z 14), .ref (q 12), .ref (q 13), .int (z 14), .int (z 15), .int (z 15), .int (z 17)])), (q 9, .inr (0, [.ref t1, .int pn]))] := hD
  refine lv_aload_n hx hb d_Sc_open_16 rfl (lv_at hl 0 rfl) ?_
  refine lv_aload_n hx hb d_Sc_open_17 rfl (lv_at hl 0 rfl) ?_
  refine va_get (D := D) (ci := 2) (v := .ref (q 9)) (C := R_Sc) (T := F_Sc) (N := 18) hx hb hg i_Sc hown hK hP 0 rfl rfl 9 (by decide) (hg _ mw_196) (fun _ h9 => h9) rfl d_Sc_open_18 ?_
  refine va_get (D := D) (ci := 0) (v := .int pn) (C := R_By) (T := F_By) (N := 2) hx hb hg i_By hown hK hP 1 rfl rfl 1 (by decide) (hg _ mw_56) (fun _ h9 => h9) rfl d_Sc_open_21 ?_
  refine va_put (D := D) (ci := 2) (v := .int pn) (ty := .int) (C := R_Sc) (T := F_Sc) (N := 18) hx hb hg i_Sc t_Sc t_Sc_ok n_Sc hown hK hP hD hS 0 rfl rfl 17 (by decide) (hg _ mw_209) (fun _ h9 => h9) rfl (by decide +kernel) rfl rfl (Nat.le_of_ble_eq_true rfl) d_Sc_open_24 (fun H locs hP hD hS => ?_)
  have hP : va_P D vC [(h0, .inr (2, [.ref (q 0), .ref (q 1), .ref (q 2), .ref (q 3), .ref (q 4), .ref (q 5), .ref (q 6), .ref (q 7), .ref (q 8), .ref (q 9), .ref (q 10), .int (z 14), .ref (q 12), .ref (q 13), .int (z 14), .int (z 15), .int (z 15), .int pn])), (q 9, .inr (0, [.ref t1, .int pn]))] H := hP
  have hD : va_D A [(h0, .inr (2, [.ref (q 0), .ref (q 1), .ref (q 2), .ref (q 3), .ref (q 4), .ref (q 5), .ref (q 6), .ref (q 7), .ref (q 8), .ref (q 9), .ref (q 10), .int (z 14), .ref (q 12), .ref (q 13), .int (z 14), .int (z 15), .int (z 15), .int pn])), (q 9, .inr (0, [.ref t1, .int pn]))] := hD
  exact W.vret hx hb hr (fun t ht hW => ⟨⟨(), rfl, trivial, by rw [ht]; exact hP, va_K.moved hW.alike hK, hD⟩, hS.F ht⟩) hS.2.2 d_Sc_open_27

set_option maxHeartbeats 4000000 in
set_option maxRecDepth 100000 in
/-- Schemas.drop -/
theorem c_Sc_drop (l : Launch) (D : va_G) (kA : Nat → ClassId) (kS : Nat → Nat) (sz : Nat) (h0 t1 : Nat) (q : Nat → Nat) (z : Nat → Int32) (pn : Int32) : Met l y_Sc_drop w_Sc_drop { frames := 0, cells := 0, slots := 0, locals := 0 } (xPre D vC (tK kA) kS [.ref h0] ([oSc h0 q (z), (q 9, .inr (0, [.ref t1, .int pn]))]) sz) (va_Qv (fun (_ : Unit) => True) (xB D vC (tK kA) (fun _ => [oSc h0 q (sc_drop z), (q 9, .inr (0, [.ref t1, .int (z 17)]))]) (va_A ([oSc h0 q (z), (q 9, .inr (0, [.ref t1, .int pn]))]) sz)) (va_A ([oSc h0 q (z), (q 9, .inr (0, [.ref t1, .int pn]))]) sz)) 0 0 (va_A ([oSc h0 q (z), (q 9, .inr (0, [.ref t1, .int pn]))]) sz) := by
  refine Met.ofW (cc := b_Sc_drop) (maxL := 1) (ret := none) (by decide) rfl ?_
  intro p e s m args below meth c s₁ B hml hv
  obtain ⟨rfl, hsz, hP, hK, hD0, hN, hC⟩ := hv
  have hx := B.exec
  have hb := B.bytes
  have hr := B.returns
  have hts := atoms_spec (ws := w_Sc_drop) B.pre
  have hg : ∀ w ∈ gW, w.before _ s = true := fun w h => hts w (List.mem_cons_of_mem _ h)
  have hown : s.vm.findClass R_Sc = some m.cls := findClass_of_methodNamed B.named
  have hlocks := B.notSynchronized
  subst hsz
  have hD := hD0.self (sz := s.heap.size)
  generalize hAe : va_A ([oSc h0 q (z), (q 9, .inr (0, [.ref t1, .int pn]))]) s.heap.size = A at hD hC ⊢
  have hA : ∀ q : Nat, s.heap.size ≤ q → A q := fun q h => by rw [← hAe]; exact Or.inr h
  have hS : va_S A s.heap s.heap [] := va_S.rf
  have hP : va_P D vC [(h0, .inr (2, [.ref (q 0), .ref (q 1), .ref (q 2), .ref (q 3), .ref (q 4), .ref (q 5), .ref (q 6), .ref (q 7), .ref (q 8), .ref (q 9), .ref (q 10), .int (z 11), .ref (q 12), .ref (q 13), .int (z 14), .int (z 15), .int (z 16), .int (z 17)])), (q 9, .inr (0, [.ref t1, .int pn]))] s.heap := hP
  have hD : va_D A [(h0, .inr (2, [.ref (q 0), .ref (q 1), .ref (q 2), .ref (q 3), .ref (q 4), .ref (q 5), .ref (q 6), .ref (q 7), .ref (q 8), .ref (q 9), .ref (q 10), .int (z 11), .ref (q 12), .ref (q 13), .int (z 14), .int (z 15), .int (z 16), .int (z 17)])), (q 9, .inr (0, [.ref t1, .int pn]))] := hD
  have hl := lv_entry ([.ref h0]) (n := 1) (Nat.le_of_ble_eq_true rfl)
  rw [lg_entry_eq]
  generalize (lg_sl ([.ref h0]) ++ List.replicate (1 - (lg_sl ([.ref h0])).length) Slot.unset).toArray = ls at hl ⊢
  have hl : lv_has ls 1 [(0, .ref h0)] := hl
  refine lv_aload_n hx hb d_Sc_drop_0 rfl (lv_at hl 0 rfl) ?_
  refine lv_aload_n hx hb d_Sc_drop_1 rfl (lv_at hl 0 rfl) ?_
  refine va_get (D := D) (ci := 2) (v := .int (z 11)) (C := R_Sc) (T := F_Sc) (N := 18) hx hb hg i_Sc hown hK hP 0 rfl rfl 11 (by decide) (hg _ mw_202) (fun _ h9 => h9) rfl d_Sc_drop_2 ?_
  refine va_put (D := D) (ci := 2) (v := .int (z 11)) (ty := .int) (C := R_Sc) (T := F_Sc) (N := 18) hx hb hg i_Sc t_Sc t_Sc_ok n_Sc hown hK hP hD hS 0 rfl rfl 14 (by decide) (hg _ mw_206) (fun _ h9 => h9) rfl (by decide +kernel) rfl rfl (Nat.le_of_ble_eq_true rfl) d_Sc_drop_5 (fun H locs hP hD hS => ?_)
  have hP : va_P D vC [(h0, .inr (2, [.ref (q 0), .ref (q 1), .ref (q 2), .ref (q 3), .ref (q 4), .ref (q 5), .ref (q 6), .ref (q 7), .ref (q 8), .ref (q 9), .ref (q 10), .int (z 11), .ref (q 12), .ref (q 13), .int (z 11), .int (z 15), .int (z 16), .int (z 17)])), (q 9, .inr (0, [.ref t1, .int pn]))] H := hP
  have hD : va_D A [(h0, .inr (2, [.ref (q 0), .ref (q 1), .ref (q 2), .ref (q 3), .ref (q 4), .ref (q 5), .ref (q 6), .ref (q 7), .ref (q 8), .ref (q 9), .ref (q 10), .int (z 11), .ref (q 12), .ref (q 13), .int (z 11), .int (z 15), .int (z 16), .int (z 17)])), (q 9, .inr (0, [.ref t1, .int pn]))] := hD
  refine lv_aload_n hx hb d_Sc_drop_8 rfl (lv_at hl 0 rfl) ?_
  refine lv_aload_n hx hb d_Sc_drop_9 rfl (lv_at hl 0 rfl) ?_
  refine va_get (D := D) (ci := 2) (v := .int (z 16)) (C := R_Sc) (T := F_Sc) (N := 18) hx hb hg i_Sc hown hK hP 0 rfl rfl 16 (by decide) (hg _ mw_208) (fun _ h9 => h9) rfl d_Sc_drop_10 ?_
  refine va_put (D := D) (ci := 2) (v := .int (z 16)) (ty := .int) (C := R_Sc) (T := F_Sc) (N := 18) hx hb hg i_Sc t_Sc t_Sc_ok n_Sc hown hK hP hD hS 0 rfl rfl 15 (by decide) (hg _ mw_207) (fun _ h9 => h9) rfl (by decide +kernel) rfl rfl (Nat.le_of_ble_eq_true rfl) d_Sc_drop_13 (fun H locs hP hD hS => ?_)
  have hP : va_P D vC [(h0, .inr (2, [.ref (q 0), .ref (q 1), .ref (q 2), .ref (q 3), .ref (q 4), .ref (q 5), .ref (q 6), .ref (q 7), .ref (q 8), .ref (q 9), .ref (q 10), .int (z 11), .ref (q 12), .ref (q 13), .int (z 11), .int (z 16), .int (z 16), .int (z 17)])), (q 9, .inr (0, [.ref t1, .int pn]))] H := hP
  have hD : va_D A [(h0, .inr (2, [.ref (q 0), .ref (q 1), .ref (q 2), .ref (q 3), .ref (q 4), .ref (q 5), .ref (q 6), .ref (q 7), .ref (q 8), .ref (q 9), .ref (q 10), .int (z 11), .ref (q 12), .ref (q 13), .int (z 11), .int (z 16), .int (z 16), .int (z 17)])), (q 9, .inr (0, [.ref t1, .int pn]))] := hD
  refine lv_aload_n hx hb d_Sc_drop_16 rfl (lv_at hl 0 rfl) ?_
  refine va_get (D := D) (ci := 2) (v := .ref (q 9)) (C := R_Sc) (T := F_Sc) (N := 18) hx hb hg i_Sc hown hK hP 0 rfl rfl 9 (by decide) (hg _ mw_196) (fun _ h9 => h9) rfl d_Sc_drop_17 ?_
  refine lv_aload_n hx hb d_Sc_drop_20 rfl (lv_at hl 0 rfl) ?_
  refine va_get (D := D) (ci := 2) (v := .int (z 17)) (C := R_Sc) (T := F_Sc) (N := 18) hx hb hg i_Sc hown hK hP 0 rfl rfl 17 (by decide) (hg _ mw_209) (fun _ h9 => h9) rfl d_Sc_drop_21 ?_
  refine va_put (D := D) (ci := 0) (v := .int (z 17)) (ty := .int) (C := R_By) (T := F_By) (N := 2) hx hb hg i_By t_By t_By_ok n_By hown hK hP hD hS 1 rfl rfl 1 (by decide) (hg _ mw_56) (fun _ h9 => h9) rfl (by decide +kernel) rfl rfl (Nat.le_of_ble_eq_true rfl) d_Sc_drop_24 (fun H locs hP hD hS => ?_)
  have hP : va_P D vC [(h0, .inr (2, [.ref (q 0), .ref (q 1), .ref (q 2), .ref (q 3), .ref (q 4), .ref (q 5), .ref (q 6), .ref (q 7), .ref (q 8), .ref (q 9), .ref (q 10), .int (z 11), .ref (q 12), .ref (q 13), .int (z 11), .int (z 16), .int (z 16), .int (z 17)])), (q 9, .inr (0, [.ref t1, .int (z 17)]))] H := hP
  have hD : va_D A [(h0, .inr (2, [.ref (q 0), .ref (q 1), .ref (q 2), .ref (q 3), .ref (q 4), .ref (q 5), .ref (q 6), .ref (q 7), .ref (q 8), .ref (q 9), .ref (q 10), .int (z 11), .ref (q 12), .ref (q 13), .int (z 11), .int (z 16), .int (z 16), .int (z 17)])), (q 9, .inr (0, [.ref t1, .int (z 17)]))] := hD
  exact W.vret hx hb hr (fun t ht hW => ⟨⟨(), rfl, trivial, by rw [ht]; exact hP, va_K.moved hW.alike hK, hD⟩, hS.F ht⟩) hS.2.2 d_Sc_drop_27

set_option maxHeartbeats 4000000 in
set_option maxRecDepth 100000 in
/-- Defaults.forget -/
theorem c_De_forget (l : Launch) (D : va_G) (kA : Nat → ClassId) (kS : Nat → Nat) (sz : Nat) (h0 : Nat) (q : Nat → Nat) (z : Nat → Int32) : Met l y_Df_forget w_Df_forget { frames := 0, cells := 0, slots := 0, locals := 0 } (xPre D vC (tK kA) kS [.ref h0] ([oDe h0 q z]) sz) (va_Qv (fun (_ : Unit) => True) (xB D vC (tK kA) (fun _ => [oDe h0 q (upd z 4 0)]) (va_A ([oDe h0 q z]) sz)) (va_A ([oDe h0 q z]) sz)) 0 0 (va_A ([oDe h0 q z]) sz) := by
  refine Met.ofW (cc := b_Df_forget) (maxL := 1) (ret := none) (by decide) rfl ?_
  intro p e s m args below meth c s₁ B hml hv
  obtain ⟨rfl, hsz, hP, hK, hD0, hN, hC⟩ := hv
  have hx := B.exec
  have hb := B.bytes
  have hr := B.returns
  have hts := atoms_spec (ws := w_Df_forget) B.pre
  have hg : ∀ w ∈ gW, w.before _ s = true := fun w h => hts w (List.mem_cons_of_mem _ h)
  have hown : s.vm.findClass R_Df = some m.cls := findClass_of_methodNamed B.named
  have hlocks := B.notSynchronized
  subst hsz
  have hD := hD0.self (sz := s.heap.size)
  generalize hAe : va_A ([oDe h0 q z]) s.heap.size = A at hD hC ⊢
  have hA : ∀ q : Nat, s.heap.size ≤ q → A q := fun q h => by rw [← hAe]; exact Or.inr h
  have hS : va_S A s.heap s.heap [] := va_S.rf
  have hP : va_P D vC [(h0, .inr (4, [.ref (q 0), .ref (q 1), .ref (q 2), .ref (q 3), .int (z 4)]))] s.heap := hP
  have hD : va_D A [(h0, .inr (4, [.ref (q 0), .ref (q 1), .ref (q 2), .ref (q 3), .int (z 4)]))] := hD
  have hl := lv_entry ([.ref h0]) (n := 1) (Nat.le_of_ble_eq_true rfl)
  rw [lg_entry_eq]
  generalize (lg_sl ([.ref h0]) ++ List.replicate (1 - (lg_sl ([.ref h0])).length) Slot.unset).toArray = ls at hl ⊢
  have hl : lv_has ls 1 [(0, .ref h0)] := hl
  refine lv_aload_n hx hb d_Df_forget_0 rfl (lv_at hl 0 rfl) ?_
  refine lv_iconst (v := 0) hx hb d_Df_forget_1 (by decide) ?_
  refine va_put (D := D) (ci := 4) (v := .int 0) (ty := .int) (C := R_Df) (T := F_Df) (N := 5) hx hb hg i_Df t_Df t_Df_ok n_Df hown hK hP hD hS 0 rfl rfl 4 (by decide) (hg _ mw_263) (fun _ h9 => h9) rfl (by decide +kernel) rfl rfl (Nat.le_of_ble_eq_true rfl) d_Df_forget_2 (fun H locs hP hD hS => ?_)
  have hP : va_P D vC [(h0, .inr (4, [.ref (q 0), .ref (q 1), .ref (q 2), .ref (q 3), .int 0]))] H := hP
  have hD : va_D A [(h0, .inr (4, [.ref (q 0), .ref (q 1), .ref (q 2), .ref (q 3), .int 0]))] := hD
  exact W.vret hx hb hr (fun t ht hW => ⟨⟨(), rfl, trivial, by rw [ht]; exact hP, va_K.moved hW.alike hK, hD⟩, hS.F ht⟩) hS.2.2 d_Df_forget_5
