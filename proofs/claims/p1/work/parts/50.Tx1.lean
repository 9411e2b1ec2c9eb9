/-! Text, at its end -/
abbrev oTx (h0 : Nat) (q : Nat → Nat) (z : Nat → Int32) : Nat × va_E := (h0, .inr (1, [.ref (q 0), .ref (q 1), .ref (q 2), .ref (q 3), .ref (q 4), .ref (q 5), .ref (q 6), .int (z 7), .int (z 8), .int (z 9), .int (z 10), .ref (q 11), .int (z 12), .int (z 13), .int (z 14)]))
set_option maxHeartbeats 4000000 in
set_option maxRecDepth 100000 in
/-- isDigit -/
theorem p_Tx_isDigit (l : Launch) (D : va_G) (kA : Nat → ClassId) (kS : Nat → Nat) (sz : Nat) (x : Int32) : Met l y_Tx_isDigit w_Tx_isDigit { frames := 0, cells := 0, slots := 0, locals := 0 } (xPre D vC (tK kA) kS [.int x] ([]) sz) (xt_Pi (fun y => y = if x < 48 then 0 else if 57 < x then 0 else 1)) 0 0 (fun _ => False) := by
  refine Met.ofW (cc := b_Tx_isDigit) (maxL := 1) (ret := (some .boolean)) (by decide) rfl ?_
  intro p e s m args below meth c s₁ B hml hv
  obtain ⟨rfl, hsz, hP, hK, hD0, hN, hC⟩ := hv
  have hx := B.exec
  have hb := B.bytes
  have hr := B.returns
  have hts := atoms_spec (ws := w_Tx_isDigit) B.pre
  have hg : ∀ w ∈ gW, w.before _ s = true := fun w h => hts w (List.mem_cons_of_mem _ h)
  have hown : s.vm.findClass R_Tx = some m.cls := findClass_of_methodNamed B.named
  have hlocks := B.notSynchronized
  subst hsz
  have hD := hD0.self (sz := s.heap.size)
  generalize hAe : va_A ([]) s.heap.size = A at hD hC ⊢
  have hA : ∀ q : Nat, s.heap.size ≤ q → A q := fun q h => by rw [← hAe]; exact Or.inr h
  have hS : va_S A s.heap s.heap [] := va_S.rf
  have hP : va_P D vC [] s.heap := hP
  have hD : va_D A [] := hD
  have hl := lv_entry ([.int x]) (n := 1) (Nat.le_of_ble_eq_true rfl)
  rw [lg_entry_eq]
  generalize (lg_sl ([.int x]) ++ List.replicate (1 - (lg_sl ([.int x])).length) Slot.unset).toArray = ls at hl ⊢
  have hl : lv_has ls 1 [(0, .int x)] := hl
  refine lv_iload_n hx hb d_Tx_isDigit_0 rfl (lv_at hl 0 rfl) ?_
  refine lv_bipush (v := 48) hx hb d_Tx_isDigit_1 (by decide) ?_
  refine lv_icmp_lt (tgt := 16) hx hb d_Tx_isDigit_3 (by decide) (fun c_3 => ?_) (fun c_3 => ?_)
  · skip
    refine lv_iconst (v := 0) hx hb d_Tx_isDigit_16 (by decide) ?_
    exact W.zret (v := 0) hx hb hr (rfl) (fun t ht hW => ⟨0, rfl, (if_pos c_3).symm, ht⟩) (fun q hq => by cases hq) d_Tx_isDigit_17
  · skip
    refine lv_iload_n hx hb d_Tx_isDigit_6 rfl (lv_at hl 0 rfl) ?_
    refine lv_bipush (v := 57) hx hb d_Tx_isDigit_7 (by decide) ?_
    refine lv_icmp_gt (tgt := 16) hx hb d_Tx_isDigit_9 (by decide) (fun c_9 => ?_) (fun c_9 => ?_)
    · skip
      refine lv_iconst (v := 0) hx hb d_Tx_isDigit_16 (by decide) ?_
      exact W.zret (v := 0) hx hb hr (rfl) (fun t ht hW => ⟨0, rfl, ((if_neg c_3).trans (if_pos c_9)).symm, ht⟩) (fun q hq => by cases hq) d_Tx_isDigit_17
    · skip
      refine lv_iconst (v := 1) hx hb d_Tx_isDigit_12 (by decide) ?_
      refine lv_goto (tgt := 17) hx hb d_Tx_isDigit_13 (by decide) ?_
      exact W.zret (v := 1) hx hb hr (rfl) (fun t ht hW => ⟨1, rfl, ((if_neg c_3).trans (if_neg c_9)).symm, ht⟩) (fun q hq => by cases hq) d_Tx_isDigit_17

set_option maxHeartbeats 4000000 in
set_option maxRecDepth 100000 in
/-- peek, at the end -/
theorem p_Tx_peek0 (l : Launch) (D : va_G) (kA : Nat → ClassId) (kS : Nat → Nat) (sz : Nat) (h0 : Nat) (q : Nat → Nat) (z : Nat → Int32) (h1 : z 13 ≤ z 14) : Met l y_Tx_peek w_Tx_peek { frames := 0, cells := 0, slots := 0, locals := 0 } (xPre D vC (tK kA) kS [.ref h0] ([oTx h0 q z]) sz) (xt_Pi (fun y => y = -1)) 0 0 (fun _ => False) := by
  refine Met.ofW (cc := b_Tx_peek) (maxL := 1) (ret := (some .int)) (by decide) rfl ?_
  intro p e s m args below meth c s₁ B hml hv
  obtain ⟨rfl, hsz, hP, hK, hD0, hN, hC⟩ := hv
  have hx := B.exec
  have hb := B.bytes
  have hr := B.returns
  have hts := atoms_spec (ws := w_Tx_peek) B.pre
  have hg : ∀ w ∈ gW, w.before _ s = true := fun w h => hts w (List.mem_cons_of_mem _ h)
  have hown : s.vm.findClass R_Tx = some m.cls := findClass_of_methodNamed B.named
  have hlocks := B.notSynchronized
  subst hsz
  have hD := hD0.self (sz := s.heap.size)
  generalize hAe : va_A ([oTx h0 q z]) s.heap.size = A at hD hC ⊢
  have hA : ∀ q : Nat, s.heap.size ≤ q → A q := fun q h => by rw [← hAe]; exact Or.inr h
  have hS : va_S A s.heap s.heap [] := va_S.rf
  have hP : va_P D vC [(h0, .inr (1, [.ref (q 0), .ref (q 1), .ref (q 2), .ref (q 3), .ref (q 4), .ref (q 5), .ref (q 6), .int (z 7), .int (z 8), .int (z 9), .int (z 10), .ref (q 11), .int (z 12), .int (z 13), .int (z 14)]))] s.heap := hP
  have hD : va_D A [(h0, .inr (1, [.ref (q 0), .ref (q 1), .ref (q 2), .ref (q 3), .ref (q 4), .ref (q 5), .ref (q 6), .int (z 7), .int (z 8), .int (z 9), .int (z 10), .ref (q 11), .int (z 12), .int (z 13), .int (z 14)]))] := hD
  have hl := lv_entry ([.ref h0]) (n := 1) (Nat.le_of_ble_eq_true rfl)
  rw [lg_entry_eq]
  generalize (lg_sl ([.ref h0]) ++ List.replicate (1 - (lg_sl ([.ref h0])).length) Slot.unset).toArray = ls at hl ⊢
  have hl : lv_has ls 1 [(0, .ref h0)] := hl
  refine lv_aload_n hx hb d_Tx_peek_0 rfl (lv_at hl 0 rfl) ?_
  refine va_get (D := D) (ci := 1) (v := .int (z 14)) (C := R_Tx) (T := F_Tx) (N := 15) hx hb hg i_Tx hown hK hP 0 rfl rfl 14 (by decide) (hg _ mw_106) (fun _ h9 => h9) rfl d_Tx_peek_1 ?_
  refine lv_aload_n hx hb d_Tx_peek_4 rfl (lv_at hl 0 rfl) ?_
  refine va_get (D := D) (ci := 1) (v := .int (z 13)) (C := R_Tx) (T := F_Tx) (N := 15) hx hb hg i_Tx hown hK hP 0 rfl rfl 13 (by decide) (hg _ mw_105) (fun _ h9 => h9) rfl d_Tx_peek_5 ?_
  refine lv_icmp_ge (tgt := 32) hx hb d_Tx_peek_8 (by decide) (fun c_8 => ?_) (fun c_8 => ?_)
  · skip
    refine lv_iconst (v := (-1)) hx hb d_Tx_peek_32 (by decide) ?_
    exact W.iret (v := (-1)) hx hb hr (fun t ht hW => ⟨(-1), rfl, rfl, ht⟩) (fun q hq => by cases hq) d_Tx_peek_33
  · skip
    exact absurd h1 c_8

set_option maxHeartbeats 4000000 in
set_option maxRecDepth 100000 in
/-- skipBlanks, at the end -/
theorem p_Tx_skip0 (l : Launch) (D : va_G) (kA : Nat → ClassId) (kS : Nat → Nat) (sz : Nat) (h0 : Nat) (q : Nat → Nat) (z : Nat → Int32) (h1 : z 13 ≤ z 14) : Met l y_Tx_skipBlanks w_Tx_skipBlanks { frames := 0, cells := 0, slots := 0, locals := 0 } (xPre D vC (tK kA) kS [.ref h0] ([oTx h0 q z]) sz) (xt_Pv) 0 0 (fun _ => False) := by
  refine Met.ofW (cc := b_Tx_skipBlanks) (maxL := 1) (ret := none) (by decide) rfl ?_
  intro p e s m args below meth c s₁ B hml hv
  obtain ⟨rfl, hsz, hP, hK, hD0, hN, hC⟩ := hv
  have hx := B.exec
  have hb := B.bytes
  have hr := B.returns
  have hts := atoms_spec (ws := w_Tx_skipBlanks) B.pre
  have hg : ∀ w ∈ gW, w.before _ s = true := fun w h => hts w (List.mem_cons_of_mem _ h)
  have hown : s.vm.findClass R_Tx = some m.cls := findClass_of_methodNamed B.named
  have hlocks := B.notSynchronized
  subst hsz
  have hD := hD0.self (sz := s.heap.size)
  generalize hAe : va_A ([oTx h0 q z]) s.heap.size = A at hD hC ⊢
  have hA : ∀ q : Nat, s.heap.size ≤ q → A q := fun q h => by rw [← hAe]; exact Or.inr h
  have hS : va_S A s.heap s.heap [] := va_S.rf
  have hP : va_P D vC [(h0, .inr (1, [.ref (q 0), .ref (q 1), .ref (q 2), .ref (q 3), .ref (q 4), .ref (q 5), .ref (q 6), .int (z 7), .int (z 8), .int (z 9), .int (z 10), .ref (q 11), .int (z 12), .int (z 13), .int (z 14)]))] s.heap := hP
  have hD : va_D A [(h0, .inr (1, [.ref (q 0), .ref (q 1), .ref (q 2), .ref (q 3), .ref (q 4), .ref (q 5), .ref (q 6), .int (z 7), .int (z 8), .int (z 9), .int (z 10), .ref (q 11), .int (z 12), .int (z 13), .int (z 14)]))] := hD
  have hl := lv_entry ([.ref h0]) (n := 1) (Nat.le_of_ble_eq_true rfl)
  rw [lg_entry_eq]
  generalize (lg_sl ([.ref h0]) ++ List.replicate (1 - (lg_sl ([.ref h0])).length) Slot.unset).toArray = ls at hl ⊢
  have hl : lv_has ls 1 [(0, .ref h0)] := hl
  refine lv_aload_n hx hb d_Tx_skipBlanks_0 rfl (lv_at hl 0 rfl) ?_
  refine va_get (D := D) (ci := 1) (v := .int (z 14)) (C := R_Tx) (T := F_Tx) (N := 15) hx hb hg i_Tx hown hK hP 0 rfl rfl 14 (by decide) (hg _ mw_106) (fun _ h9 => h9) rfl d_Tx_skipBlanks_1 ?_
  refine lv_aload_n hx hb d_Tx_skipBlanks_4 rfl (lv_at hl 0 rfl) ?_
  refine va_get (D := D) (ci := 1) (v := .int (z 13)) (C := R_Tx) (T := F_Tx) (N := 15) hx hb hg i_Tx hown hK hP 0 rfl rfl 13 (by decide) (hg _ mw_105) (fun _ h9 => h9) rfl d_Tx_skipBlanks_5 ?_
  refine lv_icmp_ge (tgt := 34) hx hb d_Tx_skipBlanks_8 (by decide) (fun c_8 => ?_) (fun c_8 => ?_)
  · skip
    exact W.vret hx hb hr (fun t ht hW => ⟨rfl, ht⟩) (fun q hq => by cases hq) d_Tx_skipBlanks_34
  · skip
    exact absurd h1 c_8

set_option maxHeartbeats 4000000 in
set_option maxRecDepth 100000 in
/-- failHere -/
theorem c_Tx_failHere (l : Launch) (D : va_G) (kA : Nat → ClassId) (kS : Nat → Nat) (sz : Nat) (h0 : Nat) (q : Nat → Nat) (z : Nat → Int32) : Met l y_Tx_failHere w_Tx_failHere { frames := 0, cells := 0, slots := 0, locals := 0 } (xPre D vC (tK kA) kS [.ref h0] ([oTx h0 q z]) sz) (va_Qi (fun (x : Int32) (_ : Unit) => x = -1) (xB D vC (tK kA) (fun _ => [oTx h0 q (upd z 10 (z 14))]) (va_A ([oTx h0 q z]) sz)) (va_A ([oTx h0 q z]) sz)) 0 0 (va_A ([oTx h0 q z]) sz) := by
  refine Met.ofW (cc := b_Tx_failHere) (maxL := 1) (ret := (some .int)) (by decide) rfl ?_
  intro p e s m args below meth c s₁ B hml hv
  obtain ⟨rfl, hsz, hP, hK, hD0, hN, hC⟩ := hv
  have hx := B.exec
  have hb := B.bytes
  have hr := B.returns
  have hts := atoms_spec (ws := w_Tx_failHere) B.pre
  have hg : ∀ w ∈ gW, w.before _ s = true := fun w h => hts w (List.mem_cons_of_mem _ h)
  have hown : s.vm.findClass R_Tx = some m.cls := findClass_of_methodNamed B.named
  have hlocks := B.notSynchronized
  subst hsz
  have hD := hD0.self (sz := s.heap.size)
  generalize hAe : va_A ([oTx h0 q z]) s.heap.size = A at hD hC ⊢
  have hA : ∀ q : Nat, s.heap.size ≤ q → A q := fun q h => by rw [← hAe]; exact Or.inr h
  have hS : va_S A s.heap s.heap [] := va_S.rf
  have hP : va_P D vC [(h0, .inr (1, [.ref (q 0), .ref (q 1), .ref (q 2), .ref (q 3), .ref (q 4), .ref (q 5), .ref (q 6), .int (z 7), .int (z 8), .int (z 9), .int (z 10), .ref (q 11), .int (z 12), .int (z 13), .int (z 14)]))] s.heap := hP
  have hD : va_D A [(h0, .inr (1, [.ref (q 0), .ref (q 1), .ref (q 2), .ref (q 3), .ref (q 4), .ref (q 5), .ref (q 6), .int (z 7), .int (z 8), .int (z 9), .int (z 10), .ref (q 11), .int (z 12), .int (z 13), .int (z 14)]))] := hD
  have hl := lv_entry ([.ref h0]) (n := 1) (Nat.le_of_ble_eq_true rfl)
  rw [lg_entry_eq]
  generalize (lg_sl ([.ref h0]) ++ List.replicate (1 - (lg_sl ([.ref h0])).length) Slot.unset).toArray = ls at hl ⊢
  have hl : lv_has ls 1 [(0, .ref h0)] := hl
  refine lv_aload_n hx hb d_Tx_failHere_0 rfl (lv_at hl 0 rfl) ?_
  refine lv_aload_n hx hb d_Tx_failHere_1 rfl (lv_at hl 0 rfl) ?_
  refine va_get (D := D) (ci := 1) (v := .int (z 14)) (C := R_Tx) (T := F_Tx) (N := 15) hx hb hg i_Tx hown hK hP 0 rfl rfl 14 (by decide) (hg _ mw_106) (fun _ h9 => h9) rfl d_Tx_failHere_2 ?_
  refine va_put (D := D) (ci := 1) (v := .int (z 14)) (ty := .int) (C := R_Tx) (T := F_Tx) (N := 15) hx hb hg i_Tx t_Tx t_Tx_ok n_Tx hown hK hP hD hS 0 rfl rfl 10 (by decide) (hg _ mw_101) (fun _ h9 => h9) rfl (by decide +kernel) rfl rfl (Nat.le_of_ble_eq_true rfl) d_Tx_failHere_5 (fun H locs hP hD hS => ?_)
  have hP : va_P D vC [(h0, .inr (1, [.ref (q 0), .ref (q 1), .ref (q 2), .ref (q 3), .ref (q 4), .ref (q 5), .ref (q 6), .int (z 7), .int (z 8), .int (z 9), .int (z 14), .ref (q 11), .int (z 12), .int (z 13), .int (z 14)]))] H := hP
  have hD : va_D A [(h0, .inr (1, [.ref (q 0), .ref (q 1), .ref (q 2), .ref (q 3), .ref (q 4), .ref (q 5), .ref (q 6), .int (z 7), .int (z 8), .int (z 9), .int (z 14), .ref (q 11), .int (z 12), .int (z 13), .int (z 14)]))] := hD
  refine lv_iconst (v := (-1)) hx hb d_Tx_failHere_8 (by decide) ?_
  exact W.iret (v := (-1)) hx hb hr (fun t ht hW => ⟨⟨(-1), (), rfl, rfl, by rw [ht]; exact hP, va_K.moved hW.alike hK, hD⟩, hS.F ht⟩) hS.2.2 d_Tx_failHere_9

set_option maxHeartbeats 4000000 in
set_option maxRecDepth 100000 in
/-- value, at the end -/
theorem c_Tx_value0 (l : Launch) (D : va_G) (kA : Nat → ClassId) (kS : Nat → Nat) (sz : Nat) (h0 : Nat) (q : Nat → Nat) (z : Nat → Int32) (h1 : z 13 ≤ z 14) (d1 : Int32) : Met l y_Tx_value w_Tx_value { frames := 1, cells := 0, slots := 0, locals := 20 } (xPre D vC (tK kA) kS [.ref h0, .int d1] ([oTx h0 q z]) sz) (va_Qi (fun (x : Int32) (_ : Unit) => x = -1) (xB D vC (tK kA) (fun _ => [oTx h0 q (upd z 10 (z 14))]) (va_A ([oTx h0 q z]) sz)) (va_A ([oTx h0 q z]) sz)) 0 0 (va_A ([oTx h0 q z]) sz) := by
  refine Met.ofW (cc := b_Tx_value) (maxL := 3) (ret := (some .int)) (by decide) rfl ?_
  intro p e s m args below meth c s₁ B hml hv
  obtain ⟨rfl, hsz, hP, hK, hD0, hN, hC⟩ := hv
  have hx := B.exec
  have hb := B.bytes
  have hr := B.returns
  have hts := atoms_spec (ws := w_Tx_value) B.pre
  have hg : ∀ w ∈ gW, w.before _ s = true := fun w h => hts w (List.mem_cons_of_mem _ h)
  have hown : s.vm.findClass R_Tx = some m.cls := findClass_of_methodNamed B.named
  have hlocks := B.notSynchronized
  subst hsz
  have hD := hD0.self (sz := s.heap.size)
  generalize hAe : va_A ([oTx h0 q z]) s.heap.size = A at hD hC ⊢
  have hA : ∀ q : Nat, s.heap.size ≤ q → A q := fun q h => by rw [← hAe]; exact Or.inr h
  have hS : va_S A s.heap s.heap [] := va_S.rf
  have hP : va_P D vC [(h0, .inr (1, [.ref (q 0), .ref (q 1), .ref (q 2), .ref (q 3), .ref (q 4), .ref (q 5), .ref (q 6), .int (z 7), .int (z 8), .int (z 9), .int (z 10), .ref (q 11), .int (z 12), .int (z 13), .int (z 14)]))] s.heap := hP
  have hD : va_D A [(h0, .inr (1, [.ref (q 0), .ref (q 1), .ref (q 2), .ref (q 3), .ref (q 4), .ref (q 5), .ref (q 6), .int (z 7), .int (z 8), .int (z 9), .int (z 10), .ref (q 11), .int (z 12), .int (z 13), .int (z 14)]))] := hD
  have hl := lv_entry ([.ref h0, .int d1]) (n := 3) (Nat.le_of_ble_eq_true rfl)
  rw [lg_entry_eq]
  generalize (lg_sl ([.ref h0, .int d1]) ++ List.replicate (3 - (lg_sl ([.ref h0, .int d1])).length) Slot.unset).toArray = ls at hl ⊢
  have hl : lv_has ls 3 [(0, .ref h0), (1, .int d1)] := hl
  refine lv_aload_n hx hb d_Tx_value_0 rfl (lv_at hl 0 rfl) ?_
  refine xc_pv (va_runV (As := []) (rest := []) ⟨hx, hb, hml, hown, hg⟩ (p_Tx_skip0 l D kA kS s.heap.size h0 q z h1) (cwV 0 hg (xg_V mw_554 mw_556 ms_2 mw_3 mw_557) rfl rfl rfl (by decide +kernel) ⟨Nat.le_of_ble_eq_true rfl, Nat.le_of_ble_eq_true rfl⟩) (xc_preV hK hN hC hP hD hS hA [0] (by decide) rfl 0 rfl rfl) rfl rfl hl.1 rfl (lv_room (Nat.le_of_ble_eq_true rfl)) d_Tx_value_1 ⟨Nat.le_of_ble_eq_true rfl, Nat.le_of_ble_eq_true rfl⟩) ?_
  refine lv_aload_n hx hb d_Tx_value_4 rfl (lv_at hl 0 rfl) ?_
  refine xc_pi (va_runV (As := []) (rest := []) ⟨hx, hb, hml, hown, hg⟩ (p_Tx_peek0 l D kA kS s.heap.size h0 q z h1) (cwV 0 hg (xg_V mw_558 mw_560 ms_3 mw_3 mw_561) rfl rfl rfl (by decide +kernel) ⟨Nat.le_of_ble_eq_true rfl, Nat.le_of_ble_eq_true rfl⟩) (xc_preV hK hN hC hP hD hS hA [0] (by decide) rfl 0 rfl rfl) rfl rfl hl.1 rfl (lv_room (Nat.le_of_ble_eq_true rfl)) d_Tx_value_5 ⟨Nat.le_of_ble_eq_true rfl, Nat.le_of_ble_eq_true rfl⟩) (fun r_5 hw => ?_)
  subst hw
  refine lv_istore_n (lv' := [(2, .int (-1)), (0, .ref h0), (1, .int d1)]) hx hb d_Tx_value_8 rfl hl (by decide) rfl (fun ls hl => ?_)
  refine lv_iload_n hx hb d_Tx_value_9 rfl (lv_at hl 0 rfl) ?_
  refine lv_lookup (off := 100) (tgt := 110) hx hb d_Tx_value_10 (by decide +kernel) (by decide +kernel) (by decide) ?_
  refine lv_iload_n hx hb d_Tx_value_110 rfl (lv_at hl 0 rfl) ?_
  refine lv_bipush (v := 45) hx hb d_Tx_value_111 (by decide) ?_
  refine lv_icmp_eq (tgt := 123) hx hb d_Tx_value_113 (by decide) (fun c_113 => ?_) (fun c_113 => ?_)
  · skip
    exact absurd c_113 (by decide)
  · skip
    refine lv_iload_n hx hb d_Tx_value_116 rfl (lv_at hl 0 rfl) ?_
    refine xc_pi (va_runS (As := [.int (-1)]) (rest := []) ⟨hx, hb, hml, hown, hg⟩ (p_Tx_isDigit l D kA kS s.heap.size (-1)) (cwS 1 hg (xg_S mw_679 mw_680 mw_3 mw_681) rfl rfl rfl (by decide +kernel) ⟨Nat.le_of_ble_eq_true rfl, Nat.le_of_ble_eq_true rfl⟩) (xc_pre hK hN hC hP hD hS hA [] (by decide) rfl) rfl rfl hl.1 rfl (lv_room (Nat.le_of_ble_eq_true rfl)) d_Tx_value_117 ⟨Nat.le_of_ble_eq_true rfl, Nat.le_of_ble_eq_true rfl⟩) (fun r_117 hw9 => ?_)
    refine lv_if_eq (tgt := 130) hx hb d_Tx_value_120 (by decide) (fun c_120 => ?_) (fun c_120 => ?_)
    · skip
      refine lv_aload_n hx hb d_Tx_value_130 rfl (lv_at hl 1 rfl) ?_
      refine xc_i (wr := []) (va_runV (As := []) (rest := []) ⟨hx, hb, hml, hown, hg⟩ (c_Tx_failHere l D kA kS s.heap.size h0 q z) (cwV 0 hg (xg_V mw_569 mw_571 ms_5 mw_3 mw_572) rfl rfl rfl (by decide +kernel) ⟨Nat.le_of_ble_eq_true rfl, Nat.le_of_ble_eq_true rfl⟩) (xc_preV hK hN hC hP hD hS hA [0] (by decide) rfl 0 rfl rfl) rfl rfl hl.1 rfl (lv_room (Nat.le_of_ble_eq_true rfl)) d_Tx_value_131 ⟨Nat.le_of_ble_eq_true rfl, Nat.le_of_ble_eq_true rfl⟩) hP hD hS hA [0] [] rfl rfl (by decide) (by decide) (fun r_131 u9 H locs hw hP hD hS => ?_)
      have hP : va_P D vC [(h0, .inr (1, [.ref (q 0), .ref (q 1), .ref (q 2), .ref (q 3), .ref (q 4), .ref (q 5), .ref (q 6), .int (z 7), .int (z 8), .int (z 9), .int (z 14), .ref (q 11), .int (z 12), .int (z 13), .int (z 14)]))] H := hP
      have hD : va_D A [(h0, .inr (1, [.ref (q 0), .ref (q 1), .ref (q 2), .ref (q 3), .ref (q 4), .ref (q 5), .ref (q 6), .int (z 7), .int (z 8), .int (z 9), .int (z 14), .ref (q 11), .int (z 12), .int (z 13), .int (z 14)]))] := hD
      exact W.iret (v := r_131) hx hb hr (fun t ht hW => ⟨⟨r_131, (), rfl, hw, by rw [ht]; exact hP, va_K.moved hW.alike hK, hD⟩, hS.F ht⟩) hS.2.2 d_Tx_value_134
    · skip
      exact absurd (hw9.trans (by decide)) c_120
