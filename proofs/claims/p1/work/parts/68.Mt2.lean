/-! the reference's Text on no bytes -/
theorem xE_Mt_ISE : xE_ok "RecordLakeModel$Text" 88 "java/lang/IllegalStateException" := by unfold xE_ok; decide +kernel
set_option maxHeartbeats 4000000 in
set_option maxRecDepth 100000 in
/-- fail(a, b) -/
theorem t_Mt_fail (l : Launch) (hfl : l.flags = flags0) (D : va_G) (kA : Nat → ClassId) (kS : Nat → Nat) (sz : Nat) (h0 : Nat) (q : Nat → Nat) (z : Nat → Int32) (a b : Int32) : xt_Met l y_Mt_fail w_Mt_fail { frames := 6, cells := 1, slots := 6, locals := 82 } (xPre D vC (tK kA) kS [.ref h0, .int a, .int b] ([oMt h0 q z]) sz) (xt_Q "java/lang/IllegalStateException" (fun _ : Unit => True) (xB D vC (tK kA) (fun _ => [oMt h0 q (upd (upd z 4 a) 5 b)]) (va_A ([oMt h0 q z]) sz)) (va_A ([oMt h0 q z]) sz)) 1 6 (va_A ([oMt h0 q z]) sz) := by
  refine xt_ofW (cc := b_Mt_fail) (maxL := 3) (ret := none) (by decide) rfl ?_
  intro p e s m args below meth c s₁ B hml hemp hv
  obtain ⟨rfl, hsz, hP, hK, hD0, hN, hC⟩ := hv
  have hx := B.exec
  have hb := B.bytes
  have hts := atoms_spec (ws := w_Mt_fail) B.pre
  have hg : ∀ w ∈ gW, w.before _ s = true := fun w h => hts w (List.mem_cons_of_mem _ h)
  have hown : s.vm.findClass R_Mt = some m.cls := findClass_of_methodNamed B.named
  have hlocks := B.notSynchronized
  subst hsz
  have hD := hD0.self (sz := s.heap.size)
  generalize hAe : va_A ([oMt h0 q z]) s.heap.size = A at hD hC ⊢
  have hA : ∀ q : Nat, s.heap.size ≤ q → A q := fun q h => by rw [← hAe]; exact Or.inr h
  have hS : va_S A s.heap s.heap [] := va_S.rf
  have hP : va_P D vC [(h0, .inr (12, [.ref (q 0), .int (z 1), .int (z 2), .int (z 3), .int (z 4), .int (z 5), .int (z 6), .int (z 7), .ref (q 8), .ref (q 9), .ref (q 10), .ref (q 11), .ref (q 12), .ref (q 13), .ref (q 14), .int (z 15), .int (z 16), .int (z 17), .ref (q 18), .ref (q 19), .ref (q 20), .ref (q 21), .ref (q 22), .ref (q 23), .int (z 24), .ref (q 25), .ref (q 26), .ref (q 27), .ref (q 28), .int (z 29), .ref (q 30), .int (z 31), .ref (q 32), .int (z 33), .ref (q 34)]))] s.heap := hP
  have hD : va_D A [(h0, .inr (12, [.ref (q 0), .int (z 1), .int (z 2), .int (z 3), .int (z 4), .int (z 5), .int (z 6), .int (z 7), .ref (q 8), .ref (q 9), .ref (q 10), .ref (q 11), .ref (q 12), .ref (q 13), .ref (q 14), .int (z 15), .int (z 16), .int (z 17), .ref (q 18), .ref (q 19), .ref (q 20), .ref (q 21), .ref (q 22), .ref (q 23), .int (z 24), .ref (q 25), .ref (q 26), .ref (q 27), .ref (q 28), .int (z 29), .ref (q 30), .int (z 31), .ref (q 32), .int (z 33), .ref (q 34)]))] := hD
  have hl := lv_entry ([.ref h0, .int a, .int b]) (n := 3) (Nat.le_of_ble_eq_true rfl)
  rw [lg_entry_eq]
  generalize (lg_sl ([.ref h0, .int a, .int b]) ++ List.replicate (3 - (lg_sl ([.ref h0, .int a, .int b])).length) Slot.unset).toArray = ls at hl ⊢
  have hl : lv_has ls 3 [(0, .ref h0), (1, .int a), (2, .int b)] := hl
  refine lv_aload_n hx hb d_Mt_fail_0 rfl (lv_at hl 0 rfl) ?_
  refine lv_iload_n hx hb d_Mt_fail_1 rfl (lv_at hl 1 rfl) ?_
  refine va_put (D := D) (ci := 12) (v := .int a) (ty := .int) (C := R_Mt) (T := F_Mt) (N := 35) hx hb hg i_Mt t_Mt t_Mt_ok n_Mt hown hK hP hD hS 0 rfl rfl 4 (by decide) (hg _ mw_1592) (fun _ h9 => h9) rfl (by decide +kernel) rfl rfl (Nat.le_of_ble_eq_true rfl) d_Mt_fail_2 (fun H locs hP hD hS => ?_)
  have hP : va_P D vC [(h0, .inr (12, [.ref (q 0), .int (z 1), .int (z 2), .int (z 3), .int a, .int (z 5), .int (z 6), .int (z 7), .ref (q 8), .ref (q 9), .ref (q 10), .ref (q 11), .ref (q 12), .ref (q 13), .ref (q 14), .int (z 15), .int (z 16), .int (z 17), .ref (q 18), .ref (q 19), .ref (q 20), .ref (q 21), .ref (q 22), .ref (q 23), .int (z 24), .ref (q 25), .ref (q 26), .ref (q 27), .ref (q 28), .int (z 29), .ref (q 30), .int (z 31), .ref (q 32), .int (z 33), .ref (q 34)]))] H := hP
  have hD : va_D A [(h0, .inr (12, [.ref (q 0), .int (z 1), .int (z 2), .int (z 3), .int a, .int (z 5), .int (z 6), .int (z 7), .ref (q 8), .ref (q 9), .ref (q 10), .ref (q 11), .ref (q 12), .ref (q 13), .ref (q 14), .int (z 15), .int (z 16), .int (z 17), .ref (q 18), .ref (q 19), .ref (q 20), .ref (q 21), .ref (q 22), .ref (q 23), .int (z 24), .ref (q 25), .ref (q 26), .ref (q 27), .ref (q 28), .int (z 29), .ref (q 30), .int (z 31), .ref (q 32), .int (z 33), .ref (q 34)]))] := hD
  refine lv_aload_n hx hb d_Mt_fail_5 rfl (lv_at hl 0 rfl) ?_
  refine lv_iload_n hx hb d_Mt_fail_6 rfl (lv_at hl 2 rfl) ?_
  refine va_put (D := D) (ci := 12) (v := .int b) (ty := .int) (C := R_Mt) (T := F_Mt) (N := 35) hx hb hg i_Mt t_Mt t_Mt_ok n_Mt hown hK hP hD hS 0 rfl rfl 5 (by decide) (hg _ mw_1593) (fun _ h9 => h9) rfl (by decide +kernel) rfl rfl (Nat.le_of_ble_eq_true rfl) d_Mt_fail_7 (fun H locs hP hD hS => ?_)
  have hP : va_P D vC [(h0, .inr (12, [.ref (q 0), .int (z 1), .int (z 2), .int (z 3), .int a, .int b, .int (z 6), .int (z 7), .ref (q 8), .ref (q 9), .ref (q 10), .ref (q 11), .ref (q 12), .ref (q 13), .ref (q 14), .int (z 15), .int (z 16), .int (z 17), .ref (q 18), .ref (q 19), .ref (q 20), .ref (q 21), .ref (q 22), .ref (q 23), .int (z 24), .ref (q 25), .ref (q 26), .ref (q 27), .ref (q 28), .int (z 29), .ref (q 30), .int (z 31), .ref (q 32), .int (z 33), .ref (q 34)]))] H := hP
  have hD : va_D A [(h0, .inr (12, [.ref (q 0), .int (z 1), .int (z 2), .int (z 3), .int a, .int b, .int (z 6), .int (z 7), .ref (q 8), .ref (q 9), .ref (q 10), .ref (q 11), .ref (q 12), .ref (q 13), .ref (q 14), .int (z 15), .int (z 16), .int (z 17), .ref (q 18), .ref (q 19), .ref (q 20), .ref (q 21), .ref (q 22), .ref (q 23), .int (z 24), .ref (q 25), .ref (q 26), .ref (q 27), .ref (q 28), .int (z 29), .ref (q 30), .int (z 31), .ref (q 32), .int (z 33), .ref (q 34)]))] := hD
  exact xt_newR (D := D) hx hb hfl hown (by decide +kernel) xE_fit xE_Mt_ISE hg hN hC mw_1857 mw_18 (hC.2.2 42 ("RecordLakeModel$Text", 87, "fault") rfl) hml hl.1 hemp hlocks (by decide) (by decide) (Nat.le_of_ble_eq_true rfl) (Nat.le_of_ble_eq_true rfl) d_Mt_fail_10 d_Mt_fail_13 d_Mt_fail_14 d_Mt_fail_16 d_Mt_fail_19 hK () trivial hP hD hS (fun q h => h)

set_option maxHeartbeats 4000000 in
set_option maxRecDepth 100000 in
/-- need(false, a, b) -/
theorem t_Mt_need (l : Launch) (hfl : l.flags = flags0) (D : va_G) (kA : Nat → ClassId) (kS : Nat → Nat) (sz : Nat) (h0 : Nat) (q : Nat → Nat) (z : Nat → Int32) (a b : Int32) : xt_Met l y_Mt_need w_Mt_need { frames := 7, cells := 1, slots := 6, locals := 104 } (xPre D vC (tK kA) kS [.ref h0, .int 0, .int a, .int b] ([oMt h0 q z]) sz) (xt_Q "java/lang/IllegalStateException" (fun _ : Unit => True) (xB D vC (tK kA) (fun _ => [oMt h0 q (upd (upd z 4 a) 5 b)]) (va_A ([oMt h0 q z]) sz)) (va_A ([oMt h0 q z]) sz)) 1 6 (va_A ([oMt h0 q z]) sz) := by
  refine xt_ofW (cc := b_Mt_need) (maxL := 4) (ret := none) (by decide) rfl ?_
  intro p e s m args below meth c s₁ B hml hemp hv
  obtain ⟨rfl, hsz, hP, hK, hD0, hN, hC⟩ := hv
  have hx := B.exec
  have hb := B.bytes
  have hts := atoms_spec (ws := w_Mt_need) B.pre
  have hg : ∀ w ∈ gW, w.before _ s = true := fun w h => hts w (List.mem_cons_of_mem _ h)
  have hown : s.vm.findClass R_Mt = some m.cls := findClass_of_methodNamed B.named
  have hlocks := B.notSynchronized
  subst hsz
  have hD := hD0.self (sz := s.heap.size)
  generalize hAe : va_A ([oMt h0 q z]) s.heap.size = A at hD hC ⊢
  have hA : ∀ q : Nat, s.heap.size ≤ q → A q := fun q h => by rw [← hAe]; exact Or.inr h
  have hS : va_S A s.heap s.heap [] := va_S.rf
  have hP : va_P D vC [(h0, .inr (12, [.ref (q 0), .int (z 1), .int (z 2), .int (z 3), .int (z 4), .int (z 5), .int (z 6), .int (z 7), .ref (q 8), .ref (q 9), .ref (q 10), .ref (q 11), .ref (q 12), .ref (q 13), .ref (q 14), .int (z 15), .int (z 16), .int (z 17), .ref (q 18), .ref (q 19), .ref (q 20), .ref (q 21), .ref (q 22), .ref (q 23), .int (z 24), .ref (q 25), .ref (q 26), .ref (q 27), .ref (q 28), .int (z 29), .ref (q 30), .int (z 31), .ref (q 32), .int (z 33), .ref (q 34)]))] s.heap := hP
  have hD : va_D A [(h0, .inr (12, [.ref (q 0), .int (z 1), .int (z 2), .int (z 3), .int (z 4), .int (z 5), .int (z 6), .int (z 7), .ref (q 8), .ref (q 9), .ref (q 10), .ref (q 11), .ref (q 12), .ref (q 13), .ref (q 14), .int (z 15), .int (z 16), .int (z 17), .ref (q 18), .ref (q 19), .ref (q 20), .ref (q 21), .ref (q 22), .ref (q 23), .int (z 24), .ref (q 25), .ref (q 26), .ref (q 27), .ref (q 28), .int (z 29), .ref (q 30), .int (z 31), .ref (q 32), .int (z 33), .ref (q 34)]))] := hD
  have hl := lv_entry ([.ref h0, .int 0, .int a, .int b]) (n := 4) (Nat.le_of_ble_eq_true rfl)
  rw [lg_entry_eq]
  generalize (lg_sl ([.ref h0, .int 0, .int a, .int b]) ++ List.replicate (4 - (lg_sl ([.ref h0, .int 0, .int a, .int b])).length) Slot.unset).toArray = ls at hl ⊢
  have hl : lv_has ls 4 [(0, .ref h0), (1, .int 0), (2, .int a), (3, .int b)] := hl
  refine lv_iload_n hx hb d_Mt_need_0 rfl (lv_at hl 1 rfl) ?_
  refine lv_if_ne (tgt := 10) hx hb d_Mt_need_1 (by decide) (fun c_1 => absurd rfl c_1) (fun c_1 => ?_)
  refine lv_aload_n hx hb d_Mt_need_4 rfl (lv_at hl 0 rfl) ?_
  refine lv_iload_n hx hb d_Mt_need_5 rfl (lv_at hl 2 rfl) ?_
  refine lv_iload_n hx hb d_Mt_need_6 rfl (lv_at hl 3 rfl) ?_
  exact xc_o (wr := []) (xt_runV (As := [.int a, .int b]) (rest := []) ⟨hx, hb, hml, hown, hg⟩ (t_Mt_fail l hfl D kA kS s.heap.size h0 q z a b) (cwV 2 hg (xg_V mw_1878 mw_1880 ms_104 mw_14 mw_1881) rfl rfl rfl (by decide +kernel) ⟨Nat.le_of_ble_eq_true rfl, Nat.le_of_ble_eq_true rfl⟩) (xc_preV hK hN hC hP hD hS hA [0] (by decide) rfl 0 rfl rfl) rfl rfl hl.1 rfl (lv_room (Nat.le_of_ble_eq_true rfl)) d_Mt_need_7 ⟨Nat.le_of_ble_eq_true rfl, Nat.le_of_ble_eq_true rfl⟩) hK hP hD hS hA [0] [] rfl rfl (by decide) (by decide) hemp hlocks (fun q h => h) (fun u _ => ⟨(), trivial, fun H1 hP1 hD1 => ⟨hP1.sub [0] rfl, hD1.sub [0] (by decide) rfl⟩⟩)

set_option maxHeartbeats 4000000 in
set_option maxRecDepth 100000 in
/-- need(true, a, b) -/
theorem p_Mt_need (l : Launch) (D : va_G) (kA : Nat → ClassId) (kS : Nat → Nat) (sz : Nat) (h0 : Nat) (q : Nat → Nat) (z : Nat → Int32) (a b : Int32) : Met l y_Mt_need w_Mt_need { frames := 0, cells := 0, slots := 0, locals := 0 } (xPre D vC (tK kA) kS [.ref h0, .int 1, .int a, .int b] ([oMt h0 q z]) sz) (xt_Pv) 0 0 (fun _ => False) := by
  refine Met.ofW (cc := b_Mt_need) (maxL := 4) (ret := none) (by decide) rfl ?_
  intro p e s m args below meth c s₁ B hml hv
  obtain ⟨rfl, hsz, hP, hK, hD0, hN, hC⟩ := hv
  have hx := B.exec
  have hb := B.bytes
  have hr := B.returns
  have hts := atoms_spec (ws := w_Mt_need) B.pre
  have hg : ∀ w ∈ gW, w.before _ s = true := fun w h => hts w (List.mem_cons_of_mem _ h)
  have hown : s.vm.findClass R_Mt = some m.cls := findClass_of_methodNamed B.named
  have hlocks := B.notSynchronized
  subst hsz
  have hD := hD0.self (sz := s.heap.size)
  generalize hAe : va_A ([oMt h0 q z]) s.heap.size = A at hD hC ⊢
  have hA : ∀ q : Nat, s.heap.size ≤ q → A q := fun q h => by rw [← hAe]; exact Or.inr h
  have hS : va_S A s.heap s.heap [] := va_S.rf
  have hP : va_P D vC [(h0, .inr (12, [.ref (q 0), .int (z 1), .int (z 2), .int (z 3), .int (z 4), .int (z 5), .int (z 6), .int (z 7), .ref (q 8), .ref (q 9), .ref (q 10), .ref (q 11), .ref (q 12), .ref (q 13), .ref (q 14), .int (z 15), .int (z 16), .int (z 17), .ref (q 18), .ref (q 19), .ref (q 20), .ref (q 21), .ref (q 22), .ref (q 23), .int (z 24), .ref (q 25), .ref (q 26), .ref (q 27), .ref (q 28), .int (z 29), .ref (q 30), .int (z 31), .ref (q 32), .int (z 33), .ref (q 34)]))] s.heap := hP
  have hD : va_D A [(h0, .inr (12, [.ref (q 0), .int (z 1), .int (z 2), .int (z 3), .int (z 4), .int (z 5), .int (z 6), .int (z 7), .ref (q 8), .ref (q 9), .ref (q 10), .ref (q 11), .ref (q 12), .ref (q 13), .ref (q 14), .int (z 15), .int (z 16), .int (z 17), .ref (q 18), .ref (q 19), .ref (q 20), .ref (q 21), .ref (q 22), .ref (q 23), .int (z 24), .ref (q 25), .ref (q 26), .ref (q 27), .ref (q 28), .int (z 29), .ref (q 30), .int (z 31), .ref (q 32), .int (z 33), .ref (q 34)]))] := hD
  have hl := lv_entry ([.ref h0, .int 1, .int a, .int b]) (n := 4) (Nat.le_of_ble_eq_true rfl)
  rw [lg_entry_eq]
  generalize (lg_sl ([.ref h0, .int 1, .int a, .int b]) ++ List.replicate (4 - (lg_sl ([.ref h0, .int 1, .int a, .int b])).length) Slot.unset).toArray = ls at hl ⊢
  have hl : lv_has ls 4 [(0, .ref h0), (1, .int 1), (2, .int a), (3, .int b)] := hl
  refine lv_iload_n hx hb d_Mt_need_0 rfl (lv_at hl 1 rfl) ?_
  refine lv_if_ne (tgt := 10) hx hb d_Mt_need_1 (by decide) (fun c_1 => ?_) (fun c_1 => absurd c_1 (by decide))
  exact W.vret hx hb hr (fun t ht hW => ⟨rfl, ht⟩) (fun q hq => by cases hq) d_Mt_need_10

set_option maxHeartbeats 4000000 in
set_option maxRecDepth 100000 in
/-- take, at the end -/
theorem t_Mt_take0 (l : Launch) (hfl : l.flags = flags0) (D : va_G) (kA : Nat → ClassId) (kS : Nat → Nat) (sz : Nat) (h0 : Nat) (q : Nat → Nat) (z : Nat → Int32) (h1 : z 1 ≤ z 2) (c1 : Int32) (hc1 : ¬ -1 = c1) : xt_Met l y_Mt_take w_Mt_take { frames := 8, cells := 1, slots := 6, locals := 127 } (xPre D vC (tK kA) kS [.ref h0, .int c1] ([oMt h0 q z]) sz) (xt_Q "java/lang/IllegalStateException" (fun _ : Unit => True) (xB D vC (tK kA) (fun _ => [oMt h0 q (upd (upd z 4 1) 5 (z 2))]) (va_A ([oMt h0 q z]) sz)) (va_A ([oMt h0 q z]) sz)) 1 6 (va_A ([oMt h0 q z]) sz) := by
  refine xt_ofW (cc := b_Mt_take) (maxL := 2) (ret := none) (by decide) rfl ?_
  intro p e s m args below meth c s₁ B hml hemp hv
  obtain ⟨rfl, hsz, hP, hK, hD0, hN, hC⟩ := hv
  have hx := B.exec
  have hb := B.bytes
  have hts := atoms_spec (ws := w_Mt_take) B.pre
  have hg : ∀ w ∈ gW, w.before _ s = true := fun w h => hts w (List.mem_cons_of_mem _ h)
  have hown : s.vm.findClass R_Mt = some m.cls := findClass_of_methodNamed B.named
  have hlocks := B.notSynchronized
  subst hsz
  have hD := hD0.self (sz := s.heap.size)
  generalize hAe : va_A ([oMt h0 q z]) s.heap.size = A at hD hC ⊢
  have hA : ∀ q : Nat, s.heap.size ≤ q → A q := fun q h => by rw [← hAe]; exact Or.inr h
  have hS : va_S A s.heap s.heap [] := va_S.rf
  have hP : va_P D vC [(h0, .inr (12, [.ref (q 0), .int (z 1), .int (z 2), .int (z 3), .int (z 4), .int (z 5), .int (z 6), .int (z 7), .ref (q 8), .ref (q 9), .ref (q 10), .ref (q 11), .ref (q 12), .ref (q 13), .ref (q 14), .int (z 15), .int (z 16), .int (z 17), .ref (q 18), .ref (q 19), .ref (q 20), .ref (q 21), .ref (q 22), .ref (q 23), .int (z 24), .ref (q 25), .ref (q 26), .ref (q 27), .ref (q 28), .int (z 29), .ref (q 30), .int (z 31), .ref (q 32), .int (z 33), .ref (q 34)]))] s.heap := hP
  have hD : va_D A [(h0, .inr (12, [.ref (q 0), .int (z 1), .int (z 2), .int (z 3), .int (z 4), .int (z 5), .int (z 6), .int (z 7), .ref (q 8), .ref (q 9), .ref (q 10), .ref (q 11), .ref (q 12), .ref (q 13), .ref (q 14), .int (z 15), .int (z 16), .int (z 17), .ref (q 18), .ref (q 19), .ref (q 20), .ref (q 21), .ref (q 22), .ref (q 23), .int (z 24), .ref (q 25), .ref (q 26), .ref (q 27), .ref (q 28), .int (z 29), .ref (q 30), .int (z 31), .ref (q 32), .int (z 33), .ref (q 34)]))] := hD
  have hl := lv_entry ([.ref h0, .int c1]) (n := 2) (Nat.le_of_ble_eq_true rfl)
  rw [lg_entry_eq]
  generalize (lg_sl ([.ref h0, .int c1]) ++ List.replicate (2 - (lg_sl ([.ref h0, .int c1])).length) Slot.unset).toArray = ls at hl ⊢
  have hl : lv_has ls 2 [(0, .ref h0), (1, .int c1)] := hl
  refine lv_aload_n hx hb d_Mt_take_0 rfl (lv_at hl 0 rfl) ?_
  refine lv_aload_n hx hb d_Mt_take_1 rfl (lv_at hl 0 rfl) ?_
  refine xc_pi (va_runV (As := []) (rest := [.ref h0]) ⟨hx, hb, hml, hown, hg⟩ (p_Mt_look0 l D kA kS s.heap.size h0 q z h1) (cwV 0 hg (xg_V mw_1866 mw_1868 ms_101 mw_14 mw_1869) rfl rfl rfl (by decide +kernel) ⟨Nat.le_of_ble_eq_true rfl, Nat.le_of_ble_eq_true rfl⟩) (xc_preV hK hN hC hP hD hS hA [0] (by decide) rfl 0 rfl rfl) rfl rfl hl.1 rfl (lv_room (Nat.le_of_ble_eq_true rfl)) d_Mt_take_2 ⟨Nat.le_of_ble_eq_true rfl, Nat.le_of_ble_eq_true rfl⟩) (fun r_2 hw0 => ?_)
  subst hw0
  refine lv_iload_n hx hb d_Mt_take_5 rfl (lv_at hl 1 rfl) ?_
  refine lv_icmp_ne (tgt := 13) hx hb d_Mt_take_6 (by decide) (fun c_6 => ?_) (fun c_6 => absurd c_6 hc1)
  refine lv_iconst (v := 0) hx hb d_Mt_take_13 (by decide) ?_
  refine lv_iconst (v := 1) hx hb d_Mt_take_14 (by decide) ?_
  refine lv_aload_n hx hb d_Mt_take_15 rfl (lv_at hl 0 rfl) ?_
  refine va_get (D := D) (ci := 12) (v := .int (z 2)) (C := R_Mt) (T := F_Mt) (N := 35) hx hb hg i_Mt hown hK hP 0 rfl rfl 2 (by decide) (hg _ mw_1590) (fun _ h9 => h9) rfl d_Mt_take_16 ?_
  exact xc_o (wr := []) (xt_runV (As := [.int 0, .int 1, .int (z 2)]) (rest := []) ⟨hx, hb, hml, hown, hg⟩ (t_Mt_need l hfl D kA kS s.heap.size h0 q z 1 (z 2)) (cwV 3 hg (xg_V mw_1874 mw_1876 ms_103 mw_14 mw_1877) rfl rfl rfl (by decide +kernel) ⟨Nat.le_of_ble_eq_true rfl, Nat.le_of_ble_eq_true rfl⟩) (xc_preV hK hN hC hP hD hS hA [0] (by decide) rfl 0 rfl rfl) rfl rfl hl.1 rfl (lv_room (Nat.le_of_ble_eq_true rfl)) d_Mt_take_19 ⟨Nat.le_of_ble_eq_true rfl, Nat.le_of_ble_eq_true rfl⟩) hK hP hD hS hA [0] [] rfl rfl (by decide) (by decide) hemp hlocks (fun q h => h) (fun u _ => ⟨(), trivial, fun H1 hP1 hD1 => ⟨hP1.sub [0] rfl, hD1.sub [0] (by decide) rfl⟩⟩)

set_option maxHeartbeats 4000000 in
set_option maxRecDepth 100000 in
/-- node(k) -/
theorem c_Mt_node (l : Launch) (D : va_G) (kA : Nat → ClassId) (kS : Nat → Nat) (sz : Nat) (h0 : Nat) (q : Nat → Nat) (z : Nat → Int32) (f1 f2 f4 f5 f6 : Nat → Int32) (f3 : Nat → Int64) (n : Nat) (hn : n < 4200) (k : Int32) : Met l y_Mt_node w_Mt_node { frames := 0, cells := 0, slots := 0, locals := 0 } (xPre D vC (tK kA) kS [.ref h0, .int k] ([oMt h0 q (upd z 7 (nI n)), (q 8, .inl (kA 1, 4200, .inl f1)), (q 9, .inl (kA 1, 4200, .inl f2)), (q 10, .inl (kA 2, 4200, .inr (.inl f3))), (q 11, .inl (kA 1, 4200, .inl f4)), (q 12, .inl (kA 1, 4200, .inl f5)), (q 13, .inl (kA 1, 4200, .inl f6))]) sz) (va_Qi (fun (x : Int32) (_ : Unit) => x = nI n) (xB D vC (tK kA) (fun _ => [oMt h0 q (upd z 7 (nI (n + 1))), (q 8, .inl (kA 1, 4200, .inl (upd f1 n k))), (q 9, .inl (kA 1, 4200, .inl (upd f2 n (z 2)))), (q 10, .inl (kA 2, 4200, .inr (.inl (vp_updL f3 n 0)))), (q 11, .inl (kA 1, 4200, .inl (upd f4 n 0))), (q 12, .inl (kA 1, 4200, .inl (upd f5 n (-1)))), (q 13, .inl (kA 1, 4200, .inl (upd f6 n (-1))))]) (va_A ([oMt h0 q (upd z 7 (nI n)), (q 8, .inl (kA 1, 4200, .inl f1)), (q 9, .inl (kA 1, 4200, .inl f2)), (q 10, .inl (kA 2, 4200, .inr (.inl f3))), (q 11, .inl (kA 1, 4200, .inl f4)), (q 12, .inl (kA 1, 4200, .inl f5)), (q 13, .inl (kA 1, 4200, .inl f6))]) sz)) (va_A ([oMt h0 q (upd z 7 (nI n)), (q 8, .inl (kA 1, 4200, .inl f1)), (q 9, .inl (kA 1, 4200, .inl f2)), (q 10, .inl (kA 2, 4200, .inr (.inl f3))), (q 11, .inl (kA 1, 4200, .inl f4)), (q 12, .inl (kA 1, 4200, .inl f5)), (q 13, .inl (kA 1, 4200, .inl f6))]) sz)) 0 0 (va_A ([oMt h0 q (upd z 7 (nI n)), (q 8, .inl (kA 1, 4200, .inl f1)), (q 9, .inl (kA 1, 4200, .inl f2)), (q 10, .inl (kA 2, 4200, .inr (.inl f3))), (q 11, .inl (kA 1, 4200, .inl f4)), (q 12, .inl (kA 1, 4200, .inl f5)), (q 13, .inl (kA 1, 4200, .inl f6))]) sz) := by
  refine Met.ofW (cc := b_Mt_node) (maxL := 2) (ret := (some .int)) (by decide) rfl ?_
  intro p e s m args below meth c s₁ B hml hv
  obtain ⟨rfl, hsz, hP, hK, hD0, hN, hC⟩ := hv
  have hx := B.exec
  have hb := B.bytes
  have hr := B.returns
  have hts := atoms_spec (ws := w_Mt_node) B.pre
  have hg : ∀ w ∈ gW, w.before _ s = true := fun w h => hts w (List.mem_cons_of_mem _ h)
  have hown : s.vm.findClass R_Mt = some m.cls := findClass_of_methodNamed B.named
  have hlocks := B.notSynchronized
  subst hsz
  have hD := hD0.self (sz := s.heap.size)
  generalize hAe : va_A ([oMt h0 q (upd z 7 (nI n)), (q 8, .inl (kA 1, 4200, .inl f1)), (q 9, .inl (kA 1, 4200, .inl f2)), (q 10, .inl (kA 2, 4200, .inr (.inl f3))), (q 11, .inl (kA 1, 4200, .inl f4)), (q 12, .inl (kA 1, 4200, .inl f5)), (q 13, .inl (kA 1, 4200, .inl f6))]) s.heap.size = A at hD hC ⊢
  have hA : ∀ q : Nat, s.heap.size ≤ q → A q := fun q h => by rw [← hAe]; exact Or.inr h
  have hS : va_S A s.heap s.heap [] := va_S.rf
  have hP : va_P D vC [(h0, .inr (12, [.ref (q 0), .int (z 1), .int (z 2), .int (z 3), .int (z 4), .int (z 5), .int (z 6), .int (nI n), .ref (q 8), .ref (q 9), .ref (q 10), .ref (q 11), .ref (q 12), .ref (q 13), .ref (q 14), .int (z 15), .int (z 16), .int (z 17), .ref (q 18), .ref (q 19), .ref (q 20), .ref (q 21), .ref (q 22), .ref (q 23), .int (z 24), .ref (q 25), .ref (q 26), .ref (q 27), .ref (q 28), .int (z 29), .ref (q 30), .int (z 31), .ref (q 32), .int (z 33), .ref (q 34)])), (q 8, .inl (kA 1, 4200, .inl f1)), (q 9, .inl (kA 1, 4200, .inl f2)), (q 10, .inl (kA 2, 4200, .inr (.inl f3))), (q 11, .inl (kA 1, 4200, .inl f4)), (q 12, .inl (kA 1, 4200, .inl f5)), (q 13, .inl (kA 1, 4200, .inl f6))] s.heap := hP
  have hD : va_D A [(h0, .inr (12, [.ref (q 0), .int (z 1), .int (z 2), .int (z 3), .int (z 4), .int (z 5), .int (z 6), .int (nI n), .ref (q 8), .ref (q 9), .ref (q 10), .ref (q 11), .ref (q 12), .ref (q 13), .ref (q 14), .int (z 15), .int (z 16), .int (z 17), .ref (q 18), .ref (q 19), .ref (q 20), .ref (q 21), .ref (q 22), .ref (q 23), .int (z 24), .ref (q 25), .ref (q 26), .ref (q 27), .ref (q 28), .int (z 29), .ref (q 30), .int (z 31), .ref (q 32), .int (z 33), .ref (q 34)])), (q 8, .inl (kA 1, 4200, .inl f1)), (q 9, .inl (kA 1, 4200, .inl f2)), (q 10, .inl (kA 2, 4200, .inr (.inl f3))), (q 11, .inl (kA 1, 4200, .inl f4)), (q 12, .inl (kA 1, 4200, .inl f5)), (q 13, .inl (kA 1, 4200, .inl f6))] := hD
  have hl := lv_entry ([.ref h0, .int k]) (n := 2) (Nat.le_of_ble_eq_true rfl)
  rw [lg_entry_eq]
  generalize (lg_sl ([.ref h0, .int k]) ++ List.replicate (2 - (lg_sl ([.ref h0, .int k])).length) Slot.unset).toArray = ls at hl ⊢
  have hl : lv_has ls 2 [(0, .ref h0), (1, .int k)] := hl
  refine lv_aload_n hx hb d_Mt_node_0 rfl (lv_at hl 0 rfl) ?_
  refine va_get (D := D) (ci := 12) (v := .ref (q 8)) (C := R_Mt) (T := F_Mt) (N := 35) hx hb hg i_Mt hown hK hP 0 rfl rfl 8 (by decide) (hg _ mw_1598) (fun _ h9 => h9) rfl d_Mt_node_1 ?_
  refine lv_aload_n hx hb d_Mt_node_4 rfl (lv_at hl 0 rfl) ?_
  refine va_get (D := D) (ci := 12) (v := .int (nI n)) (C := R_Mt) (T := F_Mt) (N := 35) hx hb hg i_Mt hown hK hP 0 rfl rfl 7 (by decide) (hg _ mw_1597) (fun _ h9 => h9) rfl d_Mt_node_5 ?_
  refine lv_iload_n hx hb d_Mt_node_8 rfl (lv_at hl 1 rfl) ?_
  refine xb_iast hx hb hK hP hD hS 1 1 rfl rfl (by omega) (by omega) d_Mt_node_9 (fun H locs hP hD hS => ?_)
  have hP : va_P D vC [(h0, .inr (12, [.ref (q 0), .int (z 1), .int (z 2), .int (z 3), .int (z 4), .int (z 5), .int (z 6), .int (nI n), .ref (q 8), .ref (q 9), .ref (q 10), .ref (q 11), .ref (q 12), .ref (q 13), .ref (q 14), .int (z 15), .int (z 16), .int (z 17), .ref (q 18), .ref (q 19), .ref (q 20), .ref (q 21), .ref (q 22), .ref (q 23), .int (z 24), .ref (q 25), .ref (q 26), .ref (q 27), .ref (q 28), .int (z 29), .ref (q 30), .int (z 31), .ref (q 32), .int (z 33), .ref (q 34)])), (q 8, .inl (kA 1, 4200, .inl (upd f1 n k))), (q 9, .inl (kA 1, 4200, .inl f2)), (q 10, .inl (kA 2, 4200, .inr (.inl f3))), (q 11, .inl (kA 1, 4200, .inl f4)), (q 12, .inl (kA 1, 4200, .inl f5)), (q 13, .inl (kA 1, 4200, .inl f6))] H := hP
  have hD : va_D A [(h0, .inr (12, [.ref (q 0), .int (z 1), .int (z 2), .int (z 3), .int (z 4), .int (z 5), .int (z 6), .int (nI n), .ref (q 8), .ref (q 9), .ref (q 10), .ref (q 11), .ref (q 12), .ref (q 13), .ref (q 14), .int (z 15), .int (z 16), .int (z 17), .ref (q 18), .ref (q 19), .ref (q 20), .ref (q 21), .ref (q 22), .ref (q 23), .int (z 24), .ref (q 25), .ref (q 26), .ref (q 27), .ref (q 28), .int (z 29), .ref (q 30), .int (z 31), .ref (q 32), .int (z 33), .ref (q 34)])), (q 8, .inl (kA 1, 4200, .inl (upd f1 n k))), (q 9, .inl (kA 1, 4200, .inl f2)), (q 10, .inl (kA 2, 4200, .inr (.inl f3))), (q 11, .inl (kA 1, 4200, .inl f4)), (q 12, .inl (kA 1, 4200, .inl f5)), (q 13, .inl (kA 1, 4200, .inl f6))] := hD
  refine lv_aload_n hx hb d_Mt_node_10 rfl (lv_at hl 0 rfl) ?_
  refine va_get (D := D) (ci := 12) (v := .ref (q 9)) (C := R_Mt) (T := F_Mt) (N := 35) hx hb hg i_Mt hown hK hP 0 rfl rfl 9 (by decide) (hg _ mw_1600) (fun _ h9 => h9) rfl d_Mt_node_11 ?_
  refine lv_aload_n hx hb d_Mt_node_14 rfl (lv_at hl 0 rfl) ?_
  refine va_get (D := D) (ci := 12) (v := .int (nI n)) (C := R_Mt) (T := F_Mt) (N := 35) hx hb hg i_Mt hown hK hP 0 rfl rfl 7 (by decide) (hg _ mw_1597) (fun _ h9 => h9) rfl d_Mt_node_15 ?_
  refine lv_aload_n hx hb d_Mt_node_18 rfl (lv_at hl 0 rfl) ?_
  refine va_get (D := D) (ci := 12) (v := .int (z 2)) (C := R_Mt) (T := F_Mt) (N := 35) hx hb hg i_Mt hown hK hP 0 rfl rfl 2 (by decide) (hg _ mw_1590) (fun _ h9 => h9) rfl d_Mt_node_19 ?_
  refine xb_iast hx hb hK hP hD hS 2 1 rfl rfl (by omega) (by omega) d_Mt_node_22 (fun H locs hP hD hS => ?_)
  have hP : va_P D vC [(h0, .inr (12, [.ref (q 0), .int (z 1), .int (z 2), .int (z 3), .int (z 4), .int (z 5), .int (z 6), .int (nI n), .ref (q 8), .ref (q 9), .ref (q 10), .ref (q 11), .ref (q 12), .ref (q 13), .ref (q 14), .int (z 15), .int (z 16), .int (z 17), .ref (q 18), .ref (q 19), .ref (q 20), .ref (q 21), .ref (q 22), .ref (q 23), .int (z 24), .ref (q 25), .ref (q 26), .ref (q 27), .ref (q 28), .int (z 29), .ref (q 30), .int (z 31), .ref (q 32), .int (z 33), .ref (q 34)])), (q 8, .inl (kA 1, 4200, .inl (upd f1 n k))), (q 9, .inl (kA 1, 4200, .inl (upd f2 n (z 2)))), (q 10, .inl (kA 2, 4200, .inr (.inl f3))), (q 11, .inl (kA 1, 4200, .inl f4)), (q 12, .inl (kA 1, 4200, .inl f5)), (q 13, .inl (kA 1, 4200, .inl f6))] H := hP
  have hD : va_D A [(h0, .inr (12, [.ref (q 0), .int (z 1), .int (z 2), .int (z 3), .int (z 4), .int (z 5), .int (z 6), .int (nI n), .ref (q 8), .ref (q 9), .ref (q 10), .ref (q 11), .ref (q 12), .ref (q 13), .ref (q 14), .int (z 15), .int (z 16), .int (z 17), .ref (q 18), .ref (q 19), .ref (q 20), .ref (q 21), .ref (q 22), .ref (q 23), .int (z 24), .ref (q 25), .ref (q 26), .ref (q 27), .ref (q 28), .int (z 29), .ref (q 30), .int (z 31), .ref (q 32), .int (z 33), .ref (q 34)])), (q 8, .inl (kA 1, 4200, .inl (upd f1 n k))), (q 9, .inl (kA 1, 4200, .inl (upd f2 n (z 2)))), (q 10, .inl (kA 2, 4200, .inr (.inl f3))), (q 11, .inl (kA 1, 4200, .inl f4)), (q 12, .inl (kA 1, 4200, .inl f5)), (q 13, .inl (kA 1, 4200, .inl f6))] := hD
  refine lv_aload_n hx hb d_Mt_node_23 rfl (lv_at hl 0 rfl) ?_
  refine va_get (D := D) (ci := 12) (v := .ref (q 10)) (C := R_Mt) (T := F_Mt) (N := 35) hx hb hg i_Mt hown hK hP 0 rfl rfl 10 (by decide) (hg _ mw_1601) (fun _ h9 => h9) rfl d_Mt_node_24 ?_
  refine lv_aload_n hx hb d_Mt_node_27 rfl (lv_at hl 0 rfl) ?_
  refine va_get (D := D) (ci := 12) (v := .int (nI n)) (C := R_Mt) (T := F_Mt) (N := 35) hx hb hg i_Mt hown hK hP 0 rfl rfl 7 (by decide) (hg _ mw_1597) (fun _ h9 => h9) rfl d_Mt_node_28 ?_
  refine lv_lconst (v := 0) hx hb d_Mt_node_31 (by decide) ?_
  refine xb_last hx hb hK hP hD hS 3 2 rfl rfl (by omega) (by omega) d_Mt_node_32 (fun H locs hP hD hS => ?_)
  have hP : va_P D vC [(h0, .inr (12, [.ref (q 0), .int (z 1), .int (z 2), .int (z 3), .int (z 4), .int (z 5), .int (z 6), .int (nI n), .ref (q 8), .ref (q 9), .ref (q 10), .ref (q 11), .ref (q 12), .ref (q 13), .ref (q 14), .int (z 15), .int (z 16), .int (z 17), .ref (q 18), .ref (q 19), .ref (q 20), .ref (q 21), .ref (q 22), .ref (q 23), .int (z 24), .ref (q 25), .ref (q 26), .ref (q 27), .ref (q 28), .int (z 29), .ref (q 30), .int (z 31), .ref (q 32), .int (z 33), .ref (q 34)])), (q 8, .inl (kA 1, 4200, .inl (upd f1 n k))), (q 9, .inl (kA 1, 4200, .inl (upd f2 n (z 2)))), (q 10, .inl (kA 2, 4200, .inr (.inl (vp_updL f3 n 0)))), (q 11, .inl (kA 1, 4200, .inl f4)), (q 12, .inl (kA 1, 4200, .inl f5)), (q 13, .inl (kA 1, 4200, .inl f6))] H := hP
  have hD : va_D A [(h0, .inr (12, [.ref (q 0), .int (z 1), .int (z 2), .int (z 3), .int (z 4), .int (z 5), .int (z 6), .int (nI n), .ref (q 8), .ref (q 9), .ref (q 10), .ref (q 11), .ref (q 12), .ref (q 13), .ref (q 14), .int (z 15), .int (z 16), .int (z 17), .ref (q 18), .ref (q 19), .ref (q 20), .ref (q 21), .ref (q 22), .ref (q 23), .int (z 24), .ref (q 25), .ref (q 26), .ref (q 27), .ref (q 28), .int (z 29), .ref (q 30), .int (z 31), .ref (q 32), .int (z 33), .ref (q 34)])), (q 8, .inl (kA 1, 4200, .inl (upd f1 n k))), (q 9, .inl (kA 1, 4200, .inl (upd f2 n (z 2)))), (q 10, .inl (kA 2, 4200, .inr (.inl (vp_updL f3 n 0)))), (q 11, .inl (kA 1, 4200, .inl f4)), (q 12, .inl (kA 1, 4200, .inl f5)), (q 13, .inl (kA 1, 4200, .inl f6))] := hD
  refine lv_aload_n hx hb d_Mt_node_33 rfl (lv_at hl 0 rfl) ?_
  refine va_get (D := D) (ci := 12) (v := .ref (q 11)) (C := R_Mt) (T := F_Mt) (N := 35) hx hb hg i_Mt hown hK hP 0 rfl rfl 11 (by decide) (hg _ mw_1603) (fun _ h9 => h9) rfl d_Mt_node_34 ?_
  refine lv_aload_n hx hb d_Mt_node_37 rfl (lv_at hl 0 rfl) ?_
  refine va_get (D := D) (ci := 12) (v := .int (nI n)) (C := R_Mt) (T := F_Mt) (N := 35) hx hb hg i_Mt hown hK hP 0 rfl rfl 7 (by decide) (hg _ mw_1597) (fun _ h9 => h9) rfl d_Mt_node_38 ?_
  refine lv_iconst (v := 0) hx hb d_Mt_node_41 (by decide) ?_
  refine xb_iast hx hb hK hP hD hS 4 1 rfl rfl (by omega) (by omega) d_Mt_node_42 (fun H locs hP hD hS => ?_)
  have hP : va_P D vC [(h0, .inr (12, [.ref (q 0), .int (z 1), .int (z 2), .int (z 3), .int (z 4), .int (z 5), .int (z 6), .int (nI n), .ref (q 8), .ref (q 9), .ref (q 10), .ref (q 11), .ref (q 12), .ref (q 13), .ref (q 14), .int (z 15), .int (z 16), .int (z 17), .ref (q 18), .ref (q 19), .ref (q 20), .ref (q 21), .ref (q 22), .ref (q 23), .int (z 24), .ref (q 25), .ref (q 26), .ref (q 27), .ref (q 28), .int (z 29), .ref (q 30), .int (z 31), .ref (q 32), .int (z 33), .ref (q 34)])), (q 8, .inl (kA 1, 4200, .inl (upd f1 n k))), (q 9, .inl (kA 1, 4200, .inl (upd f2 n (z 2)))), (q 10, .inl (kA 2, 4200, .inr (.inl (vp_updL f3 n 0)))), (q 11, .inl (kA 1, 4200, .inl (upd f4 n 0))), (q 12, .inl (kA 1, 4200, .inl f5)), (q 13, .inl (kA 1, 4200, .inl f6))] H := hP
  have hD : va_D A [(h0, .inr (12, [.ref (q 0), .int (z 1), .int (z 2), .int (z 3), .int (z 4), .int (z 5), .int (z 6), .int (nI n), .ref (q 8), .ref (q 9), .ref (q 10), .ref (q 11), .ref (q 12), .ref (q 13), .ref (q 14), .int (z 15), .int (z 16), .int (z 17), .ref (q 18), .ref (q 19), .ref (q 20), .ref (q 21), .ref (q 22), .ref (q 23), .int (z 24), .ref (q 25), .ref (q 26), .ref (q 27), .ref (q 28), .int (z 29), .ref (q 30), .int (z 31), .ref (q 32), .int (z 33), .ref (q 34)])), (q 8, .inl (kA 1, 4200, .inl (upd f1 n k))), (q 9, .inl (kA 1, 4200, .inl (upd f2 n (z 2)))), (q 10, .inl (kA 2, 4200, .inr (.inl (vp_updL f3 n 0)))), (q 11, .inl (kA 1, 4200, .inl (upd f4 n 0))), (q 12, .inl (kA 1, 4200, .inl f5)), (q 13, .inl (kA 1, 4200, .inl f6))] := hD
  refine lv_aload_n hx hb d_Mt_node_43 rfl (lv_at hl 0 rfl) ?_
  refine va_get (D := D) (ci := 12) (v := .ref (q 12)) (C := R_Mt) (T := F_Mt) (N := 35) hx hb hg i_Mt hown hK hP 0 rfl rfl 12 (by decide) (hg _ mw_1605) (fun _ h9 => h9) rfl d_Mt_node_44 ?_
  refine lv_aload_n hx hb d_Mt_node_47 rfl (lv_at hl 0 rfl) ?_
  refine va_get (D := D) (ci := 12) (v := .int (nI n)) (C := R_Mt) (T := F_Mt) (N := 35) hx hb hg i_Mt hown hK hP 0 rfl rfl 7 (by decide) (hg _ mw_1597) (fun _ h9 => h9) rfl d_Mt_node_48 ?_
  refine lv_iconst (v := (-1)) hx hb d_Mt_node_51 (by decide) ?_
  refine xb_iast hx hb hK hP hD hS 5 1 rfl rfl (by omega) (by omega) d_Mt_node_52 (fun H locs hP hD hS => ?_)
  have hP : va_P D vC [(h0, .inr (12, [.ref (q 0), .int (z 1), .int (z 2), .int (z 3), .int (z 4), .int (z 5), .int (z 6), .int (nI n), .ref (q 8), .ref (q 9), .ref (q 10), .ref (q 11), .ref (q 12), .ref (q 13), .ref (q 14), .int (z 15), .int (z 16), .int (z 17), .ref (q 18), .ref (q 19), .ref (q 20), .ref (q 21), .ref (q 22), .ref (q 23), .int (z 24), .ref (q 25), .ref (q 26), .ref (q 27), .ref (q 28), .int (z 29), .ref (q 30), .int (z 31), .ref (q 32), .int (z 33), .ref (q 34)])), (q 8, .inl (kA 1, 4200, .inl (upd f1 n k))), (q 9, .inl (kA 1, 4200, .inl (upd f2 n (z 2)))), (q 10, .inl (kA 2, 4200, .inr (.inl (vp_updL f3 n 0)))), (q 11, .inl (kA 1, 4200, .inl (upd f4 n 0))), (q 12, .inl (kA 1, 4200, .inl (upd f5 n (-1)))), (q 13, .inl (kA 1, 4200, .inl f6))] H := hP
  have hD : va_D A [(h0, .inr (12, [.ref (q 0), .int (z 1), .int (z 2), .int (z 3), .int (z 4), .int (z 5), .int (z 6), .int (nI n), .ref (q 8), .ref (q 9), .ref (q 10), .ref (q 11), .ref (q 12), .ref (q 13), .ref (q 14), .int (z 15), .int (z 16), .int (z 17), .ref (q 18), .ref (q 19), .ref (q 20), .ref (q 21), .ref (q 22), .ref (q 23), .int (z 24), .ref (q 25), .ref (q 26), .ref (q 27), .ref (q 28), .int (z 29), .ref (q 30), .int (z 31), .ref (q 32), .int (z 33), .ref (q 34)])), (q 8, .inl (kA 1, 4200, .inl (upd f1 n k))), (q 9, .inl (kA 1, 4200, .inl (upd f2 n (z 2)))), (q 10, .inl (kA 2, 4200, .inr (.inl (vp_updL f3 n 0)))), (q 11, .inl (kA 1, 4200, .inl (upd f4 n 0))), (q 12, .inl (kA 1, 4200, .inl (upd f5 n (-1)))), (q 13, .inl (kA 1, 4200, .inl f6))] := hD
  refine lv_aload_n hx hb d_Mt_node_53 rfl (lv_at hl 0 rfl) ?_
  refine va_get (D := D) (ci := 12) (v := .ref (q 13)) (C := R_Mt) (T := F_Mt) (N := 35) hx hb hg i_Mt hown hK hP 0 rfl rfl 13 (by decide) (hg _ mw_1607) (fun _ h9 => h9) rfl d_Mt_node_54 ?_
  refine lv_aload_n hx hb d_Mt_node_57 rfl (lv_at hl 0 rfl) ?_
  refine va_get (D := D) (ci := 12) (v := .int (nI n)) (C := R_Mt) (T := F_Mt) (N := 35) hx hb hg i_Mt hown hK hP 0 rfl rfl 7 (by decide) (hg _ mw_1597) (fun _ h9 => h9) rfl d_Mt_node_58 ?_
  refine lv_iconst (v := (-1)) hx hb d_Mt_node_61 (by decide) ?_
  refine xb_iast hx hb hK hP hD hS 6 1 rfl rfl (by omega) (by omega) d_Mt_node_62 (fun H locs hP hD hS => ?_)
  have hP : va_P D vC [(h0, .inr (12, [.ref (q 0), .int (z 1), .int (z 2), .int (z 3), .int (z 4), .int (z 5), .int (z 6), .int (nI n), .ref (q 8), .ref (q 9), .ref (q 10), .ref (q 11), .ref (q 12), .ref (q 13), .ref (q 14), .int (z 15), .int (z 16), .int (z 17), .ref (q 18), .ref (q 19), .ref (q 20), .ref (q 21), .ref (q 22), .ref (q 23), .int (z 24), .ref (q 25), .ref (q 26), .ref (q 27), .ref (q 28), .int (z 29), .ref (q 30), .int (z 31), .ref (q 32), .int (z 33), .ref (q 34)])), (q 8, .inl (kA 1, 4200, .inl (upd f1 n k))), (q 9, .inl (kA 1, 4200, .inl (upd f2 n (z 2)))), (q 10, .inl (kA 2, 4200, .inr (.inl (vp_updL f3 n 0)))), (q 11, .inl (kA 1, 4200, .inl (upd f4 n 0))), (q 12, .inl (kA 1, 4200, .inl (upd f5 n (-1)))), (q 13, .inl (kA 1, 4200, .inl (upd f6 n (-1))))] H := hP
  have hD : va_D A [(h0, .inr (12, [.ref (q 0), .int (z 1), .int (z 2), .int (z 3), .int (z 4), .int (z 5), .int (z 6), .int (nI n), .ref (q 8), .ref (q 9), .ref (q 10), .ref (q 11), .ref (q 12), .ref (q 13), .ref (q 14), .int (z 15), .int (z 16), .int (z 17), .ref (q 18), .ref (q 19), .ref (q 20), .ref (q 21), .ref (q 22), .ref (q 23), .int (z 24), .ref (q 25), .ref (q 26), .ref (q 27), .ref (q 28), .int (z 29), .ref (q 30), .int (z 31), .ref (q 32), .int (z 33), .ref (q 34)])), (q 8, .inl (kA 1, 4200, .inl (upd f1 n k))), (q 9, .inl (kA 1, 4200, .inl (upd f2 n (z 2)))), (q 10, .inl (kA 2, 4200, .inr (.inl (vp_updL f3 n 0)))), (q 11, .inl (kA 1, 4200, .inl (upd f4 n 0))), (q 12, .inl (kA 1, 4200, .inl (upd f5 n (-1)))), (q 13, .inl (kA 1, 4200, .inl (upd f6 n (-1))))] := hD
  refine lv_aload_n hx hb d_Mt_node_63 rfl (lv_at hl 0 rfl) ?_
  refine lv_dup hx hb d_Mt_node_64 rfl ?_
  refine va_get (D := D) (ci := 12) (v := .int (nI n)) (C := R_Mt) (T := F_Mt) (N := 35) hx hb hg i_Mt hown hK hP 0 rfl rfl 7 (by decide) (hg _ mw_1597) (fun _ h9 => h9) rfl d_Mt_node_65 ?_
  refine lv_iconst (v := 1) hx hb d_Mt_node_68 (by decide) ?_
  refine lv_iadd hx hb d_Mt_node_69 ?_
  refine lv_topi (fun x_69 ex_69 => ?_)
  replace ex_69 : x_69 = nI (n + 1) := ex_69.trans (nI_1 n)
  subst ex_69
  refine va_put (D := D) (ci := 12) (v := .int (nI (n + 1))) (ty := .int) (C := R_Mt) (T := F_Mt) (N := 35) hx hb hg i_Mt t_Mt t_Mt_ok n_Mt hown hK hP hD hS 0 rfl rfl 7 (by decide) (hg _ mw_1597) (fun _ h9 => h9) rfl (by decide +kernel) rfl rfl (Nat.le_of_ble_eq_true rfl) d_Mt_node_70 (fun H locs hP hD hS => ?_)
  have hP : va_P D vC [(h0, .inr (12, [.ref (q 0), .int (z 1), .int (z 2), .int (z 3), .int (z 4), .int (z 5), .int (z 6), .int (nI (n + 1)), .ref (q 8), .ref (q 9), .ref (q 10), .ref (q 11), .ref (q 12), .ref (q 13), .ref (q 14), .int (z 15), .int (z 16), .int (z 17), .ref (q 18), .ref (q 19), .ref (q 20), .ref (q 21), .ref (q 22), .ref (q 23), .int (z 24), .ref (q 25), .ref (q 26), .ref (q 27), .ref (q 28), .int (z 29), .ref (q 30), .int (z 31), .ref (q 32), .int (z 33), .ref (q 34)])), (q 8, .inl (kA 1, 4200, .inl (upd f1 n k))), (q 9, .inl (kA 1, 4200, .inl (upd f2 n (z 2)))), (q 10, .inl (kA 2, 4200, .inr (.inl (vp_updL f3 n 0)))), (q 11, .inl (kA 1, 4200, .inl (upd f4 n 0))), (q 12, .inl (kA 1, 4200, .inl (upd f5 n (-1)))), (q 13, .inl (kA 1, 4200, .inl (upd f6 n (-1))))] H := hP
  have hD : va_D A [(h0, .inr (12, [.ref (q 0), .int (z 1), .int (z 2), .int (z 3), .int (z 4), .int (z 5), .int (z 6), .int (nI (n + 1)), .ref (q 8), .ref (q 9), .ref (q 10), .ref (q 11), .ref (q 12), .ref (q 13), .ref (q 14), .int (z 15), .int (z 16), .int (z 17), .ref (q 18), .ref (q 19), .ref (q 20), .ref (q 21), .ref (q 22), .ref (q 23), .int (z 24), .ref (q 25), .ref (q 26), .ref (q 27), .ref (q 28), .int (z 29), .ref (q 30), .int (z 31), .ref (q 32), .int (z 33), .ref (q 34)])), (q 8, .inl (kA 1, 4200, .inl (upd f1 n k))), (q 9, .inl (kA 1, 4200, .inl (upd f2 n (z 2)))), (q 10, .inl (kA 2, 4200, .inr (.inl (vp_updL f3 n 0)))), (q 11, .inl (kA 1, 4200, .inl (upd f4 n 0))), (q 12, .inl (kA 1, 4200, .inl (upd f5 n (-1)))), (q 13, .inl (kA 1, 4200, .inl (upd f6 n (-1))))] := hD
  refine lv_aload_n hx hb d_Mt_node_73 rfl (lv_at hl 0 rfl) ?_
  refine va_get (D := D) (ci := 12) (v := .int (nI (n + 1))) (C := R_Mt) (T := F_Mt) (N := 35) hx hb hg i_Mt hown hK hP 0 rfl rfl 7 (by decide) (hg _ mw_1597) (fun _ h9 => h9) rfl d_Mt_node_74 ?_
  refine lv_iconst (v := 1) hx hb d_Mt_node_77 (by decide) ?_
  refine lv_isub hx hb d_Mt_node_78 ?_
  refine lv_topi (fun x_78 ex_78 => ?_)
  replace ex_78 : x_78 = nI n := ex_78.trans (nI_pred n)
  subst ex_78
  exact W.iret (v := nI n) hx hb hr (fun t ht hW => ⟨⟨nI n, (), rfl, rfl, by rw [ht]; exact hP, va_K.moved hW.alike hK, hD⟩, hS.F ht⟩) hS.2.2 d_Mt_node_79

set_option maxHeartbeats 4000000 in
set_option maxRecDepth 100000 in
/-- value, at the end -/
theorem t_Mt_value0 (l : Launch) (hfl : l.flags = flags0) (D : va_G) (kA : Nat → ClassId) (kS : Nat → Nat) (sz : Nat) (h0 : Nat) (q : Nat → Nat) (z : Nat → Int32) (f1 f2 f4 f5 f6 : Nat → Int32) (f3 : Nat → Int64) (n : Nat) (hn : n < 4200) (h1 : z 1 ≤ z 2) : xt_Met l y_Mt_value w_Mt_value { frames := 9, cells := 1, slots := 6, locals := 148 } (xPre D vC (tK kA) kS [.ref h0] ([oMt h0 q (upd z 7 (nI n)), (q 8, .inl (kA 1, 4200, .inl f1)), (q 9, .inl (kA 1, 4200, .inl f2)), (q 10, .inl (kA 2, 4200, .inr (.inl f3))), (q 11, .inl (kA 1, 4200, .inl f4)), (q 12, .inl (kA 1, 4200, .inl f5)), (q 13, .inl (kA 1, 4200, .inl f6))]) sz) (xt_Q "java/lang/IllegalStateException" (fun _ : Unit => True) (xB D vC (tK kA) (fun _ => [oMt h0 q (upd (upd (upd z 7 (nI (n + 1))) 4 1) 5 (z 2)), (q 8, .inl (kA 1, 4200, .inl (upd f1 n 6))), (q 9, .inl (kA 1, 4200, .inl (upd f2 n (z 2)))), (q 10, .inl (kA 2, 4200, .inr (.inl (vp_updL f3 n 0)))), (q 11, .inl (kA 1, 4200, .inl (upd f4 n 0))), (q 12, .inl (kA 1, 4200, .inl (upd f5 n (-1)))), (q 13, .inl (kA 1, 4200, .inl (upd f6 n (-1))))]) (va_A ([oMt h0 q (upd z 7 (nI n)), (q 8, .inl (kA 1, 4200, .inl f1)), (q 9, .inl (kA 1, 4200, .inl f2)), (q 10, .inl (kA 2, 4200, .inr (.inl f3))), (q 11, .inl (kA 1, 4200, .inl f4)), (q 12, .inl (kA 1, 4200, .inl f5)), (q 13, .inl (kA 1, 4200, .inl f6))]) sz)) (va_A ([oMt h0 q (upd z 7 (nI n)), (q 8, .inl (kA 1, 4200, .inl f1)), (q 9, .inl (kA 1, 4200, .inl f2)), (q 10, .inl (kA 2, 4200, .inr (.inl f3))), (q 11, .inl (kA 1, 4200, .inl f4)), (q 12, .inl (kA 1, 4200, .inl f5)), (q 13, .inl (kA 1, 4200, .inl f6))]) sz)) 1 6 (va_A ([oMt h0 q (upd z 7 (nI n)), (q 8, .inl (kA 1, 4200, .inl f1)), (q 9, .inl (kA 1, 4200, .inl f2)), (q 10, .inl (kA 2, 4200, .inr (.inl f3))), (q 11, .inl (kA 1, 4200, .inl f4)), (q 12, .inl (kA 1, 4200, .inl f5)), (q 13, .inl (kA 1, 4200, .inl f6))]) sz) := by
  refine xt_ofW (cc := b_Mt_value) (maxL := 5) (ret := (some .int)) (by decide) rfl ?_
  intro p e s m args below meth c s₁ B hml hemp hv
  obtain ⟨rfl, hsz, hP, hK, hD0, hN, hC⟩ := hv
  have hx := B.exec
  have hb := B.bytes
  have hts := atoms_spec (ws := w_Mt_value) B.pre
  have hg : ∀ w ∈ gW, w.before _ s = true := fun w h => hts w (List.mem_cons_of_mem _ h)
  have hown : s.vm.findClass R_Mt = some m.cls := findClass_of_methodNamed B.named
  have hlocks := B.notSynchronized
  subst hsz
  have hD := hD0.self (sz := s.heap.size)
  generalize hAe : va_A ([oMt h0 q (upd z 7 (nI n)), (q 8, .inl (kA 1, 4200, .inl f1)), (q 9, .inl (kA 1, 4200, .inl f2)), (q 10, .inl (kA 2, 4200, .inr (.inl f3))), (q 11, .inl (kA 1, 4200, .inl f4)), (q 12, .inl (kA 1, 4200, .inl f5)), (q 13, .inl (kA 1, 4200, .inl f6))]) s.heap.size = A at hD hC ⊢
  have hA : ∀ q : Nat, s.heap.size ≤ q → A q := fun q h => by rw [← hAe]; exact Or.inr h
  have hS : va_S A s.heap s.heap [] := va_S.rf
  have hP : va_P D vC [(h0, .inr (12, [.ref (q 0), .int (z 1), .int (z 2), .int (z 3), .int (z 4), .int (z 5), .int (z 6), .int (nI n), .ref (q 8), .ref (q 9), .ref (q 10), .ref (q 11), .ref (q 12), .ref (q 13), .ref (q 14), .int (z 15), .int (z 16), .int (z 17), .ref (q 18), .ref (q 19), .ref (q 20), .ref (q 21), .ref (q 22), .ref (q 23), .int (z 24), .ref (q 25), .ref (q 26), .ref (q 27), .ref (q 28), .int (z 29), .ref (q 30), .int (z 31), .ref (q 32), .int (z 33), .ref (q 34)])), (q 8, .inl (kA 1, 4200, .inl f1)), (q 9, .inl (kA 1, 4200, .inl f2)), (q 10, .inl (kA 2, 4200, .inr (.inl f3))), (q 11, .inl (kA 1, 4200, .inl f4)), (q 12, .inl (kA 1, 4200, .inl f5)), (q 13, .inl (kA 1, 4200, .inl f6))] s.heap := hP
  have hD : va_D A [(h0, .inr (12, [.ref (q 0), .int (z 1), .int (z 2), .int (z 3), .int (z 4), .int (z 5), .int (z 6), .int (nI n), .ref (q 8), .ref (q 9), .ref (q 10), .ref (q 11), .ref (q 12), .ref (q 13), .ref (q 14), .int (z 15), .int (z 16), .int (z 17), .ref (q 18), .ref (q 19), .ref (q 20), .ref (q 21), .ref (q 22), .ref (q 23), .int (z 24), .ref (q 25), .ref (q 26), .ref (q 27), .ref (q 28), .int (z 29), .ref (q 30), .int (z 31), .ref (q 32), .int (z 33), .ref (q 34)])), (q 8, .inl (kA 1, 4200, .inl f1)), (q 9, .inl (kA 1, 4200, .inl f2)), (q 10, .inl (kA 2, 4200, .inr (.inl f3))), (q 11, .inl (kA 1, 4200, .inl f4)), (q 12, .inl (kA 1, 4200, .inl f5)), (q 13, .inl (kA 1, 4200, .inl f6))] := hD
  have hl := lv_entry ([.ref h0]) (n := 5) (Nat.le_of_ble_eq_true rfl)
  rw [lg_entry_eq]
  generalize (lg_sl ([.ref h0]) ++ List.replicate (5 - (lg_sl ([.ref h0])).length) Slot.unset).toArray = ls at hl ⊢
  have hl : lv_has ls 5 [(0, .ref h0)] := hl
  refine lv_aload_n hx hb d_Mt_value_0 rfl (lv_at hl 0 rfl) ?_
  refine xc_pi (va_runV (As := []) (rest := []) ⟨hx, hb, hml, hown, hg⟩ (p_Mt_look0 l D kA kS s.heap.size h0 q (upd z 7 (nI n)) h1) (cwV 0 hg (xg_V mw_1866 mw_1868 ms_101 mw_14 mw_1869) rfl rfl rfl (by decide +kernel) ⟨Nat.le_of_ble_eq_true rfl, Nat.le_of_ble_eq_true rfl⟩) (xc_preV hK hN hC hP hD hS hA [0] (by decide) rfl 0 rfl rfl) rfl rfl hl.1 rfl (lv_room (Nat.le_of_ble_eq_true rfl)) d_Mt_value_1 ⟨Nat.le_of_ble_eq_true rfl, Nat.le_of_ble_eq_true rfl⟩) (fun r_1 hw0 => ?_)
  subst hw0
  refine lv_istore_n (lv' := [(1, .int (-1)), (0, .ref h0)]) hx hb d_Mt_value_4 rfl hl (by decide) rfl (fun ls hl => ?_)
  refine lv_iload_n hx hb d_Mt_value_5 rfl (lv_at hl 0 rfl) ?_
  refine lv_bipush (v := 123) hx hb d_Mt_value_6 (by decide) ?_
  refine lv_icmp_eq (tgt := 17) hx hb d_Mt_value_8 (by decide) (fun c_8 => absurd c_8 (by decide)) (fun c_8 => ?_)
  refine lv_iload_n hx hb d_Mt_value_11 rfl (lv_at hl 0 rfl) ?_
  refine lv_bipush (v := 91) hx hb d_Mt_value_12 (by decide) ?_
  refine lv_icmp_ne (tgt := 80) hx hb d_Mt_value_14 (by decide) (fun c_14 => ?_) (fun c_14 => absurd c_14 (by decide))
  refine lv_iload_n hx hb d_Mt_value_80 rfl (lv_at hl 0 rfl) ?_
  refine lv_bipush (v := 34) hx hb d_Mt_value_81 (by decide) ?_
  refine lv_icmp_ne (tgt := 91) hx hb d_Mt_value_83 (by decide) (fun c_83 => ?_) (fun c_83 => absurd c_83 (by decide))
  refine lv_iload_n hx hb d_Mt_value_91 rfl (lv_at hl 0 rfl) ?_
  refine lv_bipush (v := 45) hx hb d_Mt_value_92 (by decide) ?_
  refine lv_icmp_eq (tgt := 109) hx hb d_Mt_value_94 (by decide) (fun c_94 => absurd c_94 (by decide)) (fun c_94 => ?_)
  refine lv_iload_n hx hb d_Mt_value_97 rfl (lv_at hl 0 rfl) ?_
  refine lv_bipush (v := 48) hx hb d_Mt_value_98 (by decide) ?_
  refine lv_icmp_lt (tgt := 114) hx hb d_Mt_value_100 (by decide) (fun c_100 => ?_) (fun c_100 => absurd (by decide) c_100)
  refine lv_aload_n hx hb d_Mt_value_114 rfl (lv_at hl 1 rfl) ?_
  refine lv_iload_n hx hb d_Mt_value_115 rfl (lv_at hl 0 rfl) ?_
  refine lv_bipush (v := 116) hx hb d_Mt_value_116 (by decide) ?_
  refine lv_icmp_ne (tgt := 125) hx hb d_Mt_value_118 (by decide) (fun c_118 => ?_) (fun c_118 => absurd c_118 (by decide))
  refine lv_iload_n hx hb d_Mt_value_125 rfl (lv_at hl 0 rfl) ?_
  refine lv_bipush (v := 102) hx hb d_Mt_value_126 (by decide) ?_
  refine lv_icmp_ne (tgt := 135) hx hb d_Mt_value_128 (by decide) (fun c_128 => ?_) (fun c_128 => absurd c_128 (by decide))
  refine lv_bipush (v := 6) hx hb d_Mt_value_135 (by decide) ?_
  refine xc_i (wr := []) (va_runV (As := [.int 6]) (rest := []) ⟨hx, hb, hml, hown, hg⟩ (c_Mt_node l D kA kS s.heap.size h0 q z f1 f2 f4 f5 f6 f3 n hn 6) (cwV 1 hg (xg_V mw_1888 mw_1890 ms_106 mw_14 mw_1891) rfl rfl rfl (by decide +kernel) ⟨Nat.le_of_ble_eq_true rfl, Nat.le_of_ble_eq_true rfl⟩) (xc_preV hK hN hC hP hD hS hA [0, 1, 2, 3, 4, 5, 6] (by decide) rfl 0 rfl rfl) rfl rfl hl.1 rfl (lv_room (Nat.le_of_ble_eq_true rfl)) d_Mt_value_137 ⟨Nat.le_of_ble_eq_true rfl, Nat.le_of_ble_eq_true rfl⟩) hP hD hS hA [0, 1, 2, 3, 4, 5, 6] [] rfl rfl (by decide) (by decide) (fun r_137 u9 H locs hw1 hP hD hS => ?_)
  have hP : va_P D vC [(h0, .inr (12, [.ref (q 0), .int (z 1), .int (z 2), .int (z 3), .int (z 4), .int (z 5), .int (z 6), .int (nI (n + 1)), .ref (q 8), .ref (q 9), .ref (q 10), .ref (q 11), .ref (q 12), .ref (q 13), .ref (q 14), .int (z 15), .int (z 16), .int (z 17), .ref (q 18), .ref (q 19), .ref (q 20), .ref (q 21), .ref (q 22), .ref (q 23), .int (z 24), .ref (q 25), .ref (q 26), .ref (q 27), .ref (q 28), .int (z 29), .ref (q 30), .int (z 31), .ref (q 32), .int (z 33), .ref (q 34)])), (q 8, .inl (kA 1, 4200, .inl (upd f1 n 6))), (q 9, .inl (kA 1, 4200, .inl (upd f2 n (z 2)))), (q 10, .inl (kA 2, 4200, .inr (.inl (vp_updL f3 n 0)))), (q 11, .inl (kA 1, 4200, .inl (upd f4 n 0))), (q 12, .inl (kA 1, 4200, .inl (upd f5 n (-1)))), (q 13, .inl (kA 1, 4200, .inl (upd f6 n (-1))))] H := hP
  have hD : va_D A [(h0, .inr (12, [.ref (q 0), .int (z 1), .int (z 2), .int (z 3), .int (z 4), .int (z 5), .int (z 6), .int (nI (n + 1)), .ref (q 8), .ref (q 9), .ref (q 10), .ref (q 11), .ref (q 12), .ref (q 13), .ref (q 14), .int (z 15), .int (z 16), .int (z 17), .ref (q 18), .ref (q 19), .ref (q 20), .ref (q 21), .ref (q 22), .ref (q 23), .int (z 24), .ref (q 25), .ref (q 26), .ref (q 27), .ref (q 28), .int (z 29), .ref (q 30), .int (z 31), .ref (q 32), .int (z 33), .ref (q 34)])), (q 8, .inl (kA 1, 4200, .inl (upd f1 n 6))), (q 9, .inl (kA 1, 4200, .inl (upd f2 n (z 2)))), (q 10, .inl (kA 2, 4200, .inr (.inl (vp_updL f3 n 0)))), (q 11, .inl (kA 1, 4200, .inl (upd f4 n 0))), (q 12, .inl (kA 1, 4200, .inl (upd f5 n (-1)))), (q 13, .inl (kA 1, 4200, .inl (upd f6 n (-1))))] := hD
  refine lv_istore_n (lv' := [(2, .int r_137), (1, .int (-1)), (0, .ref h0)]) hx hb d_Mt_value_140 rfl hl (by decide) rfl (fun ls hl => ?_)
  refine lv_iload_n hx hb d_Mt_value_141 rfl (lv_at hl 1 rfl) ?_
  refine lv_bipush (v := 116) hx hb d_Mt_value_142 (by decide) ?_
  refine lv_icmp_ne (tgt := 152) hx hb d_Mt_value_144 (by decide) (fun c_144 => ?_) (fun c_144 => absurd c_144 (by decide))
  refine lv_iload_n hx hb d_Mt_value_152 rfl (lv_at hl 1 rfl) ?_
  refine lv_bipush (v := 102) hx hb d_Mt_value_153 (by decide) ?_
  refine lv_icmp_ne (tgt := 163) hx hb d_Mt_value_155 (by decide) (fun c_155 => ?_) (fun c_155 => absurd c_155 (by decide))
  refine va_ldcS hx hb hown (hC.2.2 46 ("RecordLakeModel$Text", 135, "null") rfl) d_Mt_value_163 ?_
  refine lv_astore_n (lv' := [(3, .ref (kS 46)), (2, .int r_137), (1, .int (-1)), (0, .ref h0)]) hx hb d_Mt_value_165 rfl hl (by decide) rfl (fun ls hl => ?_)
  refine lv_iconst (v := 0) hx hb d_Mt_value_166 (by decide) ?_
  refine lv_istore (lv' := [(4, .int 0), (3, .ref (kS 46)), (2, .int r_137), (1, .int (-1)), (0, .ref h0)]) hx hb d_Mt_value_167 hl (by decide) rfl (fun ls hl => ?_)
  refine lv_iload hx hb d_Mt_value_169 (lv_at hl 0 rfl) ?_
  refine lv_aload_n hx hb d_Mt_value_171 rfl (lv_at hl 1 rfl) ?_
  refine xc_pi (va_runV (As := []) (rest := [.int 0]) ⟨hx, hb, hml, hown, hg⟩ (p_Str_length l D kA kS H.size 46 (by decide)) (cwV 0 hg (xg_V mw_1980 mw_630 mw_631 mw_21 mw_632) rfl rfl rfl (by decide +kernel) ⟨Nat.le_of_ble_eq_true rfl, Nat.le_of_ble_eq_true rfl⟩) (xs_preV hK hN hC hP hD hS hA (j := 46) (by decide)) rfl rfl hl.1 rfl (lv_room (Nat.le_of_ble_eq_true rfl)) d_Mt_value_172 ⟨Nat.le_of_ble_eq_true rfl, Nat.le_of_ble_eq_true rfl⟩) (fun r_172 hw2 => ?_)
  rw [show sL 46 = 4 from by decide +kernel] at hw2
  subst hw2
  refine lv_icmp_ge (tgt := 194) hx hb d_Mt_value_175 (by decide) (fun c_175 => absurd c_175 (by decide)) (fun c_175 => ?_)
  refine lv_aload_n hx hb d_Mt_value_178 rfl (lv_at hl 4 rfl) ?_
  refine lv_aload_n hx hb d_Mt_value_179 rfl (lv_at hl 1 rfl) ?_
  refine lv_iload hx hb d_Mt_value_180 (lv_at hl 0 rfl) ?_
  refine W.eq (g2 := F0 m 182 ls [.int (nI 0), .ref (kS 46), .ref h0]) rfl ?_
  refine xc_pi (va_runV (As := [.int (nI 0)]) (rest := [.ref h0]) ⟨hx, hb, hml, hown, hg⟩ (p_Str_charAt l D kA kS H.size 46 (by decide) 0 (by decide)) (cwV 1 hg (xg_V mw_1981 mw_640 mw_641 mw_21 mw_642) rfl rfl rfl (by decide +kernel) ⟨Nat.le_of_ble_eq_true rfl, Nat.le_of_ble_eq_true rfl⟩) (xs_preV hK hN hC hP hD hS hA (j := 46) (by decide)) rfl rfl hl.1 rfl (lv_room (Nat.le_of_ble_eq_true rfl)) d_Mt_value_182 ⟨Nat.le_of_ble_eq_true rfl, Nat.le_of_ble_eq_true rfl⟩) (fun r9 hw3 => ?_)
  subst hw3
  exact xc_o (wr := [(q 8, .inl (kA 1, 4200, .inl (upd f1 n 6))), (q 9, .inl (kA 1, 4200, .inl (upd f2 n (z 2)))), (q 10, .inl (kA 2, 4200, .inr (.inl (vp_updL f3 n 0)))), (q 11, .inl (kA 1, 4200, .inl (upd f4 n 0))), (q 12, .inl (kA 1, 4200, .inl (upd f5 n (-1)))), (q 13, .inl (kA 1, 4200, .inl (upd f6 n (-1))))]) (xt_runV (As := [.int (sB 46 0)]) (rest := []) ⟨hx, hb, hml, hown, hg⟩ (t_Mt_take0 l hfl D kA kS H.size h0 q (upd z 7 (nI (n + 1))) h1 (sB 46 0) (by decide +kernel)) (cwV 1 hg (xg_V mw_1956 mw_1958 ms_109 mw_14 mw_1959) rfl rfl rfl (by decide +kernel) ⟨Nat.le_of_ble_eq_true rfl, Nat.le_of_ble_eq_true rfl⟩) (xc_preV hK hN hC hP hD hS hA [0] (by decide) rfl 0 rfl rfl) rfl rfl hl.1 rfl (lv_room (Nat.le_of_ble_eq_true rfl)) d_Mt_value_185 ⟨Nat.le_of_ble_eq_true rfl, Nat.le_of_ble_eq_true rfl⟩) hK hP hD hS hA [0] [1, 2, 3, 4, 5, 6] rfl rfl (by decide) (by decide) hemp hlocks (fun q h => h) (fun u _ => ⟨(), trivial, fun H1 hP1 hD1 => ⟨hP1.sub [6, 0, 1, 2, 3, 4, 5] rfl, hD1.sub [6, 0, 1, 2, 3, 4, 5] (by decide) rfl⟩⟩)

set_option maxHeartbeats 4000000 in
set_option maxRecDepth 100000 in
/-- readAll, at the end -/
theorem t_Mt_readAll0 (l : Launch) (hfl : l.flags = flags0) (D : va_G) (kA : Nat → ClassId) (kS : Nat → Nat) (sz : Nat) (h0 : Nat) (q : Nat → Nat) (z : Nat → Int32) (f1 f2 f4 f5 f6 : Nat → Int32) (f3 : Nat → Int64) (n : Nat) (hn : n < 4200) (h1 : z 1 ≤ z 2) : xt_Met l y_Mt_readAll w_Mt_readAll { frames := 10, cells := 1, slots := 6, locals := 172 } (xPre D vC (tK kA) kS [.ref h0] ([oMt h0 q (upd z 7 (nI n)), (q 8, .inl (kA 1, 4200, .inl f1)), (q 9, .inl (kA 1, 4200, .inl f2)), (q 10, .inl (kA 2, 4200, .inr (.inl f3))), (q 11, .inl (kA 1, 4200, .inl f4)), (q 12, .inl (kA 1, 4200, .inl f5)), (q 13, .inl (kA 1, 4200, .inl f6))]) sz) (xt_Q "java/lang/IllegalStateException" (fun _ : Unit => True) (xB D vC (tK kA) (fun _ => [oMt h0 q (upd (upd (upd z 7 (nI (n + 1))) 4 1) 5 (z 2)), (q 8, .inl (kA 1, 4200, .inl (upd f1 n 6))), (q 9, .inl (kA 1, 4200, .inl (upd f2 n (z 2)))), (q 10, .inl (kA 2, 4200, .inr (.inl (vp_updL f3 n 0)))), (q 11, .inl (kA 1, 4200, .inl (upd f4 n 0))), (q 12, .inl (kA 1, 4200, .inl (upd f5 n (-1)))), (q 13, .inl (kA 1, 4200, .inl (upd f6 n (-1))))]) (va_A ([oMt h0 q (upd z 7 (nI n)), (q 8, .inl (kA 1, 4200, .inl f1)), (q 9, .inl (kA 1, 4200, .inl f2)), (q 10, .inl (kA 2, 4200, .inr (.inl f3))), (q 11, .inl (kA 1, 4200, .inl f4)), (q 12, .inl (kA 1, 4200, .inl f5)), (q 13, .inl (kA 1, 4200, .inl f6))]) sz)) (va_A ([oMt h0 q (upd z 7 (nI n)), (q 8, .inl (kA 1, 4200, .inl f1)), (q 9, .inl (kA 1, 4200, .inl f2)), (q 10, .inl (kA 2, 4200, .inr (.inl f3))), (q 11, .inl (kA 1, 4200, .inl f4)), (q 12, .inl (kA 1, 4200, .inl f5)), (q 13, .inl (kA 1, 4200, .inl f6))]) sz)) 1 6 (va_A ([oMt h0 q (upd z 7 (nI n)), (q 8, .inl (kA 1, 4200, .inl f1)), (q 9, .inl (kA 1, 4200, .inl f2)), (q 10, .inl (kA 2, 4200, .inr (.inl f3))), (q 11, .inl (kA 1, 4200, .inl f4)), (q 12, .inl (kA 1, 4200, .inl f5)), (q 13, .inl (kA 1, 4200, .inl f6))]) sz) := by
  refine xt_ofW (cc := b_Mt_readAll) (maxL := 4) (ret := none) (by decide) rfl ?_
  intro p e s m args below meth c s₁ B hml hemp hv
  obtain ⟨rfl, hsz, hP, hK, hD0, hN, hC⟩ := hv
  have hx := B.exec
  have hb := B.bytes
  have hts := atoms_spec (ws := w_Mt_readAll) B.pre
  have hg : ∀ w ∈ gW, w.before _ s = true := fun w h => hts w (List.mem_cons_of_mem _ h)
  have hown : s.vm.findClass R_Mt = some m.cls := findClass_of_methodNamed B.named
  have hlocks := B.notSynchronized
  subst hsz
  have hD := hD0.self (sz := s.heap.size)
  generalize hAe : va_A ([oMt h0 q (upd z 7 (nI n)), (q 8, .inl (kA 1, 4200, .inl f1)), (q 9, .inl (kA 1, 4200, .inl f2)), (q 10, .inl (kA 2, 4200, .inr (.inl f3))), (q 11, .inl (kA 1, 4200, .inl f4)), (q 12, .inl (kA 1, 4200, .inl f5)), (q 13, .inl (kA 1, 4200, .inl f6))]) s.heap.size = A at hD hC ⊢
  have hA : ∀ q : Nat, s.heap.size ≤ q → A q := fun q h => by rw [← hAe]; exact Or.inr h
  have hS : va_S A s.heap s.heap [] := va_S.rf
  have hP : va_P D vC [(h0, .inr (12, [.ref (q 0), .int (z 1), .int (z 2), .int (z 3), .int (z 4), .int (z 5), .int (z 6), .int (nI n), .ref (q 8), .ref (q 9), .ref (q 10), .ref (q 11), .ref (q 12), .ref (q 13), .ref (q 14), .int (z 15), .int (z 16), .int (z 17), .ref (q 18), .ref (q 19), .ref (q 20), .ref (q 21), .ref (q 22), .ref (q 23), .int (z 24), .ref (q 25), .ref (q 26), .ref (q 27), .ref (q 28), .int (z 29), .ref (q 30), .int (z 31), .ref (q 32), .int (z 33), .ref (q 34)])), (q 8, .inl (kA 1, 4200, .inl f1)), (q 9, .inl (kA 1, 4200, .inl f2)), (q 10, .inl (kA 2, 4200, .inr (.inl f3))), (q 11, .inl (kA 1, 4200, .inl f4)), (q 12, .inl (kA 1, 4200, .inl f5)), (q 13, .inl (kA 1, 4200, .inl f6))] s.heap := hP
  have hD : va_D A [(h0, .inr (12, [.ref (q 0), .int (z 1), .int (z 2), .int (z 3), .int (z 4), .int (z 5), .int (z 6), .int (nI n), .ref (q 8), .ref (q 9), .ref (q 10), .ref (q 11), .ref (q 12), .ref (q 13), .ref (q 14), .int (z 15), .int (z 16), .int (z 17), .ref (q 18), .ref (q 19), .ref (q 20), .ref (q 21), .ref (q 22), .ref (q 23), .int (z 24), .ref (q 25), .ref (q 26), .ref (q 27), .ref (q 28), .int (z 29), .ref (q 30), .int (z 31), .ref (q 32), .int (z 33), .ref (q 34)])), (q 8, .inl (kA 1, 4200, .inl f1)), (q 9, .inl (kA 1, 4200, .inl f2)), (q 10, .inl (kA 2, 4200, .inr (.inl f3))), (q 11, .inl (kA 1, 4200, .inl f4)), (q 12, .inl (kA 1, 4200, .inl f5)), (q 13, .inl (kA 1, 4200, .inl f6))] := hD
  have hl := lv_entry ([.ref h0]) (n := 4) (Nat.le_of_ble_eq_true rfl)
  rw [lg_entry_eq]
  generalize (lg_sl ([.ref h0]) ++ List.replicate (4 - (lg_sl ([.ref h0])).length) Slot.unset).toArray = ls at hl ⊢
  have hl : lv_has ls 4 [(0, .ref h0)] := hl
  refine lv_aload_n hx hb d_Mt_readAll_0 rfl (lv_at hl 0 rfl) ?_
  refine xc_pv (va_runV (As := []) (rest := []) ⟨hx, hb, hml, hown, hg⟩ (p_Mt_blanks0 l D kA kS s.heap.size h0 q (upd z 7 (nI n)) h1) (cwV 0 hg (xg_V mw_1862 mw_1864 ms_100 mw_14 mw_1865) rfl rfl rfl (by decide +kernel) ⟨Nat.le_of_ble_eq_true rfl, Nat.le_of_ble_eq_true rfl⟩) (xc_preV hK hN hC hP hD hS hA [0] (by decide) rfl 0 rfl rfl) rfl rfl hl.1 rfl (lv_room (Nat.le_of_ble_eq_true rfl)) d_Mt_readAll_1 ⟨Nat.le_of_ble_eq_true rfl, Nat.le_of_ble_eq_true rfl⟩) ?_
  refine lv_aload_n hx hb d_Mt_readAll_4 rfl (lv_at hl 0 rfl) ?_
  exact xc_o (wr := []) (xt_runV (As := []) (rest := []) ⟨hx, hb, hml, hown, hg⟩ (t_Mt_value0 l hfl D kA kS s.heap.size h0 q z f1 f2 f4 f5 f6 f3 n hn h1) (cwV 0 hg (xg_V mw_1870 mw_1872 ms_102 mw_14 mw_1873) rfl rfl rfl (by decide +kernel) ⟨Nat.le_of_ble_eq_true rfl, Nat.le_of_ble_eq_true rfl⟩) (xc_preV hK hN hC hP hD hS hA [0, 1, 2, 3, 4, 5, 6] (by decide) rfl 0 rfl rfl) rfl rfl hl.1 rfl (lv_room (Nat.le_of_ble_eq_true rfl)) d_Mt_readAll_5 ⟨Nat.le_of_ble_eq_true rfl, Nat.le_of_ble_eq_true rfl⟩) hK hP hD hS hA [0, 1, 2, 3, 4, 5, 6] [] rfl rfl (by decide) (by decide) hemp hlocks (fun q h => h) (fun u _ => ⟨(), trivial, fun H1 hP1 hD1 => ⟨hP1.sub [0, 1, 2, 3, 4, 5, 6] rfl, hD1.sub [0, 1, 2, 3, 4, 5, 6] (by decide) rfl⟩⟩)
