/-! the lake: read-only forms; size, letter -/
set_option maxHeartbeats 4000000 in
set_option maxRecDepth 100000 in
/-- needSubject, read-only -/
theorem p_Lk_needSubject (l : Launch) (D : va_G) (kA : Nat → ClassId) (kS : Nat → Nat) (sz : Nat) (x : Int32) (h1 : ¬ x < 0) (h2 : x < 4) : Met l y_Lk_needSubject w_Lk_needSubject { frames := 0, cells := 0, slots := 0, locals := 0 } (xPre D vC (tK kA) kS [.int x] ([]) sz) (xt_Pv) 0 0 (fun _ => False) := by
  refine Met.ofW (cc := b_Lk_needSubject) (maxL := 1) (ret := none) (by decide) rfl ?_
  intro p e s m args below meth c s₁ B hml hv
  obtain ⟨rfl, hsz, hP, hK, hD0, hN, hC⟩ := hv
  have hx := B.exec
  have hb := B.bytes
  have hr := B.returns
  have hts := atoms_spec (ws := w_Lk_needSubject) B.pre
  have hg : ∀ w ∈ gW, w.before _ s = true := fun w h => hts w (List.mem_cons_of_mem _ h)
  have hown : s.vm.findClass R_Lk = some m.cls := findClass_of_methodNamed B.named
  have hlocks := B.notSynchronized
  subst hsz
  have hD := hD0.self (sz := s.heap.size)
  generalize hAe : va_A ([]) s.heap.size = A at hD hC ⊢
  have hA : ∀ q : Nat, s.heap.size ≤ q → A q := fun q h => by rw [← hAe]; exact Or.inr h
  have hS : va_S A s.heap s.heap [] := va_S.rf
  have hP : va_P D vC [] s.heap := hP
  have hD : va_D A [] := hD
  have hl := lv_entry ([.int x]) (n := 1) (Nat.le_of_ble_eq_true rfl)
  rw [lg_entry_eq]
  generalize (lg_sl ([.int x]) ++ List.replicate (1 - (lg_sl ([.int x])).length) Slot.unset).toArray = ls at hl ⊢
  have hl : lv_has ls 1 [(0, .int x)] := hl
  refine lv_iload_n hx hb d_Lk_needSubject_0 rfl (lv_at hl 0 rfl) ?_
  refine lv_if_lt (tgt := 9) hx hb d_Lk_needSubject_1 (by decide) (fun c_1 => ?_) (fun c_1 => ?_)
  · skip
    exact absurd c_1 h1
  · skip
    refine lv_iload_n hx hb d_Lk_needSubject_4 rfl (lv_at hl 0 rfl) ?_
    refine lv_iconst (v := 4) hx hb d_Lk_needSubject_5 (by decide) ?_
    refine lv_icmp_lt (tgt := 20) hx hb d_Lk_needSubject_6 (by decide) (fun c_6 => ?_) (fun c_6 => ?_)
    · skip
      exact W.vret hx hb hr (fun t ht hW => ⟨rfl, ht⟩) (fun q hq => by cases hq) d_Lk_needSubject_20
    · skip
      exact absurd h2 c_6

set_option maxHeartbeats 4000000 in
set_option maxRecDepth 100000 in
/-- needWhat, read-only -/
theorem p_Lk_needWhat (l : Launch) (D : va_G) (kA : Nat → ClassId) (kS : Nat → Nat) (sz : Nat) (x y : Int32) (h1 : ¬ x < 0) (h2 : x ≤ y) : Met l y_Lk_needWhat w_Lk_needWhat { frames := 0, cells := 0, slots := 0, locals := 0 } (xPre D vC (tK kA) kS [.int x, .int y] ([]) sz) (xt_Pv) 0 0 (fun _ => False) := by
  refine Met.ofW (cc := b_Lk_needWhat) (maxL := 2) (ret := none) (by decide) rfl ?_
  intro p e s m args below meth c s₁ B hml hv
  obtain ⟨rfl, hsz, hP, hK, hD0, hN, hC⟩ := hv
  have hx := B.exec
  have hb := B.bytes
  have hr := B.returns
  have hts := atoms_spec (ws := w_Lk_needWhat) B.pre
  have hg : ∀ w ∈ gW, w.before _ s = true := fun w h => hts w (List.mem_cons_of_mem _ h)
  have hown : s.vm.findClass R_Lk = some m.cls := findClass_of_methodNamed B.named
  have hlocks := B.notSynchronized
  subst hsz
  have hD := hD0.self (sz := s.heap.size)
  generalize hAe : va_A ([]) s.heap.size = A at hD hC ⊢
  have hA : ∀ q : Nat, s.heap.size ≤ q → A q := fun q h => by rw [← hAe]; exact Or.inr h
  have hS : va_S A s.heap s.heap [] := va_S.rf
  have hP : va_P D vC [] s.heap := hP
  have hD : va_D A [] := hD
  have hl := lv_entry ([.int x, .int y]) (n := 2) (Nat.le_of_ble_eq_true rfl)
  rw [lg_entry_eq]
  generalize (lg_sl ([.int x, .int y]) ++ List.replicate (2 - (lg_sl ([.int x, .int y])).length) Slot.unset).toArray = ls at hl ⊢
  have hl : lv_has ls 2 [(0, .int x), (1, .int y)] := hl
  refine lv_iload_n hx hb d_Lk_needWhat_0 rfl (lv_at hl 0 rfl) ?_
  refine lv_if_lt (tgt := 9) hx hb d_Lk_needWhat_1 (by decide) (fun c_1 => ?_) (fun c_1 => ?_)
  · skip
    exact absurd c_1 h1
  · skip
    refine lv_iload_n hx hb d_Lk_needWhat_4 rfl (lv_at hl 0 rfl) ?_
    refine lv_iload_n hx hb d_Lk_needWhat_5 rfl (lv_at hl 1 rfl) ?_
    refine lv_icmp_le (tgt := 20) hx hb d_Lk_needWhat_6 (by decide) (fun c_6 => ?_) (fun c_6 => ?_)
    · skip
      exact W.vret hx hb hr (fun t ht hW => ⟨rfl, ht⟩) (fun q hq => by cases hq) d_Lk_needWhat_20
    · skip
      exact absurd h2 c_6

set_option maxHeartbeats 4000000 in
set_option maxRecDepth 100000 in
/-- at(i), read-only -/
theorem p_By_at (l : Launch) (D : va_G) (kA : Nat → ClassId) (kS : Nat → Nat) (sz : Nat) (h0 h1 n : Nat) (u : Nat × (Nat → Int32)) (i : Int32) (hu : u.1 ≤ n) (hn : n < 2 ^ 31) : Met l y_By_at w_By_at { frames := 0, cells := 0, slots := 0, locals := 0 } (xPre D vC (tK kA) kS [.ref h0, .int i] (wBy h0 h1 kA n u) sz) (xt_Pi (fun r => r = by_at u i)) 0 0 (fun _ => False) := by
  refine Met.ofW (cc := b_By_at) (maxL := 2) (ret := (some .int)) (by decide) rfl ?_
  intro p e s m args below meth c s₁ B hml hv
  obtain ⟨rfl, hsz, hP, hK, hD0, hN, hC⟩ := hv
  have hx := B.exec
  have hb := B.bytes
  have hr := B.returns
  have hts := atoms_spec (ws := w_By_at) B.pre
  have hg : ∀ w ∈ gW, w.before _ s = true := fun w h => hts w (List.mem_cons_of_mem _ h)
  have hown : s.vm.findClass R_By = some m.cls := findClass_of_methodNamed B.named
  have hlocks := B.notSynchronized
  subst hsz
  have hD := hD0.self (sz := s.heap.size)
  generalize hAe : va_A (wBy h0 h1 kA n u) s.heap.size = A at hD hC ⊢
  have hA : ∀ q : Nat, s.heap.size ≤ q → A q := fun q h => by rw [← hAe]; exact Or.inr h
  have hS : va_S A s.heap s.heap [] := va_S.rf
  have hP : va_P D vC [(h0, .inr (0, [.ref h1, .int (nI u.1)])), (h1, .inl (kA 0, n, .inl u.2))] s.heap := hP
  have hD : va_D A [(h0, .inr (0, [.ref h1, .int (nI u.1)])), (h1, .inl (kA 0, n, .inl u.2))] := hD
  have hl := lv_entry ([.ref h0, .int i]) (n := 2) (Nat.le_of_ble_eq_true rfl)
  rw [lg_entry_eq]
  generalize (lg_sl ([.ref h0, .int i]) ++ List.replicate (2 - (lg_sl ([.ref h0, .int i])).length) Slot.unset).toArray = ls at hl ⊢
  have hl : lv_has ls 2 [(0, .ref h0), (1, .int i)] := hl
  refine lv_iload_n hx hb d_By_at_0 rfl (lv_at hl 1 rfl) ?_
  refine lv_if_lt (tgt := 12) hx hb d_By_at_1 (by decide) (fun c_1 => ?_) (fun c_1 => ?_)
  · skip
    refine lv_iconst (v := (-1)) hx hb d_By_at_12 (by decide) ?_
    refine lv_goto (tgt := 26) hx hb d_By_at_13 (by decide) ?_
    exact W.iret (v := (-1)) hx hb hr (fun t ht hW => ⟨(-1), rfl, (by_at_no (Or.inl c_1)).symm, ht⟩) (fun q hq => by cases hq) d_By_at_26
  · skip
    obtain ⟨k, hk, rfl⟩ := nI_of c_1
    refine lv_iload_n hx hb d_By_at_4 rfl (lv_at hl 1 rfl) ?_
    refine lv_aload_n hx hb d_By_at_5 rfl (lv_at hl 0 rfl) ?_
    refine va_get (D := D) (ci := 0) (v := .int (nI u.1)) (C := R_By) (T := F_By) (N := 2) hx hb hg i_By hown hK hP 0 rfl rfl 1 (by decide) (hg _ mw_50) (fun _ h9 => h9) rfl d_By_at_6 ?_
    refine xb_lt (tgt := 16) hx hb d_By_at_9 (by decide) (by omega) (by omega) (fun c_9 => ?_) (fun c_9 => ?_)
    · skip
      refine lv_aload_n hx hb d_By_at_16 rfl (lv_at hl 0 rfl) ?_
      refine va_get (D := D) (ci := 0) (v := .ref h1) (C := R_By) (T := F_By) (N := 2) hx hb hg i_By hown hK hP 0 rfl rfl 0 (by decide) (hg _ mw_42) (fun _ h9 => h9) rfl d_By_at_17 ?_
      refine lv_iload_n hx hb d_By_at_20 rfl (lv_at hl 1 rfl) ?_
      refine xb_bald hx hb hK hP 1 0 rfl rfl (by omega) (by omega) d_By_at_21 ?_
      refine lv_topi (fun x_21 ex_21 => ?_)
      refine lv_sipush (v := 255) hx hb d_By_at_22 (by decide) ?_
      refine lv_iand hx hb d_By_at_25 ?_
      refine lv_topi (fun x_25 ex_25 => ?_)
      exact W.iret (v := x_25) hx hb hr (fun t ht hW => ⟨x_25, rfl, by rw [ex_25, ex_21]; exact (by_at_in hk c_9).symm, ht⟩) (fun q hq => by cases hq) d_By_at_26
    · skip
      refine lv_iconst (v := (-1)) hx hb d_By_at_12 (by decide) ?_
      refine lv_goto (tgt := 26) hx hb d_By_at_13 (by decide) ?_
      exact W.iret (v := (-1)) hx hb hr (fun t ht hW => ⟨(-1), rfl, (by_at_no (Or.inr ⟨k, hk, rfl, c_9⟩)).symm, ht⟩) (fun q hq => by cases hq) d_By_at_26

set_option maxHeartbeats 4000000 in
set_option maxRecDepth 100000 in
/-- size(x) -/
theorem p_Lk_size (l : Launch) (D : va_G) (kA : Nat → ClassId) (kS : Nat → Nat) (sz : Nat) (h0 t1 t2 : Nat) (r : Nat → Nat) (fp dn : Int32) (u v : Nat × (Nat → Int32)) (x : Int32) (h1 : ¬ x < 0) (h2 : x ≤ 1) : Met l y_Lk_size w_Lk_size { frames := 1, cells := 0, slots := 0, locals := 21 } (xPre D vC (tK kA) kS [.ref h0, .int x] ([oLk h0 r fp dn, (r 1, .inr (0, [.ref t1, .int (nI u.1)])), (r 2, .inr (0, [.ref t2, .int (nI v.1)]))]) sz) (xt_Pi (fun z => z = if x = 0 then nI u.1 else nI v.1)) 0 0 (fun _ => False) := by
  refine Met.ofW (cc := b_Lk_size) (maxL := 2) (ret := (some .int)) (by decide) rfl ?_
  intro p e s m args below meth c s₁ B hml hv
  obtain ⟨rfl, hsz, hP, hK, hD0, hN, hC⟩ := hv
  have hx := B.exec
  have hb := B.bytes
  have hr := B.returns
  have hts := atoms_spec (ws := w_Lk_size) B.pre
  have hg : ∀ w ∈ gW, w.before _ s = true := fun w h => hts w (List.mem_cons_of_mem _ h)
  have hown : s.vm.findClass R_Lk = some m.cls := findClass_of_methodNamed B.named
  have hlocks := B.notSynchronized
  subst hsz
  have hD := hD0.self (sz := s.heap.size)
  generalize hAe : va_A ([oLk h0 r fp dn, (r 1, .inr (0, [.ref t1, .int (nI u.1)])), (r 2, .inr (0, [.ref t2, .int (nI v.1)]))]) s.heap.size = A at hD hC ⊢
  have hA : ∀ q : Nat, s.heap.size ≤ q → A q := fun q h => by rw [← hAe]; exact Or.inr h
  have hS : va_S A s.heap s.heap [] := va_S.rf
  have hP : va_P D vC [(h0, .inr (11, [.ref (r 0), .ref (r 1), .ref (r 2), .ref (r 3), .ref (r 4), .ref (r 5), .ref (r 6), .ref (r 7), .ref (r 8), .ref (r 9), .ref (r 10), .ref (r 11), .ref (r 12), .ref (r 13), .ref (r 14), .int fp, .int dn])), (r 1, .inr (0, [.ref t1, .int (nI u.1)])), (r 2, .inr (0, [.ref t2, .int (nI v.1)]))] s.heap := hP
  have hD : va_D A [(h0, .inr (11, [.ref (r 0), .ref (r 1), .ref (r 2), .ref (r 3), .ref (r 4), .ref (r 5), .ref (r 6), .ref (r 7), .ref (r 8), .ref (r 9), .ref (r 10), .ref (r 11), .ref (r 12), .ref (r 13), .ref (r 14), .int fp, .int dn])), (r 1, .inr (0, [.ref t1, .int (nI u.1)])), (r 2, .inr (0, [.ref t2, .int (nI v.1)]))] := hD
  have hl := lv_entry ([.ref h0, .int x]) (n := 2) (Nat.le_of_ble_eq_true rfl)
  rw [lg_entry_eq]
  generalize (lg_sl ([.ref h0, .int x]) ++ List.replicate (2 - (lg_sl ([.ref h0, .int x])).length) Slot.unset).toArray = ls at hl ⊢
  have hl : lv_has ls 2 [(0, .ref h0), (1, .int x)] := hl
  refine lv_iload_n hx hb d_Lk_size_0 rfl (lv_at hl 1 rfl) ?_
  refine lv_iconst (v := 1) hx hb d_Lk_size_1 (by decide) ?_
  refine xc_pv (va_runS (As := [.int x, .int 1]) (rest := []) ⟨hx, hb, hml, hown, hg⟩ (p_Lk_needWhat l D kA kS s.heap.size x 1 h1 h2) (cwS 2 hg (xg_S mw_1497 mw_1498 mw_1 mw_1499) rfl rfl rfl (by decide +kernel) ⟨Nat.le_of_ble_eq_true rfl, Nat.le_of_ble_eq_true rfl⟩) (xc_pre hK hN hC hP hD hS hA [] (by decide) rfl) rfl rfl hl.1 rfl (lv_room (Nat.le_of_ble_eq_true rfl)) d_Lk_size_2 ⟨Nat.le_of_ble_eq_true rfl, Nat.le_of_ble_eq_true rfl⟩) ?_
  refine lv_iload_n hx hb d_Lk_size_5 rfl (lv_at hl 1 rfl) ?_
  refine lv_if_ne (tgt := 19) hx hb d_Lk_size_6 (by decide) (fun c_6 => ?_) (fun c_6 => ?_)
  · skip
    refine lv_aload_n hx hb d_Lk_size_19 rfl (lv_at hl 0 rfl) ?_
    refine va_get (D := D) (ci := 11) (v := .ref (r 2)) (C := R_Lk) (T := F_Lk) (N := 17) hx hb hg i_Lk hown hK hP 0 rfl rfl 2 (by decide) (hg _ mw_485) (fun _ h9 => h9) rfl d_Lk_size_20 ?_
    refine va_get (D := D) (ci := 0) (v := .int (nI v.1)) (C := R_By) (T := F_By) (N := 2) hx hb hg i_By hown hK hP 2 rfl rfl 1 (by decide) (hg _ mw_51) (fun _ h9 => h9) rfl d_Lk_size_23 ?_
    exact W.iret (v := nI v.1) hx hb hr (fun t ht hW => ⟨nI v.1, rfl, (if_neg c_6).symm, ht⟩) (fun q hq => by cases hq) d_Lk_size_26
  · skip
    refine lv_aload_n hx hb d_Lk_size_9 rfl (lv_at hl 0 rfl) ?_
    refine va_get (D := D) (ci := 11) (v := .ref (r 1)) (C := R_Lk) (T := F_Lk) (N := 17) hx hb hg i_Lk hown hK hP 0 rfl rfl 1 (by decide) (hg _ mw_484) (fun _ h9 => h9) rfl d_Lk_size_10 ?_
    refine va_get (D := D) (ci := 0) (v := .int (nI u.1)) (C := R_By) (T := F_By) (N := 2) hx hb hg i_By hown hK hP 1 rfl rfl 1 (by decide) (hg _ mw_51) (fun _ h9 => h9) rfl d_Lk_size_13 ?_
    refine lv_goto (tgt := 26) hx hb d_Lk_size_16 (by decide) ?_
    exact W.iret (v := nI u.1) hx hb hr (fun t ht hW => ⟨nI u.1, rfl, (if_pos c_6).symm, ht⟩) (fun q hq => by cases hq) d_Lk_size_26

set_option maxHeartbeats 4000000 in
set_option maxRecDepth 100000 in
/-- size: refused -/
theorem t_Lk_size (l : Launch) (hfl : l.flags = flags0) (D : va_G) (kA : Nat → ClassId) (kS : Nat → Nat) (sz : Nat) (h0 t1 t2 : Nat) (r : Nat → Nat) (fp dn : Int32) (u v : Nat × (Nat → Int32)) (x : Int32) (h1 : x < 0 ∨ ¬ x ≤ 1) : xt_Met l y_Lk_size w_Lk_size { frames := 7, cells := 1, slots := 6, locals := 103 } (xPre D vC (tK kA) kS [.ref h0, .int x] ([oLk h0 r fp dn, (r 1, .inr (0, [.ref t1, .int (nI u.1)])), (r 2, .inr (0, [.ref t2, .int (nI v.1)]))]) sz) (xt_Q "java/lang/IllegalArgumentException" (fun _ : Unit => True) (xB D vC (tK kA) (fun _ => [oLk h0 r fp dn, (r 1, .inr (0, [.ref t1, .int (nI u.1)])), (r 2, .inr (0, [.ref t2, .int (nI v.1)]))]) (va_A ([oLk h0 r fp dn, (r 1, .inr (0, [.ref t1, .int (nI u.1)])), (r 2, .inr (0, [.ref t2, .int (nI v.1)]))]) sz)) (va_A ([oLk h0 r fp dn, (r 1, .inr (0, [.ref t1, .int (nI u.1)])), (r 2, .inr (0, [.ref t2, .int (nI v.1)]))]) sz)) 1 6 (va_A ([oLk h0 r fp dn, (r 1, .inr (0, [.ref t1, .int (nI u.1)])), (r 2, .inr (0, [.ref t2, .int (nI v.1)]))]) sz) := by
  refine xt_ofW (cc := b_Lk_size) (maxL := 2) (ret := (some .int)) (by decide) rfl ?_
  intro p e s m args below meth c s₁ B hml hemp hv
  obtain ⟨rfl, hsz, hP, hK, hD0, hN, hC⟩ := hv
  have hx := B.exec
  have hb := B.bytes
  have hts := atoms_spec (ws := w_Lk_size) B.pre
  have hg : ∀ w ∈ gW, w.before _ s = true := fun w h => hts w (List.mem_cons_of_mem _ h)
  have hown : s.vm.findClass R_Lk = some m.cls := findClass_of_methodNamed B.named
  have hlocks := B.notSynchronized
  subst hsz
  have hD := hD0.self (sz := s.heap.size)
  generalize hAe : va_A ([oLk h0 r fp dn, (r 1, .inr (0, [.ref t1, .int (nI u.1)])), (r 2, .inr (0, [.ref t2, .int (nI v.1)]))]) s.heap.size = A at hD hC ⊢
  have hA : ∀ q : Nat, s.heap.size ≤ q → A q := fun q h => by rw [← hAe]; exact Or.inr h
  have hS : va_S A s.heap s.heap [] := va_S.rf
  have hP : va_P D vC [(h0, .inr (11, [.ref (r 0), .ref (r 1), .ref (r 2), .ref (r 3), .ref (r 4), .ref (r 5), .ref (r 6), .ref (r 7), .ref (r 8), .ref (r 9), .ref (r 10), .ref (r 11), .ref (r 12), .ref (r 13), .ref (r 14), .int fp, .int dn])), (r 1, .inr (0, [.ref t1, .int (nI u.1)])), (r 2, .inr (0, [.ref t2, .int (nI v.1)]))] s.heap := hP
  have hD : va_D A [(h0, .inr (11, [.ref (r 0), .ref (r 1), .ref (r 2), .ref (r 3), .ref (r 4), .ref (r 5), .ref (r 6), .ref (r 7), .ref (r 8), .ref (r 9), .ref (r 10), .ref (r 11), .ref (r 12), .ref (r 13), .ref (r 14), .int fp, .int dn])), (r 1, .inr (0, [.ref t1, .int (nI u.1)])), (r 2, .inr (0, [.ref t2, .int (nI v.1)]))] := hD
  have hl := lv_entry ([.ref h0, .int x]) (n := 2) (Nat.le_of_ble_eq_true rfl)
  rw [lg_entry_eq]
  generalize (lg_sl ([.ref h0, .int x]) ++ List.replicate (2 - (lg_sl ([.ref h0, .int x])).length) Slot.unset).toArray = ls at hl ⊢
  have hl : lv_has ls 2 [(0, .ref h0), (1, .int x)] := hl
  refine lv_iload_n hx hb d_Lk_size_0 rfl (lv_at hl 1 rfl) ?_
  refine lv_iconst (v := 1) hx hb d_Lk_size_1 (by decide) ?_
  exact xc_o (wr := [(h0, .inr (11, [.ref (r 0), .ref (r 1), .ref (r 2), .ref (r 3), .ref (r 4), .ref (r 5), .ref (r 6), .ref (r 7), .ref (r 8), .ref (r 9), .ref (r 10), .ref (r 11), .ref (r 12), .ref (r 13), .ref (r 14), .int fp, .int dn])), (r 1, .inr (0, [.ref t1, .int (nI u.1)])), (r 2, .inr (0, [.ref t2, .int (nI v.1)]))]) (xt_runS (As := [.int x, .int 1]) (rest := []) ⟨hx, hb, hml, hown, hg⟩ (t_Lk_needWhat l hfl D kA kS s.heap.size x 1 h1) (cwS 2 hg (xg_S mw_1497 mw_1498 mw_1 mw_1499) rfl rfl rfl (by decide +kernel) ⟨Nat.le_of_ble_eq_true rfl, Nat.le_of_ble_eq_true rfl⟩) (xc_pre hK hN hC hP hD hS hA [] (by decide) rfl) rfl rfl hl.1 rfl (lv_room (Nat.le_of_ble_eq_true rfl)) d_Lk_size_2 ⟨Nat.le_of_ble_eq_true rfl, Nat.le_of_ble_eq_true rfl⟩) hK hP hD hS hA [] [0, 1, 2] rfl rfl (by decide) (by decide) hemp hlocks (fun q h => h) (fun u _ => ⟨(), trivial, fun H1 hP1 hD1 => ⟨hP1.sub [0, 1, 2] rfl, hD1.sub [0, 1, 2] (by decide) rfl⟩⟩)

set_option maxHeartbeats 4000000 in
set_option maxRecDepth 100000 in
/-- letter(i, x) -/
theorem p_Lk_letter (l : Launch) (D : va_G) (kA : Nat → ClassId) (kS : Nat → Nat) (sz : Nat) (h0 t1 t2 : Nat) (r : Nat → Nat) (fp dn : Int32) (u v : Nat × (Nat → Int32)) (i x : Int32) (hu : u.1 ≤ 4096) (hv : v.1 ≤ 4096) (h1 : ¬ x < 0) (h2 : x ≤ 1) (hne : ¬ (if x = 0 then by_at u i else by_at v i) = -1) : Met l y_Lk_letter w_Lk_letter { frames := 1, cells := 0, slots := 0, locals := 21 } (xPre D vC (tK kA) kS [.ref h0, .int i, .int x] ([oLk h0 r fp dn, (r 1, .inr (0, [.ref t1, .int (nI u.1)])), (t1, .inl (kA 0, 4096, .inl u.2)), (r 2, .inr (0, [.ref t2, .int (nI v.1)])), (t2, .inl (kA 0, 4096, .inl v.2))]) sz) (xt_Pi (fun z => z = if x = 0 then by_at u i else by_at v i)) 0 0 (fun _ => False) := by
  refine Met.ofW (cc := b_Lk_letter) (maxL := 4) (ret := (some .int)) (by decide) rfl ?_
  intro p e s m args below meth c s₁ B hml hv
  obtain ⟨rfl, hsz, hP, hK, hD0, hN, hC⟩ := hv
  have hx := B.exec
  have hb := B.bytes
  have hr := B.returns
  have hts := atoms_spec (ws := w_Lk_letter) B.pre
  have hg : ∀ w ∈ gW, w.before _ s = true := fun w h => hts w (List.mem_cons_of_mem _ h)
  have hown : s.vm.findClass R_Lk = some m.cls := findClass_of_methodNamed B.named
  have hlocks := B.notSynchronized
  subst hsz
  have hD := hD0.self (sz := s.heap.size)
  generalize hAe : va_A ([oLk h0 r fp dn, (r 1, .inr (0, [.ref t1, .int (nI u.1)])), (t1, .inl (kA 0, 4096, .inl u.2)), (r 2, .inr (0, [.ref t2, .int (nI v.1)])), (t2, .inl (kA 0, 4096, .inl v.2))]) s.heap.size = A at hD hC ⊢
  have hA : ∀ q : Nat, s.heap.size ≤ q → A q := fun q h => by rw [← hAe]; exact Or.inr h
  have hS : va_S A s.heap s.heap [] := va_S.rf
  have hP : va_P D vC [(h0, .inr (11, [.ref (r 0), .ref (r 1), .ref (r 2), .ref (r 3), .ref (r 4), .ref (r 5), .ref (r 6), .ref (r 7), .ref (r 8), .ref (r 9), .ref (r 10), .ref (r 11), .ref (r 12), .ref (r 13), .ref (r 14), .int fp, .int dn])), (r 1, .inr (0, [.ref t1, .int (nI u.1)])), (t1, .inl (kA 0, 4096, .inl u.2)), (r 2, .inr (0, [.ref t2, .int (nI v.1)])), (t2, .inl (kA 0, 4096, .inl v.2))] s.heap := hP
  have hD : va_D A [(h0, .inr (11, [.ref (r 0), .ref (r 1), .ref (r 2), .ref (r 3), .ref (r 4), .ref (r 5), .ref (r 6), .ref (r 7), .ref (r 8), .ref (r 9), .ref (r 10), .ref (r 11), .ref (r 12), .ref (r 13), .ref (r 14), .int fp, .int dn])), (r 1, .inr (0, [.ref t1, .int (nI u.1)])), (t1, .inl (kA 0, 4096, .inl u.2)), (r 2, .inr (0, [.ref t2, .int (nI v.1)])), (t2, .inl (kA 0, 4096, .inl v.2))] := hD
  have hl := lv_entry ([.ref h0, .int i, .int x]) (n := 4) (Nat.le_of_ble_eq_true rfl)
  rw [lg_entry_eq]
  generalize (lg_sl ([.ref h0, .int i, .int x]) ++ List.replicate (4 - (lg_sl ([.ref h0, .int i, .int x])).length) Slot.unset).toArray = ls at hl ⊢
  have hl : lv_has ls 4 [(0, .ref h0), (1, .int i), (2, .int x)] := hl
  refine lv_iload_n hx hb d_Lk_letter_0 rfl (lv_at hl 2 rfl) ?_
  refine lv_iconst (v := 1) hx hb d_Lk_letter_1 (by decide) ?_
  refine xc_pv (va_runS (As := [.int x, .int 1]) (rest := []) ⟨hx, hb, hml, hown, hg⟩ (p_Lk_needWhat l D kA kS s.heap.size x 1 h1 h2) (cwS 2 hg (xg_S mw_1497 mw_1498 mw_1 mw_1499) rfl rfl rfl (by decide +kernel) ⟨Nat.le_of_ble_eq_true rfl, Nat.le_of_ble_eq_true rfl⟩) (xc_pre hK hN hC hP hD hS hA [] (by decide) rfl) rfl rfl hl.1 rfl (lv_room (Nat.le_of_ble_eq_true rfl)) d_Lk_letter_2 ⟨Nat.le_of_ble_eq_true rfl, Nat.le_of_ble_eq_true rfl⟩) ?_
  refine lv_iload_n hx hb d_Lk_letter_5 rfl (lv_at hl 2 rfl) ?_
  refine lv_if_ne (tgt := 20) hx hb d_Lk_letter_6 (by decide) (fun c_6 => ?_) (fun c_6 => ?_)
  · skip
    refine lv_aload_n hx hb d_Lk_letter_20 rfl (lv_at hl 0 rfl) ?_
    refine va_get (D := D) (ci := 11) (v := .ref (r 2)) (C := R_Lk) (T := F_Lk) (N := 17) hx hb hg i_Lk hown hK hP 0 rfl rfl 2 (by decide) (hg _ mw_485) (fun _ h9 => h9) rfl d_Lk_letter_21 ?_
    refine lv_iload_n hx hb d_Lk_letter_24 rfl (lv_at hl 1 rfl) ?_
    refine xc_pi (va_runV (As := [.int i]) (rest := []) ⟨hx, hb, hml, hown, hg⟩ (p_By_at l D kA kS s.heap.size (r 2) t2 4096 v i hv (by decide)) (cwV 1 hg (xg_V mw_1524 mw_790 mw_791 mw_2 mw_792) rfl rfl rfl (by decide +kernel) ⟨Nat.le_of_ble_eq_true rfl, Nat.le_of_ble_eq_true rfl⟩) (xc_preV hK hN hC hP hD hS hA [3, 4] (by decide) rfl 0 rfl rfl) rfl rfl hl.1 rfl (lv_room (Nat.le_of_ble_eq_true rfl)) d_Lk_letter_25 ⟨Nat.le_of_ble_eq_true rfl, Nat.le_of_ble_eq_true rfl⟩) (fun ra hw => ?_)
    refine lv_istore_n (lv' := [(3, .int ra), (0, .ref h0), (1, .int i), (2, .int x)]) hx hb d_Lk_letter_28 rfl hl (by decide) rfl (fun ls hl => ?_)
    refine lv_iload_n hx hb d_Lk_letter_29 rfl (lv_at hl 0 rfl) ?_
    refine lv_iconst (v := (-1)) hx hb d_Lk_letter_30 (by decide) ?_
    refine lv_icmp_ne (tgt := 44) hx hb d_Lk_letter_31 (by decide) (fun c_31 => ?_) (fun c_31 => ?_)
    · skip
      refine lv_iload_n hx hb d_Lk_letter_44 rfl (lv_at hl 0 rfl) ?_
      exact W.iret (v := ra) hx hb hr (fun t ht hW => ⟨ra, rfl, by rw [hw]; exact (if_neg c_6).symm, ht⟩) (fun q hq => by cases hq) d_Lk_letter_45
    · skip
      exact absurd ((if_neg c_6 : (if x = 0 then by_at u i else by_at v i) = by_at v i).trans (hw.symm.trans c_31)) hne
  · skip
    refine lv_aload_n hx hb d_Lk_letter_9 rfl (lv_at hl 0 rfl) ?_
    refine va_get (D := D) (ci := 11) (v := .ref (r 1)) (C := R_Lk) (T := F_Lk) (N := 17) hx hb hg i_Lk hown hK hP 0 rfl rfl 1 (by decide) (hg _ mw_484) (fun _ h9 => h9) rfl d_Lk_letter_10 ?_
    refine lv_iload_n hx hb d_Lk_letter_13 rfl (lv_at hl 1 rfl) ?_
    refine xc_pi (va_runV (As := [.int i]) (rest := []) ⟨hx, hb, hml, hown, hg⟩ (p_By_at l D kA kS s.heap.size (r 1) t1 4096 u i hu (by decide)) (cwV 1 hg (xg_V mw_1524 mw_790 mw_791 mw_2 mw_792) rfl rfl rfl (by decide +kernel) ⟨Nat.le_of_ble_eq_true rfl, Nat.le_of_ble_eq_true rfl⟩) (xc_preV hK hN hC hP hD hS hA [1, 2] (by decide) rfl 0 rfl rfl) rfl rfl hl.1 rfl (lv_room (Nat.le_of_ble_eq_true rfl)) d_Lk_letter_14 ⟨Nat.le_of_ble_eq_true rfl, Nat.le_of_ble_eq_true rfl⟩) (fun ra hw => ?_)
    refine lv_goto (tgt := 28) hx hb d_Lk_letter_17 (by decide) ?_
    refine lv_istore_n (lv' := [(3, .int ra), (0, .ref h0), (1, .int i), (2, .int x)]) hx hb d_Lk_letter_28 rfl hl (by decide) rfl (fun ls hl => ?_)
    refine lv_iload_n hx hb d_Lk_letter_29 rfl (lv_at hl 0 rfl) ?_
    refine lv_iconst (v := (-1)) hx hb d_Lk_letter_30 (by decide) ?_
    refine lv_icmp_ne (tgt := 44) hx hb d_Lk_letter_31 (by decide) (fun c_31 => ?_) (fun c_31 => ?_)
    · skip
      refine lv_iload_n hx hb d_Lk_letter_44 rfl (lv_at hl 0 rfl) ?_
      exact W.iret (v := ra) hx hb hr (fun t ht hW => ⟨ra, rfl, by rw [hw]; exact (if_pos c_6).symm, ht⟩) (fun q hq => by cases hq) d_Lk_letter_45
    · skip
      exact absurd ((if_pos c_6 : (if x = 0 then by_at u i else by_at v i) = by_at u i).trans (hw.symm.trans c_31)) hne

set_option maxHeartbeats 4000000 in
set_option maxRecDepth 100000 in
/-- letter: no such byte -/
theorem t_Lk_letter (l : Launch) (hfl : l.flags = flags0) (D : va_G) (kA : Nat → ClassId) (kS : Nat → Nat) (sz : Nat) (h0 t1 t2 : Nat) (r : Nat → Nat) (fp dn : Int32) (u v : Nat × (Nat → Int32)) (i x : Int32) (hu : u.1 ≤ 4096) (hv : v.1 ≤ 4096) (h1 : ¬ x < 0) (h2 : x ≤ 1) (heq : (if x = 0 then by_at u i else by_at v i) = -1) : xt_Met l y_Lk_letter w_Lk_letter { frames := 6, cells := 1, slots := 6, locals := 82 } (xPre D vC (tK kA) kS [.ref h0, .int i, .int x] ([oLk h0 r fp dn, (r 1, .inr (0, [.ref t1, .int (nI u.1)])), (t1, .inl (kA 0, 4096, .inl u.2)), (r 2, .inr (0, [.ref t2, .int (nI v.1)])), (t2, .inl (kA 0, 4096, .inl v.2))]) sz) (xt_Q "java/lang/IndexOutOfBoundsException" (fun _ : Unit => True) (xB D vC (tK kA) (fun _ => [oLk h0 r fp dn, (r 1, .inr (0, [.ref t1, .int (nI u.1)])), (t1, .inl (kA 0, 4096, .inl u.2)), (r 2, .inr (0, [.ref t2, .int (nI v.1)])), (t2, .inl (kA 0, 4096, .inl v.2))]) (va_A ([oLk h0 r fp dn, (r 1, .inr (0, [.ref t1, .int (nI u.1)])), (t1, .inl (kA 0, 4096, .inl u.2)), (r 2, .inr (0, [.ref t2, .int (nI v.1)])), (t2, .inl (kA 0, 4096, .inl v.2))]) sz)) (va_A ([oLk h0 r fp dn, (r 1, .inr (0, [.ref t1, .int (nI u.1)])), (t1, .inl (kA 0, 4096, .inl u.2)), (r 2, .inr (0, [.ref t2, .int (nI v.1)])), (t2, .inl (kA 0, 4096, .inl v.2))]) sz)) 1 6 (va_A ([oLk h0 r fp dn, (r 1, .inr (0, [.ref t1, .int (nI u.1)])), (t1, .inl (kA 0, 4096, .inl u.2)), (r 2, .inr (0, [.ref t2, .int (nI v.1)])), (t2, .inl (kA 0, 4096, .inl v.2))]) sz) := by
  refine xt_ofW (cc := b_Lk_letter) (maxL := 4) (ret := (some .int)) (by decide) rfl ?_
  intro p e s m args below meth c s₁ B hml hemp hv
  obtain ⟨rfl, hsz, hP, hK, hD0, hN, hC⟩ := hv
  have hx := B.exec
  have hb := B.bytes
  have hts := atoms_spec (ws := w_Lk_letter) B.pre
  have hg : ∀ w ∈ gW, w.before _ s = true := fun w h => hts w (List.mem_cons_of_mem _ h)
  have hown : s.vm.findClass R_Lk = some m.cls := findClass_of_methodNamed B.named
  have hlocks := B.notSynchronized
  subst hsz
  have hD := hD0.self (sz := s.heap.size)
  generalize hAe : va_A ([oLk h0 r fp dn, (r 1, .inr (0, [.ref t1, .int (nI u.1)])), (t1, .inl (kA 0, 4096, .inl u.2)), (r 2, .inr (0, [.ref t2, .int (nI v.1)])), (t2, .inl (kA 0, 4096, .inl v.2))]) s.heap.size = A at hD hC ⊢
  have hA : ∀ q : Nat, s.heap.size ≤ q → A q := fun q h => by rw [← hAe]; exact Or.inr h
  have hS : va_S A s.heap s.heap [] := va_S.rf
  have hP : va_P D vC [(h0, .inr (11, [.ref (r 0), .ref (r 1), .ref (r 2), .ref (r 3), .ref (r 4), .ref (r 5), .ref (r 6), .ref (r 7), .ref (r 8), .ref (r 9), .ref (r 10), .ref (r 11), .ref (r 12), .ref (r 13), .ref (r 14), .int fp, .int dn])), (r 1, .inr (0, [.ref t1, .int (nI u.1)])), (t1, .inl (kA 0, 4096, .inl u.2)), (r 2, .inr (0, [.ref t2, .int (nI v.1)])), (t2, .inl (kA 0, 4096, .inl v.2))] s.heap := hP
  have hD : va_D A [(h0, .inr (11, [.ref (r 0), .ref (r 1), .ref (r 2), .ref (r 3), .ref (r 4), .ref (r 5), .ref (r 6), .ref (r 7), .ref (r 8), .ref (r 9), .ref (r 10), .ref (r 11), .ref (r 12), .ref (r 13), .ref (r 14), .int fp, .int dn])), (r 1, .inr (0, [.ref t1, .int (nI u.1)])), (t1, .inl (kA 0, 4096, .inl u.2)), (r 2, .inr (0, [.ref t2, .int (nI v.1)])), (t2, .inl (kA 0, 4096, .inl v.2))] := hD
  have hl := lv_entry ([.ref h0, .int i, .int x]) (n := 4) (Nat.le_of_ble_eq_true rfl)
  rw [lg_entry_eq]
  generalize (lg_sl ([.ref h0, .int i, .int x]) ++ List.replicate (4 - (lg_sl ([.ref h0, .int i, .int x])).length) Slot.unset).toArray = ls at hl ⊢
  have hl : lv_has ls 4 [(0, .ref h0), (1, .int i), (2, .int x)] := hl
  refine lv_iload_n hx hb d_Lk_letter_0 rfl (lv_at hl 2 rfl) ?_
  refine lv_iconst (v := 1) hx hb d_Lk_letter_1 (by decide) ?_
  refine xc_pv (va_runS (As := [.int x, .int 1]) (rest := []) ⟨hx, hb, hml, hown, hg⟩ (p_Lk_needWhat l D kA kS s.heap.size x 1 h1 h2) (cwS 2 hg (xg_S mw_1497 mw_1498 mw_1 mw_1499) rfl rfl rfl (by decide +kernel) ⟨Nat.le_of_ble_eq_true rfl, Nat.le_of_ble_eq_true rfl⟩) (xc_pre hK hN hC hP hD hS hA [] (by decide) rfl) rfl rfl hl.1 rfl (lv_room (Nat.le_of_ble_eq_true rfl)) d_Lk_letter_2 ⟨Nat.le_of_ble_eq_true rfl, Nat.le_of_ble_eq_true rfl⟩) ?_
  refine lv_iload_n hx hb d_Lk_letter_5 rfl (lv_at hl 2 rfl) ?_
  refine lv_if_ne (tgt := 20) hx hb d_Lk_letter_6 (by decide) (fun c_6 => ?_) (fun c_6 => ?_)
  · skip
    refine lv_aload_n hx hb d_Lk_letter_20 rfl (lv_at hl 0 rfl) ?_
    refine va_get (D := D) (ci := 11) (v := .ref (r 2)) (C := R_Lk) (T := F_Lk) (N := 17) hx hb hg i_Lk hown hK hP 0 rfl rfl 2 (by decide) (hg _ mw_485) (fun _ h9 => h9) rfl d_Lk_letter_21 ?_
    refine lv_iload_n hx hb d_Lk_letter_24 rfl (lv_at hl 1 rfl) ?_
    refine xc_pi (va_runV (As := [.int i]) (rest := []) ⟨hx, hb, hml, hown, hg⟩ (p_By_at l D kA kS s.heap.size (r 2) t2 4096 v i hv (by decide)) (cwV 1 hg (xg_V mw_1524 mw_790 mw_791 mw_2 mw_792) rfl rfl rfl (by decide +kernel) ⟨Nat.le_of_ble_eq_true rfl, Nat.le_of_ble_eq_true rfl⟩) (xc_preV hK hN hC hP hD hS hA [3, 4] (by decide) rfl 0 rfl rfl) rfl rfl hl.1 rfl (lv_room (Nat.le_of_ble_eq_true rfl)) d_Lk_letter_25 ⟨Nat.le_of_ble_eq_true rfl, Nat.le_of_ble_eq_true rfl⟩) (fun ra hw => ?_)
    refine lv_istore_n (lv' := [(3, .int ra), (0, .ref h0), (1, .int i), (2, .int x)]) hx hb d_Lk_letter_28 rfl hl (by decide) rfl (fun ls hl => ?_)
    refine lv_iload_n hx hb d_Lk_letter_29 rfl (lv_at hl 0 rfl) ?_
    refine lv_iconst (v := (-1)) hx hb d_Lk_letter_30 (by decide) ?_
    refine lv_icmp_ne (tgt := 44) hx hb d_Lk_letter_31 (by decide) (fun c_31 => ?_) (fun c_31 => ?_)
    · skip
      exact absurd (hw.trans ((if_neg c_6 : (if x = 0 then by_at u i else by_at v i) = by_at v i).symm.trans heq)) c_31
    · skip
      exact xt_new0 (D := D) hx hb hfl hown (by decide +kernel) xE_fit (xE_Lk_IOB.use hg hN hC) (hg _ mw_1080) (hg _ mw_27) (hC.2.2 38 ("RecordLake", 245, "there is no such byte") rfl) hml hl.1 hemp hlocks (by decide) (by decide) (by decide) (by decide) d_Lk_letter_34 d_Lk_letter_37 d_Lk_letter_38 d_Lk_letter_40 d_Lk_letter_43 hK () trivial hP hD
  · skip
    refine lv_aload_n hx hb d_Lk_letter_9 rfl (lv_at hl 0 rfl) ?_
    refine va_get (D := D) (ci := 11) (v := .ref (r 1)) (C := R_Lk) (T := F_Lk) (N := 17) hx hb hg i_Lk hown hK hP 0 rfl rfl 1 (by decide) (hg _ mw_484) (fun _ h9 => h9) rfl d_Lk_letter_10 ?_
    refine lv_iload_n hx hb d_Lk_letter_13 rfl (lv_at hl 1 rfl) ?_
    refine xc_pi (va_runV (As := [.int i]) (rest := []) ⟨hx, hb, hml, hown, hg⟩ (p_By_at l D kA kS s.heap.size (r 1) t1 4096 u i hu (by decide)) (cwV 1 hg (xg_V mw_1524 mw_790 mw_791 mw_2 mw_792) rfl rfl rfl (by decide +kernel) ⟨Nat.le_of_ble_eq_true rfl, Nat.le_of_ble_eq_true rfl⟩) (xc_preV hK hN hC hP hD hS hA [1, 2] (by decide) rfl 0 rfl rfl) rfl rfl hl.1 rfl (lv_room (Nat.le_of_ble_eq_true rfl)) d_Lk_letter_14 ⟨Nat.le_of_ble_eq_true rfl, Nat.le_of_ble_eq_true rfl⟩) (fun ra hw => ?_)
    refine lv_goto (tgt := 28) hx hb d_Lk_letter_17 (by decide) ?_
    refine lv_istore_n (lv' := [(3, .int ra), (0, .ref h0), (1, .int i), (2, .int x)]) hx hb d_Lk_letter_28 rfl hl (by decide) rfl (fun ls hl => ?_)
    refine lv_iload_n hx hb d_Lk_letter_29 rfl (lv_at hl 0 rfl) ?_
    refine lv_iconst (v := (-1)) hx hb d_Lk_letter_30 (by decide) ?_
    refine lv_icmp_ne (tgt := 44) hx hb d_Lk_letter_31 (by decide) (fun c_31 => ?_) (fun c_31 => ?_)
    · skip
      exact absurd (hw.trans ((if_pos c_6 : (if x = 0 then by_at u i else by_at v i) = by_at u i).symm.trans heq)) c_31
    · skip
      exact xt_new0 (D := D) hx hb hfl hown (by decide +kernel) xE_fit (xE_Lk_IOB.use hg hN hC) (hg _ mw_1080) (hg _ mw_27) (hC.2.2 38 ("RecordLake", 245, "there is no such byte") rfl) hml hl.1 hemp hlocks (by decide) (by decide) (by decide) (by decide) d_Lk_letter_34 d_Lk_letter_37 d_Lk_letter_38 d_Lk_letter_40 d_Lk_letter_43 hK () trivial hP hD

set_option maxHeartbeats 4000000 in
set_option maxRecDepth 100000 in
/-- letter: no such thing -/
theorem t_Lk_letter2 (l : Launch) (hfl : l.flags = flags0) (D : va_G) (kA : Nat → ClassId) (kS : Nat → Nat) (sz : Nat) (h0 t1 t2 : Nat) (r : Nat → Nat) (fp dn : Int32) (u v : Nat × (Nat → Int32)) (i x : Int32) (hu : u.1 ≤ 4096) (hv : v.1 ≤ 4096) (h1 : x < 0 ∨ ¬ x ≤ 1) : xt_Met l y_Lk_letter w_Lk_letter { frames := 7, cells := 1, slots := 6, locals := 103 } (xPre D vC (tK kA) kS [.ref h0, .int i, .int x] ([oLk h0 r fp dn, (r 1, .inr (0, [.ref t1, .int (nI u.1)])), (t1, .inl (kA 0, 4096, .inl u.2)), (r 2, .inr (0, [.ref t2, .int (nI v.1)])), (t2, .inl (kA 0, 4096, .inl v.2))]) sz) (xt_Q "java/lang/IllegalArgumentException" (fun _ : Unit => True) (xB D vC (tK kA) (fun _ => [oLk h0 r fp dn, (r 1, .inr (0, [.ref t1, .int (nI u.1)])), (t1, .inl (kA 0, 4096, .inl u.2)), (r 2, .inr (0, [.ref t2, .int (nI v.1)])), (t2, .inl (kA 0, 4096, .inl v.2))]) (va_A ([oLk h0 r fp dn, (r 1, .inr (0, [.ref t1, .int (nI u.1)])), (t1, .inl (kA 0, 4096, .inl u.2)), (r 2, .inr (0, [.ref t2, .int (nI v.1)])), (t2, .inl (kA 0, 4096, .inl v.2))]) sz)) (va_A ([oLk h0 r fp dn, (r 1, .inr (0, [.ref t1, .int (nI u.1)])), (t1, .inl (kA 0, 4096, .inl u.2)), (r 2, .inr (0, [.ref t2, .int (nI v.1)])), (t2, .inl (kA 0, 4096, .inl v.2))]) sz)) 1 6 (va_A ([oLk h0 r fp dn, (r 1, .inr (0, [.ref t1, .int (nI u.1)])), (t1, .inl (kA 0, 4096, .inl u.2)), (r 2, .inr (0, [.ref t2, .int (nI v.1)])), (t2, .inl (kA 0, 4096, .inl v.2))]) sz) := by
  refine xt_ofW (cc := b_Lk_letter) (maxL := 4) (ret := (some .int)) (by decide) rfl ?_
  intro p e s m args below meth c s₁ B hml hemp hv
  obtain ⟨rfl, hsz, hP, hK, hD0, hN, hC⟩ := hv
  have hx := B.exec
  have hb := B.bytes
  have hts := atoms_spec (ws := w_Lk_letter) B.pre
  have hg : ∀ w ∈ gW, w.before _ s = true := fun w h => hts w (List.mem_cons_of_mem _ h)
  have hown : s.vm.findClass R_Lk = some m.cls := findClass_of_methodNamed B.named
  have hlocks := B.notSynchronized
  subst hsz
  have hD := hD0.self (sz := s.heap.size)
  generalize hAe : va_A ([oLk h0 r fp dn, (r 1, .inr (0, [.ref t1, .int (nI u.1)])), (t1, .inl (kA 0, 4096, .inl u.2)), (r 2, .inr (0, [.ref t2, .int (nI v.1)])), (t2, .inl (kA 0, 4096, .inl v.2))]) s.heap.size = A at hD hC ⊢
  have hA : ∀ q : Nat, s.heap.size ≤ q → A q := fun q h => by rw [← hAe]; exact Or.inr h
  have hS : va_S A s.heap s.heap [] := va_S.rf
  have hP : va_P D vC [(h0, .inr (11, [.ref (r 0), .ref (r 1), .ref (r 2), .ref (r 3), .ref (r 4), .ref (r 5), .ref (r 6), .ref (r 7), .ref (r 8), .ref (r 9), .ref (r 10), .ref (r 11), .ref (r 12), .ref (r 13), .ref (r 14), .int fp, .int dn])), (r 1, .inr (0, [.ref t1, .int (nI u.1)])), (t1, .inl (kA 0, 4096, .inl u.2)), (r 2, .inr (0, [.ref t2, .int (nI v.1)])), (t2, .inl (kA 0, 4096, .inl v.2))] s.heap := hP
  have hD : va_D A [(h0, .inr (11, [.ref (r 0), .ref (r 1), .ref (r 2), .ref (r 3), .ref (r 4), .ref (r 5), .ref (r 6), .ref (r 7), .ref (r 8), .ref (r 9), .ref (r 10), .ref (r 11), .ref (r 12), .ref (r 13), .ref (r 14), .int fp, .int dn])), (r 1, .inr (0, [.ref t1, .int (nI u.1)])), (t1, .inl (kA 0, 4096, .inl u.2)), (r 2, .inr (0, [.ref t2, .int (nI v.1)])), (t2, .inl (kA 0, 4096, .inl v.2))] := hD
  have hl := lv_entry ([.ref h0, .int i, .int x]) (n := 4) (Nat.le_of_ble_eq_true rfl)
  rw [lg_entry_eq]
  generalize (lg_sl ([.ref h0, .int i, .int x]) ++ List.replicate (4 - (lg_sl ([.ref h0, .int i, .int x])).length) Slot.unset).toArray = ls at hl ⊢
  have hl : lv_has ls 4 [(0, .ref h0), (1, .int i), (2, .int x)] := hl
  refine lv_iload_n hx hb d_Lk_letter_0 rfl (lv_at hl 2 rfl) ?_
  refine lv_iconst (v := 1) hx hb d_Lk_letter_1 (by decide) ?_
  exact xc_o (wr := [(h0, .inr (11, [.ref (r 0), .ref (r 1), .ref (r 2), .ref (r 3), .ref (r 4), .ref (r 5), .ref (r 6), .ref (r 7), .ref (r 8), .ref (r 9), .ref (r 10), .ref (r 11), .ref (r 12), .ref (r 13), .ref (r 14), .int fp, .int dn])), (r 1, .inr (0, [.ref t1, .int (nI u.1)])), (t1, .inl (kA 0, 4096, .inl u.2)), (r 2, .inr (0, [.ref t2, .int (nI v.1)])), (t2, .inl (kA 0, 4096, .inl v.2))]) (xt_runS (As := [.int x, .int 1]) (rest := []) ⟨hx, hb, hml, hown, hg⟩ (t_Lk_needWhat l hfl D kA kS s.heap.size x 1 h1) (cwS 2 hg (xg_S mw_1497 mw_1498 mw_1 mw_1499) rfl rfl rfl (by decide +kernel) ⟨Nat.le_of_ble_eq_true rfl, Nat.le_of_ble_eq_true rfl⟩) (xc_pre hK hN hC hP hD hS hA [] (by decide) rfl) rfl rfl hl.1 rfl (lv_room (Nat.le_of_ble_eq_true rfl)) d_Lk_letter_2 ⟨Nat.le_of_ble_eq_true rfl, Nat.le_of_ble_eq_true rfl⟩) hK hP hD hS hA [] [0, 1, 2, 3, 4] rfl rfl (by decide) (by decide) hemp hlocks (fun q h => h) (fun u _ => ⟨(), trivial, fun H1 hP1 hD1 => ⟨hP1.sub [0, 1, 2, 3, 4] rfl, hD1.sub [0, 1, 2, 3, 4] (by decide) rfl⟩⟩)
