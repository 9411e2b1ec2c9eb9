/-! the lake's own methods -/
abbrev oLk (h0 : Nat) (r : Nat → Nat) (fp dn : Int32) : Nat × va_E := (h0, .inr (11, [.ref (r 0), .ref (r 1), .ref (r 2), .ref (r 3), .ref (r 4), .ref (r 5), .ref (r 6), .ref (r 7), .ref (r 8), .ref (r 9), .ref (r 10), .ref (r 11), .ref (r 12), .ref (r 13), .ref (r 14), .int fp, .int dn]))
set_option maxHeartbeats 4000000 in
set_option maxRecDepth 100000 in
/-- needSubject: there is such a subject -/
theorem c_Lk_needSubject (l : Launch) (D : va_G) (kA : Nat → ClassId) (kS : Nat → Nat) (sz : Nat) (x : Int32) (h1 : ¬ x < 0) (h2 : x < 4) : Met l y_Lk_needSubject w_Lk_needSubject { frames := 0, cells := 0, slots := 0, locals := 0 } (xPre D vC (tK kA) kS [.int x] ([]) sz) (va_Qv (fun (_ : Unit) => True) (xB D vC (tK kA) (fun _ => []) (va_A ([]) sz)) (va_A ([]) sz)) 0 0 (va_A ([]) sz) := by
  refine Met.ofW (cc := b_Lk_needSubject) (maxL := 1) (ret := none) (by decide) rfl ?_
  intro p e s m args below meth c s₁ B hml hv
  obtain ⟨rfl, hsz, hP, hK, hD0, hN, hC⟩ := hv
  have hx := B.exec
  have hb := B.bytes
  have hr := B.returns
  have hts := atoms_spec (ws := w_Lk_needSubject) B.pre
  have hg : ∀ w ∈ gW, w.before _ s = true := fun w h => hts w (List.mem_cons_of_mem _ h)
  have hown : s.vm.findClass R_Lk = some m.cls := findClass_of_methodNamed B.named
  have hlocks := B.notSynchronized
  subst hsz
  have hD := hD0.self (sz := s.heap.size)
  generalize hAe : va_A ([]) s.heap.size = A at hD hC ⊢
  have hA : ∀ q : Nat, s.heap.size ≤ q → A q := fun q h => by rw [← hAe]; exact Or.inr h
  have hS : va_S A s.heap s.heap [] := va_S.rf
  have hP : va_P D vC [] s.heap := hP
  have hD : va_D A [] := hD
  have hl := lv_entry ([.int x]) (n := 1) (Nat.le_of_ble_eq_true rfl)
  rw [lg_entry_eq]
  generalize (lg_sl ([.int x]) ++ List.replicate (1 - (lg_sl ([.int x])).length) Slot.unset).toArray = ls at hl ⊢
  have hl : lv_has ls 1 [(0, .int x)] := hl
  refine lv_iload_n hx hb d_Lk_needSubject_0 rfl (lv_at hl 0 rfl) ?_
  refine lv_if_lt (tgt := 9) hx hb d_Lk_needSubject_1 (by decide) (fun c_1 => ?_) (fun c_1 => ?_)
  · skip
    exact absurd c_1 h1
  · skip
    refine lv_iload_n hx hb d_Lk_needSubject_4 rfl (lv_at hl 0 rfl) ?_
    refine lv_iconst (v := 4) hx hb d_Lk_needSubject_5 (by decide) ?_
    refine lv_icmp_lt (tgt := 20) hx hb d_Lk_needSubject_6 (by decide) (fun c_6 => ?_) (fun c_6 => ?_)
    · skip
      exact W.vret hx hb hr (fun t ht hW => ⟨⟨(), rfl, trivial, by rw [ht]; exact hP, va_K.moved hW.alike hK, hD⟩, hS.F ht⟩) hS.2.2 d_Lk_needSubject_20
    · skip
      exact absurd h2 c_6

set_option maxHeartbeats 4000000 in
set_option maxRecDepth 100000 in
/-- needSubject: there is none -/
theorem t_Lk_needSubject (l : Launch) (hfl : l.flags = flags0) (D : va_G) (kA : Nat → ClassId) (kS : Nat → Nat) (sz : Nat) (x : Int32) (h1 : x < 0 ∨ ¬ x < 4) : xt_Met l y_Lk_needSubject w_Lk_needSubject { frames := 6, cells := 1, slots := 6, locals := 82 } (xPre D vC (tK kA) kS [.int x] ([]) sz) (xt_Q "java/lang/IndexOutOfBoundsException" (fun _ : Unit => True) (xB D vC (tK kA) (fun _ => []) (va_A ([]) sz)) (va_A ([]) sz)) 1 6 (va_A ([]) sz) := by
  refine xt_ofW (cc := b_Lk_needSubject) (maxL := 1) (ret := none) (by decide) rfl ?_
  intro p e s m args below meth c s₁ B hml hemp hv
  obtain ⟨rfl, hsz, hP, hK, hD0, hN, hC⟩ := hv
  have hx := B.exec
  have hb := B.bytes
  have hts := atoms_spec (ws := w_Lk_needSubject) B.pre
  have hg : ∀ w ∈ gW, w.before _ s = true := fun w h => hts w (List.mem_cons_of_mem _ h)
  have hown : s.vm.findClass R_Lk = some m.cls := findClass_of_methodNamed B.named
  have hlocks := B.notSynchronized
  subst hsz
  have hD := hD0.self (sz := s.heap.size)
  generalize hAe : va_A ([]) s.heap.size = A at hD hC ⊢
  have hA : ∀ q : Nat, s.heap.size ≤ q → A q := fun q h => by rw [← hAe]; exact Or.inr h
  have hS : va_S A s.heap s.heap [] := va_S.rf
  have hP : va_P D vC [] s.heap := hP
  have hD : va_D A [] := hD
  have hl := lv_entry ([.int x]) (n := 1) (Nat.le_of_ble_eq_true rfl)
  rw [lg_entry_eq]
  generalize (lg_sl ([.int x]) ++ List.replicate (1 - (lg_sl ([.int x])).length) Slot.unset).toArray = ls at hl ⊢
  have hl : lv_has ls 1 [(0, .int x)] := hl
  refine lv_iload_n hx hb d_Lk_needSubject_0 rfl (lv_at hl 0 rfl) ?_
  refine lv_if_lt (tgt := 9) hx hb d_Lk_needSubject_1 (by decide) (fun c_1 => ?_) (fun c_1 => ?_)
  · skip
    exact xt_new1 (D := D) hx hb hfl hown (by decide +kernel) xE_fit (xE_Lk_IOB.use hg hN hC) (hg _ mw_1080) (hg _ mw_27) (hC.2.2 34 ("RecordLake", 275, "there is no such subject") rfl) hml hl.1 hemp hlocks (by decide) (by decide) (by decide) (by decide) d_Lk_needSubject_9 d_Lk_needSubject_12 d_Lk_needSubject_13 d_Lk_needSubject_16 d_Lk_needSubject_19 hK () trivial hP hD
  · skip
    refine lv_iload_n hx hb d_Lk_needSubject_4 rfl (lv_at hl 0 rfl) ?_
    refine lv_iconst (v := 4) hx hb d_Lk_needSubject_5 (by decide) ?_
    refine lv_icmp_lt (tgt := 20) hx hb d_Lk_needSubject_6 (by decide) (fun c_6 => ?_) (fun c_6 => ?_)
    · skip
      exact absurd c_6 (h1.resolve_left c_1)
    · skip
      exact xt_new1 (D := D) hx hb hfl hown (by decide +kernel) xE_fit (xE_Lk_IOB.use hg hN hC) (hg _ mw_1080) (hg _ mw_27) (hC.2.2 34 ("RecordLake", 275, "there is no such subject") rfl) hml hl.1 hemp hlocks (by decide) (by decide) (by decide) (by decide) d_Lk_needSubject_9 d_Lk_needSubject_12 d_Lk_needSubject_13 d_Lk_needSubject_16 d_Lk_needSubject_19 hK () trivial hP hD

set_option maxHeartbeats 4000000 in
set_option maxRecDepth 100000 in
/-- needWhat: there is such a thing -/
theorem c_Lk_needWhat (l : Launch) (D : va_G) (kA : Nat → ClassId) (kS : Nat → Nat) (sz : Nat) (x y : Int32) (h1 : ¬ x < 0) (h2 : x ≤ y) : Met l y_Lk_needWhat w_Lk_needWhat { frames := 0, cells := 0, slots := 0, locals := 0 } (xPre D vC (tK kA) kS [.int x, .int y] ([]) sz) (va_Qv (fun (_ : Unit) => True) (xB D vC (tK kA) (fun _ => []) (va_A ([]) sz)) (va_A ([]) sz)) 0 0 (va_A ([]) sz) := by
  refine Met.ofW (cc := b_Lk_needWhat) (maxL := 2) (ret := none) (by decide) rfl ?_
  intro p e s m args below meth c s₁ B hml hv
  obtain ⟨rfl, hsz, hP, hK, hD0, hN, hC⟩ := hv
  have hx := B.exec
  have hb := B.bytes
  have hr := B.returns
  have hts := atoms_spec (ws := w_Lk_needWhat) B.pre
  have hg : ∀ w ∈ gW, w.before _ s = true := fun w h => hts w (List.mem_cons_of_mem _ h)
  have hown : s.vm.findClass R_Lk = some m.cls := findClass_of_methodNamed B.named
  have hlocks := B.notSynchronized
  subst hsz
  have hD := hD0.self (sz := s.heap.size)
  generalize hAe : va_A ([]) s.heap.size = A at hD hC ⊢
  have hA : ∀ q : Nat, s.heap.size ≤ q → A q := fun q h => by rw [← hAe]; exact Or.inr h
  have hS : va_S A s.heap s.heap [] := va_S.rf
  have hP : va_P D vC [] s.heap := hP
  have hD : va_D A [] := hD
  have hl := lv_entry ([.int x, .int y]) (n := 2) (Nat.le_of_ble_eq_true rfl)
  rw [lg_entry_eq]
  generalize (lg_sl ([.int x, .int y]) ++ List.replicate (2 - (lg_sl ([.int x, .int y])).length) Slot.unset).toArray = ls at hl ⊢
  have hl : lv_has ls 2 [(0, .int x), (1, .int y)] := hl
  refine lv_iload_n hx hb d_Lk_needWhat_0 rfl (lv_at hl 0 rfl) ?_
  refine lv_if_lt (tgt := 9) hx hb d_Lk_needWhat_1 (by decide) (fun c_1 => ?_) (fun c_1 => ?_)
  · skip
    exact absurd c_1 h1
  · skip
    refine lv_iload_n hx hb d_Lk_needWhat_4 rfl (lv_at hl 0 rfl) ?_
    refine lv_iload_n hx hb d_Lk_needWhat_5 rfl (lv_at hl 1 rfl) ?_
    refine lv_icmp_le (tgt := 20) hx hb d_Lk_needWhat_6 (by decide) (fun c_6 => ?_) (fun c_6 => ?_)
    · skip
      exact W.vret hx hb hr (fun t ht hW => ⟨⟨(), rfl, trivial, by rw [ht]; exact hP, va_K.moved hW.alike hK, hD⟩, hS.F ht⟩) hS.2.2 d_Lk_needWhat_20
    · skip
      exact absurd h2 c_6

set_option maxHeartbeats 4000000 in
set_option maxRecDepth 100000 in
/-- needWhat: there is none -/
theorem t_Lk_needWhat (l : Launch) (hfl : l.flags = flags0) (D : va_G) (kA : Nat → ClassId) (kS : Nat → Nat) (sz : Nat) (x y : Int32) (h1 : x < 0 ∨ ¬ x ≤ y) : xt_Met l y_Lk_needWhat w_Lk_needWhat { frames := 6, cells := 1, slots := 6, locals := 82 } (xPre D vC (tK kA) kS [.int x, .int y] ([]) sz) (xt_Q "java/lang/IllegalArgumentException" (fun _ : Unit => True) (xB D vC (tK kA) (fun _ => []) (va_A ([]) sz)) (va_A ([]) sz)) 1 6 (va_A ([]) sz) := by
  refine xt_ofW (cc := b_Lk_needWhat) (maxL := 2) (ret := none) (by decide) rfl ?_
  intro p e s m args below meth c s₁ B hml hemp hv
  obtain ⟨rfl, hsz, hP, hK, hD0, hN, hC⟩ := hv
  have hx := B.exec
  have hb := B.bytes
  have hts := atoms_spec (ws := w_Lk_needWhat) B.pre
  have hg : ∀ w ∈ gW, w.before _ s = true := fun w h => hts w (List.mem_cons_of_mem _ h)
  have hown : s.vm.findClass R_Lk = some m.cls := findClass_of_methodNamed B.named
  have hlocks := B.notSynchronized
  subst hsz
  have hD := hD0.self (sz := s.heap.size)
  generalize hAe : va_A ([]) s.heap.size = A at hD hC ⊢
  have hA : ∀ q : Nat, s.heap.size ≤ q → A q := fun q h => by rw [← hAe]; exact Or.inr h
  have hS : va_S A s.heap s.heap [] := va_S.rf
  have hP : va_P D vC [] s.heap := hP
  have hD : va_D A [] := hD
  have hl := lv_entry ([.int x, .int y]) (n := 2) (Nat.le_of_ble_eq_true rfl)
  rw [lg_entry_eq]
  generalize (lg_sl ([.int x, .int y]) ++ List.replicate (2 - (lg_sl ([.int x, .int y])).length) Slot.unset).toArray = ls at hl ⊢
  have hl : lv_has ls 2 [(0, .int x), (1, .int y)] := hl
  refine lv_iload_n hx hb d_Lk_needWhat_0 rfl (lv_at hl 0 rfl) ?_
  refine lv_if_lt (tgt := 9) hx hb d_Lk_needWhat_1 (by decide) (fun c_1 => ?_) (fun c_1 => ?_)
  · skip
    exact xt_new1 (D := D) hx hb hfl hown (by decide +kernel) xE_fit (xE_Lk_IAE.use hg hN hC) (hg _ mw_1053) (hg _ mw_19) (hC.2.2 37 ("RecordLake", 279, "there is no such thing to ask for") rfl) hml hl.1 hemp hlocks (by decide) (by decide) (by decide) (by decide) d_Lk_needWhat_9 d_Lk_needWhat_12 d_Lk_needWhat_13 d_Lk_needWhat_16 d_Lk_needWhat_19 hK () trivial hP hD
  · skip
    refine lv_iload_n hx hb d_Lk_needWhat_4 rfl (lv_at hl 0 rfl) ?_
    refine lv_iload_n hx hb d_Lk_needWhat_5 rfl (lv_at hl 1 rfl) ?_
    refine lv_icmp_le (tgt := 20) hx hb d_Lk_needWhat_6 (by decide) (fun c_6 => ?_) (fun c_6 => ?_)
    · skip
      exact absurd c_6 (h1.resolve_left c_1)
    · skip
      exact xt_new1 (D := D) hx hb hfl hown (by decide +kernel) xE_fit (xE_Lk_IAE.use hg hN hC) (hg _ mw_1053) (hg _ mw_19) (hC.2.2 37 ("RecordLake", 279, "there is no such thing to ask for") rfl) hml hl.1 hemp hlocks (by decide) (by decide) (by decide) (by decide) d_Lk_needWhat_9 d_Lk_needWhat_12 d_Lk_needWhat_13 d_Lk_needWhat_16 d_Lk_needWhat_19 hK () trivial hP hD

set_option maxHeartbeats 4000000 in
set_option maxRecDepth 100000 in
/-- place() -/
theorem c_Lk_place (l : Launch) (D : va_G) (kA : Nat → ClassId) (kS : Nat → Nat) (sz : Nat) (h0 : Nat) (r : Nat → Nat) (fp dn : Int32) : Met l y_Lk_place w_Lk_place { frames := 0, cells := 0, slots := 0, locals := 0 } (xPre D vC (tK kA) kS [.ref h0] ([oLk h0 r fp dn]) sz) (va_Qi (fun (x : Int32) (_ : Unit) => x = fp) (xB D vC (tK kA) (fun _ => [oLk h0 r fp dn]) (va_A ([oLk h0 r fp dn]) sz)) (va_A ([oLk h0 r fp dn]) sz)) 0 0 (va_A ([oLk h0 r fp dn]) sz) := by
  refine Met.ofW (cc := b_Lk_place) (maxL := 1) (ret := (some .int)) (by decide) rfl ?_
  intro p e s m args below meth c s₁ B hml hv
  obtain ⟨rfl, hsz, hP, hK, hD0, hN, hC⟩ := hv
  have hx := B.exec
  have hb := B.bytes
  have hr := B.returns
  have hts := atoms_spec (ws := w_Lk_place) B.pre
  have hg : ∀ w ∈ gW, w.before _ s = true := fun w h => hts w (List.mem_cons_of_mem _ h)
  have hown : s.vm.findClass R_Lk = some m.cls := findClass_of_methodNamed B.named
  have hlocks := B.notSynchronized
  subst hsz
  have hD := hD0.self (sz := s.heap.size)
  generalize hAe : va_A ([oLk h0 r fp dn]) s.heap.size = A at hD hC ⊢
  have hA : ∀ q : Nat, s.heap.size ≤ q → A q := fun q h => by rw [← hAe]; exact Or.inr h
  have hS : va_S A s.heap s.heap [] := va_S.rf
  have hP : va_P D vC [(h0, .inr (11, [.ref (r 0), .ref (r 1), .ref (r 2), .ref (r 3), .ref (r 4), .ref (r 5), .ref (r 6), .ref (r 7), .ref (r 8), .ref (r 9), .ref (r 10), .ref (r 11), .ref (r 12), .ref (r 13), .ref (r 14), .int fp, .int dn]))] s.heap := hP
  have hD : va_D A [(h0, .inr (11, [.ref (r 0), .ref (r 1), .ref (r 2), .ref (r 3), .ref (r 4), .ref (r 5), .ref (r 6), .ref (r 7), .ref (r 8), .ref (r 9), .ref (r 10), .ref (r 11), .ref (r 12), .ref (r 13), .ref (r 14), .int fp, .int dn]))] := hD
  have hl := lv_entry ([.ref h0]) (n := 1) (Nat.le_of_ble_eq_true rfl)
  rw [lg_entry_eq]
  generalize (lg_sl ([.ref h0]) ++ List.replicate (1 - (lg_sl ([.ref h0])).length) Slot.unset).toArray = ls at hl ⊢
  have hl : lv_has ls 1 [(0, .ref h0)] := hl
  refine lv_aload_n hx hb d_Lk_place_0 rfl (lv_at hl 0 rfl) ?_
  refine va_get (D := D) (ci := 11) (v := .int fp) (C := R_Lk) (T := F_Lk) (N := 17) hx hb hg i_Lk hown hK hP 0 rfl rfl 15 (by decide) (hg _ mw_498) (fun _ h9 => h9) rfl d_Lk_place_1 ?_
  exact W.iret (v := fp) hx hb hr (fun t ht hW => ⟨⟨fp, (), rfl, rfl, by rw [ht]; exact hP, va_K.moved hW.alike hK, hD⟩, hS.F ht⟩) hS.2.2 d_Lk_place_4

set_option maxHeartbeats 4000000 in
set_option maxRecDepth 100000 in
/-- end(k) -/
theorem c_Lk_end (l : Launch) (D : va_G) (kA : Nat → ClassId) (kS : Nat → Nat) (sz : Nat) (h0 t1 n : Nat) (r : Nat → Nat) (fp dn : Int32) (k : Nat) (hk : k ≤ n) (hn : n < 2 ^ 31) : Met l y_Lk_end w_Lk_end { frames := 0, cells := 0, slots := 0, locals := 0 } (xPre D vC (tK kA) kS [.ref h0, .int (nI k)] ([oLk h0 r fp dn, (r 0, .inr (0, [.ref t1, .int (nI n)]))]) sz) (va_Qv (fun (_ : Unit) => True) (xB D vC (tK kA) (fun _ => [oLk h0 r fp dn, (r 0, .inr (0, [.ref t1, .int (nI k)]))]) (va_A ([oLk h0 r fp dn, (r 0, .inr (0, [.ref t1, .int (nI n)]))]) sz)) (va_A ([oLk h0 r fp dn, (r 0, .inr (0, [.ref t1, .int (nI n)]))]) sz)) 0 0 (va_A ([oLk h0 r fp dn, (r 0, .inr (0, [.ref t1, .int (nI n)]))]) sz) := by
  refine Met.ofW (cc := b_Lk_end) (maxL := 2) (ret := none) (by decide) rfl ?_
  intro p e s m args below meth c s₁ B hml hv
  obtain ⟨rfl, hsz, hP, hK, hD0, hN, hC⟩ := hv
  have hx := B.exec
  have hb := B.bytes
  have hr := B.returns
  have hts := atoms_spec (ws := w_Lk_end) B.pre
  have hg : ∀ w ∈ gW, w.before _ s = true := fun w h => hts w (List.mem_cons_of_mem _ h)
  have hown : s.vm.findClass R_Lk = some m.cls := findClass_of_methodNamed B.named
  have hlocks := B.notSynchronized
  subst hsz
  have hD := hD0.self (sz := s.heap.size)
  generalize hAe : va_A ([oLk h0 r fp dn, (r 0, .inr (0, [.ref t1, .int (nI n)]))]) s.heap.size = A at hD hC ⊢
  have hA : ∀ q : Nat, s.heap.size ≤ q → A q := fun q h => by rw [← hAe]; exact Or.inr h
  have hS : va_S A s.heap s.heap [] := va_S.rf
  have hP : va_P D vC [(h0, .inr (11, [.ref (r 0), .ref (r 1), .ref (r 2), .ref (r 3), .ref (r 4), .ref (r 5), .ref (r 6), .ref (r 7), .ref (r 8), .ref (r 9), .ref (r 10), .ref (r 11), .ref (r 12), .ref (r 13), .ref (r 14), .int fp, .int dn])), (r 0, .inr (0, [.ref t1, .int (nI n)]))] s.heap := hP
  have hD : va_D A [(h0, .inr (11, [.ref (r 0), .ref (r 1), .ref (r 2), .ref (r 3), .ref (r 4), .ref (r 5), .ref (r 6), .ref (r 7), .ref (r 8), .ref (r 9), .ref (r 10), .ref (r 11), .ref (r 12), .ref (r 13), .ref (r 14), .int fp, .int dn])), (r 0, .inr (0, [.ref t1, .int (nI n)]))] := hD
  have hl := lv_entry ([.ref h0, .int (nI k)]) (n := 2) (Nat.le_of_ble_eq_true rfl)
  rw [lg_entry_eq]
  generalize (lg_sl ([.ref h0, .int (nI k)]) ++ List.replicate (2 - (lg_sl ([.ref h0, .int (nI k)])).length) Slot.unset).toArray = ls at hl ⊢
  have hl : lv_has ls 2 [(0, .ref h0), (1, .int (nI k))] := hl
  refine lv_iload_n hx hb d_Lk_end_0 rfl (lv_at hl 1 rfl) ?_
  refine lv_if_lt (tgt := 15) hx hb d_Lk_end_1 (by decide) (fun c_1 => ?_) (fun c_1 => ?_)
  · skip
    exact absurd c_1 (nI_pos (by omega))
  · skip
    refine lv_iload_n hx hb d_Lk_end_4 rfl (lv_at hl 1 rfl) ?_
    refine lv_aload_n hx hb d_Lk_end_5 rfl (lv_at hl 0 rfl) ?_
    refine va_get (D := D) (ci := 11) (v := .ref (r 0)) (C := R_Lk) (T := F_Lk) (N := 17) hx hb hg i_Lk hown hK hP 0 rfl rfl 0 (by decide) (hg _ mw_483) (fun _ h9 => h9) rfl d_Lk_end_6 ?_
    refine va_get (D := D) (ci := 0) (v := .int (nI n)) (C := R_By) (T := F_By) (N := 2) hx hb hg i_By hown hK hP 1 rfl rfl 1 (by decide) (hg _ mw_51) (fun _ h9 => h9) rfl d_Lk_end_9 ?_
    refine xb_le (tgt := 25) hx hb d_Lk_end_12 (by decide) (by omega) (by omega) (fun c_12 => ?_) (fun c_12 => ?_)
    · skip
      refine lv_aload_n hx hb d_Lk_end_25 rfl (lv_at hl 0 rfl) ?_
      refine va_get (D := D) (ci := 11) (v := .ref (r 0)) (C := R_Lk) (T := F_Lk) (N := 17) hx hb hg i_Lk hown hK hP 0 rfl rfl 0 (by decide) (hg _ mw_483) (fun _ h9 => h9) rfl d_Lk_end_26 ?_
      refine lv_iload_n hx hb d_Lk_end_29 rfl (lv_at hl 1 rfl) ?_
      refine va_put (D := D) (ci := 0) (v := .int (nI k)) (ty := .int) (C := R_By) (T := F_By) (N := 2) hx hb hg i_By t_By t_By_ok n_By hown hK hP hD hS 1 rfl rfl 1 (by decide) (hg _ mw_51) (fun _ h9 => h9) rfl (by decide +kernel) rfl rfl (Nat.le_of_ble_eq_true rfl) d_Lk_end_30 (fun H locs hP hD hS => ?_)
      have hP : va_P D vC [(h0, .inr (11, [.ref (r 0), .ref (r 1), .ref (r 2), .ref (r 3), .ref (r 4), .ref (r 5), .ref (r 6), .ref (r 7), .ref (r 8), .ref (r 9), .ref (r 10), .ref (r 11), .ref (r 12), .ref (r 13), .ref (r 14), .int fp, .int dn])), (r 0, .inr (0, [.ref t1, .int (nI k)]))] H := hP
      have hD : va_D A [(h0, .inr (11, [.ref (r 0), .ref (r 1), .ref (r 2), .ref (r 3), .ref (r 4), .ref (r 5), .ref (r 6), .ref (r 7), .ref (r 8), .ref (r 9), .ref (r 10), .ref (r 11), .ref (r 12), .ref (r 13), .ref (r 14), .int fp, .int dn])), (r 0, .inr (0, [.ref t1, .int (nI k)]))] := hD
      exact W.vret hx hb hr (fun t ht hW => ⟨⟨(), rfl, trivial, by rw [ht]; exact hP, va_K.moved hW.alike hK, hD⟩, hS.F ht⟩) hS.2.2 d_Lk_end_33
    · skip
      exact absurd c_12 (by omega)

set_option maxHeartbeats 4000000 in
set_option maxRecDepth 100000 in
/-- end: refused -/
theorem t_Lk_end (l : Launch) (hfl : l.flags = flags0) (D : va_G) (kA : Nat → ClassId) (kS : Nat → Nat) (sz : Nat) (h0 t1 n : Nat) (r : Nat → Nat) (fp dn : Int32) (x : Int32) (hx1 : x < 0 ∨ ¬ x ≤ nI n) : xt_Met l y_Lk_end w_Lk_end { frames := 6, cells := 1, slots := 6, locals := 82 } (xPre D vC (tK kA) kS [.ref h0, .int x] ([oLk h0 r fp dn, (r 0, .inr (0, [.ref t1, .int (nI n)]))]) sz) (xt_Q "java/lang/IllegalArgumentException" (fun _ : Unit => True) (xB D vC (tK kA) (fun _ => [oLk h0 r fp dn, (r 0, .inr (0, [.ref t1, .int (nI n)]))]) (va_A ([oLk h0 r fp dn, (r 0, .inr (0, [.ref t1, .int (nI n)]))]) sz)) (va_A ([oLk h0 r fp dn, (r 0, .inr (0, [.ref t1, .int (nI n)]))]) sz)) 1 6 (va_A ([oLk h0 r fp dn, (r 0, .inr (0, [.ref t1, .int (nI n)]))]) sz) := by
  refine xt_ofW (cc := b_Lk_end) (maxL := 2) (ret := none) (by decide) rfl ?_
  intro p e s m args below meth c s₁ B hml hemp hv
  obtain ⟨rfl, hsz, hP, hK, hD0, hN, hC⟩ := hv
  have hx := B.exec
  have hb := B.bytes
  have hts := atoms_spec (ws := w_Lk_end) B.pre
  have hg : ∀ w ∈ gW, w.before _ s = true := fun w h => hts w (List.mem_cons_of_mem _ h)
  have hown : s.vm.findClass R_Lk = some m.cls := findClass_of_methodNamed B.named
  have hlocks := B.notSynchronized
  subst hsz
  have hD := hD0.self (sz := s.heap.size)
  generalize hAe : va_A ([oLk h0 r fp dn, (r 0, .inr (0, [.ref t1, .int (nI n)]))]) s.heap.size = A at hD hC ⊢
  have hA : ∀ q : Nat, s.heap.size ≤ q → A q := fun q h => by rw [← hAe]; exact Or.inr h
  have hS : va_S A s.heap s.heap [] := va_S.rf
  have hP : va_P D vC [(h0, .inr (11, [.ref (r 0), .ref (r 1), .ref (r 2), .ref (r 3), .ref (r 4), .ref (r 5), .ref (r 6), .ref (r 7), .ref (r 8), .ref (r 9), .ref (r 10), .ref (r 11), .ref (r 12), .ref (r 13), .ref (r 14), .int fp, .int dn])), (r 0, .inr (0, [.ref t1, .int (nI n)]))] s.heap := hP
  have hD : va_D A [(h0, .inr (11, [.ref (r 0), .ref (r 1), .ref (r 2), .ref (r 3), .ref (r 4), .ref (r 5), .ref (r 6), .ref (r 7), .ref (r 8), .ref (r 9), .ref (r 10), .ref (r 11), .ref (r 12), .ref (r 13), .ref (r 14), .int fp, .int dn])), (r 0, .inr (0, [.ref t1, .int (nI n)]))] := hD
  have hl := lv_entry ([.ref h0, .int x]) (n := 2) (Nat.le_of_ble_eq_true rfl)
  rw [lg_entry_eq]
  generalize (lg_sl ([.ref h0, .int x]) ++ List.replicate (2 - (lg_sl ([.ref h0, .int x])).length) Slot.unset).toArray = ls at hl ⊢
  have hl : lv_has ls 2 [(0, .ref h0), (1, .int x)] := hl
  refine lv_iload_n hx hb d_Lk_end_0 rfl (lv_at hl 1 rfl) ?_
  refine lv_if_lt (tgt := 15) hx hb d_Lk_end_1 (by decide) (fun c_1 => ?_) (fun c_1 => ?_)
  · skip
    exact xt_new0 (D := D) hx hb hfl hown (by decide +kernel) xE_fit (xE_Lk_IAE.use hg hN hC) (hg _ mw_1053) (hg _ mw_19) (hC.2.2 33 ("RecordLake", 126, "the tape cannot be cut there") rfl) hml hl.1 hemp hlocks (by decide) (by decide) (by decide) (by decide) d_Lk_end_15 d_Lk_end_18 d_Lk_end_19 d_Lk_end_21 d_Lk_end_24 hK () trivial hP hD
  · skip
    refine lv_iload_n hx hb d_Lk_end_4 rfl (lv_at hl 1 rfl) ?_
    refine lv_aload_n hx hb d_Lk_end_5 rfl (lv_at hl 0 rfl) ?_
    refine va_get (D := D) (ci := 11) (v := .ref (r 0)) (C := R_Lk) (T := F_Lk) (N := 17) hx hb hg i_Lk hown hK hP 0 rfl rfl 0 (by decide) (hg _ mw_483) (fun _ h9 => h9) rfl d_Lk_end_6 ?_
    refine va_get (D := D) (ci := 0) (v := .int (nI n)) (C := R_By) (T := F_By) (N := 2) hx hb hg i_By hown hK hP 1 rfl rfl 1 (by decide) (hg _ mw_51) (fun _ h9 => h9) rfl d_Lk_end_9 ?_
    refine lv_icmp_le (tgt := 25) hx hb d_Lk_end_12 (by decide) (fun c_12 => ?_) (fun c_12 => ?_)
    · skip
      exact absurd c_12 (hx1.resolve_left c_1)
    · skip
      exact xt_new0 (D := D) hx hb hfl hown (by decide +kernel) xE_fit (xE_Lk_IAE.use hg hN hC) (hg _ mw_1053) (hg _ mw_19) (hC.2.2 33 ("RecordLake", 126, "the tape cannot be cut there") rfl) hml hl.1 hemp hlocks (by decide) (by decide) (by decide) (by decide) d_Lk_end_15 d_Lk_end_18 d_Lk_end_19 d_Lk_end_21 d_Lk_end_24 hK () trivial hP hD
