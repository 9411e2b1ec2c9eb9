/-! the reference: its simple methods -/
abbrev oMo (h0 : Nat) (r : Nat → Nat) (z : Nat → Int32) (y : Nat → Int64) : Nat × va_E := (h0, .inr (13, [.int (z 0), .ref (r 1), .int (z 2), .int (z 3), .ref (r 4), .ref (r 5), .ref (r 6), .ref (r 7), .int (z 8), .ref (r 9), .int (z 10), .int (z 11), .int (z 12), .int (z 13), .ref (r 14), .ref (r 15), .ref (r 16), .ref (r 17), .ref (r 18), .ref (r 19), .ref (r 20), .ref (r 21), .int (z 22), .int (z 23), .int (z 24), .int (z 25), .int (z 26), .int (z 27), .ref (r 28), .ref (r 29), .int (z 30), .int (z 31), .int (z 32), .ref (r 33), .ref (r 34)]))
def mo_th (a b : Int32) : Int32 := if a = 0 then (if b = 0 then 0 else 2) else 1
def mo_re (a b : Int32) : Int32 := if a = 0 then (if b = 0 then 0 else 1) else 1
def mo_in (v a b : Int32) : Int32 := if v < a then 0 else if b < v then 0 else 1
set_option maxHeartbeats 4000000 in
set_option maxRecDepth 100000 in
/-- thrown() -/
theorem c_Mo_thrown (l : Launch) (D : va_G) (kA : Nat → ClassId) (kS : Nat → Nat) (sz : Nat) (h0 : Nat) (r : Nat → Nat) (z : Nat → Int32) (y : Nat → Int64) : Met l y_Mo_thrown w_Mo_thrown { frames := 0, cells := 0, slots := 0, locals := 0 } (xPre D vC (tK kA) kS [.ref h0] ([oMo h0 r z y]) sz) (va_Qi (fun (x : Int32) (_ : Unit) => x = z 0) (xB D vC (tK kA) (fun _ => [oMo h0 r z y]) (va_A ([oMo h0 r z y]) sz)) (va_A ([oMo h0 r z y]) sz)) 0 0 (va_A ([oMo h0 r z y]) sz) := by
  refine Met.ofW (cc := b_Mo_thrown) (maxL := 1) (ret := (some .int)) (by decide) rfl ?_
  intro p e s m args below meth c s₁ B hml hv
  obtain ⟨rfl, hsz, hP, hK, hD0, hN, hC⟩ := hv
  have hx := B.exec
  have hb := B.bytes
  have hr := B.returns
  have hts := atoms_spec (ws := w_Mo_thrown) B.pre
  have hg : ∀ w ∈ gW, w.before _ s = true := fun w h => hts w (List.mem_cons_of_mem _ h)
  have hown : s.vm.findClass R_Mo = some m.cls := findClass_of_methodNamed B.named
  have hlocks := B.notSynchronized
  subst hsz
  have hD := hD0.self (sz := s.heap.size)
  generalize hAe : va_A ([oMo h0 r z y]) s.heap.size = A at hD hC ⊢
  have hA : ∀ q : Nat, s.heap.size ≤ q → A q := fun q h => by rw [← hAe]; exact Or.inr h
  have hS : va_S A s.heap s.heap [] := va_S.rf
  have hP : va_P D vC [(h0, .inr (13, [.int (z 0), .ref (r 1), .int (z 2), .int (z 3), .ref (r 4), .ref (r 5), .ref (r 6), .ref (r 7), .int (z 8), .ref (r 9), .int (z 10), .int (z 11), .int (z 12), .int (z 13), .ref (r 14), .ref (r 15), .ref (r 16), .ref (r 17), .ref (r 18), .ref (r 19), .ref (r 20), .ref (r 21), .int (z 22), .int (z 23), .int (z 24), .int (z 25), .int (z 26), .int (z 27), .ref (r 28), .ref (r 29), .int (z 30), .int (z 31), .int (z 32), .ref (r 33), .ref (r 34)]))] s.heap := hP
  have hD : va_D A [(h0, .inr (13, [.int (z 0), .ref (r 1), .int (z 2), .int (z 3), .ref (r 4), .ref (r 5), .ref (r 6), .ref (r 7), .int (z 8), .ref (r 9), .int (z 10), .int (z 11), .int (z 12), .int (z 13), .ref (r 14), .ref (r 15), .ref (r 16), .ref (r 17), .ref (r 18), .ref (r 19), .ref (r 20), .ref (r 21), .int (z 22), .int (z 23), .int (z 24), .int (z 25), .int (z 26), .int (z 27), .ref (r 28), .ref (r 29), .int (z 30), .int (z 31), .int (z 32), .ref (r 33), .ref (r 34)]))] := hD
  have hl := lv_entry ([.ref h0]) (n := 1) (Nat.le_of_ble_eq_true rfl)
  rw [lg_entry_eq]
  generalize (lg_sl ([.ref h0]) ++ List.replicate (1 - (lg_sl ([.ref h0])).length) Slot.unset).toArray = ls at hl ⊢
  have hl : lv_has ls 1 [(0, .ref h0)] := hl
  refine lv_aload_n hx hb d_Mo_thrown_0 rfl (lv_at hl 0 rfl) ?_
  refine va_get (D := D) (ci := 13) (v := .int (z 0)) (C := R_Mo) (T := F_Mo) (N := 35) hx hb hg i_Mo hown hK hP 0 rfl rfl 0 (by decide) (hg _ mw_1716) (fun _ h9 => h9) rfl d_Mo_thrown_1 ?_
  exact W.iret (v := z 0) hx hb hr (fun t ht hW => ⟨⟨z 0, (), rfl, rfl, by rw [ht]; exact hP, va_K.moved hW.alike hK, hD⟩, hS.F ht⟩) hS.2.2 d_Mo_thrown_4

set_option maxHeartbeats 4000000 in
set_option maxRecDepth 100000 in
/-- within(v, a, b) -/
theorem c_Mo_within (l : Launch) (D : va_G) (kA : Nat → ClassId) (kS : Nat → Nat) (sz : Nat) (v a b : Int32) : Met l y_Mo_within w_Mo_within { frames := 0, cells := 0, slots := 0, locals := 0 } (xPre D vC (tK kA) kS [.int v, .int a, .int b] ([]) sz) (va_Qi (fun (x : Int32) (_ : Unit) => x = mo_in v a b) (xB D vC (tK kA) (fun _ => []) (va_A ([]) sz)) (va_A ([]) sz)) 0 0 (va_A ([]) sz) := by
  refine Met.ofW (cc := b_Mo_within) (maxL := 3) (ret := (some .boolean)) (by decide) rfl ?_
  intro p e s m args below meth c s₁ B hml hv
  obtain ⟨rfl, hsz, hP, hK, hD0, hN, hC⟩ := hv
  have hx := B.exec
  have hb := B.bytes
  have hr := B.returns
  have hts := atoms_spec (ws := w_Mo_within) B.pre
  have hg : ∀ w ∈ gW, w.before _ s = true := fun w h => hts w (List.mem_cons_of_mem _ h)
  have hown : s.vm.findClass R_Mo = some m.cls := findClass_of_methodNamed B.named
  have hlocks := B.notSynchronized
  subst hsz
  have hD := hD0.self (sz := s.heap.size)
  generalize hAe : va_A ([]) s.heap.size = A at hD hC ⊢
  have hA : ∀ q : Nat, s.heap.size ≤ q → A q := fun q h => by rw [← hAe]; exact Or.inr h
  have hS : va_S A s.heap s.heap [] := va_S.rf
  have hP : va_P D vC [] s.heap := hP
  have hD : va_D A [] := hD
  have hl := lv_entry ([.int v, .int a, .int b]) (n := 3) (Nat.le_of_ble_eq_true rfl)
  rw [lg_entry_eq]
  generalize (lg_sl ([.int v, .int a, .int b]) ++ List.replicate (3 - (lg_sl ([.int v, .int a, .int b])).length) Slot.unset).toArray = ls at hl ⊢
  have hl : lv_has ls 3 [(0, .int v), (1, .int a), (2, .int b)] := hl
  refine lv_iload_n hx hb d_Mo_within_0 rfl (lv_at hl 0 rfl) ?_
  refine lv_iload_n hx hb d_Mo_within_1 rfl (lv_at hl 1 rfl) ?_
  refine lv_icmp_lt (tgt := 14) hx hb d_Mo_within_2 (by decide) (fun c_2 => ?_) (fun c_2 => ?_)
  · skip
    refine lv_iconst (v := 0) hx hb d_Mo_within_14 (by decide) ?_
    exact W.zret (v := 0) hx hb hr (rfl) (fun t ht hW => ⟨⟨0, (), rfl, (if_pos c_2).symm, by rw [ht]; exact hP, va_K.moved hW.alike hK, hD⟩, hS.F ht⟩) hS.2.2 d_Mo_within_15
  · skip
    refine lv_iload_n hx hb d_Mo_within_5 rfl (lv_at hl 0 rfl) ?_
    refine lv_iload_n hx hb d_Mo_within_6 rfl (lv_at hl 2 rfl) ?_
    refine lv_icmp_gt (tgt := 14) hx hb d_Mo_within_7 (by decide) (fun c_7 => ?_) (fun c_7 => ?_)
    · skip
      refine lv_iconst (v := 0) hx hb d_Mo_within_14 (by decide) ?_
      exact W.zret (v := 0) hx hb hr (rfl) (fun t ht hW => ⟨⟨0, (), rfl, by unfold mo_in; rw [if_neg c_2, if_pos c_7], by rw [ht]; exact hP, va_K.moved hW.alike hK, hD⟩, hS.F ht⟩) hS.2.2 d_Mo_within_15
    · skip
      refine lv_iconst (v := 1) hx hb d_Mo_within_10 (by decide) ?_
      refine lv_goto (tgt := 15) hx hb d_Mo_within_11 (by decide) ?_
      exact W.zret (v := 1) hx hb hr (rfl) (fun t ht hW => ⟨⟨1, (), rfl, by unfold mo_in; rw [if_neg c_2, if_neg c_7], by rw [ht]; exact hP, va_K.moved hW.alike hK, hD⟩, hS.F ht⟩) hS.2.2 d_Mo_within_15

set_option maxHeartbeats 4000000 in
set_option maxRecDepth 100000 in
/-- refused(a, b) -/
theorem c_Mo_refused (l : Launch) (D : va_G) (kA : Nat → ClassId) (kS : Nat → Nat) (sz : Nat) (h0 : Nat) (r : Nat → Nat) (z : Nat → Int32) (y : Nat → Int64) (a b : Int32) : Met l y_Mo_refused w_Mo_refused { frames := 0, cells := 0, slots := 0, locals := 0 } (xPre D vC (tK kA) kS [.ref h0, .int a, .int b] ([oMo h0 r z y]) sz) (va_Qi (fun (x : Int32) (_ : Unit) => x = mo_re a b) (xB D vC (tK kA) (fun _ => [oMo h0 r (upd z 0 (mo_th a b)) y]) (va_A ([oMo h0 r z y]) sz)) (va_A ([oMo h0 r z y]) sz)) 0 0 (va_A ([oMo h0 r z y]) sz) := by
  refine Met.ofW (cc := b_Mo_refused) (maxL := 3) (ret := (some .boolean)) (by decide) rfl ?_
  intro p e s m args below meth c s₁ B hml hv
  obtain ⟨rfl, hsz, hP, hK, hD0, hN, hC⟩ := hv
  have hx := B.exec
  have hb := B.bytes
  have hr := B.returns
  have hts := atoms_spec (ws := w_Mo_refused) B.pre
  have hg : ∀ w ∈ gW, w.before _ s = true := fun w h => hts w (List.mem_cons_of_mem _ h)
  have hown : s.vm.findClass R_Mo = some m.cls := findClass_of_methodNamed B.named
  have hlocks := B.notSynchronized
  subst hsz
  have hD := hD0.self (sz := s.heap.size)
  generalize hAe : va_A ([oMo h0 r z y]) s.heap.size = A at hD hC ⊢
  have hA : ∀ q : Nat, s.heap.size ≤ q → A q := fun q h => by rw [← hAe]; exact Or.inr h
  have hS : va_S A s.heap s.heap [] := va_S.rf
  have hP : va_P D vC [(h0, .inr (13, [.int (z 0), .ref (r 1), .int (z 2), .int (z 3), .ref (r 4), .ref (r 5), .ref (r 6), .ref (r 7), .int (z 8), .ref (r 9), .int (z 10), .int (z 11), .int (z 12), .int (z 13), .ref (r 14), .ref (r 15), .ref (r 16), .ref (r 17), .ref (r 18), .ref (r 19), .ref (r 20), .ref (r 21), .int (z 22), .int (z 23), .int (z 24), .int (z 25), .int (z 26), .int (z 27), .ref (r 28), .ref (r 29), .int (z 30), .int (z 31), .int (z 32), .ref (r 33), .ref (r 34)]))] s.heap := hP
  have hD : va_D A [(h0, .inr (13, [.int (z 0), .ref (r 1), .int (z 2), .int (z 3), .ref (r 4), .ref (r 5), .ref (r 6), .ref (r 7), .int (z 8), .ref (r 9), .int (z 10), .int (z 11), .int (z 12), .int (z 13), .ref (r 14), .ref (r 15), .ref (r 16), .ref (r 17), .ref (r 18), .ref (r 19), .ref (r 20), .ref (r 21), .int (z 22), .int (z 23), .int (z 24), .int (z 25), .int (z 26), .int (z 27), .ref (r 28), .ref (r 29), .int (z 30), .int (z 31), .int (z 32), .ref (r 33), .ref (r 34)]))] := hD
  have hl := lv_entry ([.ref h0, .int a, .int b]) (n := 3) (Nat.le_of_ble_eq_true rfl)
  rw [lg_entry_eq]
  generalize (lg_sl ([.ref h0, .int a, .int b]) ++ List.replicate (3 - (lg_sl ([.ref h0, .int a, .int b])).length) Slot.unset).toArray = ls at hl ⊢
  have hl : lv_has ls 3 [(0, .ref h0), (1, .int a), (2, .int b)] := hl
  refine lv_aload_n hx hb d_Mo_refused_0 rfl (lv_at hl 0 rfl) ?_
  refine lv_iload_n hx hb d_Mo_refused_1 rfl (lv_at hl 1 rfl) ?_
  refine lv_if_eq (tgt := 9) hx hb d_Mo_refused_2 (by decide) (fun c_2 => ?_) (fun c_2 => ?_)
  · skip
    refine lv_iload_n hx hb d_Mo_refused_9 rfl (lv_at hl 2 rfl) ?_
    refine lv_if_eq (tgt := 17) hx hb d_Mo_refused_10 (by decide) (fun c_10 => ?_) (fun c_10 => ?_)
    · skip
      refine lv_iconst (v := 0) hx hb d_Mo_refused_17 (by decide) ?_
      refine va_put (D := D) (ci := 13) (v := .int 0) (ty := .int) (C := R_Mo) (T := F_Mo) (N := 35) hx hb hg i_Mo t_Mo t_Mo_ok n_Mo hown hK hP hD hS 0 rfl rfl 0 (by decide) (hg _ mw_1716) (fun _ h9 => h9) rfl (by decide +kernel) rfl rfl (Nat.le_of_ble_eq_true rfl) d_Mo_refused_18 (fun H locs hP hD hS => ?_)
      have hP : va_P D vC [(h0, .inr (13, [.int 0, .ref (r 1), .int (z 2), .int (z 3), .ref (r 4), .ref (r 5), .ref (r 6), .ref (r 7), .int (z 8), .ref (r 9), .int (z 10), .int (z 11), .int (z 12), .int (z 13), .ref (r 14), .ref (r 15), .ref (r 16), .ref (r 17), .ref (r 18), .ref (r 19), .ref (r 20), .ref (r 21), .int (z 22), .int (z 23), .int (z 24), .int (z 25), .int (z 26), .int (z 27), .ref (r 28), .ref (r 29), .int (z 30), .int (z 31), .int (z 32), .ref (r 33), .ref (r 34)]))] H := hP
      have hD : va_D A [(h0, .inr (13, [.int 0, .ref (r 1), .int (z 2), .int (z 3), .ref (r 4), .ref (r 5), .ref (r 6), .ref (r 7), .int (z 8), .ref (r 9), .int (z 10), .int (z 11), .int (z 12), .int (z 13), .ref (r 14), .ref (r 15), .ref (r 16), .ref (r 17), .ref (r 18), .ref (r 19), .ref (r 20), .ref (r 21), .int (z 22), .int (z 23), .int (z 24), .int (z 25), .int (z 26), .int (z 27), .ref (r 28), .ref (r 29), .int (z 30), .int (z 31), .int (z 32), .ref (r 33), .ref (r 34)]))] := hD
      refine lv_aload_n hx hb d_Mo_refused_21 rfl (lv_at hl 0 rfl) ?_
      refine va_get (D := D) (ci := 13) (v := .int 0) (C := R_Mo) (T := F_Mo) (N := 35) hx hb hg i_Mo hown hK hP 0 rfl rfl 0 (by decide) (hg _ mw_1716) (fun _ h9 => h9) rfl d_Mo_refused_22 ?_
      refine lv_if_le (tgt := 32) hx hb d_Mo_refused_25 (by decide) (fun c_25 => ?_) (fun c_25 => ?_)
      · skip
        refine lv_iconst (v := 0) hx hb d_Mo_refused_32 (by decide) ?_
        rw [show mo_th a b = 0 from by unfold mo_th; rw [if_pos c_2, if_pos c_10]]
        exact W.zret (v := 0) hx hb hr (rfl) (fun t ht hW => ⟨⟨0, (), rfl, by unfold mo_re; rw [if_pos c_2, if_pos c_10], by rw [ht]; exact hP, va_K.moved hW.alike hK, hD⟩, hS.F ht⟩) hS.2.2 d_Mo_refused_33
      · skip
        exact absurd (by decide) c_25
    · skip
      refine lv_iconst (v := 2) hx hb d_Mo_refused_13 (by decide) ?_
      refine lv_goto (tgt := 18) hx hb d_Mo_refused_14 (by decide) ?_
      refine va_put (D := D) (ci := 13) (v := .int 2) (ty := .int) (C := R_Mo) (T := F_Mo) (N := 35) hx hb hg i_Mo t_Mo t_Mo_ok n_Mo hown hK hP hD hS 0 rfl rfl 0 (by decide) (hg _ mw_1716) (fun _ h9 => h9) rfl (by decide +kernel) rfl rfl (Nat.le_of_ble_eq_true rfl) d_Mo_refused_18 (fun H locs hP hD hS => ?_)
      have hP : va_P D vC [(h0, .inr (13, [.int 2, .ref (r 1), .int (z 2), .int (z 3), .ref (r 4), .ref (r 5), .ref (r 6), .ref (r 7), .int (z 8), .ref (r 9), .int (z 10), .int (z 11), .int (z 12), .int (z 13), .ref (r 14), .ref (r 15), .ref (r 16), .ref (r 17), .ref (r 18), .ref (r 19), .ref (r 20), .ref (r 21), .int (z 22), .int (z 23), .int (z 24), .int (z 25), .int (z 26), .int (z 27), .ref (r 28), .ref (r 29), .int (z 30), .int (z 31), .int (z 32), .ref (r 33), .ref (r 34)]))] H := hP
      have hD : va_D A [(h0, .inr (13, [.int 2, .ref (r 1), .int (z 2), .int (z 3), .ref (r 4), .ref (r 5), .ref (r 6), .ref (r 7), .int (z 8), .ref (r 9), .int (z 10), .int (z 11), .int (z 12), .int (z 13), .ref (r 14), .ref (r 15), .ref (r 16), .ref (r 17), .ref (r 18), .ref (r 19), .ref (r 20), .ref (r 21), .int (z 22), .int (z 23), .int (z 24), .int (z 25), .int (z 26), .int (z 27), .ref (r 28), .ref (r 29), .int (z 30), .int (z 31), .int (z 32), .ref (r 33), .ref (r 34)]))] := hD
      refine lv_aload_n hx hb d_Mo_refused_21 rfl (lv_at hl 0 rfl) ?_
      refine va_get (D := D) (ci := 13) (v := .int 2) (C := R_Mo) (T := F_Mo) (N := 35) hx hb hg i_Mo hown hK hP 0 rfl rfl 0 (by decide) (hg _ mw_1716) (fun _ h9 => h9) rfl d_Mo_refused_22 ?_
      refine lv_if_le (tgt := 32) hx hb d_Mo_refused_25 (by decide) (fun c_25 => ?_) (fun c_25 => ?_)
      · skip
        exact absurd c_25 (by decide)
      · skip
        refine lv_iconst (v := 1) hx hb d_Mo_refused_28 (by decide) ?_
        refine lv_goto (tgt := 33) hx hb d_Mo_refused_29 (by decide) ?_
        rw [show mo_th a b = 2 from by unfold mo_th; rw [if_pos c_2, if_neg c_10]]
        exact W.zret (v := 1) hx hb hr (rfl) (fun t ht hW => ⟨⟨1, (), rfl, by unfold mo_re; rw [if_pos c_2, if_neg c_10], by rw [ht]; exact hP, va_K.moved hW.alike hK, hD⟩, hS.F ht⟩) hS.2.2 d_Mo_refused_33
  · skip
    refine lv_iconst (v := 1) hx hb d_Mo_refused_5 (by decide) ?_
    refine lv_goto (tgt := 18) hx hb d_Mo_refused_6 (by decide) ?_
    refine va_put (D := D) (ci := 13) (v := .int 1) (ty := .int) (C := R_Mo) (T := F_Mo) (N := 35) hx hb hg i_Mo t_Mo t_Mo_ok n_Mo hown hK hP hD hS 0 rfl rfl 0 (by decide) (hg _ mw_1716) (fun _ h9 => h9) rfl (by decide +kernel) rfl rfl (Nat.le_of_ble_eq_true rfl) d_Mo_refused_18 (fun H locs hP hD hS => ?_)
    have hP : va_P D vC [(h0, .inr (13, [.int 1, .ref (r 1), .int (z 2), .int (z 3), .ref (r 4), .ref (r 5), .ref (r 6), .ref (r 7), .int (z 8), .ref (r 9), .int (z 10), .int (z 11), .int (z 12), .int (z 13), .ref (r 14), .ref (r 15), .ref (r 16), .ref (r 17), .ref (r 18), .ref (r 19), .ref (r 20), .ref (r 21), .int (z 22), .int (z 23), .int (z 24), .int (z 25), .int (z 26), .int (z 27), .ref (r 28), .ref (r 29), .int (z 30), .int (z 31), .int (z 32), .ref (r 33), .ref (r 34)]))] H := hP
    have hD : va_D A [(h0, .inr (13, [.int 1, .ref (r 1), .int (z 2), .int (z 3), .ref (r 4), .ref (r 5), .ref (r 6), .ref (r 7), .int (z 8), .ref (r 9), .int (z 10), .int (z 11), .int (z 12), .int (z 13), .ref (r 14), .ref (r 15), .ref (r 16), .ref (r 17), .ref (r 18), .ref (r 19), .ref (r 20), .ref (r 21), .int (z 22), .int (z 23), .int (z 24), .int (z 25), .int (z 26), .int (z 27), .ref (r 28), .ref (r 29), .int (z 30), .int (z 31), .int (z 32), .ref (r 33), .ref (r 34)]))] := hD
    refine lv_aload_n hx hb d_Mo_refused_21 rfl (lv_at hl 0 rfl) ?_
    refine va_get (D := D) (ci := 13) (v := .int 1) (C := R_Mo) (T := F_Mo) (N := 35) hx hb hg i_Mo hown hK hP 0 rfl rfl 0 (by decide) (hg _ mw_1716) (fun _ h9 => h9) rfl d_Mo_refused_22 ?_
    refine lv_if_le (tgt := 32) hx hb d_Mo_refused_25 (by decide) (fun c_25 => ?_) (fun c_25 => ?_)
    · skip
      exact absurd c_25 (by decide)
    · skip
      refine lv_iconst (v := 1) hx hb d_Mo_refused_28 (by decide) ?_
      refine lv_goto (tgt := 33) hx hb d_Mo_refused_29 (by decide) ?_
      rw [show mo_th a b = 1 from by unfold mo_th; rw [if_neg c_2]]
      exact W.zret (v := 1) hx hb hr (rfl) (fun t ht hW => ⟨⟨1, (), rfl, by unfold mo_re; rw [if_neg c_2], by rw [ht]; exact hP, va_K.moved hW.alike hK, hD⟩, hS.F ht⟩) hS.2.2 d_Mo_refused_33
