/-! Bytes: a row of n places, how many are told, what they hold. -/
abbrev by_b (x : Int32) : Int32 := x.toInt8.toInt32
def by_put (n : Nat) (u : Nat × (Nat → Int32)) (b : Int32) : Nat × (Nat → Int32) := if u.1 < n then (u.1 + 1, upd u.2 u.1 (by_b b)) else u
theorem by_put_le {n : Nat} {u : Nat × (Nat → Int32)} (b : Int32) (h : u.1 ≤ n) : (by_put n u b).1 ≤ n := by
  unfold by_put
  split
  · assumption
  · exact h
def by_at (u : Nat × (Nat → Int32)) (i : Int32) : Int32 := if ¬ i < 0 ∧ i.toNatClampNeg < u.1 then u.2 i.toNatClampNeg &&& 255 else -1
theorem by_at_no {u : Nat × (Nat → Int32)} {i : Int32} (h : i < 0 ∨ ∃ k : Nat, k < 2 ^ 31 ∧ i = nI k ∧ u.1 ≤ k) : by_at u i = -1 := by
  unfold by_at
  rw [if_neg]
  rintro ⟨h1, h2⟩
  rcases h with h | ⟨k, hk, rfl, h3⟩
  · exact h1 h
  · rw [nI_clamp hk] at h2
    omega
theorem by_at_in {u : Nat × (Nat → Int32)} {k : Nat} (hk : k < 2 ^ 31) (h : k < u.1) : by_at u (nI k) = u.2 k &&& 255 := by
  unfold by_at
  rw [nI_clamp hk, if_pos ⟨nI_pos hk, h⟩]
abbrev wBy (h0 h1 : Nat) (kA : Nat → ClassId) (n : Nat) (u : Nat × (Nat → Int32)) : va_W := [(h0, .inr (0, [.ref h1, .int (nI u.1)])), (h1, .inl (kA 0, n, .inl u.2))]
set_option maxHeartbeats 4000000 in
set_option maxRecDepth 100000 in
/-- put(b): the byte goes behind the others, if there is a place -/
theorem c_By_put (l : Launch) (D : va_G) (kA : Nat → ClassId) (sz : Nat) (h0 h1 n : Nat) (u : Nat × (Nat → Int32)) (b : Int32) (hu : u.1 ≤ n) (hn : n < 2 ^ 31) : Met l y_By_put w_By_put { frames := 0, cells := 0, slots := 0, locals := 0 } (xPre D vC (tK kA) [.ref h0, .int b] (wBy h0 h1 kA n u) sz) (va_Qi (fun (r : Int32) (_ : Unit) => r = if u.1 < n then 1 else 0) (xB D vC (tK kA) (fun _ => wBy h0 h1 kA n (by_put n u b)) (va_A (wBy h0 h1 kA n u) sz)) (va_A (wBy h0 h1 kA n u) sz)) 0 0 (va_A (wBy h0 h1 kA n u) sz) := by
  refine Met.ofW (cc := b_By_put) (maxL := 2) (ret := (some .boolean)) (by decide) rfl ?_
  intro p e s m args below meth c s₁ B hml hv
  obtain ⟨rfl, hsz, hP, hK, hD0⟩ := hv
  have hx := B.exec
  have hb := B.bytes
  have hr := B.returns
  have hts := atoms_spec (ws := w_By_put) B.pre
  have hg : ∀ w ∈ gW, w.before _ s = true := fun w h => hts w (List.mem_cons_of_mem _ h)
  have hown : s.vm.findClass R_By = some m.cls := findClass_of_methodNamed B.named
  have hlocks := B.notSynchronized
  subst hsz
  have hD := hD0.self (sz := s.heap.size)
  generalize hAe : va_A (wBy h0 h1 kA n u) s.heap.size = A at hD ⊢
  have hA : ∀ q : Nat, s.heap.size ≤ q → A q := fun q h => by rw [← hAe]; exact Or.inr h
  have hS : va_S A s.heap s.heap [] := va_S.rf
  have hP : va_P D vC [(h0, .inr (0, [.ref h1, .int (nI u.1)])), (h1, .inl (kA 0, n, .inl u.2))] s.heap := hP
  have hD : va_D A [(h0, .inr (0, [.ref h1, .int (nI u.1)])), (h1, .inl (kA 0, n, .inl u.2))] := hD
  have hl := lv_entry ([.ref h0, .int b]) (n := 2) (Nat.le_of_ble_eq_true rfl)
  rw [lg_entry_eq]
  generalize (lg_sl ([.ref h0, .int b]) ++ List.replicate (2 - (lg_sl ([.ref h0, .int b])).length) Slot.unset).toArray = ls at hl ⊢
  have hl : lv_has ls 2 [(0, .ref h0), (1, .int b)] := hl
  refine lv_aload_n hx hb d_By_put_0 rfl (lv_at hl 0 rfl) ?_
  refine va_get (D := D) (ci := 0) (v := .int (nI u.1)) (C := R_By) (T := F_By) (N := 2) hx hb hg i_By hown hK hP 0 rfl rfl 1 (by decide) (hg _ mw_50) (fun _ h9 => h9) rfl d_By_put_1 ?_
  refine lv_aload_n hx hb d_By_put_4 rfl (lv_at hl 0 rfl) ?_
  refine va_get (D := D) (ci := 0) (v := .ref h1) (C := R_By) (T := F_By) (N := 2) hx hb hg i_By hown hK hP 0 rfl rfl 0 (by decide) (hg _ mw_42) (fun _ h9 => h9) rfl d_By_put_5 ?_
  refine va_alen (v := nI n) hx hb hK hP 1 0 rfl rfl rfl d_By_put_8 ?_
  refine xb_lt (tgt := 14) hx hb d_By_put_9 (by decide) (by omega) (by omega) (fun c_9 => ?_) (fun c_9 => ?_)
  · skip
    refine lv_aload_n hx hb d_By_put_14 rfl (lv_at hl 0 rfl) ?_
    refine va_get (D := D) (ci := 0) (v := .ref h1) (C := R_By) (T := F_By) (N := 2) hx hb hg i_By hown hK hP 0 rfl rfl 0 (by decide) (hg _ mw_42) (fun _ h9 => h9) rfl d_By_put_15 ?_
    refine lv_aload_n hx hb d_By_put_18 rfl (lv_at hl 0 rfl) ?_
    refine va_get (D := D) (ci := 0) (v := .int (nI u.1)) (C := R_By) (T := F_By) (N := 2) hx hb hg i_By hown hK hP 0 rfl rfl 1 (by decide) (hg _ mw_50) (fun _ h9 => h9) rfl d_By_put_19 ?_
    refine lv_iload_n hx hb d_By_put_22 rfl (lv_at hl 1 rfl) ?_
    refine lv_i2b hx hb d_By_put_23 rfl ?_
    refine lv_topi (fun x_23 ex_23 => ?_)
    refine xb_bast (v := by_b b) hx hb hK hP hD hS 1 0 rfl rfl (by rw [ex_23]; exact pk_vb b) (by omega) (by omega) d_By_put_24 (fun H locs hP hD hS => ?_)
    have hP : va_P D vC [(h0, .inr (0, [.ref h1, .int (nI u.1)])), (h1, .inl (kA 0, n, .inl (upd u.2 u.1 (by_b b))))] H := hP
    have hD : va_D A [(h0, .inr (0, [.ref h1, .int (nI u.1)])), (h1, .inl (kA 0, n, .inl (upd u.2 u.1 (by_b b))))] := hD
    refine lv_aload_n hx hb d_By_put_25 rfl (lv_at hl 0 rfl) ?_
    refine lv_dup hx hb d_By_put_26 rfl ?_
    refine va_get (D := D) (ci := 0) (v := .int (nI u.1)) (C := R_By) (T := F_By) (N := 2) hx hb hg i_By hown hK hP 0 rfl rfl 1 (by decide) (hg _ mw_50) (fun _ h9 => h9) rfl d_By_put_27 ?_
    refine lv_iconst (v := 1) hx hb d_By_put_30 (by decide) ?_
    refine lv_iadd hx hb d_By_put_31 ?_
    refine lv_topi (fun x_31 ex_31 => ?_)
    replace ex_31 : x_31 = nI (u.1 + 1) := ex_31.trans (nI_1 u.1)
    subst ex_31
    refine va_put (D := D) (ci := 0) (v := .int (nI (u.1 + 1))) (ty := .int) (C := R_By) (T := F_By) (N := 2) hx hb hg i_By t_By t_By_ok n_By hown hK hP hD hS 0 rfl rfl 1 (by decide) (hg _ mw_50) (fun _ h9 => h9) rfl (by decide +kernel) rfl rfl (Nat.le_of_ble_eq_true rfl) d_By_put_32 (fun H locs hP hD hS => ?_)
    have hP : va_P D vC [(h0, .inr (0, [.ref h1, .int (nI (u.1 + 1))])), (h1, .inl (kA 0, n, .inl (upd u.2 u.1 (by_b b))))] H := hP
    have hD : va_D A [(h0, .inr (0, [.ref h1, .int (nI (u.1 + 1))])), (h1, .inl (kA 0, n, .inl (upd u.2 u.1 (by_b b))))] := hD
    refine lv_iconst (v := 1) hx hb d_By_put_35 (by decide) ?_
    rw [show by_put n u b = (u.1 + 1, upd u.2 u.1 (by_b b)) from if_pos c_9]
    exact W.zret (v := 1) hx hb hr rfl (fun t ht hW => ⟨⟨1, (), rfl, (if_pos c_9).symm, by rw [ht]; exact hP, va_K.moved hW.alike hK, hD⟩, hS.F ht⟩) hS.2.2 d_By_put_36
  · skip
    refine lv_iconst (v := 0) hx hb d_By_put_12 (by decide) ?_
    rw [show by_put n u b = u from if_neg (Nat.not_lt.mpr c_9)]
    exact W.zret (v := 0) hx hb hr rfl (fun t ht hW => ⟨⟨0, (), rfl, (if_neg (Nat.not_lt.mpr c_9)).symm, by rw [ht]; exact hP, va_K.moved hW.alike hK, hD⟩, hS.F ht⟩) hS.2.2 d_By_put_13

set_option maxHeartbeats 4000000 in
set_option maxRecDepth 100000 in
/-- at(i): the byte there, or -1 -/
theorem c_By_at (l : Launch) (D : va_G) (kA : Nat → ClassId) (sz : Nat) (h0 h1 n : Nat) (u : Nat × (Nat → Int32)) (i : Int32) (hu : u.1 ≤ n) (hn : n < 2 ^ 31) : Met l y_By_at w_By_at { frames := 0, cells := 0, slots := 0, locals := 0 } (xPre D vC (tK kA) [.ref h0, .int i] (wBy h0 h1 kA n u) sz) (va_Qi (fun (r : Int32) (_ : Unit) => r = by_at u i) (xB D vC (tK kA) (fun _ => wBy h0 h1 kA n u) (va_A (wBy h0 h1 kA n u) sz)) (va_A (wBy h0 h1 kA n u) sz)) 0 0 (va_A (wBy h0 h1 kA n u) sz) := by
  refine Met.ofW (cc := b_By_at) (maxL := 2) (ret := (some .int)) (by decide) rfl ?_
  intro p e s m args below meth c s₁ B hml hv
  obtain ⟨rfl, hsz, hP, hK, hD0⟩ := hv
  have hx := B.exec
  have hb := B.bytes
  have hr := B.returns
  have hts := atoms_spec (ws := w_By_at) B.pre
  have hg : ∀ w ∈ gW, w.before _ s = true := fun w h => hts w (List.mem_cons_of_mem _ h)
  have hown : s.vm.findClass R_By = some m.cls := findClass_of_methodNamed B.named
  have hlocks := B.notSynchronized
  subst hsz
  have hD := hD0.self (sz := s.heap.size)
  generalize hAe : va_A (wBy h0 h1 kA n u) s.heap.size = A at hD ⊢
  have hA : ∀ q : Nat, s.heap.size ≤ q → A q := fun q h => by rw [← hAe]; exact Or.inr h
  have hS : va_S A s.heap s.heap [] := va_S.rf
  have hP : va_P D vC [(h0, .inr (0, [.ref h1, .int (nI u.1)])), (h1, .inl (kA 0, n, .inl u.2))] s.heap := hP
  have hD : va_D A [(h0, .inr (0, [.ref h1, .int (nI u.1)])), (h1, .inl (kA 0, n, .inl u.2))] := hD
  have hl := lv_entry ([.ref h0, .int i]) (n := 2) (Nat.le_of_ble_eq_true rfl)
  rw [lg_entry_eq]
  generalize (lg_sl ([.ref h0, .int i]) ++ List.replicate (2 - (lg_sl ([.ref h0, .int i])).length) Slot.unset).toArray = ls at hl ⊢
  have hl : lv_has ls 2 [(0, .ref h0), (1, .int i)] := hl
  refine lv_iload_n hx hb d_By_at_0 rfl (lv_at hl 1 rfl) ?_
  refine lv_if_lt (tgt := 12) hx hb d_By_at_1 (by decide) (fun c_1 => ?_) (fun c_1 => ?_)
  · skip
    refine lv_iconst (v := (-1)) hx hb d_By_at_12 (by decide) ?_
    refine lv_goto (tgt := 26) hx hb d_By_at_13 (by decide) ?_
    exact W.iret (v := (-1)) hx hb hr (fun t ht hW => ⟨⟨(-1), (), rfl, (by_at_no (Or.inl c_1)).symm, by rw [ht]; exact hP, va_K.moved hW.alike hK, hD⟩, hS.F ht⟩) hS.2.2 d_By_at_26
  · skip
    obtain ⟨k, hk, rfl⟩ := nI_of c_1
    refine lv_iload_n hx hb d_By_at_4 rfl (lv_at hl 1 rfl) ?_
    refine lv_aload_n hx hb d_By_at_5 rfl (lv_at hl 0 rfl) ?_
    refine va_get (D := D) (ci := 0) (v := .int (nI u.1)) (C := R_By) (T := F_By) (N := 2) hx hb hg i_By hown hK hP 0 rfl rfl 1 (by decide) (hg _ mw_50) (fun _ h9 => h9) rfl d_By_at_6 ?_
    refine xb_lt (tgt := 16) hx hb d_By_at_9 (by decide) (by omega) (by omega) (fun c_9 => ?_) (fun c_9 => ?_)
    · skip
      refine lv_aload_n hx hb d_By_at_16 rfl (lv_at hl 0 rfl) ?_
      refine va_get (D := D) (ci := 0) (v := .ref h1) (C := R_By) (T := F_By) (N := 2) hx hb hg i_By hown hK hP 0 rfl rfl 0 (by decide) (hg _ mw_42) (fun _ h9 => h9) rfl d_By_at_17 ?_
      refine lv_iload_n hx hb d_By_at_20 rfl (lv_at hl 1 rfl) ?_
      refine xb_bald hx hb hK hP 1 0 rfl rfl (by omega) (by omega) d_By_at_21 ?_
      refine lv_topi (fun x_21 ex_21 => ?_)
      refine lv_sipush (v := 255) hx hb d_By_at_22 (by decide) ?_
      refine lv_iand hx hb d_By_at_25 ?_
      refine lv_topi (fun x_25 ex_25 => ?_)
      exact W.iret (v := x_25) hx hb hr (fun t ht hW => ⟨⟨x_25, (), rfl, by rw [ex_25, ex_21]; exact (by_at_in hk c_9).symm, by rw [ht]; exact hP, va_K.moved hW.alike hK, hD⟩, hS.F ht⟩) hS.2.2 d_By_at_26
    · skip
      refine lv_iconst (v := (-1)) hx hb d_By_at_12 (by decide) ?_
      refine lv_goto (tgt := 26) hx hb d_By_at_13 (by decide) ?_
      exact W.iret (v := (-1)) hx hb hr (fun t ht hW => ⟨⟨(-1), (), rfl, (by_at_no (Or.inr ⟨k, hk, rfl, c_9⟩)).symm, by rw [ht]; exact hP, va_K.moved hW.alike hK, hD⟩, hS.F ht⟩) hS.2.2 d_By_at_26
