/-! the reference: addInt, feed -/
abbrev mo_b (v k : Int32) : Int32 := by_b (v >>> (k &&& 31))
def mo_add (f : Nat → Int32) (t : Nat) (v : Int32) : Nat → Int32 := upd (upd (upd (upd f t (mo_b v 24)) (t + 1) (mo_b v 16)) (t + 1 + 1) (mo_b v 8)) (t + 1 + 1 + 1) (mo_b v 0)
def mo_feed (f : Nat → Int32) (t : Nat) (a1 a2 a3 a4 a5 : Int32) : Nat → Int32 := mo_add (mo_add (mo_add (mo_add (mo_add f t a1) (t + 4) a2) (t + 4 + 4) a3) (t + 4 + 4 + 4) a4) (t + 4 + 4 + 4 + 4) a5
set_option maxHeartbeats 4000000 in
set_option maxRecDepth 100000 in
/-- addInt(v) -/
theorem c_Mo_addInt (l : Launch) (D : va_G) (kA : Nat → ClassId) (kS : Nat → Nat) (sz : Nat) (h0 : Nat) (r : Nat → Nat) (z : Nat → Int32) (y : Nat → Int64) (f : Nat → Int32) (t : Nat) (v : Int32) (ht : t + 4 ≤ 4096) : Met l y_Mo_addInt w_Mo_addInt { frames := 0, cells := 0, slots := 0, locals := 0 } (xPre D vC (tK kA) kS [.ref h0, .int v] ([oMo h0 r (upd z 2 (nI t)) y, (r 1, .inl (kA 0, 4096, .inl f))]) sz) (va_Qv (fun (_ : Unit) => True) (xB D vC (tK kA) (fun _ => [oMo h0 r (upd z 2 (nI (t + 4))) y, (r 1, .inl (kA 0, 4096, .inl (mo_add f t v)))]) (va_A ([oMo h0 r (upd z 2 (nI t)) y, (r 1, .inl (kA 0, 4096, .inl f))]) sz)) (va_A ([oMo h0 r (upd z 2 (nI t)) y, (r 1, .inl (kA 0, 4096, .inl f))]) sz)) 0 0 (va_A ([oMo h0 r (upd z 2 (nI t)) y, (r 1, .inl (kA 0, 4096, .inl f))]) sz) := by
  refine Met.ofW (cc := b_Mo_addInt) (maxL := 3) (ret := none) (by decide) rfl ?_
  intro p e s m args below meth c s₁ B hml hv
  obtain ⟨rfl, hsz, hP, hK, hD0, hN, hC⟩ := hv
  have hx := B.exec
  have hb := B.bytes
  have hr := B.returns
  have hts := atoms_spec (ws := w_Mo_addInt) B.pre
  have hg : ∀ w ∈ gW, w.before _ s = true := fun w h => hts w (List.mem_cons_of_mem _ h)
  have hown : s.vm.findClass R_Mo = some m.cls := findClass_of_methodNamed B.named
  have hlocks := B.notSynchronized
  subst hsz
  have hD := hD0.self (sz := s.heap.size)
  generalize hAe : va_A ([oMo h0 r (upd z 2 (nI t)) y, (r 1, .inl (kA 0, 4096, .inl f))]) s.heap.size = A at hD hC ⊢
  have hA : ∀ q : Nat, s.heap.size ≤ q → A q := fun q h => by rw [← hAe]; exact Or.inr h
  have hS : va_S A s.heap s.heap [] := va_S.rf
  have hP : va_P D vC [(h0, .inr (13, [.int (z 0), .ref (r 1), .int (nI t), .int (z 3), .ref (r 4), .ref (r 5), .ref (r 6), .ref (r 7), .int (z 8), .ref (r 9), .int (z 10), .int (z 11), .int (z 12), .int (z 13), .ref (r 14), .ref (r 15), .ref (r 16), .ref (r 17), .ref (r 18), .ref (r 19), .ref (r 20), .ref (r 21), .int (z 22), .int (z 23), .int (z 24), .int (z 25), .int (z 26), .int (z 27), .ref (r 28), .ref (r 29), .int (z 30), .int (z 31), .int (z 32), .ref (r 33), .ref (r 34)])), (r 1, .inl (kA 0, 4096, .inl f))] s.heap := hP
  have hD : va_D A [(h0, .inr (13, [.int (z 0), .ref (r 1), .int (nI t), .int (z 3), .ref (r 4), .ref (r 5), .ref (r 6), .ref (r 7), .int (z 8), .ref (r 9), .int (z 10), .int (z 11), .int (z 12), .int (z 13), .ref (r 14), .ref (r 15), .ref (r 16), .ref (r 17), .ref (r 18), .ref (r 19), .ref (r 20), .ref (r 21), .int (z 22), .int (z 23), .int (z 24), .int (z 25), .int (z 26), .int (z 27), .ref (r 28), .ref (r 29), .int (z 30), .int (z 31), .int (z 32), .ref (r 33), .ref (r 34)])), (r 1, .inl (kA 0, 4096, .inl f))] := hD
  have hl := lv_entry ([.ref h0, .int v]) (n := 3) (Nat.le_of_ble_eq_true rfl)
  rw [lg_entry_eq]
  generalize (lg_sl ([.ref h0, .int v]) ++ List.replicate (3 - (lg_sl ([.ref h0, .int v])).length) Slot.unset).toArray = ls at hl ⊢
  have hl : lv_has ls 3 [(0, .ref h0), (1, .int v)] := hl
  refine lv_bipush (v := 24) hx hb d_Mo_addInt_0 (by decide) ?_
  refine lv_istore_n (lv' := [(2, .int 24), (0, .ref h0), (1, .int v)]) hx hb d_Mo_addInt_2 rfl hl (by decide) rfl (fun ls hl => ?_)
  refine lv_iload_n hx hb d_Mo_addInt_3 rfl (lv_at hl 0 rfl) ?_
  refine lv_if_lt (tgt := 36) hx hb d_Mo_addInt_4 (by decide) (fun c_4 => absurd c_4 (by decide)) (fun c_4 => ?_)
  refine lv_aload_n hx hb d_Mo_addInt_7 rfl (lv_at hl 1 rfl) ?_
  refine va_get (D := D) (ci := 13) (v := .ref (r 1)) (C := R_Mo) (T := F_Mo) (N := 35) hx hb hg i_Mo hown hK hP 0 rfl rfl 1 (by decide) (hg _ mw_1717) (fun _ h9 => h9) rfl d_Mo_addInt_8 ?_
  refine lv_aload_n hx hb d_Mo_addInt_11 rfl (lv_at hl 1 rfl) ?_
  refine va_get (D := D) (ci := 13) (v := .int (nI t)) (C := R_Mo) (T := F_Mo) (N := 35) hx hb hg i_Mo hown hK hP 0 rfl rfl 2 (by decide) (hg _ mw_1718) (fun _ h9 => h9) rfl d_Mo_addInt_12 ?_
  refine lv_iload_n hx hb d_Mo_addInt_15 rfl (lv_at hl 2 rfl) ?_
  refine lv_iload_n hx hb d_Mo_addInt_16 rfl (lv_at hl 0 rfl) ?_
  refine lv_ishr hx hb d_Mo_addInt_17 ?_
  refine lv_topi (fun x_17 ex_17 => ?_)
  refine lv_i2b hx hb d_Mo_addInt_18 rfl ?_
  refine lv_topi (fun x_18 ex_18 => ?_)
  refine xb_bast (v := mo_b v 24) hx hb hK hP hD hS 1 0 rfl rfl (by rw [ex_18, ex_17]; exact pk_vb _) (by omega) (by omega) d_Mo_addInt_19 (fun H locs hP hD hS => ?_)
  have hP : va_P D vC [(h0, .inr (13, [.int (z 0), .ref (r 1), .int (nI t), .int (z 3), .ref (r 4), .ref (r 5), .ref (r 6), .ref (r 7), .int (z 8), .ref (r 9), .int (z 10), .int (z 11), .int (z 12), .int (z 13), .ref (r 14), .ref (r 15), .ref (r 16), .ref (r 17), .ref (r 18), .ref (r 19), .ref (r 20), .ref (r 21), .int (z 22), .int (z 23), .int (z 24), .int (z 25), .int (z 26), .int (z 27), .ref (r 28), .ref (r 29), .int (z 30), .int (z 31), .int (z 32), .ref (r 33), .ref (r 34)])), (r 1, .inl (kA 0, 4096, .inl (upd f t (mo_b v 24))))] H := hP
  have hD : va_D A [(h0, .inr (13, [.int (z 0), .ref (r 1), .int (nI t), .int (z 3), .ref (r 4), .ref (r 5), .ref (r 6), .ref (r 7), .int (z 8), .ref (r 9), .int (z 10), .int (z 11), .int (z 12), .int (z 13), .ref (r 14), .ref (r 15), .ref (r 16), .ref (r 17), .ref (r 18), .ref (r 19), .ref (r 20), .ref (r 21), .int (z 22), .int (z 23), .int (z 24), .int (z 25), .int (z 26), .int (z 27), .ref (r 28), .ref (r 29), .int (z 30), .int (z 31), .int (z 32), .ref (r 33), .ref (r 34)])), (r 1, .inl (kA 0, 4096, .inl (upd f t (mo_b v 24))))] := hD
  refine lv_aload_n hx hb d_Mo_addInt_20 rfl (lv_at hl 1 rfl) ?_
  refine lv_dup hx hb d_Mo_addInt_21 rfl ?_
  refine va_get (D := D) (ci := 13) (v := .int (nI t)) (C := R_Mo) (T := F_Mo) (N := 35) hx hb hg i_Mo hown hK hP 0 rfl rfl 2 (by decide) (hg _ mw_1718) (fun _ h9 => h9) rfl d_Mo_addInt_22 ?_
  refine lv_iconst (v := 1) hx hb d_Mo_addInt_25 (by decide) ?_
  refine lv_iadd hx hb d_Mo_addInt_26 ?_
  refine lv_topi (fun x_26 ex_26 => ?_)
  replace ex_26 : x_26 = nI (t + 1) := ex_26.trans (nI_1 (t))
  subst ex_26
  refine va_put (D := D) (ci := 13) (v := .int (nI (t + 1))) (ty := .int) (C := R_Mo) (T := F_Mo) (N := 35) hx hb hg i_Mo t_Mo t_Mo_ok n_Mo hown hK hP hD hS 0 rfl rfl 2 (by decide) (hg _ mw_1718) (fun _ h9 => h9) rfl (by decide +kernel) rfl rfl (Nat.le_of_ble_eq_true rfl) d_Mo_addInt_27 (fun H locs hP hD hS => ?_)
  have hP : va_P D vC [(h0, .inr (13, [.int (z 0), .ref (r 1), .int (nI (t + 1)), .int (z 3), .ref (r 4), .ref (r 5), .ref (r 6), .ref (r 7), .int (z 8), .ref (r 9), .int (z 10), .int (z 11), .int (z 12), .int (z 13), .ref (r 14), .ref (r 15), .ref (r 16), .ref (r 17), .ref (r 18), .ref (r 19), .ref (r 20), .ref (r 21), .int (z 22), .int (z 23), .int (z 24), .int (z 25), .int (z 26), .int (z 27), .ref (r 28), .ref (r 29), .int (z 30), .int (z 31), .int (z 32), .ref (r 33), .ref (r 34)])), (r 1, .inl (kA 0, 4096, .inl (upd f t (mo_b v 24))))] H := hP
  have hD : va_D A [(h0, .inr (13, [.int (z 0), .ref (r 1), .int (nI (t + 1)), .int (z 3), .ref (r 4), .ref (r 5), .ref (r 6), .ref (r 7), .int (z 8), .ref (r 9), .int (z 10), .int (z 11), .int (z 12), .int (z 13), .ref (r 14), .ref (r 15), .ref (r 16), .ref (r 17), .ref (r 18), .ref (r 19), .ref (r 20), .ref (r 21), .int (z 22), .int (z 23), .int (z 24), .int (z 25), .int (z 26), .int (z 27), .ref (r 28), .ref (r 29), .int (z 30), .int (z 31), .int (z 32), .ref (r 33), .ref (r 34)])), (r 1, .inl (kA 0, 4096, .inl (upd f t (mo_b v 24))))] := hD
  obtain ⟨x_30, ex_30⟩ : ∃ y : Int32, y = 24 + Int32.ofInt (-8) := ⟨_, rfl⟩
  replace ex_30 : x_30 = (16) := ex_30.trans (by decide)
  refine lv_iinc (v := x_30) (lv' := [(2, .int x_30), (0, .ref h0), (1, .int v)]) hx hb d_Mo_addInt_30 hl (k := 0) rfl (by rw [ex_30]; exact by decide) (by decide) rfl (fun ls hl => ?_)
  subst ex_30
  refine lv_goto (tgt := 3) hx hb d_Mo_addInt_33 (by decide) ?_
  refine lv_iload_n hx hb d_Mo_addInt_3 rfl (lv_at hl 0 rfl) ?_
  refine lv_if_lt (tgt := 36) hx hb d_Mo_addInt_4 (by decide) (fun c_4 => absurd c_4 (by decide)) (fun c_4 => ?_)
  refine lv_aload_n hx hb d_Mo_addInt_7 rfl (lv_at hl 1 rfl) ?_
  refine va_get (D := D) (ci := 13) (v := .ref (r 1)) (C := R_Mo) (T := F_Mo) (N := 35) hx hb hg i_Mo hown hK hP 0 rfl rfl 1 (by decide) (hg _ mw_1717) (fun _ h9 => h9) rfl d_Mo_addInt_8 ?_
  refine lv_aload_n hx hb d_Mo_addInt_11 rfl (lv_at hl 1 rfl) ?_
  refine va_get (D := D) (ci := 13) (v := .int (nI (t + 1))) (C := R_Mo) (T := F_Mo) (N := 35) hx hb hg i_Mo hown hK hP 0 rfl rfl 2 (by decide) (hg _ mw_1718) (fun _ h9 => h9) rfl d_Mo_addInt_12 ?_
  refine lv_iload_n hx hb d_Mo_addInt_15 rfl (lv_at hl 2 rfl) ?_
  refine lv_iload_n hx hb d_Mo_addInt_16 rfl (lv_at hl 0 rfl) ?_
  refine lv_ishr hx hb d_Mo_addInt_17 ?_
  refine lv_topi (fun x_17 ex_17 => ?_)
  refine lv_i2b hx hb d_Mo_addInt_18 rfl ?_
  refine lv_topi (fun x_18 ex_18 => ?_)
  refine xb_bast (v := mo_b v 16) hx hb hK hP hD hS 1 0 rfl rfl (by rw [ex_18, ex_17]; exact pk_vb _) (by omega) (by omega) d_Mo_addInt_19 (fun H locs hP hD hS => ?_)
  have hP : va_P D vC [(h0, .inr (13, [.int (z 0), .ref (r 1), .int (nI (t + 1)), .int (z 3), .ref (r 4), .ref (r 5), .ref (r 6), .ref (r 7), .int (z 8), .ref (r 9), .int (z 10), .int (z 11), .int (z 12), .int (z 13), .ref (r 14), .ref (r 15), .ref (r 16), .ref (r 17), .ref (r 18), .ref (r 19), .ref (r 20), .ref (r 21), .int (z 22), .int (z 23), .int (z 24), .int (z 25), .int (z 26), .int (z 27), .ref (r 28), .ref (r 29), .int (z 30), .int (z 31), .int (z 32), .ref (r 33), .ref (r 34)])), (r 1, .inl (kA 0, 4096, .inl (upd (upd f t (mo_b v 24)) (t + 1) (mo_b v 16))))] H := hP
  have hD : va_D A [(h0, .inr (13, [.int (z 0), .ref (r 1), .int (nI (t + 1)), .int (z 3), .ref (r 4), .ref (r 5), .ref (r 6), .ref (r 7), .int (z 8), .ref (r 9), .int (z 10), .int (z 11), .int (z 12), .int (z 13), .ref (r 14), .ref (r 15), .ref (r 16), .ref (r 17), .ref (r 18), .ref (r 19), .ref (r 20), .ref (r 21), .int (z 22), .int (z 23), .int (z 24), .int (z 25), .int (z 26), .int (z 27), .ref (r 28), .ref (r 29), .int (z 30), .int (z 31), .int (z 32), .ref (r 33), .ref (r 34)])), (r 1, .inl (kA 0, 4096, .inl (upd (upd f t (mo_b v 24)) (t + 1) (mo_b v 16))))] := hD
  refine lv_aload_n hx hb d_Mo_addInt_20 rfl (lv_at hl 1 rfl) ?_
  refine lv_dup hx hb d_Mo_addInt_21 rfl ?_
  refine va_get (D := D) (ci := 13) (v := .int (nI (t + 1))) (C := R_Mo) (T := F_Mo) (N := 35) hx hb hg i_Mo hown hK hP 0 rfl rfl 2 (by decide) (hg _ mw_1718) (fun _ h9 => h9) rfl d_Mo_addInt_22 ?_
  refine lv_iconst (v := 1) hx hb d_Mo_addInt_25 (by decide) ?_
  refine lv_iadd hx hb d_Mo_addInt_26 ?_
  refine lv_topi (fun x_26 ex_26 => ?_)
  replace ex_26 : x_26 = nI (t + 1 + 1) := ex_26.trans (nI_1 (t + 1))
  subst ex_26
  refine va_put (D := D) (ci := 13) (v := .int (nI (t + 1 + 1))) (ty := .int) (C := R_Mo) (T := F_Mo) (N := 35) hx hb hg i_Mo t_Mo t_Mo_ok n_Mo hown hK hP hD hS 0 rfl rfl 2 (by decide) (hg _ mw_1718) (fun _ h9 => h9) rfl (by decide +kernel) rfl rfl (Nat.le_of_ble_eq_true rfl) d_Mo_addInt_27 (fun H locs hP hD hS => ?_)
  have hP : va_P D vC [(h0, .inr (13, [.int (z 0), .ref (r 1), .int (nI (t + 1 + 1)), .int (z 3), .ref (r 4), .ref (r 5), .ref (r 6), .ref (r 7), .int (z 8), .ref (r 9), .int (z 10), .int (z 11), .int (z 12), .int (z 13), .ref (r 14), .ref (r 15), .ref (r 16), .ref (r 17), .ref (r 18), .ref (r 19), .ref (r 20), .ref (r 21), .int (z 22), .int (z 23), .int (z 24), .int (z 25), .int (z 26), .int (z 27), .ref (r 28), .ref (r 29), .int (z 30), .int (z 31), .int (z 32), .ref (r 33), .ref (r 34)])), (r 1, .inl (kA 0, 4096, .inl (upd (upd f t (mo_b v 24)) (t + 1) (mo_b v 16))))] H := hP
  have hD : va_D A [(h0, .inr (13, [.int (z 0), .ref (r 1), .int (nI (t + 1 + 1)), .int (z 3), .ref (r 4), .ref (r 5), .ref (r 6), .ref (r 7), .int (z 8), .ref (r 9), .int (z 10), .int (z 11), .int (z 12), .int (z 13), .ref (r 14), .ref (r 15), .ref (r 16), .ref (r 17), .ref (r 18), .ref (r 19), .ref (r 20), .ref (r 21), .int (z 22), .int (z 23), .int (z 24), .int (z 25), .int (z 26), .int (z 27), .ref (r 28), .ref (r 29), .int (z 30), .int (z 31), .int (z 32), .ref (r 33), .ref (r 34)])), (r 1, .inl (kA 0, 4096, .inl (upd (upd f t (mo_b v 24)) (t + 1) (mo_b v 16))))] := hD
  obtain ⟨x_30, ex_30⟩ : ∃ y : Int32, y = (16) + Int32.ofInt (-8) := ⟨_, rfl⟩
  replace ex_30 : x_30 = (8) := ex_30.trans (by decide)
  refine lv_iinc (v := x_30) (lv' := [(2, .int x_30), (0, .ref h0), (1, .int v)]) hx hb d_Mo_addInt_30 hl (k := 0) rfl (by rw [ex_30]; exact by decide) (by decide) rfl (fun ls hl => ?_)
  subst ex_30
  refine lv_goto (tgt := 3) hx hb d_Mo_addInt_33 (by decide) ?_
  refine lv_iload_n hx hb d_Mo_addInt_3 rfl (lv_at hl 0 rfl) ?_
  refine lv_if_lt (tgt := 36) hx hb d_Mo_addInt_4 (by decide) (fun c_4 => absurd c_4 (by decide)) (fun c_4 => ?_)
  refine lv_aload_n hx hb d_Mo_addInt_7 rfl (lv_at hl 1 rfl) ?_
  refine va_get (D := D) (ci := 13) (v := .ref (r 1)) (C := R_Mo) (T := F_Mo) (N := 35) hx hb hg i_Mo hown hK hP 0 rfl rfl 1 (by decide) (hg _ mw_1717) (fun _ h9 => h9) rfl d_Mo_addInt_8 ?_
  refine lv_aload_n hx hb d_Mo_addInt_11 rfl (lv_at hl 1 rfl) ?_
  refine va_get (D := D) (ci := 13) (v := .int (nI (t + 1 + 1))) (C := R_Mo) (T := F_Mo) (N := 35) hx hb hg i_Mo hown hK hP 0 rfl rfl 2 (by decide) (hg _ mw_1718) (fun _ h9 => h9) rfl d_Mo_addInt_12 ?_
  refine lv_iload_n hx hb d_Mo_addInt_15 rfl (lv_at hl 2 rfl) ?_
  refine lv_iload_n hx hb d_Mo_addInt_16 rfl (lv_at hl 0 rfl) ?_
  refine lv_ishr hx hb d_Mo_addInt_17 ?_
  refine lv_topi (fun x_17 ex_17 => ?_)
  refine lv_i2b hx hb d_Mo_addInt_18 rfl ?_
  refine lv_topi (fun x_18 ex_18 => ?_)
  refine xb_bast (v := mo_b v 8) hx hb hK hP hD hS 1 0 rfl rfl (by rw [ex_18, ex_17]; exact pk_vb _) (by omega) (by omega) d_Mo_addInt_19 (fun H locs hP hD hS => ?_)
  have hP : va_P D vC [(h0, .inr (13, [.int (z 0), .ref (r 1), .int (nI (t + 1 + 1)), .int (z 3), .ref (r 4), .ref (r 5), .ref (r 6), .ref (r 7), .int (z 8), .ref (r 9), .int (z 10), .int (z 11), .int (z 12), .int (z 13), .ref (r 14), .ref (r 15), .ref (r 16), .ref (r 17), .ref (r 18), .ref (r 19), .ref (r 20), .ref (r 21), .int (z 22), .int (z 23), .int (z 24), .int (z 25), .int (z 26), .int (z 27), .ref (r 28), .ref (r 29), .int (z 30), .int (z 31), .int (z 32), .ref (r 33), .ref (r 34)])), (r 1, .inl (kA 0, 4096, .inl (upd (upd (upd f t (mo_b v 24)) (t + 1) (mo_b v 16)) (t + 1 + 1) (mo_b v 8))))] H := hP
  have hD : va_D A [(h0, .inr (13, [.int (z 0), .ref (r 1), .int (nI (t + 1 + 1)), .int (z 3), .ref (r 4), .ref (r 5), .ref (r 6), .ref (r 7), .int (z 8), .ref (r 9), .int (z 10), .int (z 11), .int (z 12), .int (z 13), .ref (r 14), .ref (r 15), .ref (r 16), .ref (r 17), .ref (r 18), .ref (r 19), .ref (r 20), .ref (r 21), .int (z 22), .int (z 23), .int (z 24), .int (z 25), .int (z 26), .int (z 27), .ref (r 28), .ref (r 29), .int (z 30), .int (z 31), .int (z 32), .ref (r 33), .ref (r 34)])), (r 1, .inl (kA 0, 4096, .inl (upd (upd (upd f t (mo_b v 24)) (t + 1) (mo_b v 16)) (t + 1 + 1) (mo_b v 8))))] := hD
  refine lv_aload_n hx hb d_Mo_addInt_20 rfl (lv_at hl 1 rfl) ?_
  refine lv_dup hx hb d_Mo_addInt_21 rfl ?_
  refine va_get (D := D) (ci := 13) (v := .int (nI (t + 1 + 1))) (C := R_Mo) (T := F_Mo) (N := 35) hx hb hg i_Mo hown hK hP 0 rfl rfl 2 (by decide) (hg _ mw_1718) (fun _ h9 => h9) rfl d_Mo_addInt_22 ?_
  refine lv_iconst (v := 1) hx hb d_Mo_addInt_25 (by decide) ?_
  refine lv_iadd hx hb d_Mo_addInt_26 ?_
  refine lv_topi (fun x_26 ex_26 => ?_)
  replace ex_26 : x_26 = nI (t + 1 + 1 + 1) := ex_26.trans (nI_1 (t + 1 + 1))
  subst ex_26
  refine va_put (D := D) (ci := 13) (v := .int (nI (t + 1 + 1 + 1))) (ty := .int) (C := R_Mo) (T := F_Mo) (N := 35) hx hb hg i_Mo t_Mo t_Mo_ok n_Mo hown hK hP hD hS 0 rfl rfl 2 (by decide) (hg _ mw_1718) (fun _ h9 => h9) rfl (by decide +kernel) rfl rfl (Nat.le_of_ble_eq_true rfl) d_Mo_addInt_27 (fun H locs hP hD hS => ?_)
  have hP : va_P D vC [(h0, .inr (13, [.int (z 0), .ref (r 1), .int (nI (t + 1 + 1 + 1)), .int (z 3), .ref (r 4), .ref (r 5), .ref (r 6), .ref (r 7), .int (z 8), .ref (r 9), .int (z 10), .int (z 11), .int (z 12), .int (z 13), .ref (r 14), .ref (r 15), .ref (r 16), .ref (r 17), .ref (r 18), .ref (r 19), .ref (r 20), .ref (r 21), .int (z 22), .int (z 23), .int (z 24), .int (z 25), .int (z 26), .int (z 27), .ref (r 28), .ref (r 29), .int (z 30), .int (z 31), .int (z 32), .ref (r 33), .ref (r 34)])), (r 1, .inl (kA 0, 4096, .inl (upd (upd (upd f t (mo_b v 24)) (t + 1) (mo_b v 16)) (t + 1 + 1) (mo_b v 8))))] H := hP
  have hD : va_D A [(h0, .inr (13, [.int (z 0), .ref (r 1), .int (nI (t + 1 + 1 + 1)), .int (z 3), .ref (r 4), .ref (r 5), .ref (r 6), .ref (r 7), .int (z 8), .ref (r 9), .int (z 10), .int (z 11), .int (z 12), .int (z 13), .ref (r 14), .ref (r 15), .ref (r 16), .ref (r 17), .ref (r 18), .ref (r 19), .ref (r 20), .ref (r 21), .int (z 22), .int (z 23), .int (z 24), .int (z 25), .int (z 26), .int (z 27), .ref (r 28), .ref (r 29), .int (z 30), .int (z 31), .int (z 32), .ref (r 33), .ref (r 34)])), (r 1, .inl (kA 0, 4096, .inl (upd (upd (upd f t (mo_b v 24)) (t + 1) (mo_b v 16)) (t + 1 + 1) (mo_b v 8))))] := hD
  obtain ⟨x_30, ex_30⟩ : ∃ y : Int32, y = (8) + Int32.ofInt (-8) := ⟨_, rfl⟩
  replace ex_30 : x_30 = (0) := ex_30.trans (by decide)
  refine lv_iinc (v := x_30) (lv' := [(2, .int x_30), (0, .ref h0), (1, .int v)]) hx hb d_Mo_addInt_30 hl (k := 0) rfl (by rw [ex_30]; exact by decide) (by decide) rfl (fun ls hl => ?_)
  subst ex_30
  refine lv_goto (tgt := 3) hx hb d_Mo_addInt_33 (by decide) ?_
  refine lv_iload_n hx hb d_Mo_addInt_3 rfl (lv_at hl 0 rfl) ?_
  refine lv_if_lt (tgt := 36) hx hb d_Mo_addInt_4 (by decide) (fun c_4 => absurd c_4 (by decide)) (fun c_4 => ?_)
  refine lv_aload_n hx hb d_Mo_addInt_7 rfl (lv_at hl 1 rfl) ?_
  refine va_get (D := D) (ci := 13) (v := .ref (r 1)) (C := R_Mo) (T := F_Mo) (N := 35) hx hb hg i_Mo hown hK hP 0 rfl rfl 1 (by decide) (hg _ mw_1717) (fun _ h9 => h9) rfl d_Mo_addInt_8 ?_
  refine lv_aload_n hx hb d_Mo_addInt_11 rfl (lv_at hl 1 rfl) ?_
  refine va_get (D := D) (ci := 13) (v := .int (nI (t + 1 + 1 + 1))) (C := R_Mo) (T := F_Mo) (N := 35) hx hb hg i_Mo hown hK hP 0 rfl rfl 2 (by decide) (hg _ mw_1718) (fun _ h9 => h9) rfl d_Mo_addInt_12 ?_
  refine lv_iload_n hx hb d_Mo_addInt_15 rfl (lv_at hl 2 rfl) ?_
  refine lv_iload_n hx hb d_Mo_addInt_16 rfl (lv_at hl 0 rfl) ?_
  refine lv_ishr hx hb d_Mo_addInt_17 ?_
  refine lv_topi (fun x_17 ex_17 => ?_)
  refine lv_i2b hx hb d_Mo_addInt_18 rfl ?_
  refine lv_topi (fun x_18 ex_18 => ?_)
  refine xb_bast (v := mo_b v 0) hx hb hK hP hD hS 1 0 rfl rfl (by rw [ex_18, ex_17]; exact pk_vb _) (by omega) (by omega) d_Mo_addInt_19 (fun H locs hP hD hS => ?_)
  have hP : va_P D vC [(h0, .inr (13, [.int (z 0), .ref (r 1), .int (nI (t + 1 + 1 + 1)), .int (z 3), .ref (r 4), .ref (r 5), .ref (r 6), .ref (r 7), .int (z 8), .ref (r 9), .int (z 10), .int (z 11), .int (z 12), .int (z 13), .ref (r 14), .ref (r 15), .ref (r 16), .ref (r 17), .ref (r 18), .ref (r 19), .ref (r 20), .ref (r 21), .int (z 22), .int (z 23), .int (z 24), .int (z 25), .int (z 26), .int (z 27), .ref (r 28), .ref (r 29), .int (z 30), .int (z 31), .int (z 32), .ref (r 33), .ref (r 34)])), (r 1, .inl (kA 0, 4096, .inl (upd (upd (upd (upd f t (mo_b v 24)) (t + 1) (mo_b v 16)) (t + 1 + 1) (mo_b v 8)) (t + 1 + 1 + 1) (mo_b v 0))))] H := hP
  have hD : va_D A [(h0, .inr (13, [.int (z 0), .ref (r 1), .int (nI (t + 1 + 1 + 1)), .int (z 3), .ref (r 4), .ref (r 5), .ref (r 6), .ref (r 7), .int (z 8), .ref (r 9), .int (z 10), .int (z 11), .int (z 12), .int (z 13), .ref (r 14), .ref (r 15), .ref (r 16), .ref (r 17), .ref (r 18), .ref (r 19), .ref (r 20), .ref (r 21), .int (z 22), .int (z 23), .int (z 24), .int (z 25), .int (z 26), .int (z 27), .ref (r 28), .ref (r 29), .int (z 30), .int (z 31), .int (z 32), .ref (r 33), .ref (r 34)])), (r 1, .inl (kA 0, 4096, .inl (upd (upd (upd (upd f t (mo_b v 24)) (t + 1) (mo_b v 16)) (t + 1 + 1) (mo_b v 8)) (t + 1 + 1 + 1) (mo_b v 0))))] := hD
  refine lv_aload_n hx hb d_Mo_addInt_20 rfl (lv_at hl 1 rfl) ?_
  refine lv_dup hx hb d_Mo_addInt_21 rfl ?_
  refine va_get (D := D) (ci := 13) (v := .int (nI (t + 1 + 1 + 1))) (C := R_Mo) (T := F_Mo) (N := 35) hx hb hg i_Mo hown hK hP 0 rfl rfl 2 (by decide) (hg _ mw_1718) (fun _ h9 => h9) rfl d_Mo_addInt_22 ?_
  refine lv_iconst (v := 1) hx hb d_Mo_addInt_25 (by decide) ?_
  refine lv_iadd hx hb d_Mo_addInt_26 ?_
  refine lv_topi (fun x_26 ex_26 => ?_)
  replace ex_26 : x_26 = nI (t + 1 + 1 + 1 + 1) := ex_26.trans (nI_1 (t + 1 + 1 + 1))
  subst ex_26
  refine va_put (D := D) (ci := 13) (v := .int (nI (t + 1 + 1 + 1 + 1))) (ty := .int) (C := R_Mo) (T := F_Mo) (N := 35) hx hb hg i_Mo t_Mo t_Mo_ok n_Mo hown hK hP hD hS 0 rfl rfl 2 (by decide) (hg _ mw_1718) (fun _ h9 => h9) rfl (by decide +kernel) rfl rfl (Nat.le_of_ble_eq_true rfl) d_Mo_addInt_27 (fun H locs hP hD hS => ?_)
  have hP : va_P D vC [(h0, .inr (13, [.int (z 0), .ref (r 1), .int (nI (t + 1 + 1 + 1 + 1)), .int (z 3), .ref (r 4), .ref (r 5), .ref (r 6), .ref (r 7), .int (z 8), .ref (r 9), .int (z 10), .int (z 11), .int (z 12), .int (z 13), .ref (r 14), .ref (r 15), .ref (r 16), .ref (r 17), .ref (r 18), .ref (r 19), .ref (r 20), .ref (r 21), .int (z 22), .int (z 23), .int (z 24), .int (z 25), .int (z 26), .int (z 27), .ref (r 28), .ref (r 29), .int (z 30), .int (z 31), .int (z 32), .ref (r 33), .ref (r 34)])), (r 1, .inl (kA 0, 4096, .inl (upd (upd (upd (upd f t (mo_b v 24)) (t + 1) (mo_b v 16)) (t + 1 + 1) (mo_b v 8)) (t + 1 + 1 + 1) (mo_b v 0))))] H := hP
  have hD : va_D A [(h0, .inr (13, [.int (z 0), .ref (r 1), .int (nI (t + 1 + 1 + 1 + 1)), .int (z 3), .ref (r 4), .ref (r 5), .ref (r 6), .ref (r 7), .int (z 8), .ref (r 9), .int (z 10), .int (z 11), .int (z 12), .int (z 13), .ref (r 14), .ref (r 15), .ref (r 16), .ref (r 17), .ref (r 18), .ref (r 19), .ref (r 20), .ref (r 21), .int (z 22), .int (z 23), .int (z 24), .int (z 25), .int (z 26), .int (z 27), .ref (r 28), .ref (r 29), .int (z 30), .int (z 31), .int (z 32), .ref (r 33), .ref (r 34)])), (r 1, .inl (kA 0, 4096, .inl (upd (upd (upd (upd f t (mo_b v 24)) (t + 1) (mo_b v 16)) (t + 1 + 1) (mo_b v 8)) (t + 1 + 1 + 1) (mo_b v 0))))] := hD
  obtain ⟨x_30, ex_30⟩ : ∃ y : Int32, y = (0) + Int32.ofInt (-8) := ⟨_, rfl⟩
  replace ex_30 : x_30 = (-8) := ex_30.trans (by decide)
  refine lv_iinc (v := x_30) (lv' := [(2, .int x_30), (0, .ref h0), (1, .int v)]) hx hb d_Mo_addInt_30 hl (k := 0) rfl (by rw [ex_30]; exact by decide) (by decide) rfl (fun ls hl => ?_)
  subst ex_30
  refine lv_goto (tgt := 3) hx hb d_Mo_addInt_33 (by decide) ?_
  refine lv_iload_n hx hb d_Mo_addInt_3 rfl (lv_at hl 0 rfl) ?_
  refine lv_if_lt (tgt := 36) hx hb d_Mo_addInt_4 (by decide) (fun c_4 => ?_) (fun c_4 => absurd (by decide) c_4)
  exact W.vret hx hb hr (fun t ht hW => ⟨⟨(), rfl, trivial, by rw [ht]; exact hP, va_K.moved hW.alike hK, hD⟩, hS.F ht⟩) hS.2.2 d_Mo_addInt_36

set_option maxHeartbeats 4000000 in
set_option maxRecDepth 100000 in
/-- feed -/
theorem c_Mo_feed (l : Launch) (D : va_G) (kA : Nat → ClassId) (kS : Nat → Nat) (sz : Nat) (h0 : Nat) (r : Nat → Nat) (z : Nat → Int32) (y : Nat → Int64) (f : Nat → Int32) (tt : Nat) (a1 a2 a3 a4 a5 : Int32) (htt : tt + 20 ≤ 4096) : Met l y_Mo_feed w_Mo_feed { frames := 1, cells := 0, slots := 0, locals := 22 } (xPre D vC (tK kA) kS [.ref h0, .int a1, .int a2, .int a3, .int a4, .int a5] ([oMo h0 r (upd z 2 (nI tt)) y, (r 1, .inl (kA 0, 4096, .inl f))]) sz) (va_Qi (fun (x : Int32) (_ : Unit) => x = nI (tt + 20)) (xB D vC (tK kA) (fun _ => [oMo h0 r (upd (upd z 0 0) 2 (nI (tt + 20))) y, (r 1, .inl (kA 0, 4096, .inl (mo_feed f tt a1 a2 a3 a4 a5)))]) (va_A ([oMo h0 r (upd z 2 (nI tt)) y, (r 1, .inl (kA 0, 4096, .inl f))]) sz)) (va_A ([oMo h0 r (upd z 2 (nI tt)) y, (r 1, .inl (kA 0, 4096, .inl f))]) sz)) 0 0 (va_A ([oMo h0 r (upd z 2 (nI tt)) y, (r 1, .inl (kA 0, 4096, .inl f))]) sz) := by
  refine Met.ofW (cc := b_Mo_feed) (maxL := 6) (ret := (some .int)) (by decide) rfl ?_
  intro p e s m args below meth c s₁ B hml hv
  obtain ⟨rfl, hsz, hP, hK, hD0, hN, hC⟩ := hv
  have hx := B.exec
  have hb := B.bytes
  have hr := B.returns
  have hts := atoms_spec (ws := w_Mo_feed) B.pre
  have hg : ∀ w ∈ gW, w.before _ s = true := fun w h => hts w (List.mem_cons_of_mem _ h)
  have hown : s.vm.findClass R_Mo = some m.cls := findClass_of_methodNamed B.named
  have hlocks := B.notSynchronized
  subst hsz
  have hD := hD0.self (sz := s.heap.size)
  generalize hAe : va_A ([oMo h0 r (upd z 2 (nI tt)) y, (r 1, .inl (kA 0, 4096, .inl f))]) s.heap.size = A at hD hC ⊢
  have hA : ∀ q : Nat, s.heap.size ≤ q → A q := fun q h => by rw [← hAe]; exact Or.inr h
  have hS : va_S A s.heap s.heap [] := va_S.rf
  have hP : va_P D vC [(h0, .inr (13, [.int (z 0), .ref (r 1), .int (nI tt), .int (z 3), .ref (r 4), .ref (r 5), .ref (r 6), .ref (r 7), .int (z 8), .ref (r 9), .int (z 10), .int (z 11), .int (z 12), .int (z 13), .ref (r 14), .ref (r 15), .ref (r 16), .ref (r 17), .ref (r 18), .ref (r 19), .ref (r 20), .ref (r 21), .int (z 22), .int (z 23), .int (z 24), .int (z 25), .int (z 26), .int (z 27), .ref (r 28), .ref (r 29), .int (z 30), .int (z 31), .int (z 32), .ref (r 33), .ref (r 34)])), (r 1, .inl (kA 0, 4096, .inl f))] s.heap := hP
  have hD : va_D A [(h0, .inr (13, [.int (z 0), .ref (r 1), .int (nI tt), .int (z 3), .ref (r 4), .ref (r 5), .ref (r 6), .ref (r 7), .int (z 8), .ref (r 9), .int (z 10), .int (z 11), .int (z 12), .int (z 13), .ref (r 14), .ref (r 15), .ref (r 16), .ref (r 17), .ref (r 18), .ref (r 19), .ref (r 20), .ref (r 21), .int (z 22), .int (z 23), .int (z 24), .int (z 25), .int (z 26), .int (z 27), .ref (r 28), .ref (r 29), .int (z 30), .int (z 31), .int (z 32), .ref (r 33), .ref (r 34)])), (r 1, .inl (kA 0, 4096, .inl f))] := hD
  have hl := lv_entry ([.ref h0, .int a1, .int a2, .int a3, .int a4, .int a5]) (n := 6) (Nat.le_of_ble_eq_true rfl)
  rw [lg_entry_eq]
  generalize (lg_sl ([.ref h0, .int a1, .int a2, .int a3, .int a4, .int a5]) ++ List.replicate (6 - (lg_sl ([.ref h0, .int a1, .int a2, .int a3, .int a4, .int a5])).length) Slot.unset).toArray = ls at hl ⊢
  have hl : lv_has ls 6 [(0, .ref h0), (1, .int a1), (2, .int a2), (3, .int a3), (4, .int a4), (5, .int a5)] := hl
  refine lv_aload_n hx hb d_Mo_feed_0 rfl (lv_at hl 0 rfl) ?_
  refine lv_aload_n hx hb d_Mo_feed_1 rfl (lv_at hl 0 rfl) ?_
  refine va_get (D := D) (ci := 13) (v := .int (nI tt)) (C := R_Mo) (T := F_Mo) (N := 35) hx hb hg i_Mo hown hK hP 0 rfl rfl 2 (by decide) (hg _ mw_1718) (fun _ h9 => h9) rfl d_Mo_feed_2 ?_
  refine lv_bipush (v := nI 20) hx hb d_Mo_feed_5 (by decide) ?_
  refine lv_iadd hx hb d_Mo_feed_7 ?_
  refine lv_topi (fun x_7 ex_7 => ?_)
  replace ex_7 : x_7 = nI (tt + 20) := ex_7.trans (nI_add tt 20)
  subst ex_7
  refine lv_sipush (v := nI 4096) hx hb d_Mo_feed_8 (by decide) ?_
  refine xb_le (tgt := 18) hx hb d_Mo_feed_11 (by decide) (by omega) (by decide) (fun c_11 => ?_) (fun c_11 => absurd c_11 (by omega))
  refine lv_iconst (v := 0) hx hb d_Mo_feed_18 (by decide) ?_
  refine lv_iconst (v := 0) hx hb d_Mo_feed_19 (by decide) ?_
  refine xc_i (wr := [(r 1, .inl (kA 0, 4096, .inl f))]) (va_runV (As := [.int 0, .int 0]) (rest := []) ⟨hx, hb, hml, hown, hg⟩ (c_Mo_refused l D kA kS s.heap.size h0 r (upd z 2 (nI tt)) y 0 0) (cwV 2 hg (xg_V mw_1830 mw_1832 ms_96 mw_13 mw_1833) rfl rfl rfl (by decide +kernel) ⟨Nat.le_of_ble_eq_true rfl, Nat.le_of_ble_eq_true rfl⟩) (xc_preV hK hN hC hP hD hS hA [0] (by decide) rfl 0 rfl rfl) rfl rfl hl.1 rfl (lv_room (Nat.le_of_ble_eq_true rfl)) d_Mo_feed_20 ⟨Nat.le_of_ble_eq_true rfl, Nat.le_of_ble_eq_true rfl⟩) hP hD hS hA [0] [1] rfl rfl (by decide) (by decide) (fun r_20 u9 H locs hw20 hP hD hS => ?_)
  have hP : va_P D vC [(r 1, .inl (kA 0, 4096, .inl f)), (h0, .inr (13, [.int (mo_th 0 0), .ref (r 1), .int (nI tt), .int (z 3), .ref (r 4), .ref (r 5), .ref (r 6), .ref (r 7), .int (z 8), .ref (r 9), .int (z 10), .int (z 11), .int (z 12), .int (z 13), .ref (r 14), .ref (r 15), .ref (r 16), .ref (r 17), .ref (r 18), .ref (r 19), .ref (r 20), .ref (r 21), .int (z 22), .int (z 23), .int (z 24), .int (z 25), .int (z 26), .int (z 27), .ref (r 28), .ref (r 29), .int (z 30), .int (z 31), .int (z 32), .ref (r 33), .ref (r 34)]))] H := hP
  have hD : va_D A [(r 1, .inl (kA 0, 4096, .inl f)), (h0, .inr (13, [.int (mo_th 0 0), .ref (r 1), .int (nI tt), .int (z 3), .ref (r 4), .ref (r 5), .ref (r 6), .ref (r 7), .int (z 8), .ref (r 9), .int (z 10), .int (z 11), .int (z 12), .int (z 13), .ref (r 14), .ref (r 15), .ref (r 16), .ref (r 17), .ref (r 18), .ref (r 19), .ref (r 20), .ref (r 21), .int (z 22), .int (z 23), .int (z 24), .int (z 25), .int (z 26), .int (z 27), .ref (r 28), .ref (r 29), .int (z 30), .int (z 31), .int (z 32), .ref (r 33), .ref (r 34)]))] := hD
  rw [show mo_th 0 0 = (0 : Int32) from by decide +kernel] at hP hD
  refine lv_if_eq (tgt := 28) hx hb d_Mo_feed_23 (by decide) (fun c_23 => ?_) (fun c_23 => absurd (hw20.trans (by decide)) c_23)
  refine lv_aload_n hx hb d_Mo_feed_28 rfl (lv_at hl 0 rfl) ?_
  refine lv_iload_n hx hb d_Mo_feed_29 rfl (lv_at hl 1 rfl) ?_
  refine xc_v (wr := []) (va_runV (As := [.int a1]) (rest := []) ⟨hx, hb, hml, hown, hg⟩ (c_Mo_addInt l D kA kS H.size h0 r (upd z 0 0) y f tt a1 (by omega)) (cwV 1 hg (xg_V mw_1834 mw_1836 ms_97 mw_13 mw_1837) rfl rfl rfl (by decide +kernel) ⟨Nat.le_of_ble_eq_true rfl, Nat.le_of_ble_eq_true rfl⟩) (xc_preV hK hN hC hP hD hS hA [1, 0] (by decide) rfl 0 rfl rfl) rfl rfl hl.1 rfl (lv_room (Nat.le_of_ble_eq_true rfl)) d_Mo_feed_30 ⟨Nat.le_of_ble_eq_true rfl, Nat.le_of_ble_eq_true rfl⟩) hP hD hS hA [1, 0] [] rfl rfl (by decide) (by decide) (fun u9 H locs hw hP hD hS => ?_)
  have hP : va_P D vC [(h0, .inr (13, [.int 0, .ref (r 1), .int (nI (tt + 4)), .int (z 3), .ref (r 4), .ref (r 5), .ref (r 6), .ref (r 7), .int (z 8), .ref (r 9), .int (z 10), .int (z 11), .int (z 12), .int (z 13), .ref (r 14), .ref (r 15), .ref (r 16), .ref (r 17), .ref (r 18), .ref (r 19), .ref (r 20), .ref (r 21), .int (z 22), .int (z 23), .int (z 24), .int (z 25), .int (z 26), .int (z 27), .ref (r 28), .ref (r 29), .int (z 30), .int (z 31), .int (z 32), .ref (r 33), .ref (r 34)])), (r 1, .inl (kA 0, 4096, .inl (mo_add f tt a1)))] H := hP
  have hD : va_D A [(h0, .inr (13, [.int 0, .ref (r 1), .int (nI (tt + 4)), .int (z 3), .ref (r 4), .ref (r 5), .ref (r 6), .ref (r 7), .int (z 8), .ref (r 9), .int (z 10), .int (z 11), .int (z 12), .int (z 13), .ref (r 14), .ref (r 15), .ref (r 16), .ref (r 17), .ref (r 18), .ref (r 19), .ref (r 20), .ref (r 21), .int (z 22), .int (z 23), .int (z 24), .int (z 25), .int (z 26), .int (z 27), .ref (r 28), .ref (r 29), .int (z 30), .int (z 31), .int (z 32), .ref (r 33), .ref (r 34)])), (r 1, .inl (kA 0, 4096, .inl (mo_add f tt a1)))] := hD
  refine lv_aload_n hx hb d_Mo_feed_33 rfl (lv_at hl 0 rfl) ?_
  refine lv_iload_n hx hb d_Mo_feed_34 rfl (lv_at hl 2 rfl) ?_
  refine xc_v (wr := []) (va_runV (As := [.int a2]) (rest := []) ⟨hx, hb, hml, hown, hg⟩ (c_Mo_addInt l D kA kS H.size h0 r (upd z 0 0) y (mo_add f tt a1) (tt + 4) a2 (by omega)) (cwV 1 hg (xg_V mw_1834 mw_1836 ms_97 mw_13 mw_1837) rfl rfl rfl (by decide +kernel) ⟨Nat.le_of_ble_eq_true rfl, Nat.le_of_ble_eq_true rfl⟩) (xc_preV hK hN hC hP hD hS hA [0, 1] (by decide) rfl 0 rfl rfl) rfl rfl hl.1 rfl (lv_room (Nat.le_of_ble_eq_true rfl)) d_Mo_feed_35 ⟨Nat.le_of_ble_eq_true rfl, Nat.le_of_ble_eq_true rfl⟩) hP hD hS hA [0, 1] [] rfl rfl (by decide) (by decide) (fun u9 H locs hw hP hD hS => ?_)
  have hP : va_P D vC [(h0, .inr (13, [.int 0, .ref (r 1), .int (nI (tt + 4 + 4)), .int (z 3), .ref (r 4), .ref (r 5), .ref (r 6), .ref (r 7), .int (z 8), .ref (r 9), .int (z 10), .int (z 11), .int (z 12), .int (z 13), .ref (r 14), .ref (r 15), .ref (r 16), .ref (r 17), .ref (r 18), .ref (r 19), .ref (r 20), .ref (r 21), .int (z 22), .int (z 23), .int (z 24), .int (z 25), .int (z 26), .int (z 27), .ref (r 28), .ref (r 29), .int (z 30), .int (z 31), .int (z 32), .ref (r 33), .ref (r 34)])), (r 1, .inl (kA 0, 4096, .inl (mo_add (mo_add f tt a1) (tt + 4) a2)))] H := hP
  have hD : va_D A [(h0, .inr (13, [.int 0, .ref (r 1), .int (nI (tt + 4 + 4)), .int (z 3), .ref (r 4), .ref (r 5), .ref (r 6), .ref (r 7), .int (z 8), .ref (r 9), .int (z 10), .int (z 11), .int (z 12), .int (z 13), .ref (r 14), .ref (r 15), .ref (r 16), .ref (r 17), .ref (r 18), .ref (r 19), .ref (r 20), .ref (r 21), .int (z 22), .int (z 23), .int (z 24), .int (z 25), .int (z 26), .int (z 27), .ref (r 28), .ref (r 29), .int (z 30), .int (z 31), .int (z 32), .ref (r 33), .ref (r 34)])), (r 1, .inl (kA 0, 4096, .inl (mo_add (mo_add f tt a1) (tt + 4) a2)))] := hD
  refine lv_aload_n hx hb d_Mo_feed_38 rfl (lv_at hl 0 rfl) ?_
  refine lv_iload_n hx hb d_Mo_feed_39 rfl (lv_at hl 3 rfl) ?_
  refine xc_v (wr := []) (va_runV (As := [.int a3]) (rest := []) ⟨hx, hb, hml, hown, hg⟩ (c_Mo_addInt l D kA kS H.size h0 r (upd z 0 0) y (mo_add (mo_add f tt a1) (tt + 4) a2) (tt + 4 + 4) a3 (by omega)) (cwV 1 hg (xg_V mw_1834 mw_1836 ms_97 mw_13 mw_1837) rfl rfl rfl (by decide +kernel) ⟨Nat.le_of_ble_eq_true rfl, Nat.le_of_ble_eq_true rfl⟩) (xc_preV hK hN hC hP hD hS hA [0, 1] (by decide) rfl 0 rfl rfl) rfl rfl hl.1 rfl (lv_room (Nat.le_of_ble_eq_true rfl)) d_Mo_feed_40 ⟨Nat.le_of_ble_eq_true rfl, Nat.le_of_ble_eq_true rfl⟩) hP hD hS hA [0, 1] [] rfl rfl (by decide) (by decide) (fun u9 H locs hw hP hD hS => ?_)
  have hP : va_P D vC [(h0, .inr (13, [.int 0, .ref (r 1), .int (nI (tt + 4 + 4 + 4)), .int (z 3), .ref (r 4), .ref (r 5), .ref (r 6), .ref (r 7), .int (z 8), .ref (r 9), .int (z 10), .int (z 11), .int (z 12), .int (z 13), .ref (r 14), .ref (r 15), .ref (r 16), .ref (r 17), .ref (r 18), .ref (r 19), .ref (r 20), .ref (r 21), .int (z 22), .int (z 23), .int (z 24), .int (z 25), .int (z 26), .int (z 27), .ref (r 28), .ref (r 29), .int (z 30), .int (z 31), .int (z 32), .ref (r 33), .ref (r 34)])), (r 1, .inl (kA 0, 4096, .inl (mo_add (mo_add (mo_add f tt a1) (tt + 4) a2) (tt + 4 + 4) a3)))] H := hP
  have hD : va_D A [(h0, .inr (13, [.int 0, .ref (r 1), .int (nI (tt + 4 + 4 + 4)), .int (z 3), .ref (r 4), .ref (r 5), .ref (r 6), .ref (r 7), .int (z 8), .ref (r 9), .int (z 10), .int (z 11), .int (z 12), .int (z 13), .ref (r 14), .ref (r 15), .ref (r 16), .ref (r 17), .ref (r 18), .ref (r 19), .ref (r 20), .ref (r 21), .int (z 22), .int (z 23), .int (z 24), .int (z 25), .int (z 26), .int (z 27), .ref (r 28), .ref (r 29), .int (z 30), .int (z 31), .int (z 32), .ref (r 33), .ref (r 34)])), (r 1, .inl (kA 0, 4096, .inl (mo_add (mo_add (mo_add f tt a1) (tt + 4) a2) (tt + 4 + 4) a3)))] := hD
  refine lv_aload_n hx hb d_Mo_feed_43 rfl (lv_at hl 0 rfl) ?_
  refine lv_iload hx hb d_Mo_feed_44 (lv_at hl 4 rfl) ?_
  refine xc_v (wr := []) (va_runV (As := [.int a4]) (rest := []) ⟨hx, hb, hml, hown, hg⟩ (c_Mo_addInt l D kA kS H.size h0 r (upd z 0 0) y (mo_add (mo_add (mo_add f tt a1) (tt + 4) a2) (tt + 4 + 4) a3) (tt + 4 + 4 + 4) a4 (by omega)) (cwV 1 hg (xg_V mw_1834 mw_1836 ms_97 mw_13 mw_1837) rfl rfl rfl (by decide +kernel) ⟨Nat.le_of_ble_eq_true rfl, Nat.le_of_ble_eq_true rfl⟩) (xc_preV hK hN hC hP hD hS hA [0, 1] (by decide) rfl 0 rfl rfl) rfl rfl hl.1 rfl (lv_room (Nat.le_of_ble_eq_true rfl)) d_Mo_feed_46 ⟨Nat.le_of_ble_eq_true rfl, Nat.le_of_ble_eq_true rfl⟩) hP hD hS hA [0, 1] [] rfl rfl (by decide) (by decide) (fun u9 H locs hw hP hD hS => ?_)
  have hP : va_P D vC [(h0, .inr (13, [.int 0, .ref (r 1), .int (nI (tt + 4 + 4 + 4 + 4)), .int (z 3), .ref (r 4), .ref (r 5), .ref (r 6), .ref (r 7), .int (z 8), .ref (r 9), .int (z 10), .int (z 11), .int (z 12), .int (z 13), .ref (r 14), .ref (r 15), .ref (r 16), .ref (r 17), .ref (r 18), .ref (r 19), .ref (r 20), .ref (r 21), .int (z 22), .int (z 23), .int (z 24), .int (z 25), .int (z 26), .int (z 27), .ref (r 28), .ref (r 29), .int (z 30), .int (z 31), .int (z 32), .ref (r 33), .ref (r 34)])), (r 1, .inl (kA 0, 4096, .inl (mo_add (mo_add (mo_add (mo_add f tt a1) (tt + 4) a2) (tt + 4 + 4) a3) (tt + 4 + 4 + 4) a4)))] H := hP
  have hD : va_D A [(h0, .inr (13, [.int 0, .ref (r 1), .int (nI (tt + 4 + 4 + 4 + 4)), .int (z 3), .ref (r 4), .ref (r 5), .ref (r 6), .ref (r 7), .int (z 8), .ref (r 9), .int (z 10), .int (z 11), .int (z 12), .int (z 13), .ref (r 14), .ref (r 15), .ref (r 16), .ref (r 17), .ref (r 18), .ref (r 19), .ref (r 20), .ref (r 21), .int (z 22), .int (z 23), .int (z 24), .int (z 25), .int (z 26), .int (z 27), .ref (r 28), .ref (r 29), .int (z 30), .int (z 31), .int (z 32), .ref (r 33), .ref (r 34)])), (r 1, .inl (kA 0, 4096, .inl (mo_add (mo_add (mo_add (mo_add f tt a1) (tt + 4) a2) (tt + 4 + 4) a3) (tt + 4 + 4 + 4) a4)))] := hD
  refine lv_aload_n hx hb d_Mo_feed_49 rfl (lv_at hl 0 rfl) ?_
  refine lv_iload hx hb d_Mo_feed_50 (lv_at hl 5 rfl) ?_
  refine xc_v (wr := []) (va_runV (As := [.int a5]) (rest := []) ⟨hx, hb, hml, hown, hg⟩ (c_Mo_addInt l D kA kS H.size h0 r (upd z 0 0) y (mo_add (mo_add (mo_add (mo_add f tt a1) (tt + 4) a2) (tt + 4 + 4) a3) (tt + 4 + 4 + 4) a4) (tt + 4 + 4 + 4 + 4) a5 (by omega)) (cwV 1 hg (xg_V mw_1834 mw_1836 ms_97 mw_13 mw_1837) rfl rfl rfl (by decide +kernel) ⟨Nat.le_of_ble_eq_true rfl, Nat.le_of_ble_eq_true rfl⟩) (xc_preV hK hN hC hP hD hS hA [0, 1] (by decide) rfl 0 rfl rfl) rfl rfl hl.1 rfl (lv_room (Nat.le_of_ble_eq_true rfl)) d_Mo_feed_52 ⟨Nat.le_of_ble_eq_true rfl, Nat.le_of_ble_eq_true rfl⟩) hP hD hS hA [0, 1] [] rfl rfl (by decide) (by decide) (fun u9 H locs hw hP hD hS => ?_)
  have hP : va_P D vC [(h0, .inr (13, [.int 0, .ref (r 1), .int (nI (tt + 4 + 4 + 4 + 4 + 4)), .int (z 3), .ref (r 4), .ref (r 5), .ref (r 6), .ref (r 7), .int (z 8), .ref (r 9), .int (z 10), .int (z 11), .int (z 12), .int (z 13), .ref (r 14), .ref (r 15), .ref (r 16), .ref (r 17), .ref (r 18), .ref (r 19), .ref (r 20), .ref (r 21), .int (z 22), .int (z 23), .int (z 24), .int (z 25), .int (z 26), .int (z 27), .ref (r 28), .ref (r 29), .int (z 30), .int (z 31), .int (z 32), .ref (r 33), .ref (r 34)])), (r 1, .inl (kA 0, 4096, .inl (mo_add (mo_add (mo_add (mo_add (mo_add f tt a1) (tt + 4) a2) (tt + 4 + 4) a3) (tt + 4 + 4 + 4) a4) (tt + 4 + 4 + 4 + 4) a5)))] H := hP
  have hD : va_D A [(h0, .inr (13, [.int 0, .ref (r 1), .int (nI (tt + 4 + 4 + 4 + 4 + 4)), .int (z 3), .ref (r 4), .ref (r 5), .ref (r 6), .ref (r 7), .int (z 8), .ref (r 9), .int (z 10), .int (z 11), .int (z 12), .int (z 13), .ref (r 14), .ref (r 15), .ref (r 16), .ref (r 17), .ref (r 18), .ref (r 19), .ref (r 20), .ref (r 21), .int (z 22), .int (z 23), .int (z 24), .int (z 25), .int (z 26), .int (z 27), .ref (r 28), .ref (r 29), .int (z 30), .int (z 31), .int (z 32), .ref (r 33), .ref (r 34)])), (r 1, .inl (kA 0, 4096, .inl (mo_add (mo_add (mo_add (mo_add (mo_add f tt a1) (tt + 4) a2) (tt + 4 + 4) a3) (tt + 4 + 4 + 4) a4) (tt + 4 + 4 + 4 + 4) a5)))] := hD
  refine lv_aload_n hx hb d_Mo_feed_55 rfl (lv_at hl 0 rfl) ?_
  refine va_get (D := D) (ci := 13) (v := .int (nI (tt + 4 + 4 + 4 + 4 + 4))) (C := R_Mo) (T := F_Mo) (N := 35) hx hb hg i_Mo hown hK hP 0 rfl rfl 2 (by decide) (hg _ mw_1718) (fun _ h9 => h9) rfl d_Mo_feed_56 ?_
  exact W.iret (v := nI (tt + 4 + 4 + 4 + 4 + 4)) hx hb hr (fun t ht hW => ⟨⟨nI (tt + 4 + 4 + 4 + 4 + 4), (), rfl, rfl, by rw [ht]; exact hP, va_K.moved hW.alike hK, hD⟩, hS.F ht⟩) hS.2.2 d_Mo_feed_59
