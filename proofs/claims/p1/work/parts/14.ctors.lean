/-! constructors -/
abbrev wTx0 (h0 : Nat) (a : Nat → Nat) (kA : Nat → ClassId) : va_W := [(h0, .inr (1, [.ref (a 0), .ref (a 1), .ref (a 2), .ref (a 3), .ref (a 4), .ref (a 5), .ref (a 6), .int 0, .int 0, .int 0, .int 0, .ref (a 7), .int 0, .int 0, .int 0])), (a 0, .inl (kA 1, 4096, .inl (fun _ => 0))), (a 1, .inl (kA 1, 4096, .inl (fun _ => 0))), (a 2, .inl (kA 1, 4096, .inl (fun _ => 0))), (a 3, .inl (kA 1, 4096, .inl (fun _ => 0))), (a 4, .inl (kA 1, 4096, .inl (fun _ => 0))), (a 5, .inl (kA 2, 4096, .inr (.inl (fun _ => 0)))), (a 6, .inr (0, [.ref (a 7), .int (nI 0)])), (a 7, .inl (kA 0, 4096, .inl (fun _ => 0)))]
set_option maxHeartbeats 4000000 in
set_option maxRecDepth 100000 in
/-- new RecordLake$Text -/
theorem c_Tx_init (l : Launch) (D : va_G) (kA : Nat → ClassId) (kS : Nat → Nat) (sz : Nat) (h0 : Nat)  : Met l y_Tx_init w_Tx_init { frames := 2, cells := 8, slots := 28674, locals := 33 } (xPre D vC (tK kA) kS [.ref h0] ([(h0, .inr (1, [.null, .null, .null, .null, .null, .null, .null, .int 0, .int 0, .int 0, .int 0, .null, .int 0, .int 0, .int 0]))]) sz) (va_Qv (fun (_ : Nat → Nat) => True) (xB D vC (tK kA) (fun a => wTx0 h0 a kA ) (va_A ([(h0, .inr (1, [.null, .null, .null, .null, .null, .null, .null, .int 0, .int 0, .int 0, .int 0, .null, .int 0, .int 0, .int 0]))]) sz)) (va_A ([(h0, .inr (1, [.null, .null, .null, .null, .null, .null, .null, .int 0, .int 0, .int 0, .int 0, .null, .int 0, .int 0, .int 0]))]) sz)) 8 28674 (va_A ([(h0, .inr (1, [.null, .null, .null, .null, .null, .null, .null, .int 0, .int 0, .int 0, .int 0, .null, .int 0, .int 0, .int 0]))]) sz) := by
  refine Met.ofW (cc := b_Tx_init) (maxL := 1) (ret := none) (by decide) rfl ?_
  intro p e s m args below meth c s₁ B hml hv
  obtain ⟨rfl, hsz, hP, hK, hD0, hN, hC⟩ := hv
  have hx := B.exec
  have hb := B.bytes
  have hr := B.returns
  have hts := atoms_spec (ws := w_Tx_init) B.pre
  have hg : ∀ w ∈ gW, w.before _ s = true := fun w h => hts w (List.mem_cons_of_mem _ h)
  have hown : s.vm.findClass R_Tx = some m.cls := findClass_of_methodNamed B.named
  have hlocks := B.notSynchronized
  have hin : meth.name = "<init>" := (name_of_methodNamed B.named B.method).1
  subst hsz
  have hD := hD0.self (sz := s.heap.size)
  generalize hAe : va_A ([(h0, .inr (1, [.null, .null, .null, .null, .null, .null, .null, .int 0, .int 0, .int 0, .int 0, .null, .int 0, .int 0, .int 0]))]) s.heap.size = A at hD hC ⊢
  have hA : ∀ q : Nat, s.heap.size ≤ q → A q := fun q h => by rw [← hAe]; exact Or.inr h
  have hS : va_S A s.heap s.heap [] := va_S.rf
  have hP : va_P D vC [(h0, .inr (1, [.null, .null, .null, .null, .null, .null, .null, .int 0, .int 0, .int 0, .int 0, .null, .int 0, .int 0, .int 0]))] s.heap := hP
  have hD : va_D A [(h0, .inr (1, [.null, .null, .null, .null, .null, .null, .null, .int 0, .int 0, .int 0, .int 0, .null, .int 0, .int 0, .int 0]))] := hD
  have hl := lv_entry ([.ref h0]) (n := 1) (Nat.le_of_ble_eq_true rfl)
  rw [lg_entry_eq]
  generalize (lg_sl ([.ref h0]) ++ List.replicate (1 - (lg_sl ([.ref h0])).length) Slot.unset).toArray = ls at hl ⊢
  have hl : lv_has ls 1 [(0, .ref h0)] := hl
  refine lv_aload_n hx hb d_Tx_init_0 rfl (lv_at hl 0 rfl) ?_
  refine W.objInit hx hb hown (hg _ mw_70) (hg _ mw_34) (hg _ mw_35) rfl (by rw [hml]; exact hl.1) rfl d_Tx_init_1 (Nat.le_of_ble_eq_true rfl) (Nat.le_of_ble_eq_true rfl) ?_
  refine W.eq (g2 := F0 m 4 ls []) rfl ?_
  refine lv_aload_n hx hb d_Tx_init_4 rfl (lv_at hl 0 rfl) ?_
  refine lv_sipush (v := 4096) hx hb d_Tx_init_5 (by decide) ?_
  refine xn_newa (atype := .int) (a0 := (4096, .inl (fun _ => 0))) (N' := 4096) (ty := .int) hx hb (hg _ mw_138) rfl hK hP hD hS hA 1 rfl (fun _ => rfl) (by decide) (by decide) (by decide) (Nat.le_of_ble_eq_true rfl) (Nat.le_of_ble_eq_true rfl) d_Tx_init_8 (fun q_8 H hP hD hS => ?_)
  have hP : va_P D vC [(h0, .inr (1, [.null, .null, .null, .null, .null, .null, .null, .int 0, .int 0, .int 0, .int 0, .null, .int 0, .int 0, .int 0])), (q_8, .inl (kA 1, 4096, .inl (fun _ => 0)))] H := hP
  have hD : va_D A [(h0, .inr (1, [.null, .null, .null, .null, .null, .null, .null, .int 0, .int 0, .int 0, .int 0, .null, .int 0, .int 0, .int 0])), (q_8, .inl (kA 1, 4096, .inl (fun _ => 0)))] := hD
  refine W.widen (k := 1) (n := 4096) (Nat.le_of_ble_eq_true rfl) (Nat.le_of_ble_eq_true rfl) ?_
  refine va_putF (D := D) (ci := 1) (v := .ref q_8) (ty := (.array .int)) (C := R_Tx) (T := F_Tx) (N := 15) hx hb hg i_Tx t_Tx t_Tx_ok n_Tx hown hK hP hD hS 0 rfl rfl 0 (by decide) (hg _ mw_73) (fun _ h9 => h9) rfl hin rfl (by decide +kernel) rfl rfl (Nat.le_of_ble_eq_true rfl) d_Tx_init_10 (fun H locs hP hD hS => ?_)
  have hP : va_P D vC [(h0, .inr (1, [.ref q_8, .null, .null, .null, .null, .null, .null, .int 0, .int 0, .int 0, .int 0, .null, .int 0, .int 0, .int 0])), (q_8, .inl (kA 1, 4096, .inl (fun _ => 0)))] H := hP
  have hD : va_D A [(h0, .inr (1, [.ref q_8, .null, .null, .null, .null, .null, .null, .int 0, .int 0, .int 0, .int 0, .null, .int 0, .int 0, .int 0])), (q_8, .inl (kA 1, 4096, .inl (fun _ => 0)))] := hD
  refine lv_aload_n hx hb d_Tx_init_13 rfl (lv_at hl 0 rfl) ?_
  refine lv_sipush (v := 4096) hx hb d_Tx_init_14 (by decide) ?_
  refine xn_newa (atype := .int) (a0 := (4096, .inl (fun _ => 0))) (N' := 4096) (ty := .int) hx hb (hg _ mw_138) rfl hK hP hD hS hA 1 rfl (fun _ => rfl) (by decide) (by decide) (by decide) (Nat.le_of_ble_eq_true rfl) (Nat.le_of_ble_eq_true rfl) d_Tx_init_17 (fun q_17 H hP hD hS => ?_)
  have hP : va_P D vC [(h0, .inr (1, [.ref q_8, .null, .null, .null, .null, .null, .null, .int 0, .int 0, .int 0, .int 0, .null, .int 0, .int 0, .int 0])), (q_8, .inl (kA 1, 4096, .inl (fun _ => 0))), (q_17, .inl (kA 1, 4096, .inl (fun _ => 0)))] H := hP
  have hD : va_D A [(h0, .inr (1, [.ref q_8, .null, .null, .null, .null, .null, .null, .int 0, .int 0, .int 0, .int 0, .null, .int 0, .int 0, .int 0])), (q_8, .inl (kA 1, 4096, .inl (fun _ => 0))), (q_17, .inl (kA 1, 4096, .inl (fun _ => 0)))] := hD
  refine W.widen (k := 2) (n := 8192) (Nat.le_of_ble_eq_true rfl) (Nat.le_of_ble_eq_true rfl) ?_
  refine va_putF (D := D) (ci := 1) (v := .ref q_17) (ty := (.array .int)) (C := R_Tx) (T := F_Tx) (N := 15) hx hb hg i_Tx t_Tx t_Tx_ok n_Tx hown hK hP hD hS 0 rfl rfl 1 (by decide) (hg _ mw_76) (fun _ h9 => h9) rfl hin rfl (by decide +kernel) rfl rfl (Nat.le_of_ble_eq_true rfl) d_Tx_init_19 (fun H locs hP hD hS => ?_)
  have hP : va_P D vC [(h0, .inr (1, [.ref q_8, .ref q_17, .null, .null, .null, .null, .null, .int 0, .int 0, .int 0, .int 0, .null, .int 0, .int 0, .int 0])), (q_8, .inl (kA 1, 4096, .inl (fun _ => 0))), (q_17, .inl (kA 1, 4096, .inl (fun _ => 0)))] H := hP
  have hD : va_D A [(h0, .inr (1, [.ref q_8, .ref q_17, .null, .null, .null, .null, .null, .int 0, .int 0, .int 0, .int 0, .null, .int 0, .int 0, .int 0])), (q_8, .inl (kA 1, 4096, .inl (fun _ => 0))), (q_17, .inl (kA 1, 4096, .inl (fun _ => 0)))] := hD
  refine lv_aload_n hx hb d_Tx_init_22 rfl (lv_at hl 0 rfl) ?_
  refine lv_sipush (v := 4096) hx hb d_Tx_init_23 (by decide) ?_
  refine xn_newa (atype := .int) (a0 := (4096, .inl (fun _ => 0))) (N' := 4096) (ty := .int) hx hb (hg _ mw_138) rfl hK hP hD hS hA 1 rfl (fun _ => rfl) (by decide) (by decide) (by decide) (Nat.le_of_ble_eq_true rfl) (Nat.le_of_ble_eq_true rfl) d_Tx_init_26 (fun q_26 H hP hD hS => ?_)
  have hP : va_P D vC [(h0, .inr (1, [.ref q_8, .ref q_17, .null, .null, .null, .null, .null, .int 0, .int 0, .int 0, .int 0, .null, .int 0, .int 0, .int 0])), (q_8, .inl (kA 1, 4096, .inl (fun _ => 0))), (q_17, .inl (kA 1, 4096, .inl (fun _ => 0))), (q_26, .inl (kA 1, 4096, .inl (fun _ => 0)))] H := hP
  have hD : va_D A [(h0, .inr (1, [.ref q_8, .ref q_17, .null, .null, .null, .null, .null, .int 0, .int 0, .int 0, .int 0, .null, .int 0, .int 0, .int 0])), (q_8, .inl (kA 1, 4096, .inl (fun _ => 0))), (q_17, .inl (kA 1, 4096, .inl (fun _ => 0))), (q_26, .inl (kA 1, 4096, .inl (fun _ => 0)))] := hD
  refine W.widen (k := 3) (n := 12288) (Nat.le_of_ble_eq_true rfl) (Nat.le_of_ble_eq_true rfl) ?_
  refine va_putF (D := D) (ci := 1) (v := .ref q_26) (ty := (.array .int)) (C := R_Tx) (T := F_Tx) (N := 15) hx hb hg i_Tx t_Tx t_Tx_ok n_Tx hown hK hP hD hS 0 rfl rfl 2 (by decide) (hg _ mw_78) (fun _ h9 => h9) rfl hin rfl (by decide +kernel) rfl rfl (Nat.le_of_ble_eq_true rfl) d_Tx_init_28 (fun H locs hP hD hS => ?_)
  have hP : va_P D vC [(h0, .inr (1, [.ref q_8, .ref q_17, .ref q_26, .null, .null, .null, .null, .int 0, .int 0, .int 0, .int 0, .null, .int 0, .int 0, .int 0])), (q_8, .inl (kA 1, 4096, .inl (fun _ => 0))), (q_17, .inl (kA 1, 4096, .inl (fun _ => 0))), (q_26, .inl (kA 1, 4096, .inl (fun _ => 0)))] H := hP
  have hD : va_D A [(h0, .inr (1, [.ref q_8, .ref q_17, .ref q_26, .null, .null, .null, .null, .int 0, .int 0, .int 0, .int 0, .null, .int 0, .int 0, .int 0])), (q_8, .inl (kA 1, 4096, .inl (fun _ => 0))), (q_17, .inl (kA 1, 4096, .inl (fun _ => 0))), (q_26, .inl (kA 1, 4096, .inl (fun _ => 0)))] := hD
  refine lv_aload_n hx hb d_Tx_init_31 rfl (lv_at hl 0 rfl) ?_
  refine lv_sipush (v := 4096) hx hb d_Tx_init_32 (by decide) ?_
  refine xn_newa (atype := .int) (a0 := (4096, .inl (fun _ => 0))) (N' := 4096) (ty := .int) hx hb (hg _ mw_138) rfl hK hP hD hS hA 1 rfl (fun _ => rfl) (by decide) (by decide) (by decide) (Nat.le_of_ble_eq_true rfl) (Nat.le_of_ble_eq_true rfl) d_Tx_init_35 (fun q_35 H hP hD hS => ?_)
  have hP : va_P D vC [(h0, .inr (1, [.ref q_8, .ref q_17, .ref q_26, .null, .null, .null, .null, .int 0, .int 0, .int 0, .int 0, .null, .int 0, .int 0, .int 0])), (q_8, .inl (kA 1, 4096, .inl (fun _ => 0))), (q_17, .inl (kA 1, 4096, .inl (fun _ => 0))), (q_26, .inl (kA 1, 4096, .inl (fun _ => 0))), (q_35, .inl (kA 1, 4096, .inl (fun _ => 0)))] H := hP
  have hD : va_D A [(h0, .inr (1, [.ref q_8, .ref q_17, .ref q_26, .null, .null, .null, .null, .int 0, .int 0, .int 0, .int 0, .null, .int 0, .int 0, .int 0])), (q_8, .inl (kA 1, 4096, .inl (fun _ => 0))), (q_17, .inl (kA 1, 4096, .inl (fun _ => 0))), (q_26, .inl (kA 1, 4096, .inl (fun _ => 0))), (q_35, .inl (kA 1, 4096, .inl (fun _ => 0)))] := hD
  refine W.widen (k := 4) (n := 16384) (Nat.le_of_ble_eq_true rfl) (Nat.le_of_ble_eq_true rfl) ?_
  refine va_putF (D := D) (ci := 1) (v := .ref q_35) (ty := (.array .int)) (C := R_Tx) (T := F_Tx) (N := 15) hx hb hg i_Tx t_Tx t_Tx_ok n_Tx hown hK hP hD hS 0 rfl rfl 3 (by decide) (hg _ mw_82) (fun _ h9 => h9) rfl hin rfl (by decide +kernel) rfl rfl (Nat.le_of_ble_eq_true rfl) d_Tx_init_37 (fun H locs hP hD hS => ?_)
  have hP : va_P D vC [(h0, .inr (1, [.ref q_8, .ref q_17, .ref q_26, .ref q_35, .null, .null, .null, .int 0, .int 0, .int 0, .int 0, .null, .int 0, .int 0, .int 0])), (q_8, .inl (kA 1, 4096, .inl (fun _ => 0))), (q_17, .inl (kA 1, 4096, .inl (fun _ => 0))), (q_26, .inl (kA 1, 4096, .inl (fun _ => 0))), (q_35, .inl (kA 1, 4096, .inl (fun _ => 0)))] H := hP
  have hD : va_D A [(h0, .inr (1, [.ref q_8, .ref q_17, .ref q_26, .ref q_35, .null, .null, .null, .int 0, .int 0, .int 0, .int 0, .null, .int 0, .int 0, .int 0])), (q_8, .inl (kA 1, 4096, .inl (fun _ => 0))), (q_17, .inl (kA 1, 4096, .inl (fun _ => 0))), (q_26, .inl (kA 1, 4096, .inl (fun _ => 0))), (q_35, .inl (kA 1, 4096, .inl (fun _ => 0)))] := hD
  refine lv_aload_n hx hb d_Tx_init_40 rfl (lv_at hl 0 rfl) ?_
  refine lv_sipush (v := 4096) hx hb d_Tx_init_41 (by decide) ?_
  refine xn_newa (atype := .int) (a0 := (4096, .inl (fun _ => 0))) (N' := 4096) (ty := .int) hx hb (hg _ mw_138) rfl hK hP hD hS hA 1 rfl (fun _ => rfl) (by decide) (by decide) (by decide) (Nat.le_of_ble_eq_true rfl) (Nat.le_of_ble_eq_true rfl) d_Tx_init_44 (fun q_44 H hP hD hS => ?_)
  have hP : va_P D vC [(h0, .inr (1, [.ref q_8, .ref q_17, .ref q_26, .ref q_35, .null, .null, .null, .int 0, .int 0, .int 0, .int 0, .null, .int 0, .int 0, .int 0])), (q_8, .inl (kA 1, 4096, .inl (fun _ => 0))), (q_17, .inl (kA 1, 4096, .inl (fun _ => 0))), (q_26, .inl (kA 1, 4096, .inl (fun _ => 0))), (q_35, .inl (kA 1, 4096, .inl (fun _ => 0))), (q_44, .inl (kA 1, 4096, .inl (fun _ => 0)))] H := hP
  have hD : va_D A [(h0, .inr (1, [.ref q_8, .ref q_17, .ref q_26, .ref q_35, .null, .null, .null, .int 0, .int 0, .int 0, .int 0, .null, .int 0, .int 0, .int 0])), (q_8, .inl (kA 1, 4096, .inl (fun _ => 0))), (q_17, .inl (kA 1, 4096, .inl (fun _ => 0))), (q_26, .inl (kA 1, 4096, .inl (fun _ => 0))), (q_35, .inl (kA 1, 4096, .inl (fun _ => 0))), (q_44, .inl (kA 1, 4096, .inl (fun _ => 0)))] := hD
  refine W.widen (k := 5) (n := 20480) (Nat.le_of_ble_eq_true rfl) (Nat.le_of_ble_eq_true rfl) ?_
  refine va_putF (D := D) (ci := 1) (v := .ref q_44) (ty := (.array .int)) (C := R_Tx) (T := F_Tx) (N := 15) hx hb hg i_Tx t_Tx t_Tx_ok n_Tx hown hK hP hD hS 0 rfl rfl 4 (by decide) (hg _ mw_86) (fun _ h9 => h9) rfl hin rfl (by decide +kernel) rfl rfl (Nat.le_of_ble_eq_true rfl) d_Tx_init_46 (fun H locs hP hD hS => ?_)
  have hP : va_P D vC [(h0, .inr (1, [.ref q_8, .ref q_17, .ref q_26, .ref q_35, .ref q_44, .null, .null, .int 0, .int 0, .int 0, .int 0, .null, .int 0, .int 0, .int 0])), (q_8, .inl (kA 1, 4096, .inl (fun _ => 0))), (q_17, .inl (kA 1, 4096, .inl (fun _ => 0))), (q_26, .inl (kA 1, 4096, .inl (fun _ => 0))), (q_35, .inl (kA 1, 4096, .inl (fun _ => 0))), (q_44, .inl (kA 1, 4096, .inl (fun _ => 0)))] H := hP
  have hD : va_D A [(h0, .inr (1, [.ref q_8, .ref q_17, .ref q_26, .ref q_35, .ref q_44, .null, .null, .int 0, .int 0, .int 0, .int 0, .null, .int 0, .int 0, .int 0])), (q_8, .inl (kA 1, 4096, .inl (fun _ => 0))), (q_17, .inl (kA 1, 4096, .inl (fun _ => 0))), (q_26, .inl (kA 1, 4096, .inl (fun _ => 0))), (q_35, .inl (kA 1, 4096, .inl (fun _ => 0))), (q_44, .inl (kA 1, 4096, .inl (fun _ => 0)))] := hD
  refine lv_aload_n hx hb d_Tx_init_49 rfl (lv_at hl 0 rfl) ?_
  refine lv_sipush (v := 4096) hx hb d_Tx_init_50 (by decide) ?_
  refine xn_newa (atype := .long) (a0 := (4096, .inr (.inl (fun _ => 0)))) (N' := 4096) (ty := .long) hx hb (hg _ mw_139) rfl hK hP hD hS hA 2 rfl (fun _ => rfl) (by decide) (by decide) (by decide) (Nat.le_of_ble_eq_true rfl) (Nat.le_of_ble_eq_true rfl) d_Tx_init_53 (fun q_53 H hP hD hS => ?_)
  have hP : va_P D vC [(h0, .inr (1, [.ref q_8, .ref q_17, .ref q_26, .ref q_35, .ref q_44, .null, .null, .int 0, .int 0, .int 0, .int 0, .null, .int 0, .int 0, .int 0])), (q_8, .inl (kA 1, 4096, .inl (fun _ => 0))), (q_17, .inl (kA 1, 4096, .inl (fun _ => 0))), (q_26, .inl (kA 1, 4096, .inl (fun _ => 0))), (q_35, .inl (kA 1, 4096, .inl (fun _ => 0))), (q_44, .inl (kA 1, 4096, .inl (fun _ => 0))), (q_53, .inl (kA 2, 4096, .inr (.inl (fun _ => 0))))] H := hP
  have hD : va_D A [(h0, .inr (1, [.ref q_8, .ref q_17, .ref q_26, .ref q_35, .ref q_44, .null, .null, .int 0, .int 0, .int 0, .int 0, .null, .int 0, .int 0, .int 0])), (q_8, .inl (kA 1, 4096, .inl (fun _ => 0))), (q_17, .inl (kA 1, 4096, .inl (fun _ => 0))), (q_26, .inl (kA 1, 4096, .inl (fun _ => 0))), (q_35, .inl (kA 1, 4096, .inl (fun _ => 0))), (q_44, .inl (kA 1, 4096, .inl (fun _ => 0))), (q_53, .inl (kA 2, 4096, .inr (.inl (fun _ => 0))))] := hD
  refine W.widen (k := 6) (n := 24576) (Nat.le_of_ble_eq_true rfl) (Nat.le_of_ble_eq_true rfl) ?_
  refine va_putF (D := D) (ci := 1) (v := .ref q_53) (ty := (.array .long)) (C := R_Tx) (T := F_Tx) (N := 15) hx hb hg i_Tx t_Tx t_Tx_ok n_Tx hown hK hP hD hS 0 rfl rfl 5 (by decide) (hg _ mw_89) (fun _ h9 => h9) rfl hin rfl (by decide +kernel) rfl rfl (Nat.le_of_ble_eq_true rfl) d_Tx_init_55 (fun H locs hP hD hS => ?_)
  have hP : va_P D vC [(h0, .inr (1, [.ref q_8, .ref q_17, .ref q_26, .ref q_35, .ref q_44, .ref q_53, .null, .int 0, .int 0, .int 0, .int 0, .null, .int 0, .int 0, .int 0])), (q_8, .inl (kA 1, 4096, .inl (fun _ => 0))), (q_17, .inl (kA 1, 4096, .inl (fun _ => 0))), (q_26, .inl (kA 1, 4096, .inl (fun _ => 0))), (q_35, .inl (kA 1, 4096, .inl (fun _ => 0))), (q_44, .inl (kA 1, 4096, .inl (fun _ => 0))), (q_53, .inl (kA 2, 4096, .inr (.inl (fun _ => 0))))] H := hP
  have hD : va_D A [(h0, .inr (1, [.ref q_8, .ref q_17, .ref q_26, .ref q_35, .ref q_44, .ref q_53, .null, .int 0, .int 0, .int 0, .int 0, .null, .int 0, .int 0, .int 0])), (q_8, .inl (kA 1, 4096, .inl (fun _ => 0))), (q_17, .inl (kA 1, 4096, .inl (fun _ => 0))), (q_26, .inl (kA 1, 4096, .inl (fun _ => 0))), (q_35, .inl (kA 1, 4096, .inl (fun _ => 0))), (q_44, .inl (kA 1, 4096, .inl (fun _ => 0))), (q_53, .inl (kA 2, 4096, .inr (.inl (fun _ => 0))))] := hD
  refine lv_aload_n hx hb d_Tx_init_58 rfl (lv_at hl 0 rfl) ?_
  refine va_new (ci := 0) (fs := [.null, .int 0]) (C := R_By) (T := F_By) (N := 2) hx hb hg i_By t_By t_By_ok hown (hg _ mw_71) (hg _ mw_37) (hg _ mw_2) hK hP hD hS hA rfl (fun j hj => by rcases (show j = 0 ∨ j = 1 by omega) with rfl | rfl <;> rfl) (Nat.le_of_ble_eq_true rfl) (Nat.le_of_ble_eq_true rfl) d_Tx_init_59 (fun q_59 H hP hD hS => ?_)
  have hP : va_P D vC [(h0, .inr (1, [.ref q_8, .ref q_17, .ref q_26, .ref q_35, .ref q_44, .ref q_53, .null, .int 0, .int 0, .int 0, .int 0, .null, .int 0, .int 0, .int 0])), (q_8, .inl (kA 1, 4096, .inl (fun _ => 0))), (q_17, .inl (kA 1, 4096, .inl (fun _ => 0))), (q_26, .inl (kA 1, 4096, .inl (fun _ => 0))), (q_35, .inl (kA 1, 4096, .inl (fun _ => 0))), (q_44, .inl (kA 1, 4096, .inl (fun _ => 0))), (q_53, .inl (kA 2, 4096, .inr (.inl (fun _ => 0)))), (q_59, .inr (0, [.null, .int 0]))] H := hP
  have hD : va_D A [(h0, .inr (1, [.ref q_8, .ref q_17, .ref q_26, .ref q_35, .ref q_44, .ref q_53, .null, .int 0, .int 0, .int 0, .int 0, .null, .int 0, .int 0, .int 0])), (q_8, .inl (kA 1, 4096, .inl (fun _ => 0))), (q_17, .inl (kA 1, 4096, .inl (fun _ => 0))), (q_26, .inl (kA 1, 4096, .inl (fun _ => 0))), (q_35, .inl (kA 1, 4096, .inl (fun _ => 0))), (q_44, .inl (kA 1, 4096, .inl (fun _ => 0))), (q_53, .inl (kA 2, 4096, .inr (.inl (fun _ => 0)))), (q_59, .inr (0, [.null, .int 0]))] := hD
  refine W.widen (k := 7) (n := 24578) (Nat.le_of_ble_eq_true rfl) (Nat.le_of_ble_eq_true rfl) ?_
  refine lv_dup hx hb d_Tx_init_62 rfl ?_
  refine lv_sipush (v := 4096) hx hb d_Tx_init_63 (by decide) ?_
  refine xc_v (wr := [(h0, .inr (1, [.ref q_8, .ref q_17, .ref q_26, .ref q_35, .ref q_44, .ref q_53, .null, .int 0, .int 0, .int 0, .int 0, .null, .int 0, .int 0, .int 0])), (q_8, .inl (kA 1, 4096, .inl (fun _ => 0))), (q_17, .inl (kA 1, 4096, .inl (fun _ => 0))), (q_26, .inl (kA 1, 4096, .inl (fun _ => 0))), (q_35, .inl (kA 1, 4096, .inl (fun _ => 0))), (q_44, .inl (kA 1, 4096, .inl (fun _ => 0))), (q_53, .inl (kA 2, 4096, .inr (.inl (fun _ => 0))))]) (va_runI (As := [.int 4096]) (rest := [.ref q_59, .ref h0]) ⟨hx, hb, hml, hown, hg⟩ (c_By_init l D kA kS H.size q_59 4096 4096 (by decide +kernel) (by decide)) (cwI 1 hg (xg_w mw_40) rfl rfl rfl (hg _ mw_2) (hg _ mw_72) (hg _ mw_39) rfl (by decide +kernel) ⟨Nat.le_of_ble_eq_true rfl, Nat.le_of_ble_eq_true rfl⟩) (xc_pre hK hN hC hP hD hS hA [7] (by decide) rfl) rfl rfl hl.1 rfl (lv_room (Nat.le_of_ble_eq_true rfl)) d_Tx_init_66 ⟨Nat.le_of_ble_eq_true rfl, Nat.le_of_ble_eq_true rfl⟩) hP hD hS hA [7] [0, 1, 2, 3, 4, 5, 6] rfl rfl (by decide) (by decide) (fun h_66 H locs hw hP hD hS => ?_)
  have hP : va_P D vC [(h0, .inr (1, [.ref q_8, .ref q_17, .ref q_26, .ref q_35, .ref q_44, .ref q_53, .null, .int 0, .int 0, .int 0, .int 0, .null, .int 0, .int 0, .int 0])), (q_8, .inl (kA 1, 4096, .inl (fun _ => 0))), (q_17, .inl (kA 1, 4096, .inl (fun _ => 0))), (q_26, .inl (kA 1, 4096, .inl (fun _ => 0))), (q_35, .inl (kA 1, 4096, .inl (fun _ => 0))), (q_44, .inl (kA 1, 4096, .inl (fun _ => 0))), (q_53, .inl (kA 2, 4096, .inr (.inl (fun _ => 0)))), (q_59, .inr (0, [.ref h_66, .int (nI 0)])), (h_66, .inl (kA 0, 4096, .inl (fun _ => 0)))] H := hP
  have hD : va_D A [(h0, .inr (1, [.ref q_8, .ref q_17, .ref q_26, .ref q_35, .ref q_44, .ref q_53, .null, .int 0, .int 0, .int 0, .int 0, .null, .int 0, .int 0, .int 0])), (q_8, .inl (kA 1, 4096, .inl (fun _ => 0))), (q_17, .inl (kA 1, 4096, .inl (fun _ => 0))), (q_26, .inl (kA 1, 4096, .inl (fun _ => 0))), (q_35, .inl (kA 1, 4096, .inl (fun _ => 0))), (q_44, .inl (kA 1, 4096, .inl (fun _ => 0))), (q_53, .inl (kA 2, 4096, .inr (.inl (fun _ => 0)))), (q_59, .inr (0, [.ref h_66, .int (nI 0)])), (h_66, .inl (kA 0, 4096, .inl (fun _ => 0)))] := hD
  refine W.widen (k := 8) (n := 28674) (Nat.le_of_ble_eq_true rfl) (Nat.le_of_ble_eq_true rfl) ?_
  refine va_putF (D := D) (ci := 1) (v := .ref q_59) (ty := (.object "RecordLake$Bytes")) (C := R_Tx) (T := F_Tx) (N := 15) hx hb hg i_Tx t_Tx t_Tx_ok n_Tx hown hK hP hD hS 0 rfl rfl 6 (by decide) (hg _ mw_92) (fun _ h9 => h9) rfl hin rfl (by decide +kernel) rfl rfl (Nat.le_of_ble_eq_true rfl) d_Tx_init_69 (fun H locs hP hD hS => ?_)
  have hP : va_P D vC [(h0, .inr (1, [.ref q_8, .ref q_17, .ref q_26, .ref q_35, .ref q_44, .ref q_53, .ref q_59, .int 0, .int 0, .int 0, .int 0, .null, .int 0, .int 0, .int 0])), (q_8, .inl (kA 1, 4096, .inl (fun _ => 0))), (q_17, .inl (kA 1, 4096, .inl (fun _ => 0))), (q_26, .inl (kA 1, 4096, .inl (fun _ => 0))), (q_35, .inl (kA 1, 4096, .inl (fun _ => 0))), (q_44, .inl (kA 1, 4096, .inl (fun _ => 0))), (q_53, .inl (kA 2, 4096, .inr (.inl (fun _ => 0)))), (q_59, .inr (0, [.ref h_66, .int (nI 0)])), (h_66, .inl (kA 0, 4096, .inl (fun _ => 0)))] H := hP
  have hD : va_D A [(h0, .inr (1, [.ref q_8, .ref q_17, .ref q_26, .ref q_35, .ref q_44, .ref q_53, .ref q_59, .int 0, .int 0, .int 0, .int 0, .null, .int 0, .int 0, .int 0])), (q_8, .inl (kA 1, 4096, .inl (fun _ => 0))), (q_17, .inl (kA 1, 4096, .inl (fun _ => 0))), (q_26, .inl (kA 1, 4096, .inl (fun _ => 0))), (q_35, .inl (kA 1, 4096, .inl (fun _ => 0))), (q_44, .inl (kA 1, 4096, .inl (fun _ => 0))), (q_53, .inl (kA 2, 4096, .inr (.inl (fun _ => 0)))), (q_59, .inr (0, [.ref h_66, .int (nI 0)])), (h_66, .inl (kA 0, 4096, .inl (fun _ => 0)))] := hD
  refine lv_aload_n hx hb d_Tx_init_72 rfl (lv_at hl 0 rfl) ?_
  refine lv_aload_n hx hb d_Tx_init_73 rfl (lv_at hl 0 rfl) ?_
  refine va_get (D := D) (ci := 1) (v := .ref q_59) (C := R_Tx) (T := F_Tx) (N := 15) hx hb hg i_Tx hown hK hP 0 rfl rfl 6 (by decide) (hg _ mw_92) (fun _ h9 => h9) rfl d_Tx_init_74 ?_
  refine va_get (D := D) (ci := 0) (v := .ref h_66) (C := R_By) (T := F_By) (N := 2) hx hb hg i_By hown hK hP 7 rfl rfl 0 (by decide) (hg _ mw_45) (fun _ h9 => h9) rfl d_Tx_init_77 ?_
  refine va_put (D := D) (ci := 1) (v := .ref h_66) (ty := (.array .byte)) (C := R_Tx) (T := F_Tx) (N := 15) hx hb hg i_Tx t_Tx t_Tx_ok n_Tx hown hK hP hD hS 0 rfl rfl 11 (by decide) (hg _ mw_103) (fun _ h9 => h9) rfl (by decide +kernel) rfl rfl (Nat.le_of_ble_eq_true rfl) d_Tx_init_80 (fun H locs hP hD hS => ?_)
  have hP : va_P D vC [(h0, .inr (1, [.ref q_8, .ref q_17, .ref q_26, .ref q_35, .ref q_44, .ref q_53, .ref q_59, .int 0, .int 0, .int 0, .int 0, .ref h_66, .int 0, .int 0, .int 0])), (q_8, .inl (kA 1, 4096, .inl (fun _ => 0))), (q_17, .inl (kA 1, 4096, .inl (fun _ => 0))), (q_26, .inl (kA 1, 4096, .inl (fun _ => 0))), (q_35, .inl (kA 1, 4096, .inl (fun _ => 0))), (q_44, .inl (kA 1, 4096, .inl (fun _ => 0))), (q_53, .inl (kA 2, 4096, .inr (.inl (fun _ => 0)))), (q_59, .inr (0, [.ref h_66, .int (nI 0)])), (h_66, .inl (kA 0, 4096, .inl (fun _ => 0)))] H := hP
  have hD : va_D A [(h0, .inr (1, [.ref q_8, .ref q_17, .ref q_26, .ref q_35, .ref q_44, .ref q_53, .ref q_59, .int 0, .int 0, .int 0, .int 0, .ref h_66, .int 0, .int 0, .int 0])), (q_8, .inl (kA 1, 4096, .inl (fun _ => 0))), (q_17, .inl (kA 1, 4096, .inl (fun _ => 0))), (q_26, .inl (kA 1, 4096, .inl (fun _ => 0))), (q_35, .inl (kA 1, 4096, .inl (fun _ => 0))), (q_44, .inl (kA 1, 4096, .inl (fun _ => 0))), (q_53, .inl (kA 2, 4096, .inr (.inl (fun _ => 0)))), (q_59, .inr (0, [.ref h_66, .int (nI 0)])), (h_66, .inl (kA 0, 4096, .inl (fun _ => 0)))] := hD
  refine W.widen (k := 8) (n := 28674) (Nat.le_refl _) (Nat.le_refl _) ?_
  exact W.vret hx hb hr (fun t ht hW => ⟨⟨(fun i => match i with | 0 => q_8 | 1 => q_17 | 2 => q_26 | 3 => q_35 | 4 => q_44 | 5 => q_53 | 6 => q_59 | 7 => h_66 | _ => 0), rfl, trivial, by rw [ht]; exact hP, va_K.moved hW.alike hK, hD⟩, hS.F ht⟩) hS.2.2 d_Tx_init_83

abbrev wDk0 (h0 : Nat) (a : Nat → Nat) (kA : Nat → ClassId) : va_W := [(h0, .inr (9, [.ref (a 0), .int (-1)])), (a 0, .inl (kA 0, 32768, .inl (fun _ => 0)))]
set_option maxHeartbeats 4000000 in
set_option maxRecDepth 100000 in
/-- new RecordLake$Disk -/
theorem c_Dk_init (l : Launch) (D : va_G) (kA : Nat → ClassId) (kS : Nat → Nat) (sz : Nat) (h0 : Nat)  : Met l y_Dk_init w_Dk_init { frames := 1, cells := 1, slots := 32768, locals := 12 } (xPre D vC (tK kA) kS [.ref h0] ([(h0, .inr (9, [.null, .int 0]))]) sz) (va_Qv (fun (_ : Nat → Nat) => True) (xB D vC (tK kA) (fun a => wDk0 h0 a kA ) (va_A ([(h0, .inr (9, [.null, .int 0]))]) sz)) (va_A ([(h0, .inr (9, [.null, .int 0]))]) sz)) 1 32768 (va_A ([(h0, .inr (9, [.null, .int 0]))]) sz) := by
  refine Met.ofW (cc := b_Dk_init) (maxL := 1) (ret := none) (by decide) rfl ?_
  intro p e s m args below meth c s₁ B hml hv
  obtain ⟨rfl, hsz, hP, hK, hD0, hN, hC⟩ := hv
  have hx := B.exec
  have hb := B.bytes
  have hr := B.returns
  have hts := atoms_spec (ws := w_Dk_init) B.pre
  have hg : ∀ w ∈ gW, w.before _ s = true := fun w h => hts w (List.mem_cons_of_mem _ h)
  have hown : s.vm.findClass R_Dk = some m.cls := findClass_of_methodNamed B.named
  have hlocks := B.notSynchronized
  have hin : meth.name = "<init>" := (name_of_methodNamed B.named B.method).1
  subst hsz
  have hD := hD0.self (sz := s.heap.size)
  generalize hAe : va_A ([(h0, .inr (9, [.null, .int 0]))]) s.heap.size = A at hD hC ⊢
  have hA : ∀ q : Nat, s.heap.size ≤ q → A q := fun q h => by rw [← hAe]; exact Or.inr h
  have hS : va_S A s.heap s.heap [] := va_S.rf
  have hP : va_P D vC [(h0, .inr (9, [.null, .int 0]))] s.heap := hP
  have hD : va_D A [(h0, .inr (9, [.null, .int 0]))] := hD
  have hl := lv_entry ([.ref h0]) (n := 1) (Nat.le_of_ble_eq_true rfl)
  rw [lg_entry_eq]
  generalize (lg_sl ([.ref h0]) ++ List.replicate (1 - (lg_sl ([.ref h0])).length) Slot.unset).toArray = ls at hl ⊢
  have hl : lv_has ls 1 [(0, .ref h0)] := hl
  refine lv_aload_n hx hb d_Dk_init_0 rfl (lv_at hl 0 rfl) ?_
  refine W.objInit hx hb hown (hg _ mw_428) (hg _ mw_34) (hg _ mw_35) rfl (by rw [hml]; exact hl.1) rfl d_Dk_init_1 (Nat.le_of_ble_eq_true rfl) (Nat.le_of_ble_eq_true rfl) ?_
  refine W.eq (g2 := F0 m 4 ls []) rfl ?_
  refine lv_aload_n hx hb d_Dk_init_4 rfl (lv_at hl 0 rfl) ?_
  refine lv_ldc (v := 32768) hx hb hown (hg _ mw_429) d_Dk_init_5 ?_
  refine xn_newa (atype := .byte) (a0 := (32768, .inl (fun _ => 0))) (N' := 32768) (ty := .byte) hx hb (hg _ mw_64) rfl hK hP hD hS hA 0 rfl (fun _ => rfl) (by decide) (by decide) (by decide) (Nat.le_of_ble_eq_true rfl) (Nat.le_of_ble_eq_true rfl) d_Dk_init_7 (fun q_7 H hP hD hS => ?_)
  have hP : va_P D vC [(h0, .inr (9, [.null, .int 0])), (q_7, .inl (kA 0, 32768, .inl (fun _ => 0)))] H := hP
  have hD : va_D A [(h0, .inr (9, [.null, .int 0])), (q_7, .inl (kA 0, 32768, .inl (fun _ => 0)))] := hD
  refine W.widen (k := 1) (n := 32768) (Nat.le_of_ble_eq_true rfl) (Nat.le_of_ble_eq_true rfl) ?_
  refine va_putF (D := D) (ci := 9) (v := .ref q_7) (ty := (.array .byte)) (C := R_Dk) (T := F_Dk) (N := 2) hx hb hg i_Dk t_Dk t_Dk_ok n_Dk hown hK hP hD hS 0 rfl rfl 0 (by decide) (hg _ mw_430) (fun _ h9 => h9) rfl hin rfl (by decide +kernel) rfl rfl (Nat.le_of_ble_eq_true rfl) d_Dk_init_9 (fun H locs hP hD hS => ?_)
  have hP : va_P D vC [(h0, .inr (9, [.ref q_7, .int 0])), (q_7, .inl (kA 0, 32768, .inl (fun _ => 0)))] H := hP
  have hD : va_D A [(h0, .inr (9, [.ref q_7, .int 0])), (q_7, .inl (kA 0, 32768, .inl (fun _ => 0)))] := hD
  refine lv_aload_n hx hb d_Dk_init_12 rfl (lv_at hl 0 rfl) ?_
  refine lv_iconst (v := (-1)) hx hb d_Dk_init_13 (by decide) ?_
  refine va_put (D := D) (ci := 9) (v := .int (-1)) (ty := .int) (C := R_Dk) (T := F_Dk) (N := 2) hx hb hg i_Dk t_Dk t_Dk_ok n_Dk hown hK hP hD hS 0 rfl rfl 1 (by decide) (hg _ mw_433) (fun _ h9 => h9) rfl (by decide +kernel) rfl rfl (Nat.le_of_ble_eq_true rfl) d_Dk_init_14 (fun H locs hP hD hS => ?_)
  have hP : va_P D vC [(h0, .inr (9, [.ref q_7, .int (-1)])), (q_7, .inl (kA 0, 32768, .inl (fun _ => 0)))] H := hP
  have hD : va_D A [(h0, .inr (9, [.ref q_7, .int (-1)])), (q_7, .inl (kA 0, 32768, .inl (fun _ => 0)))] := hD
  refine W.widen (k := 1) (n := 32768) (Nat.le_refl _) (Nat.le_refl _) ?_
  exact W.vret hx hb hr (fun t ht hW => ⟨⟨(fun i => match i with | 0 => q_7 | _ => 0), rfl, trivial, by rw [ht]; exact hP, va_K.moved hW.alike hK, hD⟩, hS.F ht⟩) hS.2.2 d_Dk_init_17

abbrev wFl0 (h0 : Nat) (a : Nat → Nat) (kA : Nat → ClassId) : va_W := [(h0, .inr (10, [.ref (a 0), .ref (a 1), .ref (a 2), .ref (a 3), .ref (a 4), .int 0, .int 0, .ref (a 5), .ref (a 7)])), (a 0, .inl (kA 1, 40, .inl (fun _ => 0))), (a 1, .inl (kA 1, 40, .inl (fun _ => 0))), (a 2, .inl (kA 1, 40, .inl (fun _ => 0))), (a 3, .inl (kA 1, 40, .inl (fun _ => 0))), (a 4, .inl (kA 1, 40, .inl (fun _ => 0))), (a 5, .inr (0, [.ref (a 6), .int (nI 0)])), (a 6, .inl (kA 0, 256, .inl (fun _ => 0))), (a 7, .inl (kA 3, 128, .inl (fun _ => 0)))]
set_option maxHeartbeats 4000000 in
set_option maxRecDepth 100000 in
/-- new RecordLake$FileList -/
theorem c_Fl_init (l : Launch) (D : va_G) (kA : Nat → ClassId) (kS : Nat → Nat) (sz : Nat) (h0 : Nat)  : Met l y_Fl_init w_Fl_init { frames := 2, cells := 8, slots := 586, locals := 33 } (xPre D vC (tK kA) kS [.ref h0] ([(h0, .inr (10, [.null, .null, .null, .null, .null, .int 0, .int 0, .null, .null]))]) sz) (va_Qv (fun (_ : Nat → Nat) => True) (xB D vC (tK kA) (fun a => wFl0 h0 a kA ) (va_A ([(h0, .inr (10, [.null, .null, .null, .null, .null, .int 0, .int 0, .null, .null]))]) sz)) (va_A ([(h0, .inr (10, [.null, .null, .null, .null, .null, .int 0, .int 0, .null, .null]))]) sz)) 8 586 (va_A ([(h0, .inr (10, [.null, .null, .null, .null, .null, .int 0, .int 0, .null, .null]))]) sz) := by
  refine Met.ofW (cc := b_Fl_init) (maxL := 1) (ret := none) (by decide) rfl ?_
  intro p e s m args below meth c s₁ B hml hv
  obtain ⟨rfl, hsz, hP, hK, hD0, hN, hC⟩ := hv
  have hx := B.exec
  have hb := B.bytes
  have hr := B.returns
  have hts := atoms_spec (ws := w_Fl_init) B.pre
  have hg : ∀ w ∈ gW, w.before _ s = true := fun w h => hts w (List.mem_cons_of_mem _ h)
  have hown : s.vm.findClass R_Fl = some m.cls := findClass_of_methodNamed B.named
  have hlocks := B.notSynchronized
  have hin : meth.name = "<init>" := (name_of_methodNamed B.named B.method).1
  subst hsz
  have hD := hD0.self (sz := s.heap.size)
  generalize hAe : va_A ([(h0, .inr (10, [.null, .null, .null, .null, .null, .int 0, .int 0, .null, .null]))]) s.heap.size = A at hD hC ⊢
  have hA : ∀ q : Nat, s.heap.size ≤ q → A q := fun q h => by rw [← hAe]; exact Or.inr h
  have hS : va_S A s.heap s.heap [] := va_S.rf
  have hP : va_P D vC [(h0, .inr (10, [.null, .null, .null, .null, .null, .int 0, .int 0, .null, .null]))] s.heap := hP
  have hD : va_D A [(h0, .inr (10, [.null, .null, .null, .null, .null, .int 0, .int 0, .null, .null]))] := hD
  have hl := lv_entry ([.ref h0]) (n := 1) (Nat.le_of_ble_eq_true rfl)
  rw [lg_entry_eq]
  generalize (lg_sl ([.ref h0]) ++ List.replicate (1 - (lg_sl ([.ref h0])).length) Slot.unset).toArray = ls at hl ⊢
  have hl : lv_has ls 1 [(0, .ref h0)] := hl
  refine lv_aload_n hx hb d_Fl_init_0 rfl (lv_at hl 0 rfl) ?_
  refine W.objInit hx hb hown (hg _ mw_445) (hg _ mw_34) (hg _ mw_35) rfl (by rw [hml]; exact hl.1) rfl d_Fl_init_1 (Nat.le_of_ble_eq_true rfl) (Nat.le_of_ble_eq_true rfl) ?_
  refine W.eq (g2 := F0 m 4 ls []) rfl ?_
  refine lv_aload_n hx hb d_Fl_init_4 rfl (lv_at hl 0 rfl) ?_
  refine lv_bipush (v := 40) hx hb d_Fl_init_5 (by decide) ?_
  refine xn_newa (atype := .int) (a0 := (40, .inl (fun _ => 0))) (N' := 40) (ty := .int) hx hb (hg _ mw_138) rfl hK hP hD hS hA 1 rfl (fun _ => rfl) (by decide) (by decide) (by decide) (Nat.le_of_ble_eq_true rfl) (Nat.le_of_ble_eq_true rfl) d_Fl_init_7 (fun q_7 H hP hD hS => ?_)
  have hP : va_P D vC [(h0, .inr (10, [.null, .null, .null, .null, .null, .int 0, .int 0, .null, .null])), (q_7, .inl (kA 1, 40, .inl (fun _ => 0)))] H := hP
  have hD : va_D A [(h0, .inr (10, [.null, .null, .null, .null, .null, .int 0, .int 0, .null, .null])), (q_7, .inl (kA 1, 40, .inl (fun _ => 0)))] := hD
  refine W.widen (k := 1) (n := 40) (Nat.le_of_ble_eq_true rfl) (Nat.le_of_ble_eq_true rfl) ?_
  refine va_putF (D := D) (ci := 10) (v := .ref q_7) (ty := (.array .int)) (C := R_Fl) (T := F_Fl) (N := 9) hx hb hg i_Fl t_Fl t_Fl_ok n_Fl hown hK hP hD hS 0 rfl rfl 0 (by decide) (hg _ mw_448) (fun _ h9 => h9) rfl hin rfl (by decide +kernel) rfl rfl (Nat.le_of_ble_eq_true rfl) d_Fl_init_9 (fun H locs hP hD hS => ?_)
  have hP : va_P D vC [(h0, .inr (10, [.ref q_7, .null, .null, .null, .null, .int 0, .int 0, .null, .null])), (q_7, .inl (kA 1, 40, .inl (fun _ => 0)))] H := hP
  have hD : va_D A [(h0, .inr (10, [.ref q_7, .null, .null, .null, .null, .int 0, .int 0, .null, .null])), (q_7, .inl (kA 1, 40, .inl (fun _ => 0)))] := hD
  refine lv_aload_n hx hb d_Fl_init_12 rfl (lv_at hl 0 rfl) ?_
  refine lv_bipush (v := 40) hx hb d_Fl_init_13 (by decide) ?_
  refine xn_newa (atype := .int) (a0 := (40, .inl (fun _ => 0))) (N' := 40) (ty := .int) hx hb (hg _ mw_138) rfl hK hP hD hS hA 1 rfl (fun _ => rfl) (by decide) (by decide) (by decide) (Nat.le_of_ble_eq_true rfl) (Nat.le_of_ble_eq_true rfl) d_Fl_init_15 (fun q_15 H hP hD hS => ?_)
  have hP : va_P D vC [(h0, .inr (10, [.ref q_7, .null, .null, .null, .null, .int 0, .int 0, .null, .null])), (q_7, .inl (kA 1, 40, .inl (fun _ => 0))), (q_15, .inl (kA 1, 40, .inl (fun _ => 0)))] H := hP
  have hD : va_D A [(h0, .inr (10, [.ref q_7, .null, .null, .null, .null, .int 0, .int 0, .null, .null])), (q_7, .inl (kA 1, 40, .inl (fun _ => 0))), (q_15, .inl (kA 1, 40, .inl (fun _ => 0)))] := hD
  refine W.widen (k := 2) (n := 80) (Nat.le_of_ble_eq_true rfl) (Nat.le_of_ble_eq_true rfl) ?_
  refine va_putF (D := D) (ci := 10) (v := .ref q_15) (ty := (.array .int)) (C := R_Fl) (T := F_Fl) (N := 9) hx hb hg i_Fl t_Fl t_Fl_ok n_Fl hown hK hP hD hS 0 rfl rfl 1 (by decide) (hg _ mw_450) (fun _ h9 => h9) rfl hin rfl (by decide +kernel) rfl rfl (Nat.le_of_ble_eq_true rfl) d_Fl_init_17 (fun H locs hP hD hS => ?_)
  have hP : va_P D vC [(h0, .inr (10, [.ref q_7, .ref q_15, .null, .null, .null, .int 0, .int 0, .null, .null])), (q_7, .inl (kA 1, 40, .inl (fun _ => 0))), (q_15, .inl (kA 1, 40, .inl (fun _ => 0)))] H := hP
  have hD : va_D A [(h0, .inr (10, [.ref q_7, .ref q_15, .null, .null, .null, .int 0, .int 0, .null, .null])), (q_7, .inl (kA 1, 40, .inl (fun _ => 0))), (q_15, .inl (kA 1, 40, .inl (fun _ => 0)))] := hD
  refine lv_aload_n hx hb d_Fl_init_20 rfl (lv_at hl 0 rfl) ?_
  refine lv_bipush (v := 40) hx hb d_Fl_init_21 (by decide) ?_
  refine xn_newa (atype := .int) (a0 := (40, .inl (fun _ => 0))) (N' := 40) (ty := .int) hx hb (hg _ mw_138) rfl hK hP hD hS hA 1 rfl (fun _ => rfl) (by decide) (by decide) (by decide) (Nat.le_of_ble_eq_true rfl) (Nat.le_of_ble_eq_true rfl) d_Fl_init_23 (fun q_23 H hP hD hS => ?_)
  have hP : va_P D vC [(h0, .inr (10, [.ref q_7, .ref q_15, .null, .null, .null, .int 0, .int 0, .null, .null])), (q_7, .inl (kA 1, 40, .inl (fun _ => 0))), (q_15, .inl (kA 1, 40, .inl (fun _ => 0))), (q_23, .inl (kA 1, 40, .inl (fun _ => 0)))] H := hP
  have hD : va_D A [(h0, .inr (10, [.ref q_7, .ref q_15, .null, .null, .null, .int 0, .int 0, .null, .null])), (q_7, .inl (kA 1, 40, .inl (fun _ => 0))), (q_15, .inl (kA 1, 40, .inl (fun _ => 0))), (q_23, .inl (kA 1, 40, .inl (fun _ => 0)))] := hD
  refine W.widen (k := 3) (n := 120) (Nat.le_of_ble_eq_true rfl) (Nat.le_of_ble_eq_true rfl) ?_
  refine va_putF (D := D) (ci := 10) (v := .ref q_23) (ty := (.array .int)) (C := R_Fl) (T := F_Fl) (N := 9) hx hb hg i_Fl t_Fl t_Fl_ok n_Fl hown hK hP hD hS 0 rfl rfl 2 (by decide) (hg _ mw_452) (fun _ h9 => h9) rfl hin rfl (by decide +kernel) rfl rfl (Nat.le_of_ble_eq_true rfl) d_Fl_init_25 (fun H locs hP hD hS => ?_)
  have hP : va_P D vC [(h0, .inr (10, [.ref q_7, .ref q_15, .ref q_23, .null, .null, .int 0, .int 0, .null, .null])), (q_7, .inl (kA 1, 40, .inl (fun _ => 0))), (q_15, .inl (kA 1, 40, .inl (fun _ => 0))), (q_23, .inl (kA 1, 40, .inl (fun _ => 0)))] H := hP
  have hD : va_D A [(h0, .inr (10, [.ref q_7, .ref q_15, .ref q_23, .null, .null, .int 0, .int 0, .null, .null])), (q_7, .inl (kA 1, 40, .inl (fun _ => 0))), (q_15, .inl (kA 1, 40, .inl (fun _ => 0))), (q_23, .inl (kA 1, 40, .inl (fun _ => 0)))] := hD
  refine lv_aload_n hx hb d_Fl_init_28 rfl (lv_at hl 0 rfl) ?_
  refine lv_bipush (v := 40) hx hb d_Fl_init_29 (by decide) ?_
  refine xn_newa (atype := .int) (a0 := (40, .inl (fun _ => 0))) (N' := 40) (ty := .int) hx hb (hg _ mw_138) rfl hK hP hD hS hA 1 rfl (fun _ => rfl) (by decide) (by decide) (by decide) (Nat.le_of_ble_eq_true rfl) (Nat.le_of_ble_eq_true rfl) d_Fl_init_31 (fun q_31 H hP hD hS => ?_)
  have hP : va_P D vC [(h0, .inr (10, [.ref q_7, .ref q_15, .ref q_23, .null, .null, .int 0, .int 0, .null, .null])), (q_7, .inl (kA 1, 40, .inl (fun _ => 0))), (q_15, .inl (kA 1, 40, .inl (fun _ => 0))), (q_23, .inl (kA 1, 40, .inl (fun _ => 0))), (q_31, .inl (kA 1, 40, .inl (fun _ => 0)))] H := hP
  have hD : va_D A [(h0, .inr (10, [.ref q_7, .ref q_15, .ref q_23, .null, .null, .int 0, .int 0, .null, .null])), (q_7, .inl (kA 1, 40, .inl (fun _ => 0))), (q_15, .inl (kA 1, 40, .inl (fun _ => 0))), (q_23, .inl (kA 1, 40, .inl (fun _ => 0))), (q_31, .inl (kA 1, 40, .inl (fun _ => 0)))] := hD
  refine W.widen (k := 4) (n := 160) (Nat.le_of_ble_eq_true rfl) (Nat.le_of_ble_eq_true rfl) ?_
  refine va_putF (D := D) (ci := 10) (v := .ref q_31) (ty := (.array .int)) (C := R_Fl) (T := F_Fl) (N := 9) hx hb hg i_Fl t_Fl t_Fl_ok n_Fl hown hK hP hD hS 0 rfl rfl 3 (by decide) (hg _ mw_454) (fun _ h9 => h9) rfl hin rfl (by decide +kernel) rfl rfl (Nat.le_of_ble_eq_true rfl) d_Fl_init_33 (fun H locs hP hD hS => ?_)
  have hP : va_P D vC [(h0, .inr (10, [.ref q_7, .ref q_15, .ref q_23, .ref q_31, .null, .int 0, .int 0, .null, .null])), (q_7, .inl (kA 1, 40, .inl (fun _ => 0))), (q_15, .inl (kA 1, 40, .inl (fun _ => 0))), (q_23, .inl (kA 1, 40, .inl (fun _ => 0))), (q_31, .inl (kA 1, 40, .inl (fun _ => 0)))] H := hP
  have hD : va_D A [(h0, .inr (10, [.ref q_7, .ref q_15, .ref q_23, .ref q_31, .null, .int 0, .int 0, .null, .null])), (q_7, .inl (kA 1, 40, .inl (fun _ => 0))), (q_15, .inl (kA 1, 40, .inl (fun _ => 0))), (q_23, .inl (kA 1, 40, .inl (fun _ => 0))), (q_31, .inl (kA 1, 40, .inl (fun _ => 0)))] := hD
  refine lv_aload_n hx hb d_Fl_init_36 rfl (lv_at hl 0 rfl) ?_
  refine lv_bipush (v := 40) hx hb d_Fl_init_37 (by decide) ?_
  refine xn_newa (atype := .int) (a0 := (40, .inl (fun _ => 0))) (N' := 40) (ty := .int) hx hb (hg _ mw_138) rfl hK hP hD hS hA 1 rfl (fun _ => rfl) (by decide) (by decide) (by decide) (Nat.le_of_ble_eq_true rfl) (Nat.le_of_ble_eq_true rfl) d_Fl_init_39 (fun q_39 H hP hD hS => ?_)
  have hP : va_P D vC [(h0, .inr (10, [.ref q_7, .ref q_15, .ref q_23, .ref q_31, .null, .int 0, .int 0, .null, .null])), (q_7, .inl (kA 1, 40, .inl (fun _ => 0))), (q_15, .inl (kA 1, 40, .inl (fun _ => 0))), (q_23, .inl (kA 1, 40, .inl (fun _ => 0))), (q_31, .inl (kA 1, 40, .inl (fun _ => 0))), (q_39, .inl (kA 1, 40, .inl (fun _ => 0)))] H := hP
  have hD : va_D A [(h0, .inr (10, [.ref q_7, .ref q_15, .ref q_23, .ref q_31, .null, .int 0, .int 0, .null, .null])), (q_7, .inl (kA 1, 40, .inl (fun _ => 0))), (q_15, .inl (kA 1, 40, .inl (fun _ => 0))), (q_23, .inl (kA 1, 40, .inl (fun _ => 0))), (q_31, .inl (kA 1, 40, .inl (fun _ => 0))), (q_39, .inl (kA 1, 40, .inl (fun _ => 0)))] := hD
  refine W.widen (k := 5) (n := 200) (Nat.le_of_ble_eq_true rfl) (Nat.le_of_ble_eq_true rfl) ?_
  refine va_putF (D := D) (ci := 10) (v := .ref q_39) (ty := (.array .int)) (C := R_Fl) (T := F_Fl) (N := 9) hx hb hg i_Fl t_Fl t_Fl_ok n_Fl hown hK hP hD hS 0 rfl rfl 4 (by decide) (hg _ mw_456) (fun _ h9 => h9) rfl hin rfl (by decide +kernel) rfl rfl (Nat.le_of_ble_eq_true rfl) d_Fl_init_41 (fun H locs hP hD hS => ?_)
  have hP : va_P D vC [(h0, .inr (10, [.ref q_7, .ref q_15, .ref q_23, .ref q_31, .ref q_39, .int 0, .int 0, .null, .null])), (q_7, .inl (kA 1, 40, .inl (fun _ => 0))), (q_15, .inl (kA 1, 40, .inl (fun _ => 0))), (q_23, .inl (kA 1, 40, .inl (fun _ => 0))), (q_31, .inl (kA 1, 40, .inl (fun _ => 0))), (q_39, .inl (kA 1, 40, .inl (fun _ => 0)))] H := hP
  have hD : va_D A [(h0, .inr (10, [.ref q_7, .ref q_15, .ref q_23, .ref q_31, .ref q_39, .int 0, .int 0, .null, .null])), (q_7, .inl (kA 1, 40, .inl (fun _ => 0))), (q_15, .inl (kA 1, 40, .inl (fun _ => 0))), (q_23, .inl (kA 1, 40, .inl (fun _ => 0))), (q_31, .inl (kA 1, 40, .inl (fun _ => 0))), (q_39, .inl (kA 1, 40, .inl (fun _ => 0)))] := hD
  refine lv_aload_n hx hb d_Fl_init_44 rfl (lv_at hl 0 rfl) ?_
  refine va_new (ci := 0) (fs := [.null, .int 0]) (C := R_By) (T := F_By) (N := 2) hx hb hg i_By t_By t_By_ok hown (hg _ mw_446) (hg _ mw_37) (hg _ mw_2) hK hP hD hS hA rfl (fun j hj => by rcases (show j = 0 ∨ j = 1 by omega) with rfl | rfl <;> rfl) (Nat.le_of_ble_eq_true rfl) (Nat.le_of_ble_eq_true rfl) d_Fl_init_45 (fun q_45 H hP hD hS => ?_)
  have hP : va_P D vC [(h0, .inr (10, [.ref q_7, .ref q_15, .ref q_23, .ref q_31, .ref q_39, .int 0, .int 0, .null, .null])), (q_7, .inl (kA 1, 40, .inl (fun _ => 0))), (q_15, .inl (kA 1, 40, .inl (fun _ => 0))), (q_23, .inl (kA 1, 40, .inl (fun _ => 0))), (q_31, .inl (kA 1, 40, .inl (fun _ => 0))), (q_39, .inl (kA 1, 40, .inl (fun _ => 0))), (q_45, .inr (0, [.null, .int 0]))] H := hP
  have hD : va_D A [(h0, .inr (10, [.ref q_7, .ref q_15, .ref q_23, .ref q_31, .ref q_39, .int 0, .int 0, .null, .null])), (q_7, .inl (kA 1, 40, .inl (fun _ => 0))), (q_15, .inl (kA 1, 40, .inl (fun _ => 0))), (q_23, .inl (kA 1, 40, .inl (fun _ => 0))), (q_31, .inl (kA 1, 40, .inl (fun _ => 0))), (q_39, .inl (kA 1, 40, .inl (fun _ => 0))), (q_45, .inr (0, [.null, .int 0]))] := hD
  refine W.widen (k := 6) (n := 202) (Nat.le_of_ble_eq_true rfl) (Nat.le_of_ble_eq_true rfl) ?_
  refine lv_dup hx hb d_Fl_init_48 rfl ?_
  refine lv_sipush (v := 256) hx hb d_Fl_init_49 (by decide) ?_
  refine xc_v (wr := [(h0, .inr (10, [.ref q_7, .ref q_15, .ref q_23, .ref q_31, .ref q_39, .int 0, .int 0, .null, .null])), (q_7, .inl (kA 1, 40, .inl (fun _ => 0))), (q_15, .inl (kA 1, 40, .inl (fun _ => 0))), (q_23, .inl (kA 1, 40, .inl (fun _ => 0))), (q_31, .inl (kA 1, 40, .inl (fun _ => 0))), (q_39, .inl (kA 1, 40, .inl (fun _ => 0)))]) (va_runI (As := [.int 256]) (rest := [.ref q_45, .ref h0]) ⟨hx, hb, hml, hown, hg⟩ (c_By_init l D kA kS H.size q_45 256 256 (by decide +kernel) (by decide)) (cwI 1 hg (xg_w mw_40) rfl rfl rfl (hg _ mw_2) (hg _ mw_447) (hg _ mw_39) rfl (by decide +kernel) ⟨Nat.le_of_ble_eq_true rfl, Nat.le_of_ble_eq_true rfl⟩) (xc_pre hK hN hC hP hD hS hA [6] (by decide) rfl) rfl rfl hl.1 rfl (lv_room (Nat.le_of_ble_eq_true rfl)) d_Fl_init_52 ⟨Nat.le_of_ble_eq_true rfl, Nat.le_of_ble_eq_true rfl⟩) hP hD hS hA [6] [0, 1, 2, 3, 4, 5] rfl rfl (by decide) (by decide) (fun h_52 H locs hw hP hD hS => ?_)
  have hP : va_P D vC [(h0, .inr (10, [.ref q_7, .ref q_15, .ref q_23, .ref q_31, .ref q_39, .int 0, .int 0, .null, .null])), (q_7, .inl (kA 1, 40, .inl (fun _ => 0))), (q_15, .inl (kA 1, 40, .inl (fun _ => 0))), (q_23, .inl (kA 1, 40, .inl (fun _ => 0))), (q_31, .inl (kA 1, 40, .inl (fun _ => 0))), (q_39, .inl (kA 1, 40, .inl (fun _ => 0))), (q_45, .inr (0, [.ref h_52, .int (nI 0)])), (h_52, .inl (kA 0, 256, .inl (fun _ => 0)))] H := hP
  have hD : va_D A [(h0, .inr (10, [.ref q_7, .ref q_15, .ref q_23, .ref q_31, .ref q_39, .int 0, .int 0, .null, .null])), (q_7, .inl (kA 1, 40, .inl (fun _ => 0))), (q_15, .inl (kA 1, 40, .inl (fun _ => 0))), (q_23, .inl (kA 1, 40, .inl (fun _ => 0))), (q_31, .inl (kA 1, 40, .inl (fun _ => 0))), (q_39, .inl (kA 1, 40, .inl (fun _ => 0))), (q_45, .inr (0, [.ref h_52, .int (nI 0)])), (h_52, .inl (kA 0, 256, .inl (fun _ => 0)))] := hD
  refine W.widen (k := 7) (n := 458) (Nat.le_of_ble_eq_true rfl) (Nat.le_of_ble_eq_true rfl) ?_
  refine va_putF (D := D) (ci := 10) (v := .ref q_45) (ty := (.object "RecordLake$Bytes")) (C := R_Fl) (T := F_Fl) (N := 9) hx hb hg i_Fl t_Fl t_Fl_ok n_Fl hown hK hP hD hS 0 rfl rfl 7 (by decide) (hg _ mw_461) (fun _ h9 => h9) rfl hin rfl (by decide +kernel) rfl rfl (Nat.le_of_ble_eq_true rfl) d_Fl_init_55 (fun H locs hP hD hS => ?_)
  have hP : va_P D vC [(h0, .inr (10, [.ref q_7, .ref q_15, .ref q_23, .ref q_31, .ref q_39, .int 0, .int 0, .ref q_45, .null])), (q_7, .inl (kA 1, 40, .inl (fun _ => 0))), (q_15, .inl (kA 1, 40, .inl (fun _ => 0))), (q_23, .inl (kA 1, 40, .inl (fun _ => 0))), (q_31, .inl (kA 1, 40, .inl (fun _ => 0))), (q_39, .inl (kA 1, 40, .inl (fun _ => 0))), (q_45, .inr (0, [.ref h_52, .int (nI 0)])), (h_52, .inl (kA 0, 256, .inl (fun _ => 0)))] H := hP
  have hD : va_D A [(h0, .inr (10, [.ref q_7, .ref q_15, .ref q_23, .ref q_31, .ref q_39, .int 0, .int 0, .ref q_45, .null])), (q_7, .inl (kA 1, 40, .inl (fun _ => 0))), (q_15, .inl (kA 1, 40, .inl (fun _ => 0))), (q_23, .inl (kA 1, 40, .inl (fun _ => 0))), (q_31, .inl (kA 1, 40, .inl (fun _ => 0))), (q_39, .inl (kA 1, 40, .inl (fun _ => 0))), (q_45, .inr (0, [.ref h_52, .int (nI 0)])), (h_52, .inl (kA 0, 256, .inl (fun _ => 0)))] := hD
  refine lv_aload_n hx hb d_Fl_init_58 rfl (lv_at hl 0 rfl) ?_
  refine lv_sipush (v := 128) hx hb d_Fl_init_59 (by decide) ?_
  refine xn_newa (atype := .boolean) (a0 := (128, .inl (fun _ => 0))) (N' := 128) (ty := .boolean) hx hb (hg _ mw_482) rfl hK hP hD hS hA 3 rfl (fun _ => rfl) (by decide) (by decide) (by decide) (Nat.le_of_ble_eq_true rfl) (Nat.le_of_ble_eq_true rfl) d_Fl_init_62 (fun q_62 H hP hD hS => ?_)
  have hP : va_P D vC [(h0, .inr (10, [.ref q_7, .ref q_15, .ref q_23, .ref q_31, .ref q_39, .int 0, .int 0, .ref q_45, .null])), (q_7, .inl (kA 1, 40, .inl (fun _ => 0))), (q_15, .inl (kA 1, 40, .inl (fun _ => 0))), (q_23, .inl (kA 1, 40, .inl (fun _ => 0))), (q_31, .inl (kA 1, 40, .inl (fun _ => 0))), (q_39, .inl (kA 1, 40, .inl (fun _ => 0))), (q_45, .inr (0, [.ref h_52, .int (nI 0)])), (h_52, .inl (kA 0, 256, .inl (fun _ => 0))), (q_62, .inl (kA 3, 128, .inl (fun _ => 0)))] H := hP
  have hD : va_D A [(h0, .inr (10, [.ref q_7, .ref q_15, .ref q_23, .ref q_31, .ref q_39, .int 0, .int 0, .ref q_45, .null])), (q_7, .inl (kA 1, 40, .inl (fun _ => 0))), (q_15, .inl (kA 1, 40, .inl (fun _ => 0))), (q_23, .inl (kA 1, 40, .inl (fun _ => 0))), (q_31, .inl (kA 1, 40, .inl (fun _ => 0))), (q_39, .inl (kA 1, 40, .inl (fun _ => 0))), (q_45, .inr (0, [.ref h_52, .int (nI 0)])), (h_52, .inl (kA 0, 256, .inl (fun _ => 0))), (q_62, .inl (kA 3, 128, .inl (fun _ => 0)))] := hD
  refine W.widen (k := 8) (n := 586) (Nat.le_of_ble_eq_true rfl) (Nat.le_of_ble_eq_true rfl) ?_
  refine va_putF (D := D) (ci := 10) (v := .ref q_62) (ty := (.array .boolean)) (C := R_Fl) (T := F_Fl) (N := 9) hx hb hg i_Fl t_Fl t_Fl_ok n_Fl hown hK hP hD hS 0 rfl rfl 8 (by decide) (hg _ mw_462) (fun _ h9 => h9) rfl hin rfl (by decide +kernel) rfl rfl (Nat.le_of_ble_eq_true rfl) d_Fl_init_64 (fun H locs hP hD hS => ?_)
  have hP : va_P D vC [(h0, .inr (10, [.ref q_7, .ref q_15, .ref q_23, .ref q_31, .ref q_39, .int 0, .int 0, .ref q_45, .ref q_62])), (q_7, .inl (kA 1, 40, .inl (fun _ => 0))), (q_15, .inl (kA 1, 40, .inl (fun _ => 0))), (q_23, .inl (kA 1, 40, .inl (fun _ => 0))), (q_31, .inl (kA 1, 40, .inl (fun _ => 0))), (q_39, .inl (kA 1, 40, .inl (fun _ => 0))), (q_45, .inr (0, [.ref h_52, .int (nI 0)])), (h_52, .inl (kA 0, 256, .inl (fun _ => 0))), (q_62, .inl (kA 3, 128, .inl (fun _ => 0)))] H := hP
  have hD : va_D A [(h0, .inr (10, [.ref q_7, .ref q_15, .ref q_23, .ref q_31, .ref q_39, .int 0, .int 0, .ref q_45, .ref q_62])), (q_7, .inl (kA 1, 40, .inl (fun _ => 0))), (q_15, .inl (kA 1, 40, .inl (fun _ => 0))), (q_23, .inl (kA 1, 40, .inl (fun _ => 0))), (q_31, .inl (kA 1, 40, .inl (fun _ => 0))), (q_39, .inl (kA 1, 40, .inl (fun _ => 0))), (q_45, .inr (0, [.ref h_52, .int (nI 0)])), (h_52, .inl (kA 0, 256, .inl (fun _ => 0))), (q_62, .inl (kA 3, 128, .inl (fun _ => 0)))] := hD
  refine W.widen (k := 8) (n := 586) (Nat.le_refl _) (Nat.le_refl _) ?_
  exact W.vret hx hb hr (fun t ht hW => ⟨⟨(fun i => match i with | 0 => q_7 | 1 => q_15 | 2 => q_23 | 3 => q_31 | 4 => q_39 | 5 => q_45 | 6 => h_52 | 7 => q_62 | _ => 0), rfl, trivial, by rw [ht]; exact hP, va_K.moved hW.alike hK, hD⟩, hS.F ht⟩) hS.2.2 d_Fl_init_67

abbrev wDf0 (h0 : Nat) (a : Nat → Nat) (kA : Nat → ClassId) (tx : Nat) (sc : Nat) : va_W := [(h0, .inr (4, [.ref tx, .ref sc, .ref (a 0), .ref (a 1), .int 0])), (a 0, .inl (kA 1, 128, .inl (fun _ => 0))), (a 1, .inl (kA 1, 128, .inl (fun _ => 0)))]
set_option maxHeartbeats 4000000 in
set_option maxRecDepth 100000 in
/-- new RecordLake$Defaults -/
theorem c_Df_init (l : Launch) (D : va_G) (kA : Nat → ClassId) (kS : Nat → Nat) (sz : Nat) (h0 : Nat) (tx sc : Nat) : Met l y_Df_init w_Df_init { frames := 1, cells := 2, slots := 256, locals := 12 } (xPre D vC (tK kA) kS [.ref h0, .ref tx, .ref sc] ([(h0, .inr (4, [.null, .null, .null, .null, .int 0]))]) sz) (va_Qv (fun (_ : Nat → Nat) => True) (xB D vC (tK kA) (fun a => wDf0 h0 a kA tx sc) (va_A ([(h0, .inr (4, [.null, .null, .null, .null, .int 0]))]) sz)) (va_A ([(h0, .inr (4, [.null, .null, .null, .null, .int 0]))]) sz)) 2 256 (va_A ([(h0, .inr (4, [.null, .null, .null, .null, .int 0]))]) sz) := by
  refine Met.ofW (cc := b_Df_init) (maxL := 3) (ret := none) (by decide) rfl ?_
  intro p e s m args below meth c s₁ B hml hv
  obtain ⟨rfl, hsz, hP, hK, hD0, hN, hC⟩ := hv
  have hx := B.exec
  have hb := B.bytes
  have hr := B.returns
  have hts := atoms_spec (ws := w_Df_init) B.pre
  have hg : ∀ w ∈ gW, w.before _ s = true := fun w h => hts w (List.mem_cons_of_mem _ h)
  have hown : s.vm.findClass R_Df = some m.cls := findClass_of_methodNamed B.named
  have hlocks := B.notSynchronized
  have hin : meth.name = "<init>" := (name_of_methodNamed B.named B.method).1
  subst hsz
  have hD := hD0.self (sz := s.heap.size)
  generalize hAe : va_A ([(h0, .inr (4, [.null, .null, .null, .null, .int 0]))]) s.heap.size = A at hD hC ⊢
  have hA : ∀ q : Nat, s.heap.size ≤ q → A q := fun q h => by rw [← hAe]; exact Or.inr h
  have hS : va_S A s.heap s.heap [] := va_S.rf
  have hP : va_P D vC [(h0, .inr (4, [.null, .null, .null, .null, .int 0]))] s.heap := hP
  have hD : va_D A [(h0, .inr (4, [.null, .null, .null, .null, .int 0]))] := hD
  have hl := lv_entry ([.ref h0, .ref tx, .ref sc]) (n := 3) (Nat.le_of_ble_eq_true rfl)
  rw [lg_entry_eq]
  generalize (lg_sl ([.ref h0, .ref tx, .ref sc]) ++ List.replicate (3 - (lg_sl ([.ref h0, .ref tx, .ref sc])).length) Slot.unset).toArray = ls at hl ⊢
  have hl : lv_has ls 3 [(0, .ref h0), (1, .ref tx), (2, .ref sc)] := hl
  refine lv_aload_n hx hb d_Df_init_0 rfl (lv_at hl 0 rfl) ?_
  refine W.objInit hx hb hown (hg _ mw_258) (hg _ mw_34) (hg _ mw_35) rfl (by rw [hml]; exact hl.1) rfl d_Df_init_1 (Nat.le_of_ble_eq_true rfl) (Nat.le_of_ble_eq_true rfl) ?_
  refine W.eq (g2 := F0 m 4 ls []) rfl ?_
  refine lv_aload_n hx hb d_Df_init_4 rfl (lv_at hl 0 rfl) ?_
  refine lv_sipush (v := 128) hx hb d_Df_init_5 (by decide) ?_
  refine xn_newa (atype := .int) (a0 := (128, .inl (fun _ => 0))) (N' := 128) (ty := .int) hx hb (hg _ mw_138) rfl hK hP hD hS hA 1 rfl (fun _ => rfl) (by decide) (by decide) (by decide) (Nat.le_of_ble_eq_true rfl) (Nat.le_of_ble_eq_true rfl) d_Df_init_8 (fun q_8 H hP hD hS => ?_)
  have hP : va_P D vC [(h0, .inr (4, [.null, .null, .null, .null, .int 0])), (q_8, .inl (kA 1, 128, .inl (fun _ => 0)))] H := hP
  have hD : va_D A [(h0, .inr (4, [.null, .null, .null, .null, .int 0])), (q_8, .inl (kA 1, 128, .inl (fun _ => 0)))] := hD
  refine W.widen (k := 1) (n := 128) (Nat.le_of_ble_eq_true rfl) (Nat.le_of_ble_eq_true rfl) ?_
  refine va_putF (D := D) (ci := 4) (v := .ref q_8) (ty := (.array .int)) (C := R_Df) (T := F_Df) (N := 5) hx hb hg i_Df t_Df t_Df_ok n_Df hown hK hP hD hS 0 rfl rfl 2 (by decide) (hg _ mw_261) (fun _ h9 => h9) rfl hin rfl (by decide +kernel) rfl rfl (Nat.le_of_ble_eq_true rfl) d_Df_init_10 (fun H locs hP hD hS => ?_)
  have hP : va_P D vC [(h0, .inr (4, [.null, .null, .ref q_8, .null, .int 0])), (q_8, .inl (kA 1, 128, .inl (fun _ => 0)))] H := hP
  have hD : va_D A [(h0, .inr (4, [.null, .null, .ref q_8, .null, .int 0])), (q_8, .inl (kA 1, 128, .inl (fun _ => 0)))] := hD
  refine lv_aload_n hx hb d_Df_init_13 rfl (lv_at hl 0 rfl) ?_
  refine lv_sipush (v := 128) hx hb d_Df_init_14 (by decide) ?_
  refine xn_newa (atype := .int) (a0 := (128, .inl (fun _ => 0))) (N' := 128) (ty := .int) hx hb (hg _ mw_138) rfl hK hP hD hS hA 1 rfl (fun _ => rfl) (by decide) (by decide) (by decide) (Nat.le_of_ble_eq_true rfl) (Nat.le_of_ble_eq_true rfl) d_Df_init_17 (fun q_17 H hP hD hS => ?_)
  have hP : va_P D vC [(h0, .inr (4, [.null, .null, .ref q_8, .null, .int 0])), (q_8, .inl (kA 1, 128, .inl (fun _ => 0))), (q_17, .inl (kA 1, 128, .inl (fun _ => 0)))] H := hP
  have hD : va_D A [(h0, .inr (4, [.null, .null, .ref q_8, .null, .int 0])), (q_8, .inl (kA 1, 128, .inl (fun _ => 0))), (q_17, .inl (kA 1, 128, .inl (fun _ => 0)))] := hD
  refine W.widen (k := 2) (n := 256) (Nat.le_of_ble_eq_true rfl) (Nat.le_of_ble_eq_true rfl) ?_
  refine va_putF (D := D) (ci := 4) (v := .ref q_17) (ty := (.array .int)) (C := R_Df) (T := F_Df) (N := 5) hx hb hg i_Df t_Df t_Df_ok n_Df hown hK hP hD hS 0 rfl rfl 3 (by decide) (hg _ mw_262) (fun _ h9 => h9) rfl hin rfl (by decide +kernel) rfl rfl (Nat.le_of_ble_eq_true rfl) d_Df_init_19 (fun H locs hP hD hS => ?_)
  have hP : va_P D vC [(h0, .inr (4, [.null, .null, .ref q_8, .ref q_17, .int 0])), (q_8, .inl (kA 1, 128, .inl (fun _ => 0))), (q_17, .inl (kA 1, 128, .inl (fun _ => 0)))] H := hP
  have hD : va_D A [(h0, .inr (4, [.null, .null, .ref q_8, .ref q_17, .int 0])), (q_8, .inl (kA 1, 128, .inl (fun _ => 0))), (q_17, .inl (kA 1, 128, .inl (fun _ => 0)))] := hD
  refine lv_aload_n hx hb d_Df_init_22 rfl (lv_at hl 0 rfl) ?_
  refine lv_aload_n hx hb d_Df_init_23 rfl (lv_at hl 1 rfl) ?_
  refine va_putF (D := D) (ci := 4) (v := .ref tx) (ty := (.object "RecordLake$Text")) (C := R_Df) (T := F_Df) (N := 5) hx hb hg i_Df t_Df t_Df_ok n_Df hown hK hP hD hS 0 rfl rfl 0 (by decide) (hg _ mw_259) (fun _ h9 => h9) rfl hin rfl (by decide +kernel) rfl rfl (Nat.le_of_ble_eq_true rfl) d_Df_init_24 (fun H locs hP hD hS => ?_)
  have hP : va_P D vC [(h0, .inr (4, [.ref tx, .null, .ref q_8, .ref q_17, .int 0])), (q_8, .inl (kA 1, 128, .inl (fun _ => 0))), (q_17, .inl (kA 1, 128, .inl (fun _ => 0)))] H := hP
  have hD : va_D A [(h0, .inr (4, [.ref tx, .null, .ref q_8, .ref q_17, .int 0])), (q_8, .inl (kA 1, 128, .inl (fun _ => 0))), (q_17, .inl (kA 1, 128, .inl (fun _ => 0)))] := hD
  refine lv_aload_n hx hb d_Df_init_27 rfl (lv_at hl 0 rfl) ?_
  refine lv_aload_n hx hb d_Df_init_28 rfl (lv_at hl 2 rfl) ?_
  refine va_putF (D := D) (ci := 4) (v := .ref sc) (ty := (.object "RecordLake$Schemas")) (C := R_Df) (T := F_Df) (N := 5) hx hb hg i_Df t_Df t_Df_ok n_Df hown hK hP hD hS 0 rfl rfl 1 (by decide) (hg _ mw_260) (fun _ h9 => h9) rfl hin rfl (by decide +kernel) rfl rfl (Nat.le_of_ble_eq_true rfl) d_Df_init_29 (fun H locs hP hD hS => ?_)
  have hP : va_P D vC [(h0, .inr (4, [.ref tx, .ref sc, .ref q_8, .ref q_17, .int 0])), (q_8, .inl (kA 1, 128, .inl (fun _ => 0))), (q_17, .inl (kA 1, 128, .inl (fun _ => 0)))] H := hP
  have hD : va_D A [(h0, .inr (4, [.ref tx, .ref sc, .ref q_8, .ref q_17, .int 0])), (q_8, .inl (kA 1, 128, .inl (fun _ => 0))), (q_17, .inl (kA 1, 128, .inl (fun _ => 0)))] := hD
  refine W.widen (k := 2) (n := 256) (Nat.le_refl _) (Nat.le_refl _) ?_
  exact W.vret hx hb hr (fun t ht hW => ⟨⟨(fun i => match i with | 0 => q_8 | 1 => q_17 | _ => 0), rfl, trivial, by rw [ht]; exact hP, va_K.moved hW.alike hK, hD⟩, hS.F ht⟩) hS.2.2 d_Df_init_32

abbrev wSr0 (h0 : Nat) (a : Nat → Nat) (kA : Nat → ClassId) (tx : Nat) (sc : Nat) : va_W := [(h0, .inr (3, [.int 0, .int (-1), .ref tx, .ref sc, .ref (a 0), .int 0])), (a 0, .inr (4, [.ref tx, .ref sc, .ref (a 1), .ref (a 2), .int 0])), (a 1, .inl (kA 1, 128, .inl (fun _ => 0))), (a 2, .inl (kA 1, 128, .inl (fun _ => 0)))]
set_option maxHeartbeats 4000000 in
set_option maxRecDepth 100000 in
/-- new RecordLake$SchemaReader -/
theorem c_Sr_init (l : Launch) (D : va_G) (kA : Nat → ClassId) (kS : Nat → Nat) (sz : Nat) (h0 : Nat) (tx sc : Nat) : Met l y_Sr_init w_Sr_init { frames := 2, cells := 3, slots := 261, locals := 34 } (xPre D vC (tK kA) kS [.ref h0, .ref tx, .ref sc] ([(h0, .inr (3, [.int 0, .int 0, .null, .null, .null, .int 0]))]) sz) (va_Qv (fun (_ : Nat → Nat) => True) (xB D vC (tK kA) (fun a => wSr0 h0 a kA tx sc) (va_A ([(h0, .inr (3, [.int 0, .int 0, .null, .null, .null, .int 0]))]) sz)) (va_A ([(h0, .inr (3, [.int 0, .int 0, .null, .null, .null, .int 0]))]) sz)) 3 261 (va_A ([(h0, .inr (3, [.int 0, .int 0, .null, .null, .null, .int 0]))]) sz) := by
  refine Met.ofW (cc := b_Sr_init) (maxL := 3) (ret := none) (by decide) rfl ?_
  intro p e s m args below meth c s₁ B hml hv
  obtain ⟨rfl, hsz, hP, hK, hD0, hN, hC⟩ := hv
  have hx := B.exec
  have hb := B.bytes
  have hr := B.returns
  have hts := atoms_spec (ws := w_Sr_init) B.pre
  have hg : ∀ w ∈ gW, w.before _ s = true := fun w h => hts w (List.mem_cons_of_mem _ h)
  have hown : s.vm.findClass R_Sr = some m.cls := findClass_of_methodNamed B.named
  have hlocks := B.notSynchronized
  have hin : meth.name = "<init>" := (name_of_methodNamed B.named B.method).1
  subst hsz
  have hD := hD0.self (sz := s.heap.size)
  generalize hAe : va_A ([(h0, .inr (3, [.int 0, .int 0, .null, .null, .null, .int 0]))]) s.heap.size = A at hD hC ⊢
  have hA : ∀ q : Nat, s.heap.size ≤ q → A q := fun q h => by rw [← hAe]; exact Or.inr h
  have hS : va_S A s.heap s.heap [] := va_S.rf
  have hP : va_P D vC [(h0, .inr (3, [.int 0, .int 0, .null, .null, .null, .int 0]))] s.heap := hP
  have hD : va_D A [(h0, .inr (3, [.int 0, .int 0, .null, .null, .null, .int 0]))] := hD
  have hl := lv_entry ([.ref h0, .ref tx, .ref sc]) (n := 3) (Nat.le_of_ble_eq_true rfl)
  rw [lg_entry_eq]
  generalize (lg_sl ([.ref h0, .ref tx, .ref sc]) ++ List.replicate (3 - (lg_sl ([.ref h0, .ref tx, .ref sc])).length) Slot.unset).toArray = ls at hl ⊢
  have hl : lv_has ls 3 [(0, .ref h0), (1, .ref tx), (2, .ref sc)] := hl
  refine lv_aload_n hx hb d_Sr_init_0 rfl (lv_at hl 0 rfl) ?_
  refine W.objInit hx hb hown (hg _ mw_252) (hg _ mw_34) (hg _ mw_35) rfl (by rw [hml]; exact hl.1) rfl d_Sr_init_1 (Nat.le_of_ble_eq_true rfl) (Nat.le_of_ble_eq_true rfl) ?_
  refine W.eq (g2 := F0 m 4 ls []) rfl ?_
  refine lv_aload_n hx hb d_Sr_init_4 rfl (lv_at hl 0 rfl) ?_
  refine lv_aload_n hx hb d_Sr_init_5 rfl (lv_at hl 1 rfl) ?_
  refine va_putF (D := D) (ci := 3) (v := .ref tx) (ty := (.object "RecordLake$Text")) (C := R_Sr) (T := F_Sr) (N := 6) hx hb hg i_Sr t_Sr t_Sr_ok n_Sr hown hK hP hD hS 0 rfl rfl 2 (by decide) (hg _ mw_279) (fun _ h9 => h9) rfl hin rfl (by decide +kernel) rfl rfl (Nat.le_of_ble_eq_true rfl) d_Sr_init_6 (fun H locs hP hD hS => ?_)
  have hP : va_P D vC [(h0, .inr (3, [.int 0, .int 0, .ref tx, .null, .null, .int 0]))] H := hP
  have hD : va_D A [(h0, .inr (3, [.int 0, .int 0, .ref tx, .null, .null, .int 0]))] := hD
  refine lv_aload_n hx hb d_Sr_init_9 rfl (lv_at hl 0 rfl) ?_
  refine lv_aload_n hx hb d_Sr_init_10 rfl (lv_at hl 2 rfl) ?_
  refine va_putF (D := D) (ci := 3) (v := .ref sc) (ty := (.object "RecordLake$Schemas")) (C := R_Sr) (T := F_Sr) (N := 6) hx hb hg i_Sr t_Sr t_Sr_ok n_Sr hown hK hP hD hS 0 rfl rfl 3 (by decide) (hg _ mw_280) (fun _ h9 => h9) rfl hin rfl (by decide +kernel) rfl rfl (Nat.le_of_ble_eq_true rfl) d_Sr_init_11 (fun H locs hP hD hS => ?_)
  have hP : va_P D vC [(h0, .inr (3, [.int 0, .int 0, .ref tx, .ref sc, .null, .int 0]))] H := hP
  have hD : va_D A [(h0, .inr (3, [.int 0, .int 0, .ref tx, .ref sc, .null, .int 0]))] := hD
  refine lv_aload_n hx hb d_Sr_init_14 rfl (lv_at hl 0 rfl) ?_
  refine va_new (ci := 4) (fs := [.null, .null, .null, .null, .int 0]) (C := R_Df) (T := F_Df) (N := 5) hx hb hg i_Df t_Df t_Df_ok hown (hg _ mw_253) (hg _ mw_254) (hg _ mw_6) hK hP hD hS hA rfl (fun j hj => by rcases (show j = 0 ∨ j = 1 ∨ j = 2 ∨ j = 3 ∨ j = 4 by omega) with rfl | rfl | rfl | rfl | rfl <;> rfl) (Nat.le_of_ble_eq_true rfl) (Nat.le_of_ble_eq_true rfl) d_Sr_init_15 (fun q_15 H hP hD hS => ?_)
  have hP : va_P D vC [(h0, .inr (3, [.int 0, .int 0, .ref tx, .ref sc, .null, .int 0])), (q_15, .inr (4, [.null, .null, .null, .null, .int 0]))] H := hP
  have hD : va_D A [(h0, .inr (3, [.int 0, .int 0, .ref tx, .ref sc, .null, .int 0])), (q_15, .inr (4, [.null, .null, .null, .null, .int 0]))] := hD
  refine W.widen (k := 1) (n := 5) (Nat.le_of_ble_eq_true rfl) (Nat.le_of_ble_eq_true rfl) ?_
  refine lv_dup hx hb d_Sr_init_18 rfl ?_
  refine lv_aload_n hx hb d_Sr_init_19 rfl (lv_at hl 1 rfl) ?_
  refine lv_aload_n hx hb d_Sr_init_20 rfl (lv_at hl 2 rfl) ?_
  refine xc_v (wr := [(h0, .inr (3, [.int 0, .int 0, .ref tx, .ref sc, .null, .int 0]))]) (va_runI (As := [.ref tx, .ref sc]) (rest := [.ref q_15, .ref h0]) ⟨hx, hb, hml, hown, hg⟩ (c_Df_init l D kA kS H.size q_15 tx sc) (cwI 2 hg (xg_w mw_257) rfl rfl rfl (hg _ mw_6) (hg _ mw_255) (hg _ mw_256) rfl (by decide +kernel) ⟨Nat.le_of_ble_eq_true rfl, Nat.le_of_ble_eq_true rfl⟩) (xc_pre hK hN hC hP hD hS hA [1] (by decide) rfl) rfl rfl hl.1 rfl (lv_room (Nat.le_of_ble_eq_true rfl)) d_Sr_init_21 ⟨Nat.le_of_ble_eq_true rfl, Nat.le_of_ble_eq_true rfl⟩) hP hD hS hA [1] [0] rfl rfl (by decide) (by decide) (fun a_21 H locs hw hP hD hS => ?_)
  have hP : va_P D vC [(h0, .inr (3, [.int 0, .int 0, .ref tx, .ref sc, .null, .int 0])), (q_15, .inr (4, [.ref tx, .ref sc, .ref (a_21 0), .ref (a_21 1), .int 0])), (a_21 0, .inl (kA 1, 128, .inl (fun _ => 0))), (a_21 1, .inl (kA 1, 128, .inl (fun _ => 0)))] H := hP
  have hD : va_D A [(h0, .inr (3, [.int 0, .int 0, .ref tx, .ref sc, .null, .int 0])), (q_15, .inr (4, [.ref tx, .ref sc, .ref (a_21 0), .ref (a_21 1), .int 0])), (a_21 0, .inl (kA 1, 128, .inl (fun _ => 0))), (a_21 1, .inl (kA 1, 128, .inl (fun _ => 0)))] := hD
  refine W.widen (k := 3) (n := 261) (Nat.le_of_ble_eq_true rfl) (Nat.le_of_ble_eq_true rfl) ?_
  refine va_putF (D := D) (ci := 3) (v := .ref q_15) (ty := (.object "RecordLake$Defaults")) (C := R_Sr) (T := F_Sr) (N := 6) hx hb hg i_Sr t_Sr t_Sr_ok n_Sr hown hK hP hD hS 0 rfl rfl 4 (by decide) (hg _ mw_281) (fun _ h9 => h9) rfl hin rfl (by decide +kernel) rfl rfl (Nat.le_of_ble_eq_true rfl) d_Sr_init_24 (fun H locs hP hD hS => ?_)
  have hP : va_P D vC [(h0, .inr (3, [.int 0, .int 0, .ref tx, .ref sc, .ref q_15, .int 0])), (q_15, .inr (4, [.ref tx, .ref sc, .ref (a_21 0), .ref (a_21 1), .int 0])), (a_21 0, .inl (kA 1, 128, .inl (fun _ => 0))), (a_21 1, .inl (kA 1, 128, .inl (fun _ => 0)))] H := hP
  have hD : va_D A [(h0, .inr (3, [.int 0, .int 0, .ref tx, .ref sc, .ref q_15, .int 0])), (q_15, .inr (4, [.ref tx, .ref sc, .ref (a_21 0), .ref (a_21 1), .int 0])), (a_21 0, .inl (kA 1, 128, .inl (fun _ => 0))), (a_21 1, .inl (kA 1, 128, .inl (fun _ => 0)))] := hD
  refine lv_aload_n hx hb d_Sr_init_27 rfl (lv_at hl 0 rfl) ?_
  refine lv_iconst (v := 0) hx hb d_Sr_init_28 (by decide) ?_
  refine va_put (D := D) (ci := 3) (v := .int 0) (ty := .int) (C := R_Sr) (T := F_Sr) (N := 6) hx hb hg i_Sr t_Sr t_Sr_ok n_Sr hown hK hP hD hS 0 rfl rfl 0 (by decide) (hg _ mw_275) (fun _ h9 => h9) rfl (by decide +kernel) rfl rfl (Nat.le_of_ble_eq_true rfl) d_Sr_init_29 (fun H locs hP hD hS => ?_)
  have hP : va_P D vC [(h0, .inr (3, [.int 0, .int 0, .ref tx, .ref sc, .ref q_15, .int 0])), (q_15, .inr (4, [.ref tx, .ref sc, .ref (a_21 0), .ref (a_21 1), .int 0])), (a_21 0, .inl (kA 1, 128, .inl (fun _ => 0))), (a_21 1, .inl (kA 1, 128, .inl (fun _ => 0)))] H := hP
  have hD : va_D A [(h0, .inr (3, [.int 0, .int 0, .ref tx, .ref sc, .ref q_15, .int 0])), (q_15, .inr (4, [.ref tx, .ref sc, .ref (a_21 0), .ref (a_21 1), .int 0])), (a_21 0, .inl (kA 1, 128, .inl (fun _ => 0))), (a_21 1, .inl (kA 1, 128, .inl (fun _ => 0)))] := hD
  refine lv_aload_n hx hb d_Sr_init_32 rfl (lv_at hl 0 rfl) ?_
  refine lv_iconst (v := (-1)) hx hb d_Sr_init_33 (by decide) ?_
  refine va_put (D := D) (ci := 3) (v := .int (-1)) (ty := .int) (C := R_Sr) (T := F_Sr) (N := 6) hx hb hg i_Sr t_Sr t_Sr_ok n_Sr hown hK hP hD hS 0 rfl rfl 1 (by decide) (hg _ mw_277) (fun _ h9 => h9) rfl (by decide +kernel) rfl rfl (Nat.le_of_ble_eq_true rfl) d_Sr_init_34 (fun H locs hP hD hS => ?_)
  have hP : va_P D vC [(h0, .inr (3, [.int 0, .int (-1), .ref tx, .ref sc, .ref q_15, .int 0])), (q_15, .inr (4, [.ref tx, .ref sc, .ref (a_21 0), .ref (a_21 1), .int 0])), (a_21 0, .inl (kA 1, 128, .inl (fun _ => 0))), (a_21 1, .inl (kA 1, 128, .inl (fun _ => 0)))] H := hP
  have hD : va_D A [(h0, .inr (3, [.int 0, .int (-1), .ref tx, .ref sc, .ref q_15, .int 0])), (q_15, .inr (4, [.ref tx, .ref sc, .ref (a_21 0), .ref (a_21 1), .int 0])), (a_21 0, .inl (kA 1, 128, .inl (fun _ => 0))), (a_21 1, .inl (kA 1, 128, .inl (fun _ => 0)))] := hD
  refine W.widen (k := 3) (n := 261) (Nat.le_refl _) (Nat.le_refl _) ?_
  exact W.vret hx hb hr (fun t ht hW => ⟨⟨(fun i => match i with | 0 => q_15 | 1 => a_21 0 | 2 => a_21 1 | _ => 0), rfl, trivial, by rw [ht]; exact hP, va_K.moved hW.alike hK, hD⟩, hS.F ht⟩) hS.2.2 d_Sr_init_37

abbrev wPf0 (h0 : Nat) (a : Nat → Nat) (kA : Nat → ClassId) (sc : Nat) : va_W := [(h0, .inr (5, [.ref sc, .ref (a 0), .ref (a 2), .ref (a 0), .int 0])), (a 0, .inr (0, [.ref (a 1), .int (nI 0)])), (a 1, .inl (kA 0, 4096, .inl (fun _ => 0))), (a 2, .inr (0, [.ref (a 3), .int (nI 0)])), (a 3, .inl (kA 0, 4096, .inl (fun _ => 0)))]
set_option maxHeartbeats 4000000 in
set_option maxRecDepth 100000 in
/-- new RecordLake$PlainForm -/
theorem c_Pf_init (l : Launch) (D : va_G) (kA : Nat → ClassId) (kS : Nat → Nat) (sz : Nat) (h0 : Nat) (sc : Nat) : Met l y_Pf_init w_Pf_init { frames := 2, cells := 4, slots := 8196, locals := 33 } (xPre D vC (tK kA) kS [.ref h0, .ref sc] ([(h0, .inr (5, [.null, .null, .null, .null, .int 0]))]) sz) (va_Qv (fun (_ : Nat → Nat) => True) (xB D vC (tK kA) (fun a => wPf0 h0 a kA sc) (va_A ([(h0, .inr (5, [.null, .null, .null, .null, .int 0]))]) sz)) (va_A ([(h0, .inr (5, [.null, .null, .null, .null, .int 0]))]) sz)) 4 8196 (va_A ([(h0, .inr (5, [.null, .null, .null, .null, .int 0]))]) sz) := by
  refine Met.ofW (cc := b_Pf_init) (maxL := 2) (ret := none) (by decide) rfl ?_
  intro p e s m args below meth c s₁ B hml hv
  obtain ⟨rfl, hsz, hP, hK, hD0, hN, hC⟩ := hv
  have hx := B.exec
  have hb := B.bytes
  have hr := B.returns
  have hts := atoms_spec (ws := w_Pf_init) B.pre
  have hg : ∀ w ∈ gW, w.before _ s = true := fun w h => hts w (List.mem_cons_of_mem _ h)
  have hown : s.vm.findClass R_Pf = some m.cls := findClass_of_methodNamed B.named
  have hlocks := B.notSynchronized
  have hin : meth.name = "<init>" := (name_of_methodNamed B.named B.method).1
  subst hsz
  have hD := hD0.self (sz := s.heap.size)
  generalize hAe : va_A ([(h0, .inr (5, [.null, .null, .null, .null, .int 0]))]) s.heap.size = A at hD hC ⊢
  have hA : ∀ q : Nat, s.heap.size ≤ q → A q := fun q h => by rw [← hAe]; exact Or.inr h
  have hS : va_S A s.heap s.heap [] := va_S.rf
  have hP : va_P D vC [(h0, .inr (5, [.null, .null, .null, .null, .int 0]))] s.heap := hP
  have hD : va_D A [(h0, .inr (5, [.null, .null, .null, .null, .int 0]))] := hD
  have hl := lv_entry ([.ref h0, .ref sc]) (n := 2) (Nat.le_of_ble_eq_true rfl)
  rw [lg_entry_eq]
  generalize (lg_sl ([.ref h0, .ref sc]) ++ List.replicate (2 - (lg_sl ([.ref h0, .ref sc])).length) Slot.unset).toArray = ls at hl ⊢
  have hl : lv_has ls 2 [(0, .ref h0), (1, .ref sc)] := hl
  refine lv_aload_n hx hb d_Pf_init_0 rfl (lv_at hl 0 rfl) ?_
  refine W.objInit hx hb hown (hg _ mw_301) (hg _ mw_34) (hg _ mw_35) rfl (by rw [hml]; exact hl.1) rfl d_Pf_init_1 (Nat.le_of_ble_eq_true rfl) (Nat.le_of_ble_eq_true rfl) ?_
  refine W.eq (g2 := F0 m 4 ls []) rfl ?_
  refine lv_aload_n hx hb d_Pf_init_4 rfl (lv_at hl 0 rfl) ?_
  refine va_new (ci := 0) (fs := [.null, .int 0]) (C := R_By) (T := F_By) (N := 2) hx hb hg i_By t_By t_By_ok hown (hg _ mw_302) (hg _ mw_37) (hg _ mw_2) hK hP hD hS hA rfl (fun j hj => by rcases (show j = 0 ∨ j = 1 by omega) with rfl | rfl <;> rfl) (Nat.le_of_ble_eq_true rfl) (Nat.le_of_ble_eq_true rfl) d_Pf_init_5 (fun q_5 H hP hD hS => ?_)
  have hP : va_P D vC [(h0, .inr (5, [.null, .null, .null, .null, .int 0])), (q_5, .inr (0, [.null, .int 0]))] H := hP
  have hD : va_D A [(h0, .inr (5, [.null, .null, .null, .null, .int 0])), (q_5, .inr (0, [.null, .int 0]))] := hD
  refine W.widen (k := 1) (n := 2) (Nat.le_of_ble_eq_true rfl) (Nat.le_of_ble_eq_true rfl) ?_
  refine lv_dup hx hb d_Pf_init_8 rfl ?_
  refine lv_sipush (v := 4096) hx hb d_Pf_init_9 (by decide) ?_
  refine xc_v (wr := [(h0, .inr (5, [.null, .null, .null, .null, .int 0]))]) (va_runI (As := [.int 4096]) (rest := [.ref q_5, .ref h0]) ⟨hx, hb, hml, hown, hg⟩ (c_By_init l D kA kS H.size q_5 4096 4096 (by decide +kernel) (by decide)) (cwI 1 hg (xg_w mw_40) rfl rfl rfl (hg _ mw_2) (hg _ mw_303) (hg _ mw_39) rfl (by decide +kernel) ⟨Nat.le_of_ble_eq_true rfl, Nat.le_of_ble_eq_true rfl⟩) (xc_pre hK hN hC hP hD hS hA [1] (by decide) rfl) rfl rfl hl.1 rfl (lv_room (Nat.le_of_ble_eq_true rfl)) d_Pf_init_12 ⟨Nat.le_of_ble_eq_true rfl, Nat.le_of_ble_eq_true rfl⟩) hP hD hS hA [1] [0] rfl rfl (by decide) (by decide) (fun h_12 H locs hw hP hD hS => ?_)
  have hP : va_P D vC [(h0, .inr (5, [.null, .null, .null, .null, .int 0])), (q_5, .inr (0, [.ref h_12, .int (nI 0)])), (h_12, .inl (kA 0, 4096, .inl (fun _ => 0)))] H := hP
  have hD : va_D A [(h0, .inr (5, [.null, .null, .null, .null, .int 0])), (q_5, .inr (0, [.ref h_12, .int (nI 0)])), (h_12, .inl (kA 0, 4096, .inl (fun _ => 0)))] := hD
  refine W.widen (k := 2) (n := 4098) (Nat.le_of_ble_eq_true rfl) (Nat.le_of_ble_eq_true rfl) ?_
  refine va_putF (D := D) (ci := 5) (v := .ref q_5) (ty := (.object "RecordLake$Bytes")) (C := R_Pf) (T := F_Pf) (N := 5) hx hb hg i_Pf t_Pf t_Pf_ok n_Pf hown hK hP hD hS 0 rfl rfl 1 (by decide) (hg _ mw_305) (fun _ h9 => h9) rfl hin rfl (by decide +kernel) rfl rfl (Nat.le_of_ble_eq_true rfl) d_Pf_init_15 (fun H locs hP hD hS => ?_)
  have hP : va_P D vC [(h0, .inr (5, [.null, .ref q_5, .null, .null, .int 0])), (q_5, .inr (0, [.ref h_12, .int (nI 0)])), (h_12, .inl (kA 0, 4096, .inl (fun _ => 0)))] H := hP
  have hD : va_D A [(h0, .inr (5, [.null, .ref q_5, .null, .null, .int 0])), (q_5, .inr (0, [.ref h_12, .int (nI 0)])), (h_12, .inl (kA 0, 4096, .inl (fun _ => 0)))] := hD
  refine lv_aload_n hx hb d_Pf_init_18 rfl (lv_at hl 0 rfl) ?_
  refine va_new (ci := 0) (fs := [.null, .int 0]) (C := R_By) (T := F_By) (N := 2) hx hb hg i_By t_By t_By_ok hown (hg _ mw_302) (hg _ mw_37) (hg _ mw_2) hK hP hD hS hA rfl (fun j hj => by rcases (show j = 0 ∨ j = 1 by omega) with rfl | rfl <;> rfl) (Nat.le_of_ble_eq_true rfl) (Nat.le_of_ble_eq_true rfl) d_Pf_init_19 (fun q_19 H hP hD hS => ?_)
  have hP : va_P D vC [(h0, .inr (5, [.null, .ref q_5, .null, .null, .int 0])), (q_5, .inr (0, [.ref h_12, .int (nI 0)])), (h_12, .inl (kA 0, 4096, .inl (fun _ => 0))), (q_19, .inr (0, [.null, .int 0]))] H := hP
  have hD : va_D A [(h0, .inr (5, [.null, .ref q_5, .null, .null, .int 0])), (q_5, .inr (0, [.ref h_12, .int (nI 0)])), (h_12, .inl (kA 0, 4096, .inl (fun _ => 0))), (q_19, .inr (0, [.null, .int 0]))] := hD
  refine W.widen (k := 3) (n := 4100) (Nat.le_of_ble_eq_true rfl) (Nat.le_of_ble_eq_true rfl) ?_
  refine lv_dup hx hb d_Pf_init_22 rfl ?_
  refine lv_sipush (v := 4096) hx hb d_Pf_init_23 (by decide) ?_
  refine xc_v (wr := [(h0, .inr (5, [.null, .ref q_5, .null, .null, .int 0])), (q_5, .inr (0, [.ref h_12, .int (nI 0)])), (h_12, .inl (kA 0, 4096, .inl (fun _ => 0)))]) (va_runI (As := [.int 4096]) (rest := [.ref q_19, .ref h0]) ⟨hx, hb, hml, hown, hg⟩ (c_By_init l D kA kS H.size q_19 4096 4096 (by decide +kernel) (by decide)) (cwI 1 hg (xg_w mw_40) rfl rfl rfl (hg _ mw_2) (hg _ mw_303) (hg _ mw_39) rfl (by decide +kernel) ⟨Nat.le_of_ble_eq_true rfl, Nat.le_of_ble_eq_true rfl⟩) (xc_pre hK hN hC hP hD hS hA [3] (by decide) rfl) rfl rfl hl.1 rfl (lv_room (Nat.le_of_ble_eq_true rfl)) d_Pf_init_26 ⟨Nat.le_of_ble_eq_true rfl, Nat.le_of_ble_eq_true rfl⟩) hP hD hS hA [3] [0, 1, 2] rfl rfl (by decide) (by decide) (fun h_26 H locs hw hP hD hS => ?_)
  have hP : va_P D vC [(h0, .inr (5, [.null, .ref q_5, .null, .null, .int 0])), (q_5, .inr (0, [.ref h_12, .int (nI 0)])), (h_12, .inl (kA 0, 4096, .inl (fun _ => 0))), (q_19, .inr (0, [.ref h_26, .int (nI 0)])), (h_26, .inl (kA 0, 4096, .inl (fun _ => 0)))] H := hP
  have hD : va_D A [(h0, .inr (5, [.null, .ref q_5, .null, .null, .int 0])), (q_5, .inr (0, [.ref h_12, .int (nI 0)])), (h_12, .inl (kA 0, 4096, .inl (fun _ => 0))), (q_19, .inr (0, [.ref h_26, .int (nI 0)])), (h_26, .inl (kA 0, 4096, .inl (fun _ => 0)))] := hD
  refine W.widen (k := 4) (n := 8196) (Nat.le_of_ble_eq_true rfl) (Nat.le_of_ble_eq_true rfl) ?_
  refine va_putF (D := D) (ci := 5) (v := .ref q_19) (ty := (.object "RecordLake$Bytes")) (C := R_Pf) (T := F_Pf) (N := 5) hx hb hg i_Pf t_Pf t_Pf_ok n_Pf hown hK hP hD hS 0 rfl rfl 2 (by decide) (hg _ mw_306) (fun _ h9 => h9) rfl hin rfl (by decide +kernel) rfl rfl (Nat.le_of_ble_eq_true rfl) d_Pf_init_29 (fun H locs hP hD hS => ?_)
  have hP : va_P D vC [(h0, .inr (5, [.null, .ref q_5, .ref q_19, .null, .int 0])), (q_5, .inr (0, [.ref h_12, .int (nI 0)])), (h_12, .inl (kA 0, 4096, .inl (fun _ => 0))), (q_19, .inr (0, [.ref h_26, .int (nI 0)])), (h_26, .inl (kA 0, 4096, .inl (fun _ => 0)))] H := hP
  have hD : va_D A [(h0, .inr (5, [.null, .ref q_5, .ref q_19, .null, .int 0])), (q_5, .inr (0, [.ref h_12, .int (nI 0)])), (h_12, .inl (kA 0, 4096, .inl (fun _ => 0))), (q_19, .inr (0, [.ref h_26, .int (nI 0)])), (h_26, .inl (kA 0, 4096, .inl (fun _ => 0)))] := hD
  refine lv_aload_n hx hb d_Pf_init_32 rfl (lv_at hl 0 rfl) ?_
  refine lv_aload_n hx hb d_Pf_init_33 rfl (lv_at hl 0 rfl) ?_
  refine va_get (D := D) (ci := 5) (v := .ref q_5) (C := R_Pf) (T := F_Pf) (N := 5) hx hb hg i_Pf hown hK hP 0 rfl rfl 1 (by decide) (hg _ mw_305) (fun _ h9 => h9) rfl d_Pf_init_34 ?_
  refine va_put (D := D) (ci := 5) (v := .ref q_5) (ty := (.object "RecordLake$Bytes")) (C := R_Pf) (T := F_Pf) (N := 5) hx hb hg i_Pf t_Pf t_Pf_ok n_Pf hown hK hP hD hS 0 rfl rfl 3 (by decide) (hg _ mw_307) (fun _ h9 => h9) rfl (by decide +kernel) rfl rfl (Nat.le_of_ble_eq_true rfl) d_Pf_init_37 (fun H locs hP hD hS => ?_)
  have hP : va_P D vC [(h0, .inr (5, [.null, .ref q_5, .ref q_19, .ref q_5, .int 0])), (q_5, .inr (0, [.ref h_12, .int (nI 0)])), (h_12, .inl (kA 0, 4096, .inl (fun _ => 0))), (q_19, .inr (0, [.ref h_26, .int (nI 0)])), (h_26, .inl (kA 0, 4096, .inl (fun _ => 0)))] H := hP
  have hD : va_D A [(h0, .inr (5, [.null, .ref q_5, .ref q_19, .ref q_5, .int 0])), (q_5, .inr (0, [.ref h_12, .int (nI 0)])), (h_12, .inl (kA 0, 4096, .inl (fun _ => 0))), (q_19, .inr (0, [.ref h_26, .int (nI 0)])), (h_26, .inl (kA 0, 4096, .inl (fun _ => 0)))] := hD
  refine lv_aload_n hx hb d_Pf_init_40 rfl (lv_at hl 0 rfl) ?_
  refine lv_aload_n hx hb d_Pf_init_41 rfl (lv_at hl 1 rfl) ?_
  refine va_putF (D := D) (ci := 5) (v := .ref sc) (ty := (.object "RecordLake$Schemas")) (C := R_Pf) (T := F_Pf) (N := 5) hx hb hg i_Pf t_Pf t_Pf_ok n_Pf hown hK hP hD hS 0 rfl rfl 0 (by decide) (hg _ mw_304) (fun _ h9 => h9) rfl hin rfl (by decide +kernel) rfl rfl (Nat.le_of_ble_eq_true rfl) d_Pf_init_42 (fun H locs hP hD hS => ?_)
  have hP : va_P D vC [(h0, .inr (5, [.ref sc, .ref q_5, .ref q_19, .ref q_5, .int 0])), (q_5, .inr (0, [.ref h_12, .int (nI 0)])), (h_12, .inl (kA 0, 4096, .inl (fun _ => 0))), (q_19, .inr (0, [.ref h_26, .int (nI 0)])), (h_26, .inl (kA 0, 4096, .inl (fun _ => 0)))] H := hP
  have hD : va_D A [(h0, .inr (5, [.ref sc, .ref q_5, .ref q_19, .ref q_5, .int 0])), (q_5, .inr (0, [.ref h_12, .int (nI 0)])), (h_12, .inl (kA 0, 4096, .inl (fun _ => 0))), (q_19, .inr (0, [.ref h_26, .int (nI 0)])), (h_26, .inl (kA 0, 4096, .inl (fun _ => 0)))] := hD
  refine W.widen (k := 4) (n := 8196) (Nat.le_refl _) (Nat.le_refl _) ?_
  exact W.vret hx hb hr (fun t ht hW => ⟨⟨(fun i => match i with | 0 => q_5 | 1 => h_12 | 2 => q_19 | 3 => h_26 | _ => 0), rfl, trivial, by rw [ht]; exact hP, va_K.moved hW.alike hK, hD⟩, hS.F ht⟩) hS.2.2 d_Pf_init_45

abbrev wLo0 (h0 : Nat) (a : Nat → Nat) (kA : Nat → ClassId) (sc : Nat) : va_W := [(h0, .inr (6, [.ref (a 0), .int 0, .int 0, .int 0, .long 0, .ref sc, .ref (a 1), .int 0, .int 0, .int 0])), (a 0, .inr (0, [.ref (a 1), .int (nI 0)])), (a 1, .inl (kA 0, 4096, .inl (fun _ => 0)))]
set_option maxHeartbeats 4000000 in
set_option maxRecDepth 100000 in
/-- new RecordLake$Looker -/
theorem c_Lo_init (l : Launch) (D : va_G) (kA : Nat → ClassId) (kS : Nat → Nat) (sz : Nat) (h0 : Nat) (sc : Nat) : Met l y_Lo_init w_Lo_init { frames := 2, cells := 2, slots := 4098, locals := 33 } (xPre D vC (tK kA) kS [.ref h0, .ref sc] ([(h0, .inr (6, [.null, .int 0, .int 0, .int 0, .long 0, .null, .null, .int 0, .int 0, .int 0]))]) sz) (va_Qv (fun (_ : Nat → Nat) => True) (xB D vC (tK kA) (fun a => wLo0 h0 a kA sc) (va_A ([(h0, .inr (6, [.null, .int 0, .int 0, .int 0, .long 0, .null, .null, .int 0, .int 0, .int 0]))]) sz)) (va_A ([(h0, .inr (6, [.null, .int 0, .int 0, .int 0, .long 0, .null, .null, .int 0, .int 0, .int 0]))]) sz)) 2 4098 (va_A ([(h0, .inr (6, [.null, .int 0, .int 0, .int 0, .long 0, .null, .null, .int 0, .int 0, .int 0]))]) sz) := by
  refine Met.ofW (cc := b_Lo_init) (maxL := 2) (ret := none) (by decide) rfl ?_
  intro p e s m args below meth c s₁ B hml hv
  obtain ⟨rfl, hsz, hP, hK, hD0, hN, hC⟩ := hv
  have hx := B.exec
  have hb := B.bytes
  have hr := B.returns
  have hts := atoms_spec (ws := w_Lo_init) B.pre
  have hg : ∀ w ∈ gW, w.before _ s = true := fun w h => hts w (List.mem_cons_of_mem _ h)
  have hown : s.vm.findClass R_Lo = some m.cls := findClass_of_methodNamed B.named
  have hlocks := B.notSynchronized
  have hin : meth.name = "<init>" := (name_of_methodNamed B.named B.method).1
  subst hsz
  have hD := hD0.self (sz := s.heap.size)
  generalize hAe : va_A ([(h0, .inr (6, [.null, .int 0, .int 0, .int 0, .long 0, .null, .null, .int 0, .int 0, .int 0]))]) s.heap.size = A at hD hC ⊢
  have hA : ∀ q : Nat, s.heap.size ≤ q → A q := fun q h => by rw [← hAe]; exact Or.inr h
  have hS : va_S A s.heap s.heap [] := va_S.rf
  have hP : va_P D vC [(h0, .inr (6, [.null, .int 0, .int 0, .int 0, .long 0, .null, .null, .int 0, .int 0, .int 0]))] s.heap := hP
  have hD : va_D A [(h0, .inr (6, [.null, .int 0, .int 0, .int 0, .long 0, .null, .null, .int 0, .int 0, .int 0]))] := hD
  have hl := lv_entry ([.ref h0, .ref sc]) (n := 2) (Nat.le_of_ble_eq_true rfl)
  rw [lg_entry_eq]
  generalize (lg_sl ([.ref h0, .ref sc]) ++ List.replicate (2 - (lg_sl ([.ref h0, .ref sc])).length) Slot.unset).toArray = ls at hl ⊢
  have hl : lv_has ls 2 [(0, .ref h0), (1, .ref sc)] := hl
  refine lv_aload_n hx hb d_Lo_init_0 rfl (lv_at hl 0 rfl) ?_
  refine W.objInit hx hb hown (hg _ mw_325) (hg _ mw_34) (hg _ mw_35) rfl (by rw [hml]; exact hl.1) rfl d_Lo_init_1 (Nat.le_of_ble_eq_true rfl) (Nat.le_of_ble_eq_true rfl) ?_
  refine W.eq (g2 := F0 m 4 ls []) rfl ?_
  refine lv_aload_n hx hb d_Lo_init_4 rfl (lv_at hl 0 rfl) ?_
  refine va_new (ci := 0) (fs := [.null, .int 0]) (C := R_By) (T := F_By) (N := 2) hx hb hg i_By t_By t_By_ok hown (hg _ mw_326) (hg _ mw_37) (hg _ mw_2) hK hP hD hS hA rfl (fun j hj => by rcases (show j = 0 ∨ j = 1 by omega) with rfl | rfl <;> rfl) (Nat.le_of_ble_eq_true rfl) (Nat.le_of_ble_eq_true rfl) d_Lo_init_5 (fun q_5 H hP hD hS => ?_)
  have hP : va_P D vC [(h0, .inr (6, [.null, .int 0, .int 0, .int 0, .long 0, .null, .null, .int 0, .int 0, .int 0])), (q_5, .inr (0, [.null, .int 0]))] H := hP
  have hD : va_D A [(h0, .inr (6, [.null, .int 0, .int 0, .int 0, .long 0, .null, .null, .int 0, .int 0, .int 0])), (q_5, .inr (0, [.null, .int 0]))] := hD
  refine W.widen (k := 1) (n := 2) (Nat.le_of_ble_eq_true rfl) (Nat.le_of_ble_eq_true rfl) ?_
  refine lv_dup hx hb d_Lo_init_8 rfl ?_
  refine lv_sipush (v := 4096) hx hb d_Lo_init_9 (by decide) ?_
  refine xc_v (wr := [(h0, .inr (6, [.null, .int 0, .int 0, .int 0, .long 0, .null, .null, .int 0, .int 0, .int 0]))]) (va_runI (As := [.int 4096]) (rest := [.ref q_5, .ref h0]) ⟨hx, hb, hml, hown, hg⟩ (c_By_init l D kA kS H.size q_5 4096 4096 (by decide +kernel) (by decide)) (cwI 1 hg (xg_w mw_40) rfl rfl rfl (hg _ mw_2) (hg _ mw_327) (hg _ mw_39) rfl (by decide +kernel) ⟨Nat.le_of_ble_eq_true rfl, Nat.le_of_ble_eq_true rfl⟩) (xc_pre hK hN hC hP hD hS hA [1] (by decide) rfl) rfl rfl hl.1 rfl (lv_room (Nat.le_of_ble_eq_true rfl)) d_Lo_init_12 ⟨Nat.le_of_ble_eq_true rfl, Nat.le_of_ble_eq_true rfl⟩) hP hD hS hA [1] [0] rfl rfl (by decide) (by decide) (fun h_12 H locs hw hP hD hS => ?_)
  have hP : va_P D vC [(h0, .inr (6, [.null, .int 0, .int 0, .int 0, .long 0, .null, .null, .int 0, .int 0, .int 0])), (q_5, .inr (0, [.ref h_12, .int (nI 0)])), (h_12, .inl (kA 0, 4096, .inl (fun _ => 0)))] H := hP
  have hD : va_D A [(h0, .inr (6, [.null, .int 0, .int 0, .int 0, .long 0, .null, .null, .int 0, .int 0, .int 0])), (q_5, .inr (0, [.ref h_12, .int (nI 0)])), (h_12, .inl (kA 0, 4096, .inl (fun _ => 0)))] := hD
  refine W.widen (k := 2) (n := 4098) (Nat.le_of_ble_eq_true rfl) (Nat.le_of_ble_eq_true rfl) ?_
  refine va_putF (D := D) (ci := 6) (v := .ref q_5) (ty := (.object "RecordLake$Bytes")) (C := R_Lo) (T := F_Lo) (N := 10) hx hb hg i_Lo t_Lo t_Lo_ok n_Lo hown hK hP hD hS 0 rfl rfl 0 (by decide) (hg _ mw_328) (fun _ h9 => h9) rfl hin rfl (by decide +kernel) rfl rfl (Nat.le_of_ble_eq_true rfl) d_Lo_init_15 (fun H locs hP hD hS => ?_)
  have hP : va_P D vC [(h0, .inr (6, [.ref q_5, .int 0, .int 0, .int 0, .long 0, .null, .null, .int 0, .int 0, .int 0])), (q_5, .inr (0, [.ref h_12, .int (nI 0)])), (h_12, .inl (kA 0, 4096, .inl (fun _ => 0)))] H := hP
  have hD : va_D A [(h0, .inr (6, [.ref q_5, .int 0, .int 0, .int 0, .long 0, .null, .null, .int 0, .int 0, .int 0])), (q_5, .inr (0, [.ref h_12, .int (nI 0)])), (h_12, .inl (kA 0, 4096, .inl (fun _ => 0)))] := hD
  refine lv_aload_n hx hb d_Lo_init_18 rfl (lv_at hl 0 rfl) ?_
  refine lv_aload_n hx hb d_Lo_init_19 rfl (lv_at hl 0 rfl) ?_
  refine va_get (D := D) (ci := 6) (v := .ref q_5) (C := R_Lo) (T := F_Lo) (N := 10) hx hb hg i_Lo hown hK hP 0 rfl rfl 0 (by decide) (hg _ mw_328) (fun _ h9 => h9) rfl d_Lo_init_20 ?_
  refine va_get (D := D) (ci := 0) (v := .ref h_12) (C := R_By) (T := F_By) (N := 2) hx hb hg i_By hown hK hP 1 rfl rfl 0 (by decide) (hg _ mw_43) (fun _ h9 => h9) rfl d_Lo_init_23 ?_
  refine va_put (D := D) (ci := 6) (v := .ref h_12) (ty := (.array .byte)) (C := R_Lo) (T := F_Lo) (N := 10) hx hb hg i_Lo t_Lo t_Lo_ok n_Lo hown hK hP hD hS 0 rfl rfl 6 (by decide) (hg _ mw_338) (fun _ h9 => h9) rfl (by decide +kernel) rfl rfl (Nat.le_of_ble_eq_true rfl) d_Lo_init_26 (fun H locs hP hD hS => ?_)
  have hP : va_P D vC [(h0, .inr (6, [.ref q_5, .int 0, .int 0, .int 0, .long 0, .null, .ref h_12, .int 0, .int 0, .int 0])), (q_5, .inr (0, [.ref h_12, .int (nI 0)])), (h_12, .inl (kA 0, 4096, .inl (fun _ => 0)))] H := hP
  have hD : va_D A [(h0, .inr (6, [.ref q_5, .int 0, .int 0, .int 0, .long 0, .null, .ref h_12, .int 0, .int 0, .int 0])), (q_5, .inr (0, [.ref h_12, .int (nI 0)])), (h_12, .inl (kA 0, 4096, .inl (fun _ => 0)))] := hD
  refine lv_aload_n hx hb d_Lo_init_29 rfl (lv_at hl 0 rfl) ?_
  refine lv_aload_n hx hb d_Lo_init_30 rfl (lv_at hl 1 rfl) ?_
  refine va_putF (D := D) (ci := 6) (v := .ref sc) (ty := (.object "RecordLake$Schemas")) (C := R_Lo) (T := F_Lo) (N := 10) hx hb hg i_Lo t_Lo t_Lo_ok n_Lo hown hK hP hD hS 0 rfl rfl 5 (by decide) (hg _ mw_337) (fun _ h9 => h9) rfl hin rfl (by decide +kernel) rfl rfl (Nat.le_of_ble_eq_true rfl) d_Lo_init_31 (fun H locs hP hD hS => ?_)
  have hP : va_P D vC [(h0, .inr (6, [.ref q_5, .int 0, .int 0, .int 0, .long 0, .ref sc, .ref h_12, .int 0, .int 0, .int 0])), (q_5, .inr (0, [.ref h_12, .int (nI 0)])), (h_12, .inl (kA 0, 4096, .inl (fun _ => 0)))] H := hP
  have hD : va_D A [(h0, .inr (6, [.ref q_5, .int 0, .int 0, .int 0, .long 0, .ref sc, .ref h_12, .int 0, .int 0, .int 0])), (q_5, .inr (0, [.ref h_12, .int (nI 0)])), (h_12, .inl (kA 0, 4096, .inl (fun _ => 0)))] := hD
  refine W.widen (k := 2) (n := 4098) (Nat.le_refl _) (Nat.le_refl _) ?_
  exact W.vret hx hb hr (fun t ht hW => ⟨⟨(fun i => match i with | 0 => q_5 | 1 => h_12 | _ => 0), rfl, trivial, by rw [ht]; exact hP, va_K.moved hW.alike hK, hD⟩, hS.F ht⟩) hS.2.2 d_Lo_init_34

abbrev wMa0 (h0 : Nat) (a : Nat → Nat) (kA : Nat → ClassId) (sc : Nat) : va_W := [(h0, .inr (7, [.ref sc, .ref (a 0), .ref (a 1), .int 0, .int 0, .int 0, .int 0])), (a 0, .inl (kA 1, 17956, .inl (fun _ => 0))), (a 1, .inl (kA 1, 17956, .inl (fun _ => 0)))]
set_option maxHeartbeats 4000000 in
set_option maxRecDepth 100000 in
/-- new RecordLake$Matching -/
theorem c_Ma_init (l : Launch) (D : va_G) (kA : Nat → ClassId) (kS : Nat → Nat) (sz : Nat) (h0 : Nat) (sc : Nat) : Met l y_Ma_init w_Ma_init { frames := 1, cells := 2, slots := 35912, locals := 12 } (xPre D vC (tK kA) kS [.ref h0, .ref sc] ([(h0, .inr (7, [.null, .null, .null, .int 0, .int 0, .int 0, .int 0]))]) sz) (va_Qv (fun (_ : Nat → Nat) => True) (xB D vC (tK kA) (fun a => wMa0 h0 a kA sc) (va_A ([(h0, .inr (7, [.null, .null, .null, .int 0, .int 0, .int 0, .int 0]))]) sz)) (va_A ([(h0, .inr (7, [.null, .null, .null, .int 0, .int 0, .int 0, .int 0]))]) sz)) 2 35912 (va_A ([(h0, .inr (7, [.null, .null, .null, .int 0, .int 0, .int 0, .int 0]))]) sz) := by
  refine Met.ofW (cc := b_Ma_init) (maxL := 2) (ret := none) (by decide) rfl ?_
  intro p e s m args below meth c s₁ B hml hv
  obtain ⟨rfl, hsz, hP, hK, hD0, hN, hC⟩ := hv
  have hx := B.exec
  have hb := B.bytes
  have hr := B.returns
  have hts := atoms_spec (ws := w_Ma_init) B.pre
  have hg : ∀ w ∈ gW, w.before _ s = true := fun w h => hts w (List.mem_cons_of_mem _ h)
  have hown : s.vm.findClass R_Ma = some m.cls := findClass_of_methodNamed B.named
  have hlocks := B.notSynchronized
  have hin : meth.name = "<init>" := (name_of_methodNamed B.named B.method).1
  subst hsz
  have hD := hD0.self (sz := s.heap.size)
  generalize hAe : va_A ([(h0, .inr (7, [.null, .null, .null, .int 0, .int 0, .int 0, .int 0]))]) s.heap.size = A at hD hC ⊢
  have hA : ∀ q : Nat, s.heap.size ≤ q → A q := fun q h => by rw [← hAe]; exact Or.inr h
  have hS : va_S A s.heap s.heap [] := va_S.rf
  have hP : va_P D vC [(h0, .inr (7, [.null, .null, .null, .int 0, .int 0, .int 0, .int 0]))] s.heap := hP
  have hD : va_D A [(h0, .inr (7, [.null, .null, .null, .int 0, .int 0, .int 0, .int 0]))] := hD
  have hl := lv_entry ([.ref h0, .ref sc]) (n := 2) (Nat.le_of_ble_eq_true rfl)
  rw [lg_entry_eq]
  generalize (lg_sl ([.ref h0, .ref sc]) ++ List.replicate (2 - (lg_sl ([.ref h0, .ref sc])).length) Slot.unset).toArray = ls at hl ⊢
  have hl : lv_has ls 2 [(0, .ref h0), (1, .ref sc)] := hl
  refine lv_aload_n hx hb d_Ma_init_0 rfl (lv_at hl 0 rfl) ?_
  refine W.objInit hx hb hown (hg _ mw_368) (hg _ mw_34) (hg _ mw_35) rfl (by rw [hml]; exact hl.1) rfl d_Ma_init_1 (Nat.le_of_ble_eq_true rfl) (Nat.le_of_ble_eq_true rfl) ?_
  refine W.eq (g2 := F0 m 4 ls []) rfl ?_
  refine lv_aload_n hx hb d_Ma_init_4 rfl (lv_at hl 0 rfl) ?_
  refine lv_sipush (v := 17956) hx hb d_Ma_init_5 (by decide) ?_
  refine xn_newa (atype := .int) (a0 := (17956, .inl (fun _ => 0))) (N' := 17956) (ty := .int) hx hb (hg _ mw_138) rfl hK hP hD hS hA 1 rfl (fun _ => rfl) (by decide) (by decide) (by decide) (Nat.le_of_ble_eq_true rfl) (Nat.le_of_ble_eq_true rfl) d_Ma_init_8 (fun q_8 H hP hD hS => ?_)
  have hP : va_P D vC [(h0, .inr (7, [.null, .null, .null, .int 0, .int 0, .int 0, .int 0])), (q_8, .inl (kA 1, 17956, .inl (fun _ => 0)))] H := hP
  have hD : va_D A [(h0, .inr (7, [.null, .null, .null, .int 0, .int 0, .int 0, .int 0])), (q_8, .inl (kA 1, 17956, .inl (fun _ => 0)))] := hD
  refine W.widen (k := 1) (n := 17956) (Nat.le_of_ble_eq_true rfl) (Nat.le_of_ble_eq_true rfl) ?_
  refine va_putF (D := D) (ci := 7) (v := .ref q_8) (ty := (.array .int)) (C := R_Ma) (T := F_Ma) (N := 7) hx hb hg i_Ma t_Ma t_Ma_ok n_Ma hown hK hP hD hS 0 rfl rfl 1 (by decide) (hg _ mw_370) (fun _ h9 => h9) rfl hin rfl (by decide +kernel) rfl rfl (Nat.le_of_ble_eq_true rfl) d_Ma_init_10 (fun H locs hP hD hS => ?_)
  have hP : va_P D vC [(h0, .inr (7, [.null, .ref q_8, .null, .int 0, .int 0, .int 0, .int 0])), (q_8, .inl (kA 1, 17956, .inl (fun _ => 0)))] H := hP
  have hD : va_D A [(h0, .inr (7, [.null, .ref q_8, .null, .int 0, .int 0, .int 0, .int 0])), (q_8, .inl (kA 1, 17956, .inl (fun _ => 0)))] := hD
  refine lv_aload_n hx hb d_Ma_init_13 rfl (lv_at hl 0 rfl) ?_
  refine lv_sipush (v := 17956) hx hb d_Ma_init_14 (by decide) ?_
  refine xn_newa (atype := .int) (a0 := (17956, .inl (fun _ => 0))) (N' := 17956) (ty := .int) hx hb (hg _ mw_138) rfl hK hP hD hS hA 1 rfl (fun _ => rfl) (by decide) (by decide) (by decide) (Nat.le_of_ble_eq_true rfl) (Nat.le_of_ble_eq_true rfl) d_Ma_init_17 (fun q_17 H hP hD hS => ?_)
  have hP : va_P D vC [(h0, .inr (7, [.null, .ref q_8, .null, .int 0, .int 0, .int 0, .int 0])), (q_8, .inl (kA 1, 17956, .inl (fun _ => 0))), (q_17, .inl (kA 1, 17956, .inl (fun _ => 0)))] H := hP
  have hD : va_D A [(h0, .inr (7, [.null, .ref q_8, .null, .int 0, .int 0, .int 0, .int 0])), (q_8, .inl (kA 1, 17956, .inl (fun _ => 0))), (q_17, .inl (kA 1, 17956, .inl (fun _ => 0)))] := hD
  refine W.widen (k := 2) (n := 35912) (Nat.le_of_ble_eq_true rfl) (Nat.le_of_ble_eq_true rfl) ?_
  refine va_putF (D := D) (ci := 7) (v := .ref q_17) (ty := (.array .int)) (C := R_Ma) (T := F_Ma) (N := 7) hx hb hg i_Ma t_Ma t_Ma_ok n_Ma hown hK hP hD hS 0 rfl rfl 2 (by decide) (hg _ mw_371) (fun _ h9 => h9) rfl hin rfl (by decide +kernel) rfl rfl (Nat.le_of_ble_eq_true rfl) d_Ma_init_19 (fun H locs hP hD hS => ?_)
  have hP : va_P D vC [(h0, .inr (7, [.null, .ref q_8, .ref q_17, .int 0, .int 0, .int 0, .int 0])), (q_8, .inl (kA 1, 17956, .inl (fun _ => 0))), (q_17, .inl (kA 1, 17956, .inl (fun _ => 0)))] H := hP
  have hD : va_D A [(h0, .inr (7, [.null, .ref q_8, .ref q_17, .int 0, .int 0, .int 0, .int 0])), (q_8, .inl (kA 1, 17956, .inl (fun _ => 0))), (q_17, .inl (kA 1, 17956, .inl (fun _ => 0)))] := hD
  refine lv_aload_n hx hb d_Ma_init_22 rfl (lv_at hl 0 rfl) ?_
  refine lv_aload_n hx hb d_Ma_init_23 rfl (lv_at hl 1 rfl) ?_
  refine va_putF (D := D) (ci := 7) (v := .ref sc) (ty := (.object "RecordLake$Schemas")) (C := R_Ma) (T := F_Ma) (N := 7) hx hb hg i_Ma t_Ma t_Ma_ok n_Ma hown hK hP hD hS 0 rfl rfl 0 (by decide) (hg _ mw_369) (fun _ h9 => h9) rfl hin rfl (by decide +kernel) rfl rfl (Nat.le_of_ble_eq_true rfl) d_Ma_init_24 (fun H locs hP hD hS => ?_)
  have hP : va_P D vC [(h0, .inr (7, [.ref sc, .ref q_8, .ref q_17, .int 0, .int 0, .int 0, .int 0])), (q_8, .inl (kA 1, 17956, .inl (fun _ => 0))), (q_17, .inl (kA 1, 17956, .inl (fun _ => 0)))] H := hP
  have hD : va_D A [(h0, .inr (7, [.ref sc, .ref q_8, .ref q_17, .int 0, .int 0, .int 0, .int 0])), (q_8, .inl (kA 1, 17956, .inl (fun _ => 0))), (q_17, .inl (kA 1, 17956, .inl (fun _ => 0)))] := hD
  refine W.widen (k := 2) (n := 35912) (Nat.le_refl _) (Nat.le_refl _) ?_
  exact W.vret hx hb hr (fun t ht hW => ⟨⟨(fun i => match i with | 0 => q_8 | 1 => q_17 | _ => 0), rfl, trivial, by rw [ht]; exact hP, va_K.moved hW.alike hK, hD⟩, hS.F ht⟩) hS.2.2 d_Ma_init_27

abbrev wTe0 (h0 : Nat) (a : Nat → Nat) (kA : Nat → ClassId) (sc : Nat) (ma : Nat) : va_W := [(h0, .inr (8, [.int 0, .int 0, .ref sc, .ref ma, .ref (a 0), .ref (a 2), .ref (a 1)])), (a 0, .inl (kA 1, 1024, .inl (fun _ => 0))), (a 1, .inr (0, [.ref (a 2), .int (nI 0)])), (a 2, .inl (kA 0, 0, .inl (fun _ => 0)))]
set_option maxHeartbeats 4000000 in
set_option maxRecDepth 100000 in
/-- new RecordLake$Teller -/
theorem c_Te_init (l : Launch) (D : va_G) (kA : Nat → ClassId) (kS : Nat → Nat) (sz : Nat) (h0 : Nat) (sc ma : Nat) : Met l y_Te_init w_Te_init { frames := 2, cells := 3, slots := 1026, locals := 33 } (xPre D vC (tK kA) kS [.ref h0, .ref sc, .ref ma] ([(h0, .inr (8, [.int 0, .int 0, .null, .null, .null, .null, .null]))]) sz) (va_Qv (fun (_ : Nat → Nat) => True) (xB D vC (tK kA) (fun a => wTe0 h0 a kA sc ma) (va_A ([(h0, .inr (8, [.int 0, .int 0, .null, .null, .null, .null, .null]))]) sz)) (va_A ([(h0, .inr (8, [.int 0, .int 0, .null, .null, .null, .null, .null]))]) sz)) 3 1026 (va_A ([(h0, .inr (8, [.int 0, .int 0, .null, .null, .null, .null, .null]))]) sz) := by
  refine Met.ofW (cc := b_Te_init) (maxL := 3) (ret := none) (by decide) rfl ?_
  intro p e s m args below meth c s₁ B hml hv
  obtain ⟨rfl, hsz, hP, hK, hD0, hN, hC⟩ := hv
  have hx := B.exec
  have hb := B.bytes
  have hr := B.returns
  have hts := atoms_spec (ws := w_Te_init) B.pre
  have hg : ∀ w ∈ gW, w.before _ s = true := fun w h => hts w (List.mem_cons_of_mem _ h)
  have hown : s.vm.findClass R_Te = some m.cls := findClass_of_methodNamed B.named
  have hlocks := B.notSynchronized
  have hin : meth.name = "<init>" := (name_of_methodNamed B.named B.method).1
  subst hsz
  have hD := hD0.self (sz := s.heap.size)
  generalize hAe : va_A ([(h0, .inr (8, [.int 0, .int 0, .null, .null, .null, .null, .null]))]) s.heap.size = A at hD hC ⊢
  have hA : ∀ q : Nat, s.heap.size ≤ q → A q := fun q h => by rw [← hAe]; exact Or.inr h
  have hS : va_S A s.heap s.heap [] := va_S.rf
  have hP : va_P D vC [(h0, .inr (8, [.int 0, .int 0, .null, .null, .null, .null, .null]))] s.heap := hP
  have hD : va_D A [(h0, .inr (8, [.int 0, .int 0, .null, .null, .null, .null, .null]))] := hD
  have hl := lv_entry ([.ref h0, .ref sc, .ref ma]) (n := 3) (Nat.le_of_ble_eq_true rfl)
  rw [lg_entry_eq]
  generalize (lg_sl ([.ref h0, .ref sc, .ref ma]) ++ List.replicate (3 - (lg_sl ([.ref h0, .ref sc, .ref ma])).length) Slot.unset).toArray = ls at hl ⊢
  have hl : lv_has ls 3 [(0, .ref h0), (1, .ref sc), (2, .ref ma)] := hl
  refine lv_aload_n hx hb d_Te_init_0 rfl (lv_at hl 0 rfl) ?_
  refine W.objInit hx hb hown (hg _ mw_396) (hg _ mw_34) (hg _ mw_35) rfl (by rw [hml]; exact hl.1) rfl d_Te_init_1 (Nat.le_of_ble_eq_true rfl) (Nat.le_of_ble_eq_true rfl) ?_
  refine W.eq (g2 := F0 m 4 ls []) rfl ?_
  refine lv_aload_n hx hb d_Te_init_4 rfl (lv_at hl 0 rfl) ?_
  refine lv_sipush (v := 1024) hx hb d_Te_init_5 (by decide) ?_
  refine xn_newa (atype := .int) (a0 := (1024, .inl (fun _ => 0))) (N' := 1024) (ty := .int) hx hb (hg _ mw_138) rfl hK hP hD hS hA 1 rfl (fun _ => rfl) (by decide) (by decide) (by decide) (Nat.le_of_ble_eq_true rfl) (Nat.le_of_ble_eq_true rfl) d_Te_init_8 (fun q_8 H hP hD hS => ?_)
  have hP : va_P D vC [(h0, .inr (8, [.int 0, .int 0, .null, .null, .null, .null, .null])), (q_8, .inl (kA 1, 1024, .inl (fun _ => 0)))] H := hP
  have hD : va_D A [(h0, .inr (8, [.int 0, .int 0, .null, .null, .null, .null, .null])), (q_8, .inl (kA 1, 1024, .inl (fun _ => 0)))] := hD
  refine W.widen (k := 1) (n := 1024) (Nat.le_of_ble_eq_true rfl) (Nat.le_of_ble_eq_true rfl) ?_
  refine va_putF (D := D) (ci := 8) (v := .ref q_8) (ty := (.array .int)) (C := R_Te) (T := F_Te) (N := 7) hx hb hg i_Te t_Te t_Te_ok n_Te hown hK hP hD hS 0 rfl rfl 4 (by decide) (hg _ mw_405) (fun _ h9 => h9) rfl hin rfl (by decide +kernel) rfl rfl (Nat.le_of_ble_eq_true rfl) d_Te_init_10 (fun H locs hP hD hS => ?_)
  have hP : va_P D vC [(h0, .inr (8, [.int 0, .int 0, .null, .null, .ref q_8, .null, .null])), (q_8, .inl (kA 1, 1024, .inl (fun _ => 0)))] H := hP
  have hD : va_D A [(h0, .inr (8, [.int 0, .int 0, .null, .null, .ref q_8, .null, .null])), (q_8, .inl (kA 1, 1024, .inl (fun _ => 0)))] := hD
  refine lv_aload_n hx hb d_Te_init_13 rfl (lv_at hl 0 rfl) ?_
  refine lv_aload_n hx hb d_Te_init_14 rfl (lv_at hl 1 rfl) ?_
  refine va_putF (D := D) (ci := 8) (v := .ref sc) (ty := (.object "RecordLake$Schemas")) (C := R_Te) (T := F_Te) (N := 7) hx hb hg i_Te t_Te t_Te_ok n_Te hown hK hP hD hS 0 rfl rfl 2 (by decide) (hg _ mw_403) (fun _ h9 => h9) rfl hin rfl (by decide +kernel) rfl rfl (Nat.le_of_ble_eq_true rfl) d_Te_init_15 (fun H locs hP hD hS => ?_)
  have hP : va_P D vC [(h0, .inr (8, [.int 0, .int 0, .ref sc, .null, .ref q_8, .null, .null])), (q_8, .inl (kA 1, 1024, .inl (fun _ => 0)))] H := hP
  have hD : va_D A [(h0, .inr (8, [.int 0, .int 0, .ref sc, .null, .ref q_8, .null, .null])), (q_8, .inl (kA 1, 1024, .inl (fun _ => 0)))] := hD
  refine lv_aload_n hx hb d_Te_init_18 rfl (lv_at hl 0 rfl) ?_
  refine lv_aload_n hx hb d_Te_init_19 rfl (lv_at hl 2 rfl) ?_
  refine va_putF (D := D) (ci := 8) (v := .ref ma) (ty := (.object "RecordLake$Matching")) (C := R_Te) (T := F_Te) (N := 7) hx hb hg i_Te t_Te t_Te_ok n_Te hown hK hP hD hS 0 rfl rfl 3 (by decide) (hg _ mw_404) (fun _ h9 => h9) rfl hin rfl (by decide +kernel) rfl rfl (Nat.le_of_ble_eq_true rfl) d_Te_init_20 (fun H locs hP hD hS => ?_)
  have hP : va_P D vC [(h0, .inr (8, [.int 0, .int 0, .ref sc, .ref ma, .ref q_8, .null, .null])), (q_8, .inl (kA 1, 1024, .inl (fun _ => 0)))] H := hP
  have hD : va_D A [(h0, .inr (8, [.int 0, .int 0, .ref sc, .ref ma, .ref q_8, .null, .null])), (q_8, .inl (kA 1, 1024, .inl (fun _ => 0)))] := hD
  refine lv_aload_n hx hb d_Te_init_23 rfl (lv_at hl 0 rfl) ?_
  refine va_new (ci := 0) (fs := [.null, .int 0]) (C := R_By) (T := F_By) (N := 2) hx hb hg i_By t_By t_By_ok hown (hg _ mw_397) (hg _ mw_37) (hg _ mw_2) hK hP hD hS hA rfl (fun j hj => by rcases (show j = 0 ∨ j = 1 by omega) with rfl | rfl <;> rfl) (Nat.le_of_ble_eq_true rfl) (Nat.le_of_ble_eq_true rfl) d_Te_init_24 (fun q_24 H hP hD hS => ?_)
  have hP : va_P D vC [(h0, .inr (8, [.int 0, .int 0, .ref sc, .ref ma, .ref q_8, .null, .null])), (q_8, .inl (kA 1, 1024, .inl (fun _ => 0))), (q_24, .inr (0, [.null, .int 0]))] H := hP
  have hD : va_D A [(h0, .inr (8, [.int 0, .int 0, .ref sc, .ref ma, .ref q_8, .null, .null])), (q_8, .inl (kA 1, 1024, .inl (fun _ => 0))), (q_24, .inr (0, [.null, .int 0]))] := hD
  refine W.widen (k := 2) (n := 1026) (Nat.le_of_ble_eq_true rfl) (Nat.le_of_ble_eq_true rfl) ?_
  refine lv_dup hx hb d_Te_init_27 rfl ?_
  refine lv_iconst (v := 0) hx hb d_Te_init_28 (by decide) ?_
  refine xc_v (wr := [(h0, .inr (8, [.int 0, .int 0, .ref sc, .ref ma, .ref q_8, .null, .null])), (q_8, .inl (kA 1, 1024, .inl (fun _ => 0)))]) (va_runI (As := [.int 0]) (rest := [.ref q_24, .ref h0]) ⟨hx, hb, hml, hown, hg⟩ (c_By_init l D kA kS H.size q_24 0 0 (by decide +kernel) (by decide)) (cwI 1 hg (xg_w mw_40) rfl rfl rfl (hg _ mw_2) (hg _ mw_398) (hg _ mw_39) rfl (by decide +kernel) ⟨Nat.le_of_ble_eq_true rfl, Nat.le_of_ble_eq_true rfl⟩) (xc_pre hK hN hC hP hD hS hA [2] (by decide) rfl) rfl rfl hl.1 rfl (lv_room (Nat.le_of_ble_eq_true rfl)) d_Te_init_29 ⟨Nat.le_of_ble_eq_true rfl, Nat.le_of_ble_eq_true rfl⟩) hP hD hS hA [2] [0, 1] rfl rfl (by decide) (by decide) (fun h_29 H locs hw hP hD hS => ?_)
  have hP : va_P D vC [(h0, .inr (8, [.int 0, .int 0, .ref sc, .ref ma, .ref q_8, .null, .null])), (q_8, .inl (kA 1, 1024, .inl (fun _ => 0))), (q_24, .inr (0, [.ref h_29, .int (nI 0)])), (h_29, .inl (kA 0, 0, .inl (fun _ => 0)))] H := hP
  have hD : va_D A [(h0, .inr (8, [.int 0, .int 0, .ref sc, .ref ma, .ref q_8, .null, .null])), (q_8, .inl (kA 1, 1024, .inl (fun _ => 0))), (q_24, .inr (0, [.ref h_29, .int (nI 0)])), (h_29, .inl (kA 0, 0, .inl (fun _ => 0)))] := hD
  refine W.widen (k := 3) (n := 1026) (Nat.le_of_ble_eq_true rfl) (Nat.le_of_ble_eq_true rfl) ?_
  refine va_put (D := D) (ci := 8) (v := .ref q_24) (ty := (.object "RecordLake$Bytes")) (C := R_Te) (T := F_Te) (N := 7) hx hb hg i_Te t_Te t_Te_ok n_Te hown hK hP hD hS 0 rfl rfl 6 (by decide) (hg _ mw_407) (fun _ h9 => h9) rfl (by decide +kernel) rfl rfl (Nat.le_of_ble_eq_true rfl) d_Te_init_32 (fun H locs hP hD hS => ?_)
  have hP : va_P D vC [(h0, .inr (8, [.int 0, .int 0, .ref sc, .ref ma, .ref q_8, .null, .ref q_24])), (q_8, .inl (kA 1, 1024, .inl (fun _ => 0))), (q_24, .inr (0, [.ref h_29, .int (nI 0)])), (h_29, .inl (kA 0, 0, .inl (fun _ => 0)))] H := hP
  have hD : va_D A [(h0, .inr (8, [.int 0, .int 0, .ref sc, .ref ma, .ref q_8, .null, .ref q_24])), (q_8, .inl (kA 1, 1024, .inl (fun _ => 0))), (q_24, .inr (0, [.ref h_29, .int (nI 0)])), (h_29, .inl (kA 0, 0, .inl (fun _ => 0)))] := hD
  refine lv_aload_n hx hb d_Te_init_35 rfl (lv_at hl 0 rfl) ?_
  refine lv_aload_n hx hb d_Te_init_36 rfl (lv_at hl 0 rfl) ?_
  refine va_get (D := D) (ci := 8) (v := .ref q_24) (C := R_Te) (T := F_Te) (N := 7) hx hb hg i_Te hown hK hP 0 rfl rfl 6 (by decide) (hg _ mw_407) (fun _ h9 => h9) rfl d_Te_init_37 ?_
  refine va_get (D := D) (ci := 0) (v := .ref h_29) (C := R_By) (T := F_By) (N := 2) hx hb hg i_By hown hK hP 2 rfl rfl 0 (by decide) (hg _ mw_44) (fun _ h9 => h9) rfl d_Te_init_40 ?_
  refine va_put (D := D) (ci := 8) (v := .ref h_29) (ty := (.array .byte)) (C := R_Te) (T := F_Te) (N := 7) hx hb hg i_Te t_Te t_Te_ok n_Te hown hK hP hD hS 0 rfl rfl 5 (by decide) (hg _ mw_406) (fun _ h9 => h9) rfl (by decide +kernel) rfl rfl (Nat.le_of_ble_eq_true rfl) d_Te_init_43 (fun H locs hP hD hS => ?_)
  have hP : va_P D vC [(h0, .inr (8, [.int 0, .int 0, .ref sc, .ref ma, .ref q_8, .ref h_29, .ref q_24])), (q_8, .inl (kA 1, 1024, .inl (fun _ => 0))), (q_24, .inr (0, [.ref h_29, .int (nI 0)])), (h_29, .inl (kA 0, 0, .inl (fun _ => 0)))] H := hP
  have hD : va_D A [(h0, .inr (8, [.int 0, .int 0, .ref sc, .ref ma, .ref q_8, .ref h_29, .ref q_24])), (q_8, .inl (kA 1, 1024, .inl (fun _ => 0))), (q_24, .inr (0, [.ref h_29, .int (nI 0)])), (h_29, .inl (kA 0, 0, .inl (fun _ => 0)))] := hD
  refine W.widen (k := 3) (n := 1026) (Nat.le_refl _) (Nat.le_refl _) ?_
  exact W.vret hx hb hr (fun t ht hW => ⟨⟨(fun i => match i with | 0 => q_8 | 1 => q_24 | 2 => h_29 | _ => 0), rfl, trivial, by rw [ht]; exact hP, va_K.moved hW.alike hK, hD⟩, hS.F ht⟩) hS.2.2 d_Te_init_46

def sc_k (i : Nat) : Nat → Int32 := fun j => if j < i then nI j else 0
def sc_n (i : Nat) : Nat → Int32 := fun j => if j < i then -1 else 0
theorem sc_k_0 : sc_k 0 = fun _ => 0 := by funext j; simp [sc_k]
theorem sc_n_0 : sc_n 0 = fun _ => 0 := by funext j; simp [sc_n]
theorem sc_k_s {i : Nat} : upd (sc_k i) i (nI i) = sc_k (i + 1) := by
  funext j
  unfold upd sc_k
  by_cases h : j = i
  · subst h; simp
  · have : (j < i + 1) ↔ j < i := by omega
    simp [h, this]
theorem sc_n_s {i : Nat} : upd (sc_n i) i (-1) = sc_n (i + 1) := by
  funext j
  unfold upd sc_n
  by_cases h : j = i
  · subst h; simp
  · have : (j < i + 1) ↔ j < i := by omega
    simp [h, this]
abbrev wSc0 (h0 : Nat) (a : Nat → Nat) (kA : Nat → ClassId) : va_W := [(h0, .inr (2, [.ref (a 0), .ref (a 1), .ref (a 2), .ref (a 3), .ref (a 4), .ref (a 5), .ref (a 6), .ref (a 7), .ref (a 8), .ref (a 9), .ref (a 11), .int 6, .ref (a 12), .ref (a 13), .int 6, .int 0, .int 0, .int 0])), (a 0, .inl (kA 1, 5254, .inl (sc_k 6))), (a 1, .inl (kA 1, 5254, .inl (sc_n 6))), (a 2, .inl (kA 1, 5254, .inl (fun _ => 0))), (a 3, .inl (kA 1, 5254, .inl (fun _ => 0))), (a 4, .inl (kA 1, 5254, .inl (fun _ => 0))), (a 5, .inl (kA 1, 10112, .inl (fun _ => 0))), (a 6, .inl (kA 1, 10112, .inl (fun _ => 0))), (a 7, .inl (kA 1, 10112, .inl (fun _ => 0))), (a 8, .inl (kA 1, 10112, .inl (fun _ => 0))), (a 9, .inr (0, [.ref (a 10), .int (nI 0)])), (a 10, .inl (kA 0, 72704, .inl (fun _ => 0))), (a 11, .inl (kA 1, 4, .inl (fun _ => 0))), (a 12, .inl (kA 1, 64, .inl (fun _ => 0))), (a 13, .inl (kA 1, 64, .inl (fun _ => 0)))]
set_option maxHeartbeats 4000000 in
set_option maxRecDepth 100000 in
/-- new Schemas: the six words -/
theorem c_Sc_init (l : Launch) (D : va_G) (kA : Nat → ClassId) (kS : Nat → Nat) (sz : Nat) (h0 : Nat) : Met l y_Sc_init w_Sc_init { frames := 2, cells := 14, slots := 139556, locals := 33 } (xPre D vC (tK kA) kS [.ref h0] ([(h0, .inr (2, [.null, .null, .null, .null, .null, .null, .null, .null, .null, .null, .null, .int 0, .null, .null, .int 0, .int 0, .int 0, .int 0]))]) sz) (va_Qv (fun (_ : Nat → Nat) => True) (xB D vC (tK kA) (fun a => wSc0 h0 a kA) (va_A ([(h0, .inr (2, [.null, .null, .null, .null, .null, .null, .null, .null, .null, .null, .null, .int 0, .null, .null, .int 0, .int 0, .int 0, .int 0]))]) sz)) (va_A ([(h0, .inr (2, [.null, .null, .null, .null, .null, .null, .null, .null, .null, .null, .null, .int 0, .null, .null, .int 0, .int 0, .int 0, .int 0]))]) sz)) 14 139556 (va_A ([(h0, .inr (2, [.null, .null, .null, .null, .null, .null, .null, .null, .null, .null, .null, .int 0, .null, .null, .int 0, .int 0, .int 0, .int 0]))]) sz) := by
  refine Met.ofW (cc := b_Sc_init) (maxL := 2) (ret := none) (by decide) rfl ?_
  intro p e s m args below meth c s₁ B hml hv
  obtain ⟨rfl, hsz, hP, hK, hD0, hN, hC⟩ := hv
  have hx := B.exec
  have hb := B.bytes
  have hr := B.returns
  have hts := atoms_spec (ws := w_Sc_init) B.pre
  have hg : ∀ w ∈ gW, w.before _ s = true := fun w h => hts w (List.mem_cons_of_mem _ h)
  have hown : s.vm.findClass R_Sc = some m.cls := findClass_of_methodNamed B.named
  have hlocks := B.notSynchronized
  have hin : meth.name = "<init>" := (name_of_methodNamed B.named B.method).1
  subst hsz
  have hD := hD0.self (sz := s.heap.size)
  generalize hAe : va_A ([(h0, .inr (2, [.null, .null, .null, .null, .null, .null, .null, .null, .null, .null, .null, .int 0, .null, .null, .int 0, .int 0, .int 0, .int 0]))]) s.heap.size = A at hD hC ⊢
  have hA : ∀ q : Nat, s.heap.size ≤ q → A q := fun q h => by rw [← hAe]; exact Or.inr h
  have hS : va_S A s.heap s.heap [] := va_S.rf
  have hP : va_P D vC [(h0, .inr (2, [.null, .null, .null, .null, .null, .null, .null, .null, .null, .null, .null, .int 0, .null, .null, .int 0, .int 0, .int 0, .int 0]))] s.heap := hP
  have hD : va_D A [(h0, .inr (2, [.null, .null, .null, .null, .null, .null, .null, .null, .null, .null, .null, .int 0, .null, .null, .int 0, .int 0, .int 0, .int 0]))] := hD
  have hl := lv_entry ([.ref h0]) (n := 2) (Nat.le_of_ble_eq_true rfl)
  rw [lg_entry_eq]
  generalize (lg_sl ([.ref h0]) ++ List.replicate (2 - (lg_sl ([.ref h0])).length) Slot.unset).toArray = ls at hl ⊢
  have hl : lv_has ls 2 [(0, .ref h0)] := hl
  refine xl_Q (fun Q9 hQ9 => ?_)
  refine lv_aload_n hx hb d_Sc_init_0 rfl (lv_at hl 0 rfl) ?_
  refine W.objInit hx hb hown (hg _ mw_145) (hg _ mw_34) (hg _ mw_35) rfl (by rw [hml]; exact hl.1) rfl d_Sc_init_1 (Nat.le_of_ble_eq_true rfl) (Nat.le_of_ble_eq_true rfl) ?_
  refine W.eq (g2 := F0 m 4 ls []) rfl ?_
  refine lv_aload_n hx hb d_Sc_init_4 rfl (lv_at hl 0 rfl) ?_
  refine lv_sipush (v := 5254) hx hb d_Sc_init_5 (by decide) ?_
  refine xn_newa (atype := .int) (a0 := (5254, .inl (fun _ => 0))) (N' := 5254) (ty := .int) hx hb (hg _ mw_138) rfl hK hP hD hS hA 1 rfl (fun _ => rfl) (by decide) (by decide) (by decide) (Nat.le_of_ble_eq_true rfl) (Nat.le_of_ble_eq_true rfl) d_Sc_init_8 (fun q_8 H hP hD hS => ?_)
  have hP : va_P D vC [(h0, .inr (2, [.null, .null, .null, .null, .null, .null, .null, .null, .null, .null, .null, .int 0, .null, .null, .int 0, .int 0, .int 0, .int 0])), (q_8, .inl (kA 1, 5254, .inl (fun _ => 0)))] H := hP
  have hD : va_D A [(h0, .inr (2, [.null, .null, .null, .null, .null, .null, .null, .null, .null, .null, .null, .int 0, .null, .null, .int 0, .int 0, .int 0, .int 0])), (q_8, .inl (kA 1, 5254, .inl (fun _ => 0)))] := hD
  refine W.widen (k := 1) (n := 5254) (Nat.le_of_ble_eq_true rfl) (Nat.le_of_ble_eq_true rfl) ?_
  refine va_putF (D := D) (ci := 2) (v := .ref q_8) (ty := (.array .int)) (C := R_Sc) (T := F_Sc) (N := 18) hx hb hg i_Sc t_Sc t_Sc_ok n_Sc hown hK hP hD hS 0 rfl rfl 0 (by decide) (hg _ mw_149) (fun _ h9 => h9) rfl hin rfl (by decide +kernel) rfl rfl (Nat.le_of_ble_eq_true rfl) d_Sc_init_10 (fun H locs hP hD hS => ?_)
  have hP : va_P D vC [(h0, .inr (2, [.ref q_8, .null, .null, .null, .null, .null, .null, .null, .null, .null, .null, .int 0, .null, .null, .int 0, .int 0, .int 0, .int 0])), (q_8, .inl (kA 1, 5254, .inl (fun _ => 0)))] H := hP
  have hD : va_D A [(h0, .inr (2, [.ref q_8, .null, .null, .null, .null, .null, .null, .null, .null, .null, .null, .int 0, .null, .null, .int 0, .int 0, .int 0, .int 0])), (q_8, .inl (kA 1, 5254, .inl (fun _ => 0)))] := hD
  refine lv_aload_n hx hb d_Sc_init_13 rfl (lv_at hl 0 rfl) ?_
  refine lv_sipush (v := 5254) hx hb d_Sc_init_14 (by decide) ?_
  refine xn_newa (atype := .int) (a0 := (5254, .inl (fun _ => 0))) (N' := 5254) (ty := .int) hx hb (hg _ mw_138) rfl hK hP hD hS hA 1 rfl (fun _ => rfl) (by decide) (by decide) (by decide) (Nat.le_of_ble_eq_true rfl) (Nat.le_of_ble_eq_true rfl) d_Sc_init_17 (fun q_17 H hP hD hS => ?_)
  have hP : va_P D vC [(h0, .inr (2, [.ref q_8, .null, .null, .null, .null, .null, .null, .null, .null, .null, .null, .int 0, .null, .null, .int 0, .int 0, .int 0, .int 0])), (q_8, .inl (kA 1, 5254, .inl (fun _ => 0))), (q_17, .inl (kA 1, 5254, .inl (fun _ => 0)))] H := hP
  have hD : va_D A [(h0, .inr (2, [.ref q_8, .null, .null, .null, .null, .null, .null, .null, .null, .null, .null, .int 0, .null, .null, .int 0, .int 0, .int 0, .int 0])), (q_8, .inl (kA 1, 5254, .inl (fun _ => 0))), (q_17, .inl (kA 1, 5254, .inl (fun _ => 0)))] := hD
  refine W.widen (k := 2) (n := 10508) (Nat.le_of_ble_eq_true rfl) (Nat.le_of_ble_eq_true rfl) ?_
  refine va_putF (D := D) (ci := 2) (v := .ref q_17) (ty := (.array .int)) (C := R_Sc) (T := F_Sc) (N := 18) hx hb hg i_Sc t_Sc t_Sc_ok n_Sc hown hK hP hD hS 0 rfl rfl 1 (by decide) (hg _ mw_156) (fun _ h9 => h9) rfl hin rfl (by decide +kernel) rfl rfl (Nat.le_of_ble_eq_true rfl) d_Sc_init_19 (fun H locs hP hD hS => ?_)
  have hP : va_P D vC [(h0, .inr (2, [.ref q_8, .ref q_17, .null, .null, .null, .null, .null, .null, .null, .null, .null, .int 0, .null, .null, .int 0, .int 0, .int 0, .int 0])), (q_8, .inl (kA 1, 5254, .inl (fun _ => 0))), (q_17, .inl (kA 1, 5254, .inl (fun _ => 0)))] H := hP
  have hD : va_D A [(h0, .inr (2, [.ref q_8, .ref q_17, .null, .null, .null, .null, .null, .null, .null, .null, .null, .int 0, .null, .null, .int 0, .int 0, .int 0, .int 0])), (q_8, .inl (kA 1, 5254, .inl (fun _ => 0))), (q_17, .inl (kA 1, 5254, .inl (fun _ => 0)))] := hD
  refine lv_aload_n hx hb d_Sc_init_22 rfl (lv_at hl 0 rfl) ?_
  refine lv_sipush (v := 5254) hx hb d_Sc_init_23 (by decide) ?_
  refine xn_newa (atype := .int) (a0 := (5254, .inl (fun _ => 0))) (N' := 5254) (ty := .int) hx hb (hg _ mw_138) rfl hK hP hD hS hA 1 rfl (fun _ => rfl) (by decide) (by decide) (by decide) (Nat.le_of_ble_eq_true rfl) (Nat.le_of_ble_eq_true rfl) d_Sc_init_26 (fun q_26 H hP hD hS => ?_)
  have hP : va_P D vC [(h0, .inr (2, [.ref q_8, .ref q_17, .null, .null, .null, .null, .null, .null, .null, .null, .null, .int 0, .null, .null, .int 0, .int 0, .int 0, .int 0])), (q_8, .inl (kA 1, 5254, .inl (fun _ => 0))), (q_17, .inl (kA 1, 5254, .inl (fun _ => 0))), (q_26, .inl (kA 1, 5254, .inl (fun _ => 0)))] H := hP
  have hD : va_D A [(h0, .inr (2, [.ref q_8, .ref q_17, .null, .null, .null, .null, .null, .null, .null, .null, .null, .int 0, .null, .null, .int 0, .int 0, .int 0, .int 0])), (q_8, .inl (kA 1, 5254, .inl (fun _ => 0))), (q_17, .inl (kA 1, 5254, .inl (fun _ => 0))), (q_26, .inl (kA 1, 5254, .inl (fun _ => 0)))] := hD
  refine W.widen (k := 3) (n := 15762) (Nat.le_of_ble_eq_true rfl) (Nat.le_of_ble_eq_true rfl) ?_
  refine va_putF (D := D) (ci := 2) (v := .ref q_26) (ty := (.array .int)) (C := R_Sc) (T := F_Sc) (N := 18) hx hb hg i_Sc t_Sc t_Sc_ok n_Sc hown hK hP hD hS 0 rfl rfl 2 (by decide) (hg _ mw_160) (fun _ h9 => h9) rfl hin rfl (by decide +kernel) rfl rfl (Nat.le_of_ble_eq_true rfl) d_Sc_init_28 (fun H locs hP hD hS => ?_)
  have hP : va_P D vC [(h0, .inr (2, [.ref q_8, .ref q_17, .ref q_26, .null, .null, .null, .null, .null, .null, .null, .null, .int 0, .null, .null, .int 0, .int 0, .int 0, .int 0])), (q_8, .inl (kA 1, 5254, .inl (fun _ => 0))), (q_17, .inl (kA 1, 5254, .inl (fun _ => 0))), (q_26, .inl (kA 1, 5254, .inl (fun _ => 0)))] H := hP
  have hD : va_D A [(h0, .inr (2, [.ref q_8, .ref q_17, .ref q_26, .null, .null, .null, .null, .null, .null, .null, .null, .int 0, .null, .null, .int 0, .int 0, .int 0, .int 0])), (q_8, .inl (kA 1, 5254, .inl (fun _ => 0))), (q_17, .inl (kA 1, 5254, .inl (fun _ => 0))), (q_26, .inl (kA 1, 5254, .inl (fun _ => 0)))] := hD
  refine lv_aload_n hx hb d_Sc_init_31 rfl (lv_at hl 0 rfl) ?_
  refine lv_sipush (v := 5254) hx hb d_Sc_init_32 (by decide) ?_
  refine xn_newa (atype := .int) (a0 := (5254, .inl (fun _ => 0))) (N' := 5254) (ty := .int) hx hb (hg _ mw_138) rfl hK hP hD hS hA 1 rfl (fun _ => rfl) (by decide) (by decide) (by decide) (Nat.le_of_ble_eq_true rfl) (Nat.le_of_ble_eq_true rfl) d_Sc_init_35 (fun q_35 H hP hD hS => ?_)
  have hP : va_P D vC [(h0, .inr (2, [.ref q_8, .ref q_17, .ref q_26, .null, .null, .null, .null, .null, .null, .null, .null, .int 0, .null, .null, .int 0, .int 0, .int 0, .int 0])), (q_8, .inl (kA 1, 5254, .inl (fun _ => 0))), (q_17, .inl (kA 1, 5254, .inl (fun _ => 0))), (q_26, .inl (kA 1, 5254, .inl (fun _ => 0))), (q_35, .inl (kA 1, 5254, .inl (fun _ => 0)))] H := hP
  have hD : va_D A [(h0, .inr (2, [.ref q_8, .ref q_17, .ref q_26, .null, .null, .null, .null, .null, .null, .null, .null, .int 0, .null, .null, .int 0, .int 0, .int 0, .int 0])), (q_8, .inl (kA 1, 5254, .inl (fun _ => 0))), (q_17, .inl (kA 1, 5254, .inl (fun _ => 0))), (q_26, .inl (kA 1, 5254, .inl (fun _ => 0))), (q_35, .inl (kA 1, 5254, .inl (fun _ => 0)))] := hD
  refine W.widen (k := 4) (n := 21016) (Nat.le_of_ble_eq_true rfl) (Nat.le_of_ble_eq_true rfl) ?_
  refine va_putF (D := D) (ci := 2) (v := .ref q_35) (ty := (.array .int)) (C := R_Sc) (T := F_Sc) (N := 18) hx hb hg i_Sc t_Sc t_Sc_ok n_Sc hown hK hP hD hS 0 rfl rfl 3 (by decide) (hg _ mw_166) (fun _ h9 => h9) rfl hin rfl (by decide +kernel) rfl rfl (Nat.le_of_ble_eq_true rfl) d_Sc_init_37 (fun H locs hP hD hS => ?_)
  have hP : va_P D vC [(h0, .inr (2, [.ref q_8, .ref q_17, .ref q_26, .ref q_35, .null, .null, .null, .null, .null, .null, .null, .int 0, .null, .null, .int 0, .int 0, .int 0, .int 0])), (q_8, .inl (kA 1, 5254, .inl (fun _ => 0))), (q_17, .inl (kA 1, 5254, .inl (fun _ => 0))), (q_26, .inl (kA 1, 5254, .inl (fun _ => 0))), (q_35, .inl (kA 1, 5254, .inl (fun _ => 0)))] H := hP
  have hD : va_D A [(h0, .inr (2, [.ref q_8, .ref q_17, .ref q_26, .ref q_35, .null, .null, .null, .null, .null, .null, .null, .int 0, .null, .null, .int 0, .int 0, .int 0, .int 0])), (q_8, .inl (kA 1, 5254, .inl (fun _ => 0))), (q_17, .inl (kA 1, 5254, .inl (fun _ => 0))), (q_26, .inl (kA 1, 5254, .inl (fun _ => 0))), (q_35, .inl (kA 1, 5254, .inl (fun _ => 0)))] := hD
  refine lv_aload_n hx hb d_Sc_init_40 rfl (lv_at hl 0 rfl) ?_
  refine lv_sipush (v := 5254) hx hb d_Sc_init_41 (by decide) ?_
  refine xn_newa (atype := .int) (a0 := (5254, .inl (fun _ => 0))) (N' := 5254) (ty := .int) hx hb (hg _ mw_138) rfl hK hP hD hS hA 1 rfl (fun _ => rfl) (by decide) (by decide) (by decide) (Nat.le_of_ble_eq_true rfl) (Nat.le_of_ble_eq_true rfl) d_Sc_init_44 (fun q_44 H hP hD hS => ?_)
  have hP : va_P D vC [(h0, .inr (2, [.ref q_8, .ref q_17, .ref q_26, .ref q_35, .null, .null, .null, .null, .null, .null, .null, .int 0, .null, .null, .int 0, .int 0, .int 0, .int 0])), (q_8, .inl (kA 1, 5254, .inl (fun _ => 0))), (q_17, .inl (kA 1, 5254, .inl (fun _ => 0))), (q_26, .inl (kA 1, 5254, .inl (fun _ => 0))), (q_35, .inl (kA 1, 5254, .inl (fun _ => 0))), (q_44, .inl (kA 1, 5254, .inl (fun _ => 0)))] H := hP
  have hD : va_D A [(h0, .inr (2, [.ref q_8, .ref q_17, .ref q_26, .ref q_35, .null, .null, .null, .null, .null, .null, .null, .int 0, .null, .null, .int 0, .int 0, .int 0, .int 0])), (q_8, .inl (kA 1, 5254, .inl (fun _ => 0))), (q_17, .inl (kA 1, 5254, .inl (fun _ => 0))), (q_26, .inl (kA 1, 5254, .inl (fun _ => 0))), (q_35, .inl (kA 1, 5254, .inl (fun _ => 0))), (q_44, .inl (kA 1, 5254, .inl (fun _ => 0)))] := hD
  refine W.widen (k := 5) (n := 26270) (Nat.le_of_ble_eq_true rfl) (Nat.le_of_ble_eq_true rfl) ?_
  refine va_putF (D := D) (ci := 2) (v := .ref q_44) (ty := (.array .int)) (C := R_Sc) (T := F_Sc) (N := 18) hx hb hg i_Sc t_Sc t_Sc_ok n_Sc hown hK hP hD hS 0 rfl rfl 4 (by decide) (hg _ mw_173) (fun _ h9 => h9) rfl hin rfl (by decide +kernel) rfl rfl (Nat.le_of_ble_eq_true rfl) d_Sc_init_46 (fun H locs hP hD hS => ?_)
  have hP : va_P D vC [(h0, .inr (2, [.ref q_8, .ref q_17, .ref q_26, .ref q_35, .ref q_44, .null, .null, .null, .null, .null, .null, .int 0, .null, .null, .int 0, .int 0, .int 0, .int 0])), (q_8, .inl (kA 1, 5254, .inl (fun _ => 0))), (q_17, .inl (kA 1, 5254, .inl (fun _ => 0))), (q_26, .inl (kA 1, 5254, .inl (fun _ => 0))), (q_35, .inl (kA 1, 5254, .inl (fun _ => 0))), (q_44, .inl (kA 1, 5254, .inl (fun _ => 0)))] H := hP
  have hD : va_D A [(h0, .inr (2, [.ref q_8, .ref q_17, .ref q_26, .ref q_35, .ref q_44, .null, .null, .null, .null, .null, .null, .int 0, .null, .null, .int 0, .int 0, .int 0, .int 0])), (q_8, .inl (kA 1, 5254, .inl (fun _ => 0))), (q_17, .inl (kA 1, 5254, .inl (fun _ => 0))), (q_26, .inl (kA 1, 5254, .inl (fun _ => 0))), (q_35, .inl (kA 1, 5254, .inl (fun _ => 0))), (q_44, .inl (kA 1, 5254, .inl (fun _ => 0)))] := hD
  refine lv_aload_n hx hb d_Sc_init_49 rfl (lv_at hl 0 rfl) ?_
  refine lv_sipush (v := 10112) hx hb d_Sc_init_50 (by decide) ?_
  refine xn_newa (atype := .int) (a0 := (10112, .inl (fun _ => 0))) (N' := 10112) (ty := .int) hx hb (hg _ mw_138) rfl hK hP hD hS hA 1 rfl (fun _ => rfl) (by decide) (by decide) (by decide) (Nat.le_of_ble_eq_true rfl) (Nat.le_of_ble_eq_true rfl) d_Sc_init_53 (fun q_53 H hP hD hS => ?_)
  have hP : va_P D vC [(h0, .inr (2, [.ref q_8, .ref q_17, .ref q_26, .ref q_35, .ref q_44, .null, .null, .null, .null, .null, .null, .int 0, .null, .null, .int 0, .int 0, .int 0, .int 0])), (q_8, .inl (kA 1, 5254, .inl (fun _ => 0))), (q_17, .inl (kA 1, 5254, .inl (fun _ => 0))), (q_26, .inl (kA 1, 5254, .inl (fun _ => 0))), (q_35, .inl (kA 1, 5254, .inl (fun _ => 0))), (q_44, .inl (kA 1, 5254, .inl (fun _ => 0))), (q_53, .inl (kA 1, 10112, .inl (fun _ => 0)))] H := hP
  have hD : va_D A [(h0, .inr (2, [.ref q_8, .ref q_17, .ref q_26, .ref q_35, .ref q_44, .null, .null, .null, .null, .null, .null, .int 0, .null, .null, .int 0, .int 0, .int 0, .int 0])), (q_8, .inl (kA 1, 5254, .inl (fun _ => 0))), (q_17, .inl (kA 1, 5254, .inl (fun _ => 0))), (q_26, .inl (kA 1, 5254, .inl (fun _ => 0))), (q_35, .inl (kA 1, 5254, .inl (fun _ => 0))), (q_44, .inl (kA 1, 5254, .inl (fun _ => 0))), (q_53, .inl (kA 1, 10112, .inl (fun _ => 0)))] := hD
  refine W.widen (k := 6) (n := 36382) (Nat.le_of_ble_eq_true rfl) (Nat.le_of_ble_eq_true rfl) ?_
  refine va_putF (D := D) (ci := 2) (v := .ref q_53) (ty := (.array .int)) (C := R_Sc) (T := F_Sc) (N := 18) hx hb hg i_Sc t_Sc t_Sc_ok n_Sc hown hK hP hD hS 0 rfl rfl 5 (by decide) (hg _ mw_180) (fun _ h9 => h9) rfl hin rfl (by decide +kernel) rfl rfl (Nat.le_of_ble_eq_true rfl) d_Sc_init_55 (fun H locs hP hD hS => ?_)
  have hP : va_P D vC [(h0, .inr (2, [.ref q_8, .ref q_17, .ref q_26, .ref q_35, .ref q_44, .ref q_53, .null, .null, .null, .null, .null, .int 0, .null, .null, .int 0, .int 0, .int 0, .int 0])), (q_8, .inl (kA 1, 5254, .inl (fun _ => 0))), (q_17, .inl (kA 1, 5254, .inl (fun _ => 0))), (q_26, .inl (kA 1, 5254, .inl (fun _ => 0))), (q_35, .inl (kA 1, 5254, .inl (fun _ => 0))), (q_44, .inl (kA 1, 5254, .inl (fun _ => 0))), (q_53, .inl (kA 1, 10112, .inl (fun _ => 0)))] H := hP
  have hD : va_D A [(h0, .inr (2, [.ref q_8, .ref q_17, .ref q_26, .ref q_35, .ref q_44, .ref q_53, .null, .null, .null, .null, .null, .int 0, .null, .null, .int 0, .int 0, .int 0, .int 0])), (q_8, .inl (kA 1, 5254, .inl (fun _ => 0))), (q_17, .inl (kA 1, 5254, .inl (fun _ => 0))), (q_26, .inl (kA 1, 5254, .inl (fun _ => 0))), (q_35, .inl (kA 1, 5254, .inl (fun _ => 0))), (q_44, .inl (kA 1, 5254, .inl (fun _ => 0))), (q_53, .inl (kA 1, 10112, .inl (fun _ => 0)))] := hD
  refine lv_aload_n hx hb d_Sc_init_58 rfl (lv_at hl 0 rfl) ?_
  refine lv_sipush (v := 10112) hx hb d_Sc_init_59 (by decide) ?_
  refine xn_newa (atype := .int) (a0 := (10112, .inl (fun _ => 0))) (N' := 10112) (ty := .int) hx hb (hg _ mw_138) rfl hK hP hD hS hA 1 rfl (fun _ => rfl) (by decide) (by decide) (by decide) (Nat.le_of_ble_eq_true rfl) (Nat.le_of_ble_eq_true rfl) d_Sc_init_62 (fun q_62 H hP hD hS => ?_)
  have hP : va_P D vC [(h0, .inr (2, [.ref q_8, .ref q_17, .ref q_26, .ref q_35, .ref q_44, .ref q_53, .null, .null, .null, .null, .null, .int 0, .null, .null, .int 0, .int 0, .int 0, .int 0])), (q_8, .inl (kA 1, 5254, .inl (fun _ => 0))), (q_17, .inl (kA 1, 5254, .inl (fun _ => 0))), (q_26, .inl (kA 1, 5254, .inl (fun _ => 0))), (q_35, .inl (kA 1, 5254, .inl (fun _ => 0))), (q_44, .inl (kA 1, 5254, .inl (fun _ => 0))), (q_53, .inl (kA 1, 10112, .inl (fun _ => 0))), (q_62, .inl (kA 1, 10112, .inl (fun _ => 0)))] H := hP
  have hD : va_D A [(h0, .inr (2, [.ref q_8, .ref q_17, .ref q_26, .ref q_35, .ref q_44, .ref q_53, .null, .null, .null, .null, .null, .int 0, .null, .null, .int 0, .int 0, .int 0, .int 0])), (q_8, .inl (kA 1, 5254, .inl (fun _ => 0))), (q_17, .inl (kA 1, 5254, .inl (fun _ => 0))), (q_26, .inl (kA 1, 5254, .inl (fun _ => 0))), (q_35, .inl (kA 1, 5254, .inl (fun _ => 0))), (q_44, .inl (kA 1, 5254, .inl (fun _ => 0))), (q_53, .inl (kA 1, 10112, .inl (fun _ => 0))), (q_62, .inl (kA 1, 10112, .inl (fun _ => 0)))] := hD
  refine W.widen (k := 7) (n := 46494) (Nat.le_of_ble_eq_true rfl) (Nat.le_of_ble_eq_true rfl) ?_
  refine va_putF (D := D) (ci := 2) (v := .ref q_62) (ty := (.array .int)) (C := R_Sc) (T := F_Sc) (N := 18) hx hb hg i_Sc t_Sc t_Sc_ok n_Sc hown hK hP hD hS 0 rfl rfl 6 (by decide) (hg _ mw_184) (fun _ h9 => h9) rfl hin rfl (by decide +kernel) rfl rfl (Nat.le_of_ble_eq_true rfl) d_Sc_init_64 (fun H locs hP hD hS => ?_)
  have hP : va_P D vC [(h0, .inr (2, [.ref q_8, .ref q_17, .ref q_26, .ref q_35, .ref q_44, .ref q_53, .ref q_62, .null, .null, .null, .null, .int 0, .null, .null, .int 0, .int 0, .int 0, .int 0])), (q_8, .inl (kA 1, 5254, .inl (fun _ => 0))), (q_17, .inl (kA 1, 5254, .inl (fun _ => 0))), (q_26, .inl (kA 1, 5254, .inl (fun _ => 0))), (q_35, .inl (kA 1, 5254, .inl (fun _ => 0))), (q_44, .inl (kA 1, 5254, .inl (fun _ => 0))), (q_53, .inl (kA 1, 10112, .inl (fun _ => 0))), (q_62, .inl (kA 1, 10112, .inl (fun _ => 0)))] H := hP
  have hD : va_D A [(h0, .inr (2, [.ref q_8, .ref q_17, .ref q_26, .ref q_35, .ref q_44, .ref q_53, .ref q_62, .null, .null, .null, .null, .int 0, .null, .null, .int 0, .int 0, .int 0, .int 0])), (q_8, .inl (kA 1, 5254, .inl (fun _ => 0))), (q_17, .inl (kA 1, 5254, .inl (fun _ => 0))), (q_26, .inl (kA 1, 5254, .inl (fun _ => 0))), (q_35, .inl (kA 1, 5254, .inl (fun _ => 0))), (q_44, .inl (kA 1, 5254, .inl (fun _ => 0))), (q_53, .inl (kA 1, 10112, .inl (fun _ => 0))), (q_62, .inl (kA 1, 10112, .inl (fun _ => 0)))] := hD
  refine lv_aload_n hx hb d_Sc_init_67 rfl (lv_at hl 0 rfl) ?_
  refine lv_sipush (v := 10112) hx hb d_Sc_init_68 (by decide) ?_
  refine xn_newa (atype := .int) (a0 := (10112, .inl (fun _ => 0))) (N' := 10112) (ty := .int) hx hb (hg _ mw_138) rfl hK hP hD hS hA 1 rfl (fun _ => rfl) (by decide) (by decide) (by decide) (Nat.le_of_ble_eq_true rfl) (Nat.le_of_ble_eq_true rfl) d_Sc_init_71 (fun q_71 H hP hD hS => ?_)
  have hP : va_P D vC [(h0, .inr (2, [.ref q_8, .ref q_17, .ref q_26, .ref q_35, .ref q_44, .ref q_53, .ref q_62, .null, .null, .null, .null, .int 0, .null, .null, .int 0, .int 0, .int 0, .int 0])), (q_8, .inl (kA 1, 5254, .inl (fun _ => 0))), (q_17, .inl (kA 1, 5254, .inl (fun _ => 0))), (q_26, .inl (kA 1, 5254, .inl (fun _ => 0))), (q_35, .inl (kA 1, 5254, .inl (fun _ => 0))), (q_44, .inl (kA 1, 5254, .inl (fun _ => 0))), (q_53, .inl (kA 1, 10112, .inl (fun _ => 0))), (q_62, .inl (kA 1, 10112, .inl (fun _ => 0))), (q_71, .inl (kA 1, 10112, .inl (fun _ => 0)))] H := hP
  have hD : va_D A [(h0, .inr (2, [.ref q_8, .ref q_17, .ref q_26, .ref q_35, .ref q_44, .ref q_53, .ref q_62, .null, .null, .null, .null, .int 0, .null, .null, .int 0, .int 0, .int 0, .int 0])), (q_8, .inl (kA 1, 5254, .inl (fun _ => 0))), (q_17, .inl (kA 1, 5254, .inl (fun _ => 0))), (q_26, .inl (kA 1, 5254, .inl (fun _ => 0))), (q_35, .inl (kA 1, 5254, .inl (fun _ => 0))), (q_44, .inl (kA 1, 5254, .inl (fun _ => 0))), (q_53, .inl (kA 1, 10112, .inl (fun _ => 0))), (q_62, .inl (kA 1, 10112, .inl (fun _ => 0))), (q_71, .inl (kA 1, 10112, .inl (fun _ => 0)))] := hD
  refine W.widen (k := 8) (n := 56606) (Nat.le_of_ble_eq_true rfl) (Nat.le_of_ble_eq_true rfl) ?_
  refine va_putF (D := D) (ci := 2) (v := .ref q_71) (ty := (.array .int)) (C := R_Sc) (T := F_Sc) (N := 18) hx hb hg i_Sc t_Sc t_Sc_ok n_Sc hown hK hP hD hS 0 rfl rfl 7 (by decide) (hg _ mw_189) (fun _ h9 => h9) rfl hin rfl (by decide +kernel) rfl rfl (Nat.le_of_ble_eq_true rfl) d_Sc_init_73 (fun H locs hP hD hS => ?_)
  have hP : va_P D vC [(h0, .inr (2, [.ref q_8, .ref q_17, .ref q_26, .ref q_35, .ref q_44, .ref q_53, .ref q_62, .ref q_71, .null, .null, .null, .int 0, .null, .null, .int 0, .int 0, .int 0, .int 0])), (q_8, .inl (kA 1, 5254, .inl (fun _ => 0))), (q_17, .inl (kA 1, 5254, .inl (fun _ => 0))), (q_26, .inl (kA 1, 5254, .inl (fun _ => 0))), (q_35, .inl (kA 1, 5254, .inl (fun _ => 0))), (q_44, .inl (kA 1, 5254, .inl (fun _ => 0))), (q_53, .inl (kA 1, 10112, .inl (fun _ => 0))), (q_62, .inl (kA 1, 10112, .inl (fun _ => 0))), (q_71, .inl (kA 1, 10112, .inl (fun _ => 0)))] H := hP
  have hD : va_D A [(h0, .inr (2, [.ref q_8, .ref q_17, .ref q_26, .ref q_35, .ref q_44, .ref q_53, .ref q_62, .ref q_71, .null, .null, .null, .int 0, .null, .null, .int 0, .int 0, .int 0, .int 0])), (q_8, .inl (kA 1, 5254, .inl (fun _ => 0))), (q_17, .inl (kA 1, 5254, .inl (fun _ => 0))), (q_26, .inl (kA 1, 5254, .inl (fun _ => 0))), (q_35, .inl (kA 1, 5254, .inl (fun _ => 0))), (q_44, .inl (kA 1, 5254, .inl (fun _ => 0))), (q_53, .inl (kA 1, 10112, .inl (fun _ => 0))), (q_62, .inl (kA 1, 10112, .inl (fun _ => 0))), (q_71, .inl (kA 1, 10112, .inl (fun _ => 0)))] := hD
  refine lv_aload_n hx hb d_Sc_init_76 rfl (lv_at hl 0 rfl) ?_
  refine lv_sipush (v := 10112) hx hb d_Sc_init_77 (by decide) ?_
  refine xn_newa (atype := .int) (a0 := (10112, .inl (fun _ => 0))) (N' := 10112) (ty := .int) hx hb (hg _ mw_138) rfl hK hP hD hS hA 1 rfl (fun _ => rfl) (by decide) (by decide) (by decide) (Nat.le_of_ble_eq_true rfl) (Nat.le_of_ble_eq_true rfl) d_Sc_init_80 (fun q_80 H hP hD hS => ?_)
  have hP : va_P D vC [(h0, .inr (2, [.ref q_8, .ref q_17, .ref q_26, .ref q_35, .ref q_44, .ref q_53, .ref q_62, .ref q_71, .null, .null, .null, .int 0, .null, .null, .int 0, .int 0, .int 0, .int 0])), (q_8, .inl (kA 1, 5254, .inl (fun _ => 0))), (q_17, .inl (kA 1, 5254, .inl (fun _ => 0))), (q_26, .inl (kA 1, 5254, .inl (fun _ => 0))), (q_35, .inl (kA 1, 5254, .inl (fun _ => 0))), (q_44, .inl (kA 1, 5254, .inl (fun _ => 0))), (q_53, .inl (kA 1, 10112, .inl (fun _ => 0))), (q_62, .inl (kA 1, 10112, .inl (fun _ => 0))), (q_71, .inl (kA 1, 10112, .inl (fun _ => 0))), (q_80, .inl (kA 1, 10112, .inl (fun _ => 0)))] H := hP
  have hD : va_D A [(h0, .inr (2, [.ref q_8, .ref q_17, .ref q_26, .ref q_35, .ref q_44, .ref q_53, .ref q_62, .ref q_71, .null, .null, .null, .int 0, .null, .null, .int 0, .int 0, .int 0, .int 0])), (q_8, .inl (kA 1, 5254, .inl (fun _ => 0))), (q_17, .inl (kA 1, 5254, .inl (fun _ => 0))), (q_26, .inl (kA 1, 5254, .inl (fun _ => 0))), (q_35, .inl (kA 1, 5254, .inl (fun _ => 0))), (q_44, .inl (kA 1, 5254, .inl (fun _ => 0))), (q_53, .inl (kA 1, 10112, .inl (fun _ => 0))), (q_62, .inl (kA 1, 10112, .inl (fun _ => 0))), (q_71, .inl (kA 1, 10112, .inl (fun _ => 0))), (q_80, .inl (kA 1, 10112, .inl (fun _ => 0)))] := hD
  refine W.widen (k := 9) (n := 66718) (Nat.le_of_ble_eq_true rfl) (Nat.le_of_ble_eq_true rfl) ?_
  refine va_putF (D := D) (ci := 2) (v := .ref q_80) (ty := (.array .int)) (C := R_Sc) (T := F_Sc) (N := 18) hx hb hg i_Sc t_Sc t_Sc_ok n_Sc hown hK hP hD hS 0 rfl rfl 8 (by decide) (hg _ mw_193) (fun _ h9 => h9) rfl hin rfl (by decide +kernel) rfl rfl (Nat.le_of_ble_eq_true rfl) d_Sc_init_82 (fun H locs hP hD hS => ?_)
  have hP : va_P D vC [(h0, .inr (2, [.ref q_8, .ref q_17, .ref q_26, .ref q_35, .ref q_44, .ref q_53, .ref q_62, .ref q_71, .ref q_80, .null, .null, .int 0, .null, .null, .int 0, .int 0, .int 0, .int 0])), (q_8, .inl (kA 1, 5254, .inl (fun _ => 0))), (q_17, .inl (kA 1, 5254, .inl (fun _ => 0))), (q_26, .inl (kA 1, 5254, .inl (fun _ => 0))), (q_35, .inl (kA 1, 5254, .inl (fun _ => 0))), (q_44, .inl (kA 1, 5254, .inl (fun _ => 0))), (q_53, .inl (kA 1, 10112, .inl (fun _ => 0))), (q_62, .inl (kA 1, 10112, .inl (fun _ => 0))), (q_71, .inl (kA 1, 10112, .inl (fun _ => 0))), (q_80, .inl (kA 1, 10112, .inl (fun _ => 0)))] H := hP
  have hD : va_D A [(h0, .inr (2, [.ref q_8, .ref q_17, .ref q_26, .ref q_35, .ref q_44, .ref q_53, .ref q_62, .ref q_71, .ref q_80, .null, .null, .int 0, .null, .null, .int 0, .int 0, .int 0, .int 0])), (q_8, .inl (kA 1, 5254, .inl (fun _ => 0))), (q_17, .inl (kA 1, 5254, .inl (fun _ => 0))), (q_26, .inl (kA 1, 5254, .inl (fun _ => 0))), (q_35, .inl (kA 1, 5254, .inl (fun _ => 0))), (q_44, .inl (kA 1, 5254, .inl (fun _ => 0))), (q_53, .inl (kA 1, 10112, .inl (fun _ => 0))), (q_62, .inl (kA 1, 10112, .inl (fun _ => 0))), (q_71, .inl (kA 1, 10112, .inl (fun _ => 0))), (q_80, .inl (kA 1, 10112, .inl (fun _ => 0)))] := hD
  refine lv_aload_n hx hb d_Sc_init_85 rfl (lv_at hl 0 rfl) ?_
  refine va_new (ci := 0) (fs := [.null, .int 0]) (C := R_By) (T := F_By) (N := 2) hx hb hg i_By t_By t_By_ok hown (hg _ mw_146) (hg _ mw_37) (hg _ mw_2) hK hP hD hS hA rfl (fun j hj => by rcases (show j = 0 ∨ j = 1 by omega) with rfl | rfl <;> rfl) (Nat.le_of_ble_eq_true rfl) (Nat.le_of_ble_eq_true rfl) d_Sc_init_86 (fun q_86 H hP hD hS => ?_)
  have hP : va_P D vC [(h0, .inr (2, [.ref q_8, .ref q_17, .ref q_26, .ref q_35, .ref q_44, .ref q_53, .ref q_62, .ref q_71, .ref q_80, .null, .null, .int 0, .null, .null, .int 0, .int 0, .int 0, .int 0])), (q_8, .inl (kA 1, 5254, .inl (fun _ => 0))), (q_17, .inl (kA 1, 5254, .inl (fun _ => 0))), (q_26, .inl (kA 1, 5254, .inl (fun _ => 0))), (q_35, .inl (kA 1, 5254, .inl (fun _ => 0))), (q_44, .inl (kA 1, 5254, .inl (fun _ => 0))), (q_53, .inl (kA 1, 10112, .inl (fun _ => 0))), (q_62, .inl (kA 1, 10112, .inl (fun _ => 0))), (q_71, .inl (kA 1, 10112, .inl (fun _ => 0))), (q_80, .inl (kA 1, 10112, .inl (fun _ => 0))), (q_86, .inr (0, [.null, .int 0]))] H := hP
  have hD : va_D A [(h0, .inr (2, [.ref q_8, .ref q_17, .ref q_26, .ref q_35, .ref q_44, .ref q_53, .ref q_62, .ref q_71, .ref q_80, .null, .null, .int 0, .null, .null, .int 0, .int 0, .int 0, .int 0])), (q_8, .inl (kA 1, 5254, .inl (fun _ => 0))), (q_17, .inl (kA 1, 5254, .inl (fun _ => 0))), (q_26, .inl (kA 1, 5254, .inl (fun _ => 0))), (q_35, .inl (kA 1, 5254, .inl (fun _ => 0))), (q_44, .inl (kA 1, 5254, .inl (fun _ => 0))), (q_53, .inl (kA 1, 10112, .inl (fun _ => 0))), (q_62, .inl (kA 1, 10112, .inl (fun _ => 0))), (q_71, .inl (kA 1, 10112, .inl (fun _ => 0))), (q_80, .inl (kA 1, 10112, .inl (fun _ => 0))), (q_86, .inr (0, [.null, .int 0]))] := hD
  refine W.widen (k := 10) (n := 66720) (Nat.le_of_ble_eq_true rfl) (Nat.le_of_ble_eq_true rfl) ?_
  refine lv_dup hx hb d_Sc_init_89 rfl ?_
  refine lv_ldc (v := 72704) hx hb hown (hg _ mw_147) d_Sc_init_90 ?_
  refine xc_v (wr := [(h0, .inr (2, [.ref q_8, .ref q_17, .ref q_26, .ref q_35, .ref q_44, .ref q_53, .ref q_62, .ref q_71, .ref q_80, .null, .null, .int 0, .null, .null, .int 0, .int 0, .int 0, .int 0])), (q_8, .inl (kA 1, 5254, .inl (fun _ => 0))), (q_17, .inl (kA 1, 5254, .inl (fun _ => 0))), (q_26, .inl (kA 1, 5254, .inl (fun _ => 0))), (q_35, .inl (kA 1, 5254, .inl (fun _ => 0))), (q_44, .inl (kA 1, 5254, .inl (fun _ => 0))), (q_53, .inl (kA 1, 10112, .inl (fun _ => 0))), (q_62, .inl (kA 1, 10112, .inl (fun _ => 0))), (q_71, .inl (kA 1, 10112, .inl (fun _ => 0))), (q_80, .inl (kA 1, 10112, .inl (fun _ => 0)))]) (va_runI (As := [.int 72704]) (rest := [.ref q_86, .ref h0]) ⟨hx, hb, hml, hown, hg⟩ (c_By_init l D kA kS H.size q_86 72704 72704 (by decide +kernel) (by decide)) (cwI 1 hg (xg_w mw_40) rfl rfl rfl (hg _ mw_2) (hg _ mw_148) (hg _ mw_39) rfl (by decide +kernel) ⟨Nat.le_of_ble_eq_true rfl, Nat.le_of_ble_eq_true rfl⟩) (xc_pre hK hN hC hP hD hS hA [10] (by decide) rfl) rfl rfl hl.1 rfl (lv_room (Nat.le_of_ble_eq_true rfl)) d_Sc_init_92 ⟨Nat.le_of_ble_eq_true rfl, Nat.le_of_ble_eq_true rfl⟩) hP hD hS hA [10] [0, 1, 2, 3, 4, 5, 6, 7, 8, 9] rfl rfl (by decide) (by decide) (fun h_92 H locs hw hP hD hS => ?_)
  have hP : va_P D vC [(h0, .inr (2, [.ref q_8, .ref q_17, .ref q_26, .ref q_35, .ref q_44, .ref q_53, .ref q_62, .ref q_71, .ref q_80, .null, .null, .int 0, .null, .null, .int 0, .int 0, .int 0, .int 0])), (q_8, .inl (kA 1, 5254, .inl (fun _ => 0))), (q_17, .inl (kA 1, 5254, .inl (fun _ => 0))), (q_26, .inl (kA 1, 5254, .inl (fun _ => 0))), (q_35, .inl (kA 1, 5254, .inl (fun _ => 0))), (q_44, .inl (kA 1, 5254, .inl (fun _ => 0))), (q_53, .inl (kA 1, 10112, .inl (fun _ => 0))), (q_62, .inl (kA 1, 10112, .inl (fun _ => 0))), (q_71, .inl (kA 1, 10112, .inl (fun _ => 0))), (q_80, .inl (kA 1, 10112, .inl (fun _ => 0))), (q_86, .inr (0, [.ref h_92, .int (nI 0)])), (h_92, .inl (kA 0, 72704, .inl (fun _ => 0)))] H := hP
  have hD : va_D A [(h0, .inr (2, [.ref q_8, .ref q_17, .ref q_26, .ref q_35, .ref q_44, .ref q_53, .ref q_62, .ref q_71, .ref q_80, .null, .null, .int 0, .null, .null, .int 0, .int 0, .int 0, .int 0])), (q_8, .inl (kA 1, 5254, .inl (fun _ => 0))), (q_17, .inl (kA 1, 5254, .inl (fun _ => 0))), (q_26, .inl (kA 1, 5254, .inl (fun _ => 0))), (q_35, .inl (kA 1, 5254, .inl (fun _ => 0))), (q_44, .inl (kA 1, 5254, .inl (fun _ => 0))), (q_53, .inl (kA 1, 10112, .inl (fun _ => 0))), (q_62, .inl (kA 1, 10112, .inl (fun _ => 0))), (q_71, .inl (kA 1, 10112, .inl (fun _ => 0))), (q_80, .inl (kA 1, 10112, .inl (fun _ => 0))), (q_86, .inr (0, [.ref h_92, .int (nI 0)])), (h_92, .inl (kA 0, 72704, .inl (fun _ => 0)))] := hD
  refine W.widen (k := 11) (n := 139424) (Nat.le_of_ble_eq_true rfl) (Nat.le_of_ble_eq_true rfl) ?_
  refine va_putF (D := D) (ci := 2) (v := .ref q_86) (ty := (.object "RecordLake$Bytes")) (C := R_Sc) (T := F_Sc) (N := 18) hx hb hg i_Sc t_Sc t_Sc_ok n_Sc hown hK hP hD hS 0 rfl rfl 9 (by decide) (hg _ mw_196) (fun _ h9 => h9) rfl hin rfl (by decide +kernel) rfl rfl (Nat.le_of_ble_eq_true rfl) d_Sc_init_95 (fun H locs hP hD hS => ?_)
  have hP : va_P D vC [(h0, .inr (2, [.ref q_8, .ref q_17, .ref q_26, .ref q_35, .ref q_44, .ref q_53, .ref q_62, .ref q_71, .ref q_80, .ref q_86, .null, .int 0, .null, .null, .int 0, .int 0, .int 0, .int 0])), (q_8, .inl (kA 1, 5254, .inl (fun _ => 0))), (q_17, .inl (kA 1, 5254, .inl (fun _ => 0))), (q_26, .inl (kA 1, 5254, .inl (fun _ => 0))), (q_35, .inl (kA 1, 5254, .inl (fun _ => 0))), (q_44, .inl (kA 1, 5254, .inl (fun _ => 0))), (q_53, .inl (kA 1, 10112, .inl (fun _ => 0))), (q_62, .inl (kA 1, 10112, .inl (fun _ => 0))), (q_71, .inl (kA 1, 10112, .inl (fun _ => 0))), (q_80, .inl (kA 1, 10112, .inl (fun _ => 0))), (q_86, .inr (0, [.ref h_92, .int (nI 0)])), (h_92, .inl (kA 0, 72704, .inl (fun _ => 0)))] H := hP
  have hD : va_D A [(h0, .inr (2, [.ref q_8, .ref q_17, .ref q_26, .ref q_35, .ref q_44, .ref q_53, .ref q_62, .ref q_71, .ref q_80, .ref q_86, .null, .int 0, .null, .null, .int 0, .int 0, .int 0, .int 0])), (q_8, .inl (kA 1, 5254, .inl (fun _ => 0))), (q_17, .inl (kA 1, 5254, .inl (fun _ => 0))), (q_26, .inl (kA 1, 5254, .inl (fun _ => 0))), (q_35, .inl (kA 1, 5254, .inl (fun _ => 0))), (q_44, .inl (kA 1, 5254, .inl (fun _ => 0))), (q_53, .inl (kA 1, 10112, .inl (fun _ => 0))), (q_62, .inl (kA 1, 10112, .inl (fun _ => 0))), (q_71, .inl (kA 1, 10112, .inl (fun _ => 0))), (q_80, .inl (kA 1, 10112, .inl (fun _ => 0))), (q_86, .inr (0, [.ref h_92, .int (nI 0)])), (h_92, .inl (kA 0, 72704, .inl (fun _ => 0)))] := hD
  refine lv_aload_n hx hb d_Sc_init_98 rfl (lv_at hl 0 rfl) ?_
  refine lv_iconst (v := 4) hx hb d_Sc_init_99 (by decide) ?_
  refine xn_newa (atype := .int) (a0 := (4, .inl (fun _ => 0))) (N' := 4) (ty := .int) hx hb (hg _ mw_138) rfl hK hP hD hS hA 1 rfl (fun _ => rfl) (by decide) (by decide) (by decide) (Nat.le_of_ble_eq_true rfl) (Nat.le_of_ble_eq_true rfl) d_Sc_init_100 (fun q_100 H hP hD hS => ?_)
  have hP : va_P D vC [(h0, .inr (2, [.ref q_8, .ref q_17, .ref q_26, .ref q_35, .ref q_44, .ref q_53, .ref q_62, .ref q_71, .ref q_80, .ref q_86, .null, .int 0, .null, .null, .int 0, .int 0, .int 0, .int 0])), (q_8, .inl (kA 1, 5254, .inl (fun _ => 0))), (q_17, .inl (kA 1, 5254, .inl (fun _ => 0))), (q_26, .inl (kA 1, 5254, .inl (fun _ => 0))), (q_35, .inl (kA 1, 5254, .inl (fun _ => 0))), (q_44, .inl (kA 1, 5254, .inl (fun _ => 0))), (q_53, .inl (kA 1, 10112, .inl (fun _ => 0))), (q_62, .inl (kA 1, 10112, .inl (fun _ => 0))), (q_71, .inl (kA 1, 10112, .inl (fun _ => 0))), (q_80, .inl (kA 1, 10112, .inl (fun _ => 0))), (q_86, .inr (0, [.ref h_92, .int (nI 0)])), (h_92, .inl (kA 0, 72704, .inl (fun _ => 0))), (q_100, .inl (kA 1, 4, .inl (fun _ => 0)))] H := hP
  have hD : va_D A [(h0, .inr (2, [.ref q_8, .ref q_17, .ref q_26, .ref q_35, .ref q_44, .ref q_53, .ref q_62, .ref q_71, .ref q_80, .ref q_86, .null, .int 0, .null, .null, .int 0, .int 0, .int 0, .int 0])), (q_8, .inl (kA 1, 5254, .inl (fun _ => 0))), (q_17, .inl (kA 1, 5254, .inl (fun _ => 0))), (q_26, .inl (kA 1, 5254, .inl (fun _ => 0))), (q_35, .inl (kA 1, 5254, .inl (fun _ => 0))), (q_44, .inl (kA 1, 5254, .inl (fun _ => 0))), (q_53, .inl (kA 1, 10112, .inl (fun _ => 0))), (q_62, .inl (kA 1, 10112, .inl (fun _ => 0))), (q_71, .inl (kA 1, 10112, .inl (fun _ => 0))), (q_80, .inl (kA 1, 10112, .inl (fun _ => 0))), (q_86, .inr (0, [.ref h_92, .int (nI 0)])), (h_92, .inl (kA 0, 72704, .inl (fun _ => 0))), (q_100, .inl (kA 1, 4, .inl (fun _ => 0)))] := hD
  refine W.widen (k := 12) (n := 139428) (Nat.le_of_ble_eq_true rfl) (Nat.le_of_ble_eq_true rfl) ?_
  refine va_putF (D := D) (ci := 2) (v := .ref q_100) (ty := (.array .int)) (C := R_Sc) (T := F_Sc) (N := 18) hx hb hg i_Sc t_Sc t_Sc_ok n_Sc hown hK hP hD hS 0 rfl rfl 10 (by decide) (hg _ mw_200) (fun _ h9 => h9) rfl hin rfl (by decide +kernel) rfl rfl (Nat.le_of_ble_eq_true rfl) d_Sc_init_102 (fun H locs hP hD hS => ?_)
  have hP : va_P D vC [(h0, .inr (2, [.ref q_8, .ref q_17, .ref q_26, .ref q_35, .ref q_44, .ref q_53, .ref q_62, .ref q_71, .ref q_80, .ref q_86, .ref q_100, .int 0, .null, .null, .int 0, .int 0, .int 0, .int 0])), (q_8, .inl (kA 1, 5254, .inl (fun _ => 0))), (q_17, .inl (kA 1, 5254, .inl (fun _ => 0))), (q_26, .inl (kA 1, 5254, .inl (fun _ => 0))), (q_35, .inl (kA 1, 5254, .inl (fun _ => 0))), (q_44, .inl (kA 1, 5254, .inl (fun _ => 0))), (q_53, .inl (kA 1, 10112, .inl (fun _ => 0))), (q_62, .inl (kA 1, 10112, .inl (fun _ => 0))), (q_71, .inl (kA 1, 10112, .inl (fun _ => 0))), (q_80, .inl (kA 1, 10112, .inl (fun _ => 0))), (q_86, .inr (0, [.ref h_92, .int (nI 0)])), (h_92, .inl (kA 0, 72704, .inl (fun _ => 0))), (q_100, .inl (kA 1, 4, .inl (fun _ => 0)))] H := hP
  have hD : va_D A [(h0, .inr (2, [.ref q_8, .ref q_17, .ref q_26, .ref q_35, .ref q_44, .ref q_53, .ref q_62, .ref q_71, .ref q_80, .ref q_86, .ref q_100, .int 0, .null, .null, .int 0, .int 0, .int 0, .int 0])), (q_8, .inl (kA 1, 5254, .inl (fun _ => 0))), (q_17, .inl (kA 1, 5254, .inl (fun _ => 0))), (q_26, .inl (kA 1, 5254, .inl (fun _ => 0))), (q_35, .inl (kA 1, 5254, .inl (fun _ => 0))), (q_44, .inl (kA 1, 5254, .inl (fun _ => 0))), (q_53, .inl (kA 1, 10112, .inl (fun _ => 0))), (q_62, .inl (kA 1, 10112, .inl (fun _ => 0))), (q_71, .inl (kA 1, 10112, .inl (fun _ => 0))), (q_80, .inl (kA 1, 10112, .inl (fun _ => 0))), (q_86, .inr (0, [.ref h_92, .int (nI 0)])), (h_92, .inl (kA 0, 72704, .inl (fun _ => 0))), (q_100, .inl (kA 1, 4, .inl (fun _ => 0)))] := hD
  refine lv_aload_n hx hb d_Sc_init_105 rfl (lv_at hl 0 rfl) ?_
  refine lv_bipush (v := 64) hx hb d_Sc_init_106 (by decide) ?_
  refine xn_newa (atype := .int) (a0 := (64, .inl (fun _ => 0))) (N' := 64) (ty := .int) hx hb (hg _ mw_138) rfl hK hP hD hS hA 1 rfl (fun _ => rfl) (by decide) (by decide) (by decide) (Nat.le_of_ble_eq_true rfl) (Nat.le_of_ble_eq_true rfl) d_Sc_init_108 (fun q_108 H hP hD hS => ?_)
  have hP : va_P D vC [(h0, .inr (2, [.ref q_8, .ref q_17, .ref q_26, .ref q_35, .ref q_44, .ref q_53, .ref q_62, .ref q_71, .ref q_80, .ref q_86, .ref q_100, .int 0, .null, .null, .int 0, .int 0, .int 0, .int 0])), (q_8, .inl (kA 1, 5254, .inl (fun _ => 0))), (q_17, .inl (kA 1, 5254, .inl (fun _ => 0))), (q_26, .inl (kA 1, 5254, .inl (fun _ => 0))), (q_35, .inl (kA 1, 5254, .inl (fun _ => 0))), (q_44, .inl (kA 1, 5254, .inl (fun _ => 0))), (q_53, .inl (kA 1, 10112, .inl (fun _ => 0))), (q_62, .inl (kA 1, 10112, .inl (fun _ => 0))), (q_71, .inl (kA 1, 10112, .inl (fun _ => 0))), (q_80, .inl (kA 1, 10112, .inl (fun _ => 0))), (q_86, .inr (0, [.ref h_92, .int (nI 0)])), (h_92, .inl (kA 0, 72704, .inl (fun _ => 0))), (q_100, .inl (kA 1, 4, .inl (fun _ => 0))), (q_108, .inl (kA 1, 64, .inl (fun _ => 0)))] H := hP
  have hD : va_D A [(h0, .inr (2, [.ref q_8, .ref q_17, .ref q_26, .ref q_35, .ref q_44, .ref q_53, .ref q_62, .ref q_71, .ref q_80, .ref q_86, .ref q_100, .int 0, .null, .null, .int 0, .int 0, .int 0, .int 0])), (q_8, .inl (kA 1, 5254, .inl (fun _ => 0))), (q_17, .inl (kA 1, 5254, .inl (fun _ => 0))), (q_26, .inl (kA 1, 5254, .inl (fun _ => 0))), (q_35, .inl (kA 1, 5254, .inl (fun _ => 0))), (q_44, .inl (kA 1, 5254, .inl (fun _ => 0))), (q_53, .inl (kA 1, 10112, .inl (fun _ => 0))), (q_62, .inl (kA 1, 10112, .inl (fun _ => 0))), (q_71, .inl (kA 1, 10112, .inl (fun _ => 0))), (q_80, .inl (kA 1, 10112, .inl (fun _ => 0))), (q_86, .inr (0, [.ref h_92, .int (nI 0)])), (h_92, .inl (kA 0, 72704, .inl (fun _ => 0))), (q_100, .inl (kA 1, 4, .inl (fun _ => 0))), (q_108, .inl (kA 1, 64, .inl (fun _ => 0)))] := hD
  refine W.widen (k := 13) (n := 139492) (Nat.le_of_ble_eq_true rfl) (Nat.le_of_ble_eq_true rfl) ?_
  refine va_putF (D := D) (ci := 2) (v := .ref q_108) (ty := (.array .int)) (C := R_Sc) (T := F_Sc) (N := 18) hx hb hg i_Sc t_Sc t_Sc_ok n_Sc hown hK hP hD hS 0 rfl rfl 12 (by decide) (hg _ mw_204) (fun _ h9 => h9) rfl hin rfl (by decide +kernel) rfl rfl (Nat.le_of_ble_eq_true rfl) d_Sc_init_110 (fun H locs hP hD hS => ?_)
  have hP : va_P D vC [(h0, .inr (2, [.ref q_8, .ref q_17, .ref q_26, .ref q_35, .ref q_44, .ref q_53, .ref q_62, .ref q_71, .ref q_80, .ref q_86, .ref q_100, .int 0, .ref q_108, .null, .int 0, .int 0, .int 0, .int 0])), (q_8, .inl (kA 1, 5254, .inl (fun _ => 0))), (q_17, .inl (kA 1, 5254, .inl (fun _ => 0))), (q_26, .inl (kA 1, 5254, .inl (fun _ => 0))), (q_35, .inl (kA 1, 5254, .inl (fun _ => 0))), (q_44, .inl (kA 1, 5254, .inl (fun _ => 0))), (q_53, .inl (kA 1, 10112, .inl (fun _ => 0))), (q_62, .inl (kA 1, 10112, .inl (fun _ => 0))), (q_71, .inl (kA 1, 10112, .inl (fun _ => 0))), (q_80, .inl (kA 1, 10112, .inl (fun _ => 0))), (q_86, .inr (0, [.ref h_92, .int (nI 0)])), (h_92, .inl (kA 0, 72704, .inl (fun _ => 0))), (q_100, .inl (kA 1, 4, .inl (fun _ => 0))), (q_108, .inl (kA 1, 64, .inl (fun _ => 0)))] H := hP
  have hD : va_D A [(h0, .inr (2, [.ref q_8, .ref q_17, .ref q_26, .ref q_35, .ref q_44, .ref q_53, .ref q_62, .ref q_71, .ref q_80, .ref q_86, .ref q_100, .int 0, .ref q_108, .null, .int 0, .int 0, .int 0, .int 0])), (q_8, .inl (kA 1, 5254, .inl (fun _ => 0))), (q_17, .inl (kA 1, 5254, .inl (fun _ => 0))), (q_26, .inl (kA 1, 5254, .inl (fun _ => 0))), (q_35, .inl (kA 1, 5254, .inl (fun _ => 0))), (q_44, .inl (kA 1, 5254, .inl (fun _ => 0))), (q_53, .inl (kA 1, 10112, .inl (fun _ => 0))), (q_62, .inl (kA 1, 10112, .inl (fun _ => 0))), (q_71, .inl (kA 1, 10112, .inl (fun _ => 0))), (q_80, .inl (kA 1, 10112, .inl (fun _ => 0))), (q_86, .inr (0, [.ref h_92, .int (nI 0)])), (h_92, .inl (kA 0, 72704, .inl (fun _ => 0))), (q_100, .inl (kA 1, 4, .inl (fun _ => 0))), (q_108, .inl (kA 1, 64, .inl (fun _ => 0)))] := hD
  refine lv_aload_n hx hb d_Sc_init_113 rfl (lv_at hl 0 rfl) ?_
  refine lv_bipush (v := 64) hx hb d_Sc_init_114 (by decide) ?_
  refine xn_newa (atype := .int) (a0 := (64, .inl (fun _ => 0))) (N' := 64) (ty := .int) hx hb (hg _ mw_138) rfl hK hP hD hS hA 1 rfl (fun _ => rfl) (by decide) (by decide) (by decide) (Nat.le_of_ble_eq_true rfl) (Nat.le_of_ble_eq_true rfl) d_Sc_init_116 (fun q_116 H hP hD hS => ?_)
  have hP : va_P D vC [(h0, .inr (2, [.ref q_8, .ref q_17, .ref q_26, .ref q_35, .ref q_44, .ref q_53, .ref q_62, .ref q_71, .ref q_80, .ref q_86, .ref q_100, .int 0, .ref q_108, .null, .int 0, .int 0, .int 0, .int 0])), (q_8, .inl (kA 1, 5254, .inl (fun _ => 0))), (q_17, .inl (kA 1, 5254, .inl (fun _ => 0))), (q_26, .inl (kA 1, 5254, .inl (fun _ => 0))), (q_35, .inl (kA 1, 5254, .inl (fun _ => 0))), (q_44, .inl (kA 1, 5254, .inl (fun _ => 0))), (q_53, .inl (kA 1, 10112, .inl (fun _ => 0))), (q_62, .inl (kA 1, 10112, .inl (fun _ => 0))), (q_71, .inl (kA 1, 10112, .inl (fun _ => 0))), (q_80, .inl (kA 1, 10112, .inl (fun _ => 0))), (q_86, .inr (0, [.ref h_92, .int (nI 0)])), (h_92, .inl (kA 0, 72704, .inl (fun _ => 0))), (q_100, .inl (kA 1, 4, .inl (fun _ => 0))), (q_108, .inl (kA 1, 64, .inl (fun _ => 0))), (q_116, .inl (kA 1, 64, .inl (fun _ => 0)))] H := hP
  have hD : va_D A [(h0, .inr (2, [.ref q_8, .ref q_17, .ref q_26, .ref q_35, .ref q_44, .ref q_53, .ref q_62, .ref q_71, .ref q_80, .ref q_86, .ref q_100, .int 0, .ref q_108, .null, .int 0, .int 0, .int 0, .int 0])), (q_8, .inl (kA 1, 5254, .inl (fun _ => 0))), (q_17, .inl (kA 1, 5254, .inl (fun _ => 0))), (q_26, .inl (kA 1, 5254, .inl (fun _ => 0))), (q_35, .inl (kA 1, 5254, .inl (fun _ => 0))), (q_44, .inl (kA 1, 5254, .inl (fun _ => 0))), (q_53, .inl (kA 1, 10112, .inl (fun _ => 0))), (q_62, .inl (kA 1, 10112, .inl (fun _ => 0))), (q_71, .inl (kA 1, 10112, .inl (fun _ => 0))), (q_80, .inl (kA 1, 10112, .inl (fun _ => 0))), (q_86, .inr (0, [.ref h_92, .int (nI 0)])), (h_92, .inl (kA 0, 72704, .inl (fun _ => 0))), (q_100, .inl (kA 1, 4, .inl (fun _ => 0))), (q_108, .inl (kA 1, 64, .inl (fun _ => 0))), (q_116, .inl (kA 1, 64, .inl (fun _ => 0)))] := hD
  refine W.widen (k := 14) (n := 139556) (Nat.le_of_ble_eq_true rfl) (Nat.le_of_ble_eq_true rfl) ?_
  refine va_putF (D := D) (ci := 2) (v := .ref q_116) (ty := (.array .int)) (C := R_Sc) (T := F_Sc) (N := 18) hx hb hg i_Sc t_Sc t_Sc_ok n_Sc hown hK hP hD hS 0 rfl rfl 13 (by decide) (hg _ mw_205) (fun _ h9 => h9) rfl hin rfl (by decide +kernel) rfl rfl (Nat.le_of_ble_eq_true rfl) d_Sc_init_118 (fun H locs hP hD hS => ?_)
  have hP : va_P D vC [(h0, .inr (2, [.ref q_8, .ref q_17, .ref q_26, .ref q_35, .ref q_44, .ref q_53, .ref q_62, .ref q_71, .ref q_80, .ref q_86, .ref q_100, .int 0, .ref q_108, .ref q_116, .int 0, .int 0, .int 0, .int 0])), (q_8, .inl (kA 1, 5254, .inl (fun _ => 0))), (q_17, .inl (kA 1, 5254, .inl (fun _ => 0))), (q_26, .inl (kA 1, 5254, .inl (fun _ => 0))), (q_35, .inl (kA 1, 5254, .inl (fun _ => 0))), (q_44, .inl (kA 1, 5254, .inl (fun _ => 0))), (q_53, .inl (kA 1, 10112, .inl (fun _ => 0))), (q_62, .inl (kA 1, 10112, .inl (fun _ => 0))), (q_71, .inl (kA 1, 10112, .inl (fun _ => 0))), (q_80, .inl (kA 1, 10112, .inl (fun _ => 0))), (q_86, .inr (0, [.ref h_92, .int (nI 0)])), (h_92, .inl (kA 0, 72704, .inl (fun _ => 0))), (q_100, .inl (kA 1, 4, .inl (fun _ => 0))), (q_108, .inl (kA 1, 64, .inl (fun _ => 0))), (q_116, .inl (kA 1, 64, .inl (fun _ => 0)))] H := hP
  have hD : va_D A [(h0, .inr (2, [.ref q_8, .ref q_17, .ref q_26, .ref q_35, .ref q_44, .ref q_53, .ref q_62, .ref q_71, .ref q_80, .ref q_86, .ref q_100, .int 0, .ref q_108, .ref q_116, .int 0, .int 0, .int 0, .int 0])), (q_8, .inl (kA 1, 5254, .inl (fun _ => 0))), (q_17, .inl (kA 1, 5254, .inl (fun _ => 0))), (q_26, .inl (kA 1, 5254, .inl (fun _ => 0))), (q_35, .inl (kA 1, 5254, .inl (fun _ => 0))), (q_44, .inl (kA 1, 5254, .inl (fun _ => 0))), (q_53, .inl (kA 1, 10112, .inl (fun _ => 0))), (q_62, .inl (kA 1, 10112, .inl (fun _ => 0))), (q_71, .inl (kA 1, 10112, .inl (fun _ => 0))), (q_80, .inl (kA 1, 10112, .inl (fun _ => 0))), (q_86, .inr (0, [.ref h_92, .int (nI 0)])), (h_92, .inl (kA 0, 72704, .inl (fun _ => 0))), (q_100, .inl (kA 1, 4, .inl (fun _ => 0))), (q_108, .inl (kA 1, 64, .inl (fun _ => 0))), (q_116, .inl (kA 1, 64, .inl (fun _ => 0)))] := hD
  refine lv_iconst (v := nI 0) hx hb d_Sc_init_121 (by decide) ?_
  refine lv_istore_n (lv' := [(1, .int (nI 0)), (0, .ref h0)]) hx hb d_Sc_init_122 rfl hl (by decide) rfl (fun ls hl => ?_)
  have lp : ∀ (j i : Nat), i + j = 6 → ∀ (H : Heap) (locs : List Loc) (ls : Array Slot), va_P D vC [(h0, .inr (2, [.ref q_8, .ref q_17, .ref q_26, .ref q_35, .ref q_44, .ref q_53, .ref q_62, .ref q_71, .ref q_80, .ref q_86, .ref q_100, .int 0, .ref q_108, .ref q_116, .int 0, .int 0, .int 0, .int 0])), (q_8, .inl (kA 1, 5254, .inl (sc_k i))), (q_17, .inl (kA 1, 5254, .inl (sc_n i))), (q_26, .inl (kA 1, 5254, .inl (fun _ => 0))), (q_35, .inl (kA 1, 5254, .inl (fun _ => 0))), (q_44, .inl (kA 1, 5254, .inl (fun _ => 0))), (q_53, .inl (kA 1, 10112, .inl (fun _ => 0))), (q_62, .inl (kA 1, 10112, .inl (fun _ => 0))), (q_71, .inl (kA 1, 10112, .inl (fun _ => 0))), (q_80, .inl (kA 1, 10112, .inl (fun _ => 0))), (q_86, .inr (0, [.ref h_92, .int (nI 0)])), (h_92, .inl (kA 0, 72704, .inl (fun _ => 0))), (q_100, .inl (kA 1, 4, .inl (fun _ => 0))), (q_108, .inl (kA 1, 64, .inl (fun _ => 0))), (q_116, .inl (kA 1, 64, .inl (fun _ => 0)))] H → va_D A [(h0, .inr (2, [.ref q_8, .ref q_17, .ref q_26, .ref q_35, .ref q_44, .ref q_53, .ref q_62, .ref q_71, .ref q_80, .ref q_86, .ref q_100, .int 0, .ref q_108, .ref q_116, .int 0, .int 0, .int 0, .int 0])), (q_8, .inl (kA 1, 5254, .inl (sc_k i))), (q_17, .inl (kA 1, 5254, .inl (sc_n i))), (q_26, .inl (kA 1, 5254, .inl (fun _ => 0))), (q_35, .inl (kA 1, 5254, .inl (fun _ => 0))), (q_44, .inl (kA 1, 5254, .inl (fun _ => 0))), (q_53, .inl (kA 1, 10112, .inl (fun _ => 0))), (q_62, .inl (kA 1, 10112, .inl (fun _ => 0))), (q_71, .inl (kA 1, 10112, .inl (fun _ => 0))), (q_80, .inl (kA 1, 10112, .inl (fun _ => 0))), (q_86, .inr (0, [.ref h_92, .int (nI 0)])), (h_92, .inl (kA 0, 72704, .inl (fun _ => 0))), (q_100, .inl (kA 1, 4, .inl (fun _ => 0))), (q_108, .inl (kA 1, 64, .inl (fun _ => 0))), (q_116, .inl (kA 1, 64, .inl (fun _ => 0)))] → va_S A s.heap H locs → lv_has ls 2 [(1, .int (nI i)), (0, .ref h0)] → W p l e (headSpec w_Sc_init { frames := 2, cells := 14, slots := 139556, locals := 33 }).room s m ([.ref h0] : List Value).toArray below meth c H locs 14 139556 Q9 (F0 m 123 ls []) := by
    intro j
    induction j with
    | zero =>
      intro i hi H locs ls hP hD hS hl
      refine lv_iload_n hx hb d_Sc_init_123 rfl (lv_at hl 0 rfl) ?_
      refine lv_bipush (v := nI 6) hx hb d_Sc_init_124 (by decide) ?_
      refine xb_ge (tgt := 149) hx hb d_Sc_init_126 (by decide) (by omega) (by decide) (fun c_126 => ?_) (fun c_126 => ?_)
      · skip
        obtain rfl : i = 6 := by omega
        refine lv_aload_n hx hb d_Sc_init_149 rfl (lv_at hl 1 rfl) ?_
        refine lv_bipush (v := 6) hx hb d_Sc_init_150 (by decide) ?_
        refine va_put (D := D) (ci := 2) (v := .int 6) (ty := .int) (C := R_Sc) (T := F_Sc) (N := 18) hx hb hg i_Sc t_Sc t_Sc_ok n_Sc hown hK hP hD hS 0 rfl rfl 14 (by decide) (hg _ mw_206) (fun _ h9 => h9) rfl (by decide +kernel) rfl rfl (Nat.le_of_ble_eq_true rfl) d_Sc_init_152 (fun H locs hP hD hS => ?_)
        have hP : va_P D vC [(h0, .inr (2, [.ref q_8, .ref q_17, .ref q_26, .ref q_35, .ref q_44, .ref q_53, .ref q_62, .ref q_71, .ref q_80, .ref q_86, .ref q_100, .int 0, .ref q_108, .ref q_116, .int 6, .int 0, .int 0, .int 0])), (q_8, .inl (kA 1, 5254, .inl (sc_k 6))), (q_17, .inl (kA 1, 5254, .inl (sc_n 6))), (q_26, .inl (kA 1, 5254, .inl (fun _ => 0))), (q_35, .inl (kA 1, 5254, .inl (fun _ => 0))), (q_44, .inl (kA 1, 5254, .inl (fun _ => 0))), (q_53, .inl (kA 1, 10112, .inl (fun _ => 0))), (q_62, .inl (kA 1, 10112, .inl (fun _ => 0))), (q_71, .inl (kA 1, 10112, .inl (fun _ => 0))), (q_80, .inl (kA 1, 10112, .inl (fun _ => 0))), (q_86, .inr (0, [.ref h_92, .int (nI 0)])), (h_92, .inl (kA 0, 72704, .inl (fun _ => 0))), (q_100, .inl (kA 1, 4, .inl (fun _ => 0))), (q_108, .inl (kA 1, 64, .inl (fun _ => 0))), (q_116, .inl (kA 1, 64, .inl (fun _ => 0)))] H := hP
        have hD : va_D A [(h0, .inr (2, [.ref q_8, .ref q_17, .ref q_26, .ref q_35, .ref q_44, .ref q_53, .ref q_62, .ref q_71, .ref q_80, .ref q_86, .ref q_100, .int 0, .ref q_108, .ref q_116, .int 6, .int 0, .int 0, .int 0])), (q_8, .inl (kA 1, 5254, .inl (sc_k 6))), (q_17, .inl (kA 1, 5254, .inl (sc_n 6))), (q_26, .inl (kA 1, 5254, .inl (fun _ => 0))), (q_35, .inl (kA 1, 5254, .inl (fun _ => 0))), (q_44, .inl (kA 1, 5254, .inl (fun _ => 0))), (q_53, .inl (kA 1, 10112, .inl (fun _ => 0))), (q_62, .inl (kA 1, 10112, .inl (fun _ => 0))), (q_71, .inl (kA 1, 10112, .inl (fun _ => 0))), (q_80, .inl (kA 1, 10112, .inl (fun _ => 0))), (q_86, .inr (0, [.ref h_92, .int (nI 0)])), (h_92, .inl (kA 0, 72704, .inl (fun _ => 0))), (q_100, .inl (kA 1, 4, .inl (fun _ => 0))), (q_108, .inl (kA 1, 64, .inl (fun _ => 0))), (q_116, .inl (kA 1, 64, .inl (fun _ => 0)))] := hD
        refine lv_aload_n hx hb d_Sc_init_155 rfl (lv_at hl 1 rfl) ?_
        refine lv_bipush (v := 6) hx hb d_Sc_init_156 (by decide) ?_
        refine va_put (D := D) (ci := 2) (v := .int 6) (ty := .int) (C := R_Sc) (T := F_Sc) (N := 18) hx hb hg i_Sc t_Sc t_Sc_ok n_Sc hown hK hP hD hS 0 rfl rfl 11 (by decide) (hg _ mw_202) (fun _ h9 => h9) rfl (by decide +kernel) rfl rfl (Nat.le_of_ble_eq_true rfl) d_Sc_init_158 (fun H locs hP hD hS => ?_)
        have hP : va_P D vC [(h0, .inr (2, [.ref q_8, .ref q_17, .ref q_26, .ref q_35, .ref q_44, .ref q_53, .ref q_62, .ref q_71, .ref q_80, .ref q_86, .ref q_100, .int 6, .ref q_108, .ref q_116, .int 6, .int 0, .int 0, .int 0])), (q_8, .inl (kA 1, 5254, .inl (sc_k 6))), (q_17, .inl (kA 1, 5254, .inl (sc_n 6))), (q_26, .inl (kA 1, 5254, .inl (fun _ => 0))), (q_35, .inl (kA 1, 5254, .inl (fun _ => 0))), (q_44, .inl (kA 1, 5254, .inl (fun _ => 0))), (q_53, .inl (kA 1, 10112, .inl (fun _ => 0))), (q_62, .inl (kA 1, 10112, .inl (fun _ => 0))), (q_71, .inl (kA 1, 10112, .inl (fun _ => 0))), (q_80, .inl (kA 1, 10112, .inl (fun _ => 0))), (q_86, .inr (0, [.ref h_92, .int (nI 0)])), (h_92, .inl (kA 0, 72704, .inl (fun _ => 0))), (q_100, .inl (kA 1, 4, .inl (fun _ => 0))), (q_108, .inl (kA 1, 64, .inl (fun _ => 0))), (q_116, .inl (kA 1, 64, .inl (fun _ => 0)))] H := hP
        have hD : va_D A [(h0, .inr (2, [.ref q_8, .ref q_17, .ref q_26, .ref q_35, .ref q_44, .ref q_53, .ref q_62, .ref q_71, .ref q_80, .ref q_86, .ref q_100, .int 6, .ref q_108, .ref q_116, .int 6, .int 0, .int 0, .int 0])), (q_8, .inl (kA 1, 5254, .inl (sc_k 6))), (q_17, .inl (kA 1, 5254, .inl (sc_n 6))), (q_26, .inl (kA 1, 5254, .inl (fun _ => 0))), (q_35, .inl (kA 1, 5254, .inl (fun _ => 0))), (q_44, .inl (kA 1, 5254, .inl (fun _ => 0))), (q_53, .inl (kA 1, 10112, .inl (fun _ => 0))), (q_62, .inl (kA 1, 10112, .inl (fun _ => 0))), (q_71, .inl (kA 1, 10112, .inl (fun _ => 0))), (q_80, .inl (kA 1, 10112, .inl (fun _ => 0))), (q_86, .inr (0, [.ref h_92, .int (nI 0)])), (h_92, .inl (kA 0, 72704, .inl (fun _ => 0))), (q_100, .inl (kA 1, 4, .inl (fun _ => 0))), (q_108, .inl (kA 1, 64, .inl (fun _ => 0))), (q_116, .inl (kA 1, 64, .inl (fun _ => 0)))] := hD
        rw [hQ9]
        exact W.vret hx hb hr (fun t ht hW => ⟨⟨(fun i => match i with | 0 => q_8 | 1 => q_17 | 2 => q_26 | 3 => q_35 | 4 => q_44 | 5 => q_53 | 6 => q_62 | 7 => q_71 | 8 => q_80 | 9 => q_86 | 10 => h_92 | 11 => q_100 | 12 => q_108 | 13 => q_116 | _ => 0), rfl, trivial, by rw [ht]; exact hP, va_K.moved hW.alike hK, hD⟩, hS.F ht⟩) hS.2.2 d_Sc_init_161
      · skip
        exact absurd c_126 (by omega)
    | succ j ih =>
      intro i hi H locs ls hP hD hS hl
      refine lv_iload_n hx hb d_Sc_init_123 rfl (lv_at hl 0 rfl) ?_
      refine lv_bipush (v := nI 6) hx hb d_Sc_init_124 (by decide) ?_
      refine xb_ge (tgt := 149) hx hb d_Sc_init_126 (by decide) (by omega) (by decide) (fun c_126 => ?_) (fun c_126 => ?_)
      · skip
        exact absurd c_126 (by omega)
      · skip
        refine lv_aload_n hx hb d_Sc_init_129 rfl (lv_at hl 1 rfl) ?_
        refine va_get (D := D) (ci := 2) (v := .ref q_8) (C := R_Sc) (T := F_Sc) (N := 18) hx hb hg i_Sc hown hK hP 0 rfl rfl 0 (by decide) (hg _ mw_149) (fun _ h9 => h9) rfl d_Sc_init_130 ?_
        refine lv_iload_n hx hb d_Sc_init_133 rfl (lv_at hl 0 rfl) ?_
        refine lv_iload_n hx hb d_Sc_init_134 rfl (lv_at hl 0 rfl) ?_
        refine xb_iast hx hb hK hP hD hS 1 1 rfl rfl (by omega) (by omega) d_Sc_init_135 (fun H locs hP hD hS => ?_)
        have hP : va_P D vC [(h0, .inr (2, [.ref q_8, .ref q_17, .ref q_26, .ref q_35, .ref q_44, .ref q_53, .ref q_62, .ref q_71, .ref q_80, .ref q_86, .ref q_100, .int 0, .ref q_108, .ref q_116, .int 0, .int 0, .int 0, .int 0])), (q_8, .inl (kA 1, 5254, .inl (upd (sc_k i) i (nI i)))), (q_17, .inl (kA 1, 5254, .inl (sc_n i))), (q_26, .inl (kA 1, 5254, .inl (fun _ => 0))), (q_35, .inl (kA 1, 5254, .inl (fun _ => 0))), (q_44, .inl (kA 1, 5254, .inl (fun _ => 0))), (q_53, .inl (kA 1, 10112, .inl (fun _ => 0))), (q_62, .inl (kA 1, 10112, .inl (fun _ => 0))), (q_71, .inl (kA 1, 10112, .inl (fun _ => 0))), (q_80, .inl (kA 1, 10112, .inl (fun _ => 0))), (q_86, .inr (0, [.ref h_92, .int (nI 0)])), (h_92, .inl (kA 0, 72704, .inl (fun _ => 0))), (q_100, .inl (kA 1, 4, .inl (fun _ => 0))), (q_108, .inl (kA 1, 64, .inl (fun _ => 0))), (q_116, .inl (kA 1, 64, .inl (fun _ => 0)))] H := hP
        have hD : va_D A [(h0, .inr (2, [.ref q_8, .ref q_17, .ref q_26, .ref q_35, .ref q_44, .ref q_53, .ref q_62, .ref q_71, .ref q_80, .ref q_86, .ref q_100, .int 0, .ref q_108, .ref q_116, .int 0, .int 0, .int 0, .int 0])), (q_8, .inl (kA 1, 5254, .inl (upd (sc_k i) i (nI i)))), (q_17, .inl (kA 1, 5254, .inl (sc_n i))), (q_26, .inl (kA 1, 5254, .inl (fun _ => 0))), (q_35, .inl (kA 1, 5254, .inl (fun _ => 0))), (q_44, .inl (kA 1, 5254, .inl (fun _ => 0))), (q_53, .inl (kA 1, 10112, .inl (fun _ => 0))), (q_62, .inl (kA 1, 10112, .inl (fun _ => 0))), (q_71, .inl (kA 1, 10112, .inl (fun _ => 0))), (q_80, .inl (kA 1, 10112, .inl (fun _ => 0))), (q_86, .inr (0, [.ref h_92, .int (nI 0)])), (h_92, .inl (kA 0, 72704, .inl (fun _ => 0))), (q_100, .inl (kA 1, 4, .inl (fun _ => 0))), (q_108, .inl (kA 1, 64, .inl (fun _ => 0))), (q_116, .inl (kA 1, 64, .inl (fun _ => 0)))] := hD
        refine lv_aload_n hx hb d_Sc_init_136 rfl (lv_at hl 1 rfl) ?_
        refine va_get (D := D) (ci := 2) (v := .ref q_17) (C := R_Sc) (T := F_Sc) (N := 18) hx hb hg i_Sc hown hK hP 0 rfl rfl 1 (by decide) (hg _ mw_156) (fun _ h9 => h9) rfl d_Sc_init_137 ?_
        refine lv_iload_n hx hb d_Sc_init_140 rfl (lv_at hl 0 rfl) ?_
        refine lv_iconst (v := (-1)) hx hb d_Sc_init_141 (by decide) ?_
        refine xb_iast hx hb hK hP hD hS 2 1 rfl rfl (by omega) (by omega) d_Sc_init_142 (fun H locs hP hD hS => ?_)
        have hP : va_P D vC [(h0, .inr (2, [.ref q_8, .ref q_17, .ref q_26, .ref q_35, .ref q_44, .ref q_53, .ref q_62, .ref q_71, .ref q_80, .ref q_86, .ref q_100, .int 0, .ref q_108, .ref q_116, .int 0, .int 0, .int 0, .int 0])), (q_8, .inl (kA 1, 5254, .inl (upd (sc_k i) i (nI i)))), (q_17, .inl (kA 1, 5254, .inl (upd (sc_n i) i (-1)))), (q_26, .inl (kA 1, 5254, .inl (fun _ => 0))), (q_35, .inl (kA 1, 5254, .inl (fun _ => 0))), (q_44, .inl (kA 1, 5254, .inl (fun _ => 0))), (q_53, .inl (kA 1, 10112, .inl (fun _ => 0))), (q_62, .inl (kA 1, 10112, .inl (fun _ => 0))), (q_71, .inl (kA 1, 10112, .inl (fun _ => 0))), (q_80, .inl (kA 1, 10112, .inl (fun _ => 0))), (q_86, .inr (0, [.ref h_92, .int (nI 0)])), (h_92, .inl (kA 0, 72704, .inl (fun _ => 0))), (q_100, .inl (kA 1, 4, .inl (fun _ => 0))), (q_108, .inl (kA 1, 64, .inl (fun _ => 0))), (q_116, .inl (kA 1, 64, .inl (fun _ => 0)))] H := hP
        have hD : va_D A [(h0, .inr (2, [.ref q_8, .ref q_17, .ref q_26, .ref q_35, .ref q_44, .ref q_53, .ref q_62, .ref q_71, .ref q_80, .ref q_86, .ref q_100, .int 0, .ref q_108, .ref q_116, .int 0, .int 0, .int 0, .int 0])), (q_8, .inl (kA 1, 5254, .inl (upd (sc_k i) i (nI i)))), (q_17, .inl (kA 1, 5254, .inl (upd (sc_n i) i (-1)))), (q_26, .inl (kA 1, 5254, .inl (fun _ => 0))), (q_35, .inl (kA 1, 5254, .inl (fun _ => 0))), (q_44, .inl (kA 1, 5254, .inl (fun _ => 0))), (q_53, .inl (kA 1, 10112, .inl (fun _ => 0))), (q_62, .inl (kA 1, 10112, .inl (fun _ => 0))), (q_71, .inl (kA 1, 10112, .inl (fun _ => 0))), (q_80, .inl (kA 1, 10112, .inl (fun _ => 0))), (q_86, .inr (0, [.ref h_92, .int (nI 0)])), (h_92, .inl (kA 0, 72704, .inl (fun _ => 0))), (q_100, .inl (kA 1, 4, .inl (fun _ => 0))), (q_108, .inl (kA 1, 64, .inl (fun _ => 0))), (q_116, .inl (kA 1, 64, .inl (fun _ => 0)))] := hD
        obtain ⟨x_143, ex_143⟩ : ∃ y : Int32, y = (nI i) + Int32.ofInt 1 := ⟨_, rfl⟩
        replace ex_143 : x_143 = nI (i + 1) := ex_143.trans (nI_1 i)
        refine lv_iinc (v := x_143) (lv' := [(1, .int x_143), (0, .ref h0)]) hx hb d_Sc_init_143 hl (k := 0) rfl (by rw [ex_143]; exact nI_1 i) (by decide) rfl (fun ls hl => ?_)
        subst ex_143
        refine lv_goto (tgt := 123) hx hb d_Sc_init_146 (by decide) ?_
        exact ih (i + 1) (by omega) H locs ls (by rw [← sc_k_s, ← sc_n_s]; exact hP) (by rw [← sc_k_s, ← sc_n_s]; exact hD) hS (lv_sub hl [0, 1] rfl)
  exact lp 6 0 rfl _ _ ls (by rw [sc_k_0, sc_n_0]; exact hP) (by rw [sc_k_0, sc_n_0]; exact hD) hS (lv_sub hl [0, 1] rfl)
