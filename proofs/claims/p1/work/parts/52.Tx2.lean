/-! Text.parse on no bytes -/
abbrev tx_q (q : Nat → Nat) (sr : Nat) : Nat → Nat := fun i => if i = 11 then sr else q i
abbrev tx_z1 (z : Nat → Int32) (a1 : Int32) : Nat → Int32 := upd (upd (upd (upd (upd z 12 a1) 13 0) 14 0) 7 0) 10 (-1)
abbrev tx_z2 (z : Nat → Int32) (a1 : Int32) : Nat → Int32 := upd (upd (upd (tx_z1 z a1) 10 0) 8 (-1)) 9 0
set_option maxHeartbeats 4000000 in
set_option maxRecDepth 100000 in
/-- parse, no bytes -/
theorem c_Tx_parse0 (l : Launch) (D : va_G) (kA : Nat → ClassId) (kS : Nat → Nat) (sz : Nat) (h0 : Nat) (q : Nat → Nat) (z : Nat → Int32) (t1 sr : Nat) (pn a1 : Int32) : Met l y_Tx_parse w_Tx_parse { frames := 2, cells := 0, slots := 0, locals := 42 } (xPre D vC (tK kA) kS [.ref h0, .ref sr, .int a1, .int 0] ([oTx h0 q z, (q 6, .inr (0, [.ref t1, .int pn]))]) sz) (va_Qv (fun (_ : Unit) => True) (xB D vC (tK kA) (fun _ => [(q 6, .inr (0, [.ref t1, .int 0])), oTx h0 (tx_q q sr) (tx_z2 z a1)]) (va_A ([oTx h0 q z, (q 6, .inr (0, [.ref t1, .int pn]))]) sz)) (va_A ([oTx h0 q z, (q 6, .inr (0, [.ref t1, .int pn]))]) sz)) 0 0 (va_A ([oTx h0 q z, (q 6, .inr (0, [.ref t1, .int pn]))]) sz) := by
  refine Met.ofW (cc := b_Tx_parse) (maxL := 4) (ret := none) (by decide) rfl ?_
  intro p e s m args below meth c s₁ B hml hv
  obtain ⟨rfl, hsz, hP, hK, hD0, hN, hC⟩ := hv
  have hx := B.exec
  have hb := B.bytes
  have hr := B.returns
  have hts := atoms_spec (ws := w_Tx_parse) B.pre
  have hg : ∀ w ∈ gW, w.before _ s = true := fun w h => hts w (List.mem_cons_of_mem _ h)
  have hown : s.vm.findClass R_Tx = some m.cls := findClass_of_methodNamed B.named
  have hlocks := B.notSynchronized
  subst hsz
  have hD := hD0.self (sz := s.heap.size)
  generalize hAe : va_A ([oTx h0 q z, (q 6, .inr (0, [.ref t1, .int pn]))]) s.heap.size = A at hD hC ⊢
  have hA : ∀ q : Nat, s.heap.size ≤ q → A q := fun q h => by rw [← hAe]; exact Or.inr h
  have hS : va_S A s.heap s.heap [] := va_S.rf
  have hP : va_P D vC [(h0, .inr (1, [.ref (q 0), .ref (q 1), .ref (q 2), .ref (q 3), .ref (q 4), .ref (q 5), .ref (q 6), .int (z 7), .int (z 8), .int (z 9), .int (z 10), .ref (q 11), .int (z 12), .int (z 13), .int (z 14)])), (q 6, .inr (0, [.ref t1, .int pn]))] s.heap := hP
  have hD : va_D A [(h0, .inr (1, [.ref (q 0), .ref (q 1), .ref (q 2), .ref (q 3), .ref (q 4), .ref (q 5), .ref (q 6), .int (z 7), .int (z 8), .int (z 9), .int (z 10), .ref (q 11), .int (z 12), .int (z 13), .int (z 14)])), (q 6, .inr (0, [.ref t1, .int pn]))] := hD
  have hl := lv_entry ([.ref h0, .ref sr, .int a1, .int 0]) (n := 4) (Nat.le_of_ble_eq_true rfl)
  rw [lg_entry_eq]
  generalize (lg_sl ([.ref h0, .ref sr, .int a1, .int 0]) ++ List.replicate (4 - (lg_sl ([.ref h0, .ref sr, .int a1, .int 0])).length) Slot.unset).toArray = ls at hl ⊢
  have hl : lv_has ls 4 [(0, .ref h0), (1, .ref sr), (2, .int a1), (3, .int 0)] := hl
  refine lv_aload_n hx hb d_Tx_parse_0 rfl (lv_at hl 0 rfl) ?_
  refine lv_aload_n hx hb d_Tx_parse_1 rfl (lv_at hl 1 rfl) ?_
  refine va_put (D := D) (ci := 1) (v := .ref sr) (ty := (.array .byte)) (C := R_Tx) (T := F_Tx) (N := 15) hx hb hg i_Tx t_Tx t_Tx_ok n_Tx hown hK hP hD hS 0 rfl rfl 11 (by decide) (hg _ mw_103) (fun _ h9 => h9) rfl (by decide +kernel) rfl rfl (Nat.le_of_ble_eq_true rfl) d_Tx_parse_2 (fun H locs hP hD hS => ?_)
  have hP : va_P D vC [(h0, .inr (1, [.ref (q 0), .ref (q 1), .ref (q 2), .ref (q 3), .ref (q 4), .ref (q 5), .ref (q 6), .int (z 7), .int (z 8), .int (z 9), .int (z 10), .ref sr, .int (z 12), .int (z 13), .int (z 14)])), (q 6, .inr (0, [.ref t1, .int pn]))] H := hP
  have hD : va_D A [(h0, .inr (1, [.ref (q 0), .ref (q 1), .ref (q 2), .ref (q 3), .ref (q 4), .ref (q 5), .ref (q 6), .int (z 7), .int (z 8), .int (z 9), .int (z 10), .ref sr, .int (z 12), .int (z 13), .int (z 14)])), (q 6, .inr (0, [.ref t1, .int pn]))] := hD
  refine lv_aload_n hx hb d_Tx_parse_5 rfl (lv_at hl 0 rfl) ?_
  refine lv_iload_n hx hb d_Tx_parse_6 rfl (lv_at hl 2 rfl) ?_
  refine va_put (D := D) (ci := 1) (v := .int a1) (ty := .int) (C := R_Tx) (T := F_Tx) (N := 15) hx hb hg i_Tx t_Tx t_Tx_ok n_Tx hown hK hP hD hS 0 rfl rfl 12 (by decide) (hg _ mw_104) (fun _ h9 => h9) rfl (by decide +kernel) rfl rfl (Nat.le_of_ble_eq_true rfl) d_Tx_parse_7 (fun H locs hP hD hS => ?_)
  have hP : va_P D vC [(h0, .inr (1, [.ref (q 0), .ref (q 1), .ref (q 2), .ref (q 3), .ref (q 4), .ref (q 5), .ref (q 6), .int (z 7), .int (z 8), .int (z 9), .int (z 10), .ref sr, .int a1, .int (z 13), .int (z 14)])), (q 6, .inr (0, [.ref t1, .int pn]))] H := hP
  have hD : va_D A [(h0, .inr (1, [.ref (q 0), .ref (q 1), .ref (q 2), .ref (q 3), .ref (q 4), .ref (q 5), .ref (q 6), .int (z 7), .int (z 8), .int (z 9), .int (z 10), .ref sr, .int a1, .int (z 13), .int (z 14)])), (q 6, .inr (0, [.ref t1, .int pn]))] := hD
  refine lv_aload_n hx hb d_Tx_parse_10 rfl (lv_at hl 0 rfl) ?_
  refine lv_iload_n hx hb d_Tx_parse_11 rfl (lv_at hl 3 rfl) ?_
  refine lv_sipush (v := 4096) hx hb d_Tx_parse_12 (by decide) ?_
  refine va_mmin hx hb (by first | (rw [hml]; exact hl.1) | (rw [hml]; exact hl.1.symm)) hown (hg _ mw_547) (hg _ mw_548) (hg _ mw_20) (hg _ mw_549) (Nat.le_of_ble_eq_true rfl) (Nat.le_of_ble_eq_true rfl) (Nat.le_of_ble_eq_true rfl) (Nat.le_of_ble_eq_true rfl) d_Tx_parse_15 ?_
  refine W.eq (g2 := F0 m 18 ls [.int 0, .ref h0]) rfl ?_
  refine va_put (D := D) (ci := 1) (v := .int 0) (ty := .int) (C := R_Tx) (T := F_Tx) (N := 15) hx hb hg i_Tx t_Tx t_Tx_ok n_Tx hown hK hP hD hS 0 rfl rfl 13 (by decide) (hg _ mw_105) (fun _ h9 => h9) rfl (by decide +kernel) rfl rfl (Nat.le_of_ble_eq_true rfl) d_Tx_parse_18 (fun H locs hP hD hS => ?_)
  have hP : va_P D vC [(h0, .inr (1, [.ref (q 0), .ref (q 1), .ref (q 2), .ref (q 3), .ref (q 4), .ref (q 5), .ref (q 6), .int (z 7), .int (z 8), .int (z 9), .int (z 10), .ref sr, .int a1, .int 0, .int (z 14)])), (q 6, .inr (0, [.ref t1, .int pn]))] H := hP
  have hD : va_D A [(h0, .inr (1, [.ref (q 0), .ref (q 1), .ref (q 2), .ref (q 3), .ref (q 4), .ref (q 5), .ref (q 6), .int (z 7), .int (z 8), .int (z 9), .int (z 10), .ref sr, .int a1, .int 0, .int (z 14)])), (q 6, .inr (0, [.ref t1, .int pn]))] := hD
  refine lv_aload_n hx hb d_Tx_parse_21 rfl (lv_at hl 0 rfl) ?_
  refine lv_iconst (v := 0) hx hb d_Tx_parse_22 (by decide) ?_
  refine va_put (D := D) (ci := 1) (v := .int 0) (ty := .int) (C := R_Tx) (T := F_Tx) (N := 15) hx hb hg i_Tx t_Tx t_Tx_ok n_Tx hown hK hP hD hS 0 rfl rfl 14 (by decide) (hg _ mw_106) (fun _ h9 => h9) rfl (by decide +kernel) rfl rfl (Nat.le_of_ble_eq_true rfl) d_Tx_parse_23 (fun H locs hP hD hS => ?_)
  have hP : va_P D vC [(h0, .inr (1, [.ref (q 0), .ref (q 1), .ref (q 2), .ref (q 3), .ref (q 4), .ref (q 5), .ref (q 6), .int (z 7), .int (z 8), .int (z 9), .int (z 10), .ref sr, .int a1, .int 0, .int 0])), (q 6, .inr (0, [.ref t1, .int pn]))] H := hP
  have hD : va_D A [(h0, .inr (1, [.ref (q 0), .ref (q 1), .ref (q 2), .ref (q 3), .ref (q 4), .ref (q 5), .ref (q 6), .int (z 7), .int (z 8), .int (z 9), .int (z 10), .ref sr, .int a1, .int 0, .int 0])), (q 6, .inr (0, [.ref t1, .int pn]))] := hD
  refine lv_aload_n hx hb d_Tx_parse_26 rfl (lv_at hl 0 rfl) ?_
  refine lv_iconst (v := 0) hx hb d_Tx_parse_27 (by decide) ?_
  refine va_put (D := D) (ci := 1) (v := .int 0) (ty := .int) (C := R_Tx) (T := F_Tx) (N := 15) hx hb hg i_Tx t_Tx t_Tx_ok n_Tx hown hK hP hD hS 0 rfl rfl 7 (by decide) (hg _ mw_96) (fun _ h9 => h9) rfl (by decide +kernel) rfl rfl (Nat.le_of_ble_eq_true rfl) d_Tx_parse_28 (fun H locs hP hD hS => ?_)
  have hP : va_P D vC [(h0, .inr (1, [.ref (q 0), .ref (q 1), .ref (q 2), .ref (q 3), .ref (q 4), .ref (q 5), .ref (q 6), .int 0, .int (z 8), .int (z 9), .int (z 10), .ref sr, .int a1, .int 0, .int 0])), (q 6, .inr (0, [.ref t1, .int pn]))] H := hP
  have hD : va_D A [(h0, .inr (1, [.ref (q 0), .ref (q 1), .ref (q 2), .ref (q 3), .ref (q 4), .ref (q 5), .ref (q 6), .int 0, .int (z 8), .int (z 9), .int (z 10), .ref sr, .int a1, .int 0, .int 0])), (q 6, .inr (0, [.ref t1, .int pn]))] := hD
  refine lv_aload_n hx hb d_Tx_parse_31 rfl (lv_at hl 0 rfl) ?_
  refine va_get (D := D) (ci := 1) (v := .ref (q 6)) (C := R_Tx) (T := F_Tx) (N := 15) hx hb hg i_Tx hown hK hP 0 rfl rfl 6 (by decide) (hg _ mw_92) (fun _ h9 => h9) rfl d_Tx_parse_32 ?_
  refine lv_iconst (v := 0) hx hb d_Tx_parse_35 (by decide) ?_
  refine va_put (D := D) (ci := 0) (v := .int 0) (ty := .int) (C := R_By) (T := F_By) (N := 2) hx hb hg i_By t_By t_By_ok n_By hown hK hP hD hS 1 rfl rfl 1 (by decide) (hg _ mw_54) (fun _ h9 => h9) rfl (by decide +kernel) rfl rfl (Nat.le_of_ble_eq_true rfl) d_Tx_parse_36 (fun H locs hP hD hS => ?_)
  have hP : va_P D vC [(h0, .inr (1, [.ref (q 0), .ref (q 1), .ref (q 2), .ref (q 3), .ref (q 4), .ref (q 5), .ref (q 6), .int 0, .int (z 8), .int (z 9), .int (z 10), .ref sr, .int a1, .int 0, .int 0])), (q 6, .inr (0, [.ref t1, .int 0]))] H := hP
  have hD : va_D A [(h0, .inr (1, [.ref (q 0), .ref (q 1), .ref (q 2), .ref (q 3), .ref (q 4), .ref (q 5), .ref (q 6), .int 0, .int (z 8), .int (z 9), .int (z 10), .ref sr, .int a1, .int 0, .int 0])), (q 6, .inr (0, [.ref t1, .int 0]))] := hD
  refine lv_aload_n hx hb d_Tx_parse_39 rfl (lv_at hl 0 rfl) ?_
  refine lv_iconst (v := (-1)) hx hb d_Tx_parse_40 (by decide) ?_
  refine va_put (D := D) (ci := 1) (v := .int (-1)) (ty := .int) (C := R_Tx) (T := F_Tx) (N := 15) hx hb hg i_Tx t_Tx t_Tx_ok n_Tx hown hK hP hD hS 0 rfl rfl 10 (by decide) (hg _ mw_101) (fun _ h9 => h9) rfl (by decide +kernel) rfl rfl (Nat.le_of_ble_eq_true rfl) d_Tx_parse_41 (fun H locs hP hD hS => ?_)
  have hP : va_P D vC [(h0, .inr (1, [.ref (q 0), .ref (q 1), .ref (q 2), .ref (q 3), .ref (q 4), .ref (q 5), .ref (q 6), .int 0, .int (z 8), .int (z 9), .int (-1), .ref sr, .int a1, .int 0, .int 0])), (q 6, .inr (0, [.ref t1, .int 0]))] H := hP
  have hD : va_D A [(h0, .inr (1, [.ref (q 0), .ref (q 1), .ref (q 2), .ref (q 3), .ref (q 4), .ref (q 5), .ref (q 6), .int 0, .int (z 8), .int (z 9), .int (-1), .ref sr, .int a1, .int 0, .int 0])), (q 6, .inr (0, [.ref t1, .int 0]))] := hD
  refine lv_aload_n hx hb d_Tx_parse_44 rfl (lv_at hl 0 rfl) ?_
  refine lv_aload_n hx hb d_Tx_parse_45 rfl (lv_at hl 0 rfl) ?_
  refine lv_iconst (v := 0) hx hb d_Tx_parse_46 (by decide) ?_
  refine xc_i (wr := [(q 6, .inr (0, [.ref t1, .int 0]))]) (va_runV (As := [.int 0]) (rest := [.ref h0]) ⟨hx, hb, hml, hown, hg⟩ (c_Tx_value0 l D kA kS H.size h0 (tx_q q sr) (tx_z1 z a1) (show (0 : Int32) ≤ 0 from by decide) 0) (cwV 1 hg (xg_V mw_550 mw_552 ms_1 mw_3 mw_553) rfl rfl rfl (by decide +kernel) ⟨Nat.le_of_ble_eq_true rfl, Nat.le_of_ble_eq_true rfl⟩) (xc_preV hK hN hC hP hD hS hA [0] (by decide) rfl 0 rfl rfl) rfl rfl hl.1 rfl (lv_room (Nat.le_of_ble_eq_true rfl)) d_Tx_parse_47 ⟨Nat.le_of_ble_eq_true rfl, Nat.le_of_ble_eq_true rfl⟩) hP hD hS hA [0] [1] rfl rfl (by decide) (by decide) (fun r_47 u9 H locs hw hP hD hS => ?_)
  have hP : va_P D vC [(q 6, .inr (0, [.ref t1, .int 0])), (h0, .inr (1, [.ref (q 0), .ref (q 1), .ref (q 2), .ref (q 3), .ref (q 4), .ref (q 5), .ref (q 6), .int 0, .int (z 8), .int (z 9), .int 0, .ref sr, .int a1, .int 0, .int 0]))] H := hP
  have hD : va_D A [(q 6, .inr (0, [.ref t1, .int 0])), (h0, .inr (1, [.ref (q 0), .ref (q 1), .ref (q 2), .ref (q 3), .ref (q 4), .ref (q 5), .ref (q 6), .int 0, .int (z 8), .int (z 9), .int 0, .ref sr, .int a1, .int 0, .int 0]))] := hD
  subst hw
  refine va_put (D := D) (ci := 1) (v := .int (-1)) (ty := .int) (C := R_Tx) (T := F_Tx) (N := 15) hx hb hg i_Tx t_Tx t_Tx_ok n_Tx hown hK hP hD hS 1 rfl rfl 8 (by decide) (hg _ mw_98) (fun _ h9 => h9) rfl (by decide +kernel) rfl rfl (Nat.le_of_ble_eq_true rfl) d_Tx_parse_50 (fun H locs hP hD hS => ?_)
  have hP : va_P D vC [(q 6, .inr (0, [.ref t1, .int 0])), (h0, .inr (1, [.ref (q 0), .ref (q 1), .ref (q 2), .ref (q 3), .ref (q 4), .ref (q 5), .ref (q 6), .int 0, .int (-1), .int (z 9), .int 0, .ref sr, .int a1, .int 0, .int 0]))] H := hP
  have hD : va_D A [(q 6, .inr (0, [.ref t1, .int 0])), (h0, .inr (1, [.ref (q 0), .ref (q 1), .ref (q 2), .ref (q 3), .ref (q 4), .ref (q 5), .ref (q 6), .int 0, .int (-1), .int (z 9), .int 0, .ref sr, .int a1, .int 0, .int 0]))] := hD
  refine lv_aload_n hx hb d_Tx_parse_53 rfl (lv_at hl 0 rfl) ?_
  refine lv_aload_n hx hb d_Tx_parse_54 rfl (lv_at hl 0 rfl) ?_
  refine va_get (D := D) (ci := 1) (v := .int 0) (C := R_Tx) (T := F_Tx) (N := 15) hx hb hg i_Tx hown hK hP 1 rfl rfl 14 (by decide) (hg _ mw_106) (fun _ h9 => h9) rfl d_Tx_parse_55 ?_
  refine va_put (D := D) (ci := 1) (v := .int 0) (ty := .int) (C := R_Tx) (T := F_Tx) (N := 15) hx hb hg i_Tx t_Tx t_Tx_ok n_Tx hown hK hP hD hS 1 rfl rfl 9 (by decide) (hg _ mw_99) (fun _ h9 => h9) rfl (by decide +kernel) rfl rfl (Nat.le_of_ble_eq_true rfl) d_Tx_parse_58 (fun H locs hP hD hS => ?_)
  have hP : va_P D vC [(q 6, .inr (0, [.ref t1, .int 0])), (h0, .inr (1, [.ref (q 0), .ref (q 1), .ref (q 2), .ref (q 3), .ref (q 4), .ref (q 5), .ref (q 6), .int 0, .int (-1), .int 0, .int 0, .ref sr, .int a1, .int 0, .int 0]))] H := hP
  have hD : va_D A [(q 6, .inr (0, [.ref t1, .int 0])), (h0, .inr (1, [.ref (q 0), .ref (q 1), .ref (q 2), .ref (q 3), .ref (q 4), .ref (q 5), .ref (q 6), .int 0, .int (-1), .int 0, .int 0, .ref sr, .int a1, .int 0, .int 0]))] := hD
  refine lv_aload_n hx hb d_Tx_parse_61 rfl (lv_at hl 0 rfl) ?_
  refine xc_pv (va_runV (As := []) (rest := []) ⟨hx, hb, hml, hown, hg⟩ (p_Tx_skip0 l D kA kS H.size h0 (tx_q q sr) (tx_z2 z a1) (show (0 : Int32) ≤ 0 from by decide)) (cwV 0 hg (xg_V mw_554 mw_556 ms_2 mw_3 mw_557) rfl rfl rfl (by decide +kernel) ⟨Nat.le_of_ble_eq_true rfl, Nat.le_of_ble_eq_true rfl⟩) (xc_preV hK hN hC hP hD hS hA [1] (by decide) rfl 0 rfl rfl) rfl rfl hl.1 rfl (lv_room (Nat.le_of_ble_eq_true rfl)) d_Tx_parse_62 ⟨Nat.le_of_ble_eq_true rfl, Nat.le_of_ble_eq_true rfl⟩) ?_
  refine lv_aload_n hx hb d_Tx_parse_65 rfl (lv_at hl 0 rfl) ?_
  refine va_get (D := D) (ci := 1) (v := .int (-1)) (C := R_Tx) (T := F_Tx) (N := 15) hx hb hg i_Tx hown hK hP 1 rfl rfl 8 (by decide) (hg _ mw_98) (fun _ h9 => h9) rfl d_Tx_parse_66 ?_
  refine lv_iconst (v := (-1)) hx hb d_Tx_parse_69 (by decide) ?_
  refine lv_icmp_eq (tgt := 92) hx hb d_Tx_parse_70 (by decide) (fun c_70 => ?_) (fun c_70 => ?_)
  · skip
    exact W.vret hx hb hr (fun t ht hW => ⟨⟨(), rfl, trivial, by rw [ht]; exact hP, va_K.moved hW.alike hK, hD⟩, hS.F ht⟩) hS.2.2 d_Tx_parse_92
  · skip
    exact absurd rfl c_70
