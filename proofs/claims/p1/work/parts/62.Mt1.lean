/-! the reference's Text, at its end -/
abbrev oMt (h0 : Nat) (q : Nat → Nat) (z : Nat → Int32) : Nat × va_E := (h0, .inr (12, [.ref (q 0), .int (z 1), .int (z 2), .int (z 3), .int (z 4), .int (z 5), .int (z 6), .int (z 7), .ref (q 8), .ref (q 9), .ref (q 10), .ref (q 11), .ref (q 12), .ref (q 13), .ref (q 14), .int (z 15), .int (z 16), .int (z 17), .ref (q 18), .ref (q 19), .ref (q 20), .ref (q 21), .ref (q 22), .ref (q 23), .int (z 24), .ref (q 25), .ref (q 26), .ref (q 27), .ref (q 28), .int (z 29), .ref (q 30), .int (z 31), .ref (q 32), .int (z 33), .ref (q 34)]))
set_option maxHeartbeats 4000000 in
set_option maxRecDepth 100000 in
/-- look, at the end -/
theorem p_Mt_look0 (l : Launch) (D : va_G) (kA : Nat → ClassId) (kS : Nat → Nat) (sz : Nat) (h0 : Nat) (q : Nat → Nat) (z : Nat → Int32) (h1 : z 1 ≤ z 2) : Met l y_Mt_look w_Mt_look { frames := 0, cells := 0, slots := 0, locals := 0 } (xPre D vC (tK kA) kS [.ref h0] ([oMt h0 q z]) sz) (xt_Pi (fun y => y = -1)) 0 0 (fun _ => False) := by
  refine Met.ofW (cc := b_Mt_look) (maxL := 1) (ret := (some .int)) (by decide) rfl ?_
  intro p e s m args below meth c s₁ B hml hv
  obtain ⟨rfl, hsz, hP, hK, hD0, hN, hC⟩ := hv
  have hx := B.exec
  have hb := B.bytes
  have hr := B.returns
  have hts := atoms_spec (ws := w_Mt_look) B.pre
  have hg : ∀ w ∈ gW, w.before _ s = true := fun w h => hts w (List.mem_cons_of_mem _ h)
  have hown : s.vm.findClass R_Mt = some m.cls := findClass_of_methodNamed B.named
  have hlocks := B.notSynchronized
  subst hsz
  have hD := hD0.self (sz := s.heap.size)
  generalize hAe : va_A ([oMt h0 q z]) s.heap.size = A at hD hC ⊢
  have hA : ∀ q : Nat, s.heap.size ≤ q → A q := fun q h => by rw [← hAe]; exact Or.inr h
  have hS : va_S A s.heap s.heap [] := va_S.rf
  have hP : va_P D vC [(h0, .inr (12, [.ref (q 0), .int (z 1), .int (z 2), .int (z 3), .int (z 4), .int (z 5), .int (z 6), .int (z 7), .ref (q 8), .ref (q 9), .ref (q 10), .ref (q 11), .ref (q 12), .ref (q 13), .ref (q 14), .int (z 15), .int (z 16), .int (z 17), .ref (q 18), .ref (q 19), .ref (q 20), .ref (q 21), .ref (q 22), .ref (q 23), .int (z 24), .ref (q 25), .ref (q 26), .ref (q 27), .ref (q 28), .int (z 29), .ref (q 30), .int (z 31), .ref (q 32), .int (z 33), .ref (q 34)]))] s.heap := hP
  have hD : va_D A [(h0, .inr (12, [.ref (q 0), .int (z 1), .int (z 2), .int (z 3), .int (z 4), .int (z 5), .int (z 6), .int (z 7), .ref (q 8), .ref (q 9), .ref (q 10), .ref (q 11), .ref (q 12), .ref (q 13), .ref (q 14), .int (z 15), .int (z 16), .int (z 17), .ref (q 18), .ref (q 19), .ref (q 20), .ref (q 21), .ref (q 22), .ref (q 23), .int (z 24), .ref (q 25), .ref (q 26), .ref (q 27), .ref (q 28), .int (z 29), .ref (q 30), .int (z 31), .ref (q 32), .int (z 33), .ref (q 34)]))] := hD
  have hl := lv_entry ([.ref h0]) (n := 1) (Nat.le_of_ble_eq_true rfl)
  rw [lg_entry_eq]
  generalize (lg_sl ([.ref h0]) ++ List.replicate (1 - (lg_sl ([.ref h0])).length) Slot.unset).toArray = ls at hl ⊢
  have hl : lv_has ls 1 [(0, .ref h0)] := hl
  refine lv_aload_n hx hb d_Mt_look_0 rfl (lv_at hl 0 rfl) ?_
  refine va_get (D := D) (ci := 12) (v := .int (z 2)) (C := R_Mt) (T := F_Mt) (N := 35) hx hb hg i_Mt hown hK hP 0 rfl rfl 2 (by decide) (hg _ mw_1590) (fun _ h9 => h9) rfl d_Mt_look_1 ?_
  refine lv_aload_n hx hb d_Mt_look_4 rfl (lv_at hl 0 rfl) ?_
  refine va_get (D := D) (ci := 12) (v := .int (z 1)) (C := R_Mt) (T := F_Mt) (N := 35) hx hb hg i_Mt hown hK hP 0 rfl rfl 1 (by decide) (hg _ mw_1589) (fun _ h9 => h9) rfl d_Mt_look_5 ?_
  refine lv_icmp_ge (tgt := 23) hx hb d_Mt_look_8 (by decide) (fun c_8 => ?_) (fun c_8 => ?_)
  · skip
    refine lv_iconst (v := (-1)) hx hb d_Mt_look_23 (by decide) ?_
    exact W.iret (v := (-1)) hx hb hr (fun t ht hW => ⟨(-1), rfl, rfl, ht⟩) (fun q hq => by cases hq) d_Mt_look_24
  · skip
    exact absurd h1 c_8

set_option maxHeartbeats 4000000 in
set_option maxRecDepth 100000 in
/-- blanks, at the end -/
theorem p_Mt_blanks0 (l : Launch) (D : va_G) (kA : Nat → ClassId) (kS : Nat → Nat) (sz : Nat) (h0 : Nat) (q : Nat → Nat) (z : Nat → Int32) (h1 : z 1 ≤ z 2) : Met l y_Mt_blanks w_Mt_blanks { frames := 1, cells := 0, slots := 0, locals := 20 } (xPre D vC (tK kA) kS [.ref h0] ([oMt h0 q z]) sz) (xt_Pv) 0 0 (fun _ => False) := by
  refine Met.ofW (cc := b_Mt_blanks) (maxL := 1) (ret := none) (by decide) rfl ?_
  intro p e s m args below meth c s₁ B hml hv
  obtain ⟨rfl, hsz, hP, hK, hD0, hN, hC⟩ := hv
  have hx := B.exec
  have hb := B.bytes
  have hr := B.returns
  have hts := atoms_spec (ws := w_Mt_blanks) B.pre
  have hg : ∀ w ∈ gW, w.before _ s = true := fun w h => hts w (List.mem_cons_of_mem _ h)
  have hown : s.vm.findClass R_Mt = some m.cls := findClass_of_methodNamed B.named
  have hlocks := B.notSynchronized
  subst hsz
  have hD := hD0.self (sz := s.heap.size)
  generalize hAe : va_A ([oMt h0 q z]) s.heap.size = A at hD hC ⊢
  have hA : ∀ q : Nat, s.heap.size ≤ q → A q := fun q h => by rw [← hAe]; exact Or.inr h
  have hS : va_S A s.heap s.heap [] := va_S.rf
  have hP : va_P D vC [(h0, .inr (12, [.ref (q 0), .int (z 1), .int (z 2), .int (z 3), .int (z 4), .int (z 5), .int (z 6), .int (z 7), .ref (q 8), .ref (q 9), .ref (q 10), .ref (q 11), .ref (q 12), .ref (q 13), .ref (q 14), .int (z 15), .int (z 16), .int (z 17), .ref (q 18), .ref (q 19), .ref (q 20), .ref (q 21), .ref (q 22), .ref (q 23), .int (z 24), .ref (q 25), .ref (q 26), .ref (q 27), .ref (q 28), .int (z 29), .ref (q 30), .int (z 31), .ref (q 32), .int (z 33), .ref (q 34)]))] s.heap := hP
  have hD : va_D A [(h0, .inr (12, [.ref (q 0), .int (z 1), .int (z 2), .int (z 3), .int (z 4), .int (z 5), .int (z 6), .int (z 7), .ref (q 8), .ref (q 9), .ref (q 10), .ref (q 11), .ref (q 12), .ref (q 13), .ref (q 14), .int (z 15), .int (z 16), .int (z 17), .ref (q 18), .ref (q 19), .ref (q 20), .ref (q 21), .ref (q 22), .ref (q 23), .int (z 24), .ref (q 25), .ref (q 26), .ref (q 27), .ref (q 28), .int (z 29), .ref (q 30), .int (z 31), .ref (q 32), .int (z 33), .ref (q 34)]))] := hD
  have hl := lv_entry ([.ref h0]) (n := 1) (Nat.le_of_ble_eq_true rfl)
  rw [lg_entry_eq]
  generalize (lg_sl ([.ref h0]) ++ List.replicate (1 - (lg_sl ([.ref h0])).length) Slot.unset).toArray = ls at hl ⊢
  have hl : lv_has ls 1 [(0, .ref h0)] := hl
  refine lv_aload_n hx hb d_Mt_blanks_0 rfl (lv_at hl 0 rfl) ?_
  refine xc_pi (va_runV (As := []) (rest := []) ⟨hx, hb, hml, hown, hg⟩ (p_Mt_look0 l D kA kS s.heap.size h0 q z h1) (cwV 0 hg (xg_V mw_1866 mw_1868 ms_101 mw_14 mw_1869) rfl rfl rfl (by decide +kernel) ⟨Nat.le_of_ble_eq_true rfl, Nat.le_of_ble_eq_true rfl⟩) (xc_preV hK hN hC hP hD hS hA [0] (by decide) rfl 0 rfl rfl) rfl rfl hl.1 rfl (lv_room (Nat.le_of_ble_eq_true rfl)) d_Mt_blanks_1 ⟨Nat.le_of_ble_eq_true rfl, Nat.le_of_ble_eq_true rfl⟩) (fun r_1 hw0 => ?_)
  subst hw0
  refine lv_bipush (v := 32) hx hb d_Mt_blanks_4 (by decide) ?_
  refine lv_icmp_eq (tgt := 36) hx hb d_Mt_blanks_6 (by decide) (fun c_6 => ?_) (fun c_6 => ?_)
  · skip
    exact absurd c_6 (by decide)
  · skip
    refine lv_aload_n hx hb d_Mt_blanks_9 rfl (lv_at hl 0 rfl) ?_
    refine xc_pi (va_runV (As := []) (rest := []) ⟨hx, hb, hml, hown, hg⟩ (p_Mt_look0 l D kA kS s.heap.size h0 q z h1) (cwV 0 hg (xg_V mw_1866 mw_1868 ms_101 mw_14 mw_1869) rfl rfl rfl (by decide +kernel) ⟨Nat.le_of_ble_eq_true rfl, Nat.le_of_ble_eq_true rfl⟩) (xc_preV hK hN hC hP hD hS hA [0] (by decide) rfl 0 rfl rfl) rfl rfl hl.1 rfl (lv_room (Nat.le_of_ble_eq_true rfl)) d_Mt_blanks_10 ⟨Nat.le_of_ble_eq_true rfl, Nat.le_of_ble_eq_true rfl⟩) (fun r_10 hw1 => ?_)
    subst hw1
    refine lv_bipush (v := 9) hx hb d_Mt_blanks_13 (by decide) ?_
    refine lv_icmp_eq (tgt := 36) hx hb d_Mt_blanks_15 (by decide) (fun c_15 => ?_) (fun c_15 => ?_)
    · skip
      exact absurd c_15 (by decide)
    · skip
      refine lv_aload_n hx hb d_Mt_blanks_18 rfl (lv_at hl 0 rfl) ?_
      refine xc_pi (va_runV (As := []) (rest := []) ⟨hx, hb, hml, hown, hg⟩ (p_Mt_look0 l D kA kS s.heap.size h0 q z h1) (cwV 0 hg (xg_V mw_1866 mw_1868 ms_101 mw_14 mw_1869) rfl rfl rfl (by decide +kernel) ⟨Nat.le_of_ble_eq_true rfl, Nat.le_of_ble_eq_true rfl⟩) (xc_preV hK hN hC hP hD hS hA [0] (by decide) rfl 0 rfl rfl) rfl rfl hl.1 rfl (lv_room (Nat.le_of_ble_eq_true rfl)) d_Mt_blanks_19 ⟨Nat.le_of_ble_eq_true rfl, Nat.le_of_ble_eq_true rfl⟩) (fun r_19 hw2 => ?_)
      subst hw2
      refine lv_bipush (v := 10) hx hb d_Mt_blanks_22 (by decide) ?_
      refine lv_icmp_eq (tgt := 36) hx hb d_Mt_blanks_24 (by decide) (fun c_24 => ?_) (fun c_24 => ?_)
      · skip
        exact absurd c_24 (by decide)
      · skip
        refine lv_aload_n hx hb d_Mt_blanks_27 rfl (lv_at hl 0 rfl) ?_
        refine xc_pi (va_runV (As := []) (rest := []) ⟨hx, hb, hml, hown, hg⟩ (p_Mt_look0 l D kA kS s.heap.size h0 q z h1) (cwV 0 hg (xg_V mw_1866 mw_1868 ms_101 mw_14 mw_1869) rfl rfl rfl (by decide +kernel) ⟨Nat.le_of_ble_eq_true rfl, Nat.le_of_ble_eq_true rfl⟩) (xc_preV hK hN hC hP hD hS hA [0] (by decide) rfl 0 rfl rfl) rfl rfl hl.1 rfl (lv_room (Nat.le_of_ble_eq_true rfl)) d_Mt_blanks_28 ⟨Nat.le_of_ble_eq_true rfl, Nat.le_of_ble_eq_true rfl⟩) (fun r_28 hw3 => ?_)
        subst hw3
        refine lv_bipush (v := 13) hx hb d_Mt_blanks_31 (by decide) ?_
        refine lv_icmp_ne (tgt := 49) hx hb d_Mt_blanks_33 (by decide) (fun c_33 => ?_) (fun c_33 => ?_)
        · skip
          exact W.vret hx hb hr (fun t ht hW => ⟨rfl, ht⟩) (fun q hq => by cases hq) d_Mt_blanks_49
        · skip
          exact absurd c_33 (by decide)
