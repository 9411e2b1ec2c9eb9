/-! the law's power and count, taken -/
set_option maxHeartbeats 4000000 in
set_option maxRecDepth 100000 in
/-- the law's power -/
theorem c_La_power (l : Launch) (D : va_G) (kA : Nat → ClassId) (kS : Nat → Nat) (sz : Nat) (h0 b0 : Nat) (r : Nat → Nat) (fp dn ul x : Int32) (h1 : ¬ x < -1) (h2 : x ≤ 1000) : Met l y_La_power w_La_power { frames := 1, cells := 0, slots := 0, locals := 21 } (xPre D vC (tK kA) kS [.ref h0, .int x] ([oLk h0 r fp dn, (r 13, .inr (9, [.ref b0, .int ul]))]) sz) (va_Qi (fun (x : Int32) (_ : Unit) => x = 0) (xB D vC (tK kA) (fun _ => [oLk h0 r fp dn, (r 13, .inr (9, [.ref b0, .int x]))]) (va_A ([oLk h0 r fp dn, (r 13, .inr (9, [.ref b0, .int ul]))]) sz)) (va_A ([oLk h0 r fp dn, (r 13, .inr (9, [.ref b0, .int ul]))]) sz)) 0 0 (va_A ([oLk h0 r fp dn, (r 13, .inr (9, [.ref b0, .int ul]))]) sz) := by
  refine va_MetW (cc := b_La_power) (maxL := 3) (ret := (some .int)) (hh := [(0, 5, 8, 19)]) (by decide) rfl ?_
  intro p e s m args below meth c s₁ B hml hv
  obtain ⟨rfl, hsz, hP, hK, hD0, hN, hC⟩ := hv
  have hx := B.exec
  have hb := B.bytes
  have hr := B.returns
  have hts := atoms_spec (ws := w_La_power) B.pre
  have hg : ∀ w ∈ gW, w.before _ s = true := fun w h => hts w (List.mem_cons_of_mem _ h)
  have hown : s.vm.findClass R_La = some m.cls := findClass_of_methodNamed B.named
  have hlocks := B.notSynchronized
  have htab := xt_table B (hts _ List.mem_cons_self)
  subst hsz
  have hD := hD0.self (sz := s.heap.size)
  generalize hAe : va_A ([oLk h0 r fp dn, (r 13, .inr (9, [.ref b0, .int ul]))]) s.heap.size = A at hD hC ⊢
  have hA : ∀ q : Nat, s.heap.size ≤ q → A q := fun q h => by rw [← hAe]; exact Or.inr h
  have hS : va_S A s.heap s.heap [] := va_S.rf
  have hP : va_P D vC [(h0, .inr (11, [.ref (r 0), .ref (r 1), .ref (r 2), .ref (r 3), .ref (r 4), .ref (r 5), .ref (r 6), .ref (r 7), .ref (r 8), .ref (r 9), .ref (r 10), .ref (r 11), .ref (r 12), .ref (r 13), .ref (r 14), .int fp, .int dn])), (r 13, .inr (9, [.ref b0, .int ul]))] s.heap := hP
  have hD : va_D A [(h0, .inr (11, [.ref (r 0), .ref (r 1), .ref (r 2), .ref (r 3), .ref (r 4), .ref (r 5), .ref (r 6), .ref (r 7), .ref (r 8), .ref (r 9), .ref (r 10), .ref (r 11), .ref (r 12), .ref (r 13), .ref (r 14), .int fp, .int dn])), (r 13, .inr (9, [.ref b0, .int ul]))] := hD
  have hl := lv_entry ([.ref h0, .int x]) (n := 3) (Nat.le_of_ble_eq_true rfl)
  rw [lg_entry_eq]
  generalize (lg_sl ([.ref h0, .int x]) ++ List.replicate (3 - (lg_sl ([.ref h0, .int x])).length) Slot.unset).toArray = ls at hl ⊢
  have hl : lv_has ls 3 [(0, .ref h0), (1, .int x)] := hl
  refine lv_aload_n hx hb d_La_power_0 rfl (lv_at hl 0 rfl) ?_
  refine lv_iload_n hx hb d_La_power_1 rfl (lv_at hl 1 rfl) ?_
  refine xc_v (wr := []) (va_runV (As := [.int x]) (rest := []) ⟨hx, hb, hml, hown, hg⟩ (c_Lk_power l D kA kS s.heap.size h0 b0 r fp dn ul x h1 h2) (cwV 1 hg (xg_V mw_1544 mw_1545 mw_1546 mw_1 mw_1547) rfl rfl rfl (by decide +kernel) ⟨Nat.le_of_ble_eq_true rfl, Nat.le_of_ble_eq_true rfl⟩) (xc_preV hK hN hC hP hD hS hA [0, 1] (by decide) rfl 0 rfl rfl) rfl rfl hl.1 rfl (lv_room (Nat.le_of_ble_eq_true rfl)) d_La_power_2 ⟨Nat.le_of_ble_eq_true rfl, Nat.le_of_ble_eq_true rfl⟩) hP hD hS hA [0, 1] [] rfl rfl (by decide) (by decide) (fun u9 H locs hw hP hD hS => ?_)
  have hP : va_P D vC [(h0, .inr (11, [.ref (r 0), .ref (r 1), .ref (r 2), .ref (r 3), .ref (r 4), .ref (r 5), .ref (r 6), .ref (r 7), .ref (r 8), .ref (r 9), .ref (r 10), .ref (r 11), .ref (r 12), .ref (r 13), .ref (r 14), .int fp, .int dn])), (r 13, .inr (9, [.ref b0, .int x]))] H := hP
  have hD : va_D A [(h0, .inr (11, [.ref (r 0), .ref (r 1), .ref (r 2), .ref (r 3), .ref (r 4), .ref (r 5), .ref (r 6), .ref (r 7), .ref (r 8), .ref (r 9), .ref (r 10), .ref (r 11), .ref (r 12), .ref (r 13), .ref (r 14), .int fp, .int dn])), (r 13, .inr (9, [.ref b0, .int x]))] := hD
  refine lv_goto (tgt := 11) hx hb d_La_power_5 (by decide) ?_
  refine lv_iconst (v := 0) hx hb d_La_power_11 (by decide) ?_
  exact W.iret (v := 0) hx hb hr (fun t ht hW => ⟨⟨0, (), rfl, rfl, by rw [ht]; exact hP, va_K.moved hW.alike hK, hD⟩, hS.F ht⟩) hS.2.2 d_La_power_12

set_option maxHeartbeats 4000000 in
set_option maxRecDepth 100000 in
/-- the law's count -/
theorem c_La_count0 (l : Launch) (D : va_G) (kA : Nat → ClassId) (kS : Nat → Nat) (sz : Nat) (ou : Nat) (o : Nat → Int64) (h0 L : Nat) (r q g : Nat → Nat) (fp tu : Int32) (z vs f0 f4 : Nat → Int32) (hL : L ≤ 40) (k : Nat) (hk : k < 4) : Met l y_La_count w_La_count { frames := 2, cells := 0, slots := 0, locals := 43 } (xPre D vC (tK kA) kS [.ref h0, .int (nI k), .int 0, .ref ou] ((oLk h0 r fp 0 :: oSc (r 7) q z :: (q 10, .inl (kA 1, 4, .inl vs)) :: wFl (r 14) g kA (nI L) tu f0 f4) ++ [(ou, .inl (kA 2, 1, .inr (.inl o)))]) sz) (va_Qi (fun (x : Int32) (_ : Unit) => x = 0) (xB D vC (tK kA) (fun _ => (oLk h0 r fp 0 :: oSc (r 7) q z :: (q 10, .inl (kA 1, 4, .inl vs)) :: wFl (r 14) g kA (nI L) tu f0 f4) ++ [(ou, .inl (kA 2, 1, .inr (.inl (vp_updL o 0 ((vs k).toInt64)))))]) (va_A ((oLk h0 r fp 0 :: oSc (r 7) q z :: (q 10, .inl (kA 1, 4, .inl vs)) :: wFl (r 14) g kA (nI L) tu f0 f4) ++ [(ou, .inl (kA 2, 1, .inr (.inl o)))]) sz)) (va_A ((oLk h0 r fp 0 :: oSc (r 7) q z :: (q 10, .inl (kA 1, 4, .inl vs)) :: wFl (r 14) g kA (nI L) tu f0 f4) ++ [(ou, .inl (kA 2, 1, .inr (.inl o)))]) sz)) 0 0 (va_A ((oLk h0 r fp 0 :: oSc (r 7) q z :: (q 10, .inl (kA 1, 4, .inl vs)) :: wFl (r 14) g kA (nI L) tu f0 f4) ++ [(ou, .inl (kA 2, 1, .inr (.inl o)))]) sz) := by
  refine va_MetW (cc := b_La_count) (maxL := 5) (ret := (some .int)) (hh := [(0, 10, 13, 25), (0, 10, 17, 19)]) (by decide) rfl ?_
  intro p e s m args below meth c s₁ B hml hv
  obtain ⟨rfl, hsz, hP, hK, hD0, hN, hC⟩ := hv
  have hx := B.exec
  have hb := B.bytes
  have hr := B.returns
  have hts := atoms_spec (ws := w_La_count) B.pre
  have hg : ∀ w ∈ gW, w.before _ s = true := fun w h => hts w (List.mem_cons_of_mem _ h)
  have hown : s.vm.findClass R_La = some m.cls := findClass_of_methodNamed B.named
  have hlocks := B.notSynchronized
  have htab := xt_table B (hts _ List.mem_cons_self)
  subst hsz
  have hD := hD0.self (sz := s.heap.size)
  generalize hAe : va_A ((oLk h0 r fp 0 :: oSc (r 7) q z :: (q 10, .inl (kA 1, 4, .inl vs)) :: wFl (r 14) g kA (nI L) tu f0 f4) ++ [(ou, .inl (kA 2, 1, .inr (.inl o)))]) s.heap.size = A at hD hC ⊢
  have hA : ∀ q : Nat, s.heap.size ≤ q → A q := fun q h => by rw [← hAe]; exact Or.inr h
  have hS : va_S A s.heap s.heap [] := va_S.rf
  have hP : va_P D vC [(h0, .inr (11, [.ref (r 0), .ref (r 1), .ref (r 2), .ref (r 3), .ref (r 4), .ref (r 5), .ref (r 6), .ref (r 7), .ref (r 8), .ref (r 9), .ref (r 10), .ref (r 11), .ref (r 12), .ref (r 13), .ref (r 14), .int fp, .int 0])), (r 7, .inr (2, [.ref (q 0), .ref (q 1), .ref (q 2), .ref (q 3), .ref (q 4), .ref (q 5), .ref (q 6), .ref (q 7), .ref (q 8), .ref (q 9), .ref (q 10), .int (z 11), .ref (q 12), .ref (q 13), .int (z 14), .int (z 15), .int (z 16), .int (z 17)])), (q 10, .inl (kA 1, 4, .inl vs)), (r 14, .inr (10, [.ref (g 0), .ref (g 1), .ref (g 2), .ref (g 3), .ref (g 4), .int (nI L), .int tu, .ref (g 5), .ref (g 6)])), (g 0, .inl (kA 1, 40, .inl f0)), (g 4, .inl (kA 1, 40, .inl f4)), (ou, .inl (kA 2, 1, .inr (.inl o)))] s.heap := hP
  have hD : va_D A [(h0, .inr (11, [.ref (r 0), .ref (r 1), .ref (r 2), .ref (r 3), .ref (r 4), .ref (r 5), .ref (r 6), .ref (r 7), .ref (r 8), .ref (r 9), .ref (r 10), .ref (r 11), .ref (r 12), .ref (r 13), .ref (r 14), .int fp, .int 0])), (r 7, .inr (2, [.ref (q 0), .ref (q 1), .ref (q 2), .ref (q 3), .ref (q 4), .ref (q 5), .ref (q 6), .ref (q 7), .ref (q 8), .ref (q 9), .ref (q 10), .int (z 11), .ref (q 12), .ref (q 13), .int (z 14), .int (z 15), .int (z 16), .int (z 17)])), (q 10, .inl (kA 1, 4, .inl vs)), (r 14, .inr (10, [.ref (g 0), .ref (g 1), .ref (g 2), .ref (g 3), .ref (g 4), .int (nI L), .int tu, .ref (g 5), .ref (g 6)])), (g 0, .inl (kA 1, 40, .inl f0)), (g 4, .inl (kA 1, 40, .inl f4)), (ou, .inl (kA 2, 1, .inr (.inl o)))] := hD
  have hl := lv_entry ([.ref h0, .int (nI k), .int 0, .ref ou]) (n := 5) (Nat.le_of_ble_eq_true rfl)
  rw [lg_entry_eq]
  generalize (lg_sl ([.ref h0, .int (nI k), .int 0, .ref ou]) ++ List.replicate (5 - (lg_sl ([.ref h0, .int (nI k), .int 0, .ref ou])).length) Slot.unset).toArray = ls at hl ⊢
  have hl : lv_has ls 5 [(0, .ref h0), (1, .int (nI k)), (2, .int 0), (3, .ref ou)] := hl
  refine lv_aload_n hx hb d_La_count_0 rfl (lv_at hl 3 rfl) ?_
  refine lv_iconst (v := nI 0) hx hb d_La_count_1 (by decide) ?_
  refine lv_aload_n hx hb d_La_count_2 rfl (lv_at hl 0 rfl) ?_
  refine lv_iload_n hx hb d_La_count_3 rfl (lv_at hl 1 rfl) ?_
  refine lv_iload_n hx hb d_La_count_4 rfl (lv_at hl 2 rfl) ?_
  refine xc_pi (va_runV (As := [.int (nI k), .int 0]) (rest := [.int (nI 0), .ref ou]) ⟨hx, hb, hml, hown, hg⟩ (p_Lk_count0 l D kA kS s.heap.size h0 L r q g fp tu z vs f0 f4 hL k hk) (cwV 2 hg (xg_V mw_1493 mw_1494 mw_1495 mw_1 mw_1496) rfl rfl rfl (by decide +kernel) ⟨Nat.le_of_ble_eq_true rfl, Nat.le_of_ble_eq_true rfl⟩) (xc_preV hK hN hC hP hD hS hA [0, 1, 2, 3, 4, 5] (by decide) rfl 0 rfl rfl) rfl rfl hl.1 rfl (lv_room (Nat.le_of_ble_eq_true rfl)) d_La_count_5 ⟨Nat.le_of_ble_eq_true rfl, Nat.le_of_ble_eq_true rfl⟩) (fun r_5 hw => ?_)
  subst hw
  refine lv_i2l hx hb d_La_count_8 rfl ?_
  refine lv_topl (fun x_8 ex_8 => ?_)
  replace ex_8 : x_8 = (vs k).toInt64 := ex_8.trans (rfl)
  subst ex_8
  refine xb_last hx hb hK hP hD hS 6 2 rfl rfl (by decide) (by decide) d_La_count_9 (fun H locs hP hD hS => ?_)
  have hP : va_P D vC [(h0, .inr (11, [.ref (r 0), .ref (r 1), .ref (r 2), .ref (r 3), .ref (r 4), .ref (r 5), .ref (r 6), .ref (r 7), .ref (r 8), .ref (r 9), .ref (r 10), .ref (r 11), .ref (r 12), .ref (r 13), .ref (r 14), .int fp, .int 0])), (r 7, .inr (2, [.ref (q 0), .ref (q 1), .ref (q 2), .ref (q 3), .ref (q 4), .ref (q 5), .ref (q 6), .ref (q 7), .ref (q 8), .ref (q 9), .ref (q 10), .int (z 11), .ref (q 12), .ref (q 13), .int (z 14), .int (z 15), .int (z 16), .int (z 17)])), (q 10, .inl (kA 1, 4, .inl vs)), (r 14, .inr (10, [.ref (g 0), .ref (g 1), .ref (g 2), .ref (g 3), .ref (g 4), .int (nI L), .int tu, .ref (g 5), .ref (g 6)])), (g 0, .inl (kA 1, 40, .inl f0)), (g 4, .inl (kA 1, 40, .inl f4)), (ou, .inl (kA 2, 1, .inr (.inl (vp_updL o 0 ((vs k).toInt64)))))] H := hP
  have hD : va_D A [(h0, .inr (11, [.ref (r 0), .ref (r 1), .ref (r 2), .ref (r 3), .ref (r 4), .ref (r 5), .ref (r 6), .ref (r 7), .ref (r 8), .ref (r 9), .ref (r 10), .ref (r 11), .ref (r 12), .ref (r 13), .ref (r 14), .int fp, .int 0])), (r 7, .inr (2, [.ref (q 0), .ref (q 1), .ref (q 2), .ref (q 3), .ref (q 4), .ref (q 5), .ref (q 6), .ref (q 7), .ref (q 8), .ref (q 9), .ref (q 10), .int (z 11), .ref (q 12), .ref (q 13), .int (z 14), .int (z 15), .int (z 16), .int (z 17)])), (q 10, .inl (kA 1, 4, .inl vs)), (r 14, .inr (10, [.ref (g 0), .ref (g 1), .ref (g 2), .ref (g 3), .ref (g 4), .int (nI L), .int tu, .ref (g 5), .ref (g 6)])), (g 0, .inl (kA 1, 40, .inl f0)), (g 4, .inl (kA 1, 40, .inl f4)), (ou, .inl (kA 2, 1, .inr (.inl (vp_updL o 0 ((vs k).toInt64)))))] := hD
  refine lv_goto (tgt := 21) hx hb d_La_count_10 (by decide) ?_
  refine lv_iconst (v := 0) hx hb d_La_count_21 (by decide) ?_
  exact W.iret (v := 0) hx hb hr (fun t ht hW => ⟨⟨0, (), rfl, rfl, by rw [ht]; exact hP, va_K.moved hW.alike hK, hD⟩, hS.F ht⟩) hS.2.2 d_La_count_22

set_option maxHeartbeats 4000000 in
set_option maxRecDepth 100000 in
/-- the law's count -/
theorem c_La_count1 (l : Launch) (D : va_G) (kA : Nat → ClassId) (kS : Nat → Nat) (sz : Nat) (ou : Nat) (o : Nat → Int64) (h0 L : Nat) (r q g : Nat → Nat) (fp tu : Int32) (z vs f0 f4 : Nat → Int32) (hL : L ≤ 40) (k : Nat) (hk : k < 4) : Met l y_La_count w_La_count { frames := 3, cells := 0, slots := 0, locals := 67 } (xPre D vC (tK kA) kS [.ref h0, .int (nI k), .int 1, .ref ou] ((oLk h0 r fp 0 :: oSc (r 7) q z :: (q 10, .inl (kA 1, 4, .inl vs)) :: wFl (r 14) g kA (nI L) tu f0 f4) ++ [(ou, .inl (kA 2, 1, .inr (.inl o)))]) sz) (va_Qi (fun (x : Int32) (_ : Unit) => x = 0) (xB D vC (tK kA) (fun _ => (oLk h0 r fp 0 :: oSc (r 7) q z :: (q 10, .inl (kA 1, 4, .inl vs)) :: wFl (r 14) g kA (nI L) tu f0 f4) ++ [(ou, .inl (kA 2, 1, .inr (.inl (vp_updL o 0 ((fl_cnt f0 f4 (nI k) L).toInt64)))))]) (va_A ((oLk h0 r fp 0 :: oSc (r 7) q z :: (q 10, .inl (kA 1, 4, .inl vs)) :: wFl (r 14) g kA (nI L) tu f0 f4) ++ [(ou, .inl (kA 2, 1, .inr (.inl o)))]) sz)) (va_A ((oLk h0 r fp 0 :: oSc (r 7) q z :: (q 10, .inl (kA 1, 4, .inl vs)) :: wFl (r 14) g kA (nI L) tu f0 f4) ++ [(ou, .inl (kA 2, 1, .inr (.inl o)))]) sz)) 0 0 (va_A ((oLk h0 r fp 0 :: oSc (r 7) q z :: (q 10, .inl (kA 1, 4, .inl vs)) :: wFl (r 14) g kA (nI L) tu f0 f4) ++ [(ou, .inl (kA 2, 1, .inr (.inl o)))]) sz) := by
  refine va_MetW (cc := b_La_count) (maxL := 5) (ret := (some .int)) (hh := [(0, 10, 13, 25), (0, 10, 17, 19)]) (by decide) rfl ?_
  intro p e s m args below meth c s₁ B hml hv
  obtain ⟨rfl, hsz, hP, hK, hD0, hN, hC⟩ := hv
  have hx := B.exec
  have hb := B.bytes
  have hr := B.returns
  have hts := atoms_spec (ws := w_La_count) B.pre
  have hg : ∀ w ∈ gW, w.before _ s = true := fun w h => hts w (List.mem_cons_of_mem _ h)
  have hown : s.vm.findClass R_La = some m.cls := findClass_of_methodNamed B.named
  have hlocks := B.notSynchronized
  have htab := xt_table B (hts _ List.mem_cons_self)
  subst hsz
  have hD := hD0.self (sz := s.heap.size)
  generalize hAe : va_A ((oLk h0 r fp 0 :: oSc (r 7) q z :: (q 10, .inl (kA 1, 4, .inl vs)) :: wFl (r 14) g kA (nI L) tu f0 f4) ++ [(ou, .inl (kA 2, 1, .inr (.inl o)))]) s.heap.size = A at hD hC ⊢
  have hA : ∀ q : Nat, s.heap.size ≤ q → A q := fun q h => by rw [← hAe]; exact Or.inr h
  have hS : va_S A s.heap s.heap [] := va_S.rf
  have hP : va_P D vC [(h0, .inr (11, [.ref (r 0), .ref (r 1), .ref (r 2), .ref (r 3), .ref (r 4), .ref (r 5), .ref (r 6), .ref (r 7), .ref (r 8), .ref (r 9), .ref (r 10), .ref (r 11), .ref (r 12), .ref (r 13), .ref (r 14), .int fp, .int 0])), (r 7, .inr (2, [.ref (q 0), .ref (q 1), .ref (q 2), .ref (q 3), .ref (q 4), .ref (q 5), .ref (q 6), .ref (q 7), .ref (q 8), .ref (q 9), .ref (q 10), .int (z 11), .ref (q 12), .ref (q 13), .int (z 14), .int (z 15), .int (z 16), .int (z 17)])), (q 10, .inl (kA 1, 4, .inl vs)), (r 14, .inr (10, [.ref (g 0), .ref (g 1), .ref (g 2), .ref (g 3), .ref (g 4), .int (nI L), .int tu, .ref (g 5), .ref (g 6)])), (g 0, .inl (kA 1, 40, .inl f0)), (g 4, .inl (kA 1, 40, .inl f4)), (ou, .inl (kA 2, 1, .inr (.inl o)))] s.heap := hP
  have hD : va_D A [(h0, .inr (11, [.ref (r 0), .ref (r 1), .ref (r 2), .ref (r 3), .ref (r 4), .ref (r 5), .ref (r 6), .ref (r 7), .ref (r 8), .ref (r 9), .ref (r 10), .ref (r 11), .ref (r 12), .ref (r 13), .ref (r 14), .int fp, .int 0])), (r 7, .inr (2, [.ref (q 0), .ref (q 1), .ref (q 2), .ref (q 3), .ref (q 4), .ref (q 5), .ref (q 6), .ref (q 7), .ref (q 8), .ref (q 9), .ref (q 10), .int (z 11), .ref (q 12), .ref (q 13), .int (z 14), .int (z 15), .int (z 16), .int (z 17)])), (q 10, .inl (kA 1, 4, .inl vs)), (r 14, .inr (10, [.ref (g 0), .ref (g 1), .ref (g 2), .ref (g 3), .ref (g 4), .int (nI L), .int tu, .ref (g 5), .ref (g 6)])), (g 0, .inl (kA 1, 40, .inl f0)), (g 4, .inl (kA 1, 40, .inl f4)), (ou, .inl (kA 2, 1, .inr (.inl o)))] := hD
  have hl := lv_entry ([.ref h0, .int (nI k), .int 1, .ref ou]) (n := 5) (Nat.le_of_ble_eq_true rfl)
  rw [lg_entry_eq]
  generalize (lg_sl ([.ref h0, .int (nI k), .int 1, .ref ou]) ++ List.replicate (5 - (lg_sl ([.ref h0, .int (nI k), .int 1, .ref ou])).length) Slot.unset).toArray = ls at hl ⊢
  have hl : lv_has ls 5 [(0, .ref h0), (1, .int (nI k)), (2, .int 1), (3, .ref ou)] := hl
  refine lv_aload_n hx hb d_La_count_0 rfl (lv_at hl 3 rfl) ?_
  refine lv_iconst (v := nI 0) hx hb d_La_count_1 (by decide) ?_
  refine lv_aload_n hx hb d_La_count_2 rfl (lv_at hl 0 rfl) ?_
  refine lv_iload_n hx hb d_La_count_3 rfl (lv_at hl 1 rfl) ?_
  refine lv_iload_n hx hb d_La_count_4 rfl (lv_at hl 2 rfl) ?_
  refine xc_pi (va_runV (As := [.int (nI k), .int 1]) (rest := [.int (nI 0), .ref ou]) ⟨hx, hb, hml, hown, hg⟩ (p_Lk_count1 l D kA kS s.heap.size h0 L r q g fp tu z vs f0 f4 hL k hk) (cwV 2 hg (xg_V mw_1493 mw_1494 mw_1495 mw_1 mw_1496) rfl rfl rfl (by decide +kernel) ⟨Nat.le_of_ble_eq_true rfl, Nat.le_of_ble_eq_true rfl⟩) (xc_preV hK hN hC hP hD hS hA [0, 1, 2, 3, 4, 5] (by decide) rfl 0 rfl rfl) rfl rfl hl.1 rfl (lv_room (Nat.le_of_ble_eq_true rfl)) d_La_count_5 ⟨Nat.le_of_ble_eq_true rfl, Nat.le_of_ble_eq_true rfl⟩) (fun r_5 hw => ?_)
  subst hw
  refine lv_i2l hx hb d_La_count_8 rfl ?_
  refine lv_topl (fun x_8 ex_8 => ?_)
  replace ex_8 : x_8 = (fl_cnt f0 f4 (nI k) L).toInt64 := ex_8.trans (rfl)
  subst ex_8
  refine xb_last hx hb hK hP hD hS 6 2 rfl rfl (by decide) (by decide) d_La_count_9 (fun H locs hP hD hS => ?_)
  have hP : va_P D vC [(h0, .inr (11, [.ref (r 0), .ref (r 1), .ref (r 2), .ref (r 3), .ref (r 4), .ref (r 5), .ref (r 6), .ref (r 7), .ref (r 8), .ref (r 9), .ref (r 10), .ref (r 11), .ref (r 12), .ref (r 13), .ref (r 14), .int fp, .int 0])), (r 7, .inr (2, [.ref (q 0), .ref (q 1), .ref (q 2), .ref (q 3), .ref (q 4), .ref (q 5), .ref (q 6), .ref (q 7), .ref (q 8), .ref (q 9), .ref (q 10), .int (z 11), .ref (q 12), .ref (q 13), .int (z 14), .int (z 15), .int (z 16), .int (z 17)])), (q 10, .inl (kA 1, 4, .inl vs)), (r 14, .inr (10, [.ref (g 0), .ref (g 1), .ref (g 2), .ref (g 3), .ref (g 4), .int (nI L), .int tu, .ref (g 5), .ref (g 6)])), (g 0, .inl (kA 1, 40, .inl f0)), (g 4, .inl (kA 1, 40, .inl f4)), (ou, .inl (kA 2, 1, .inr (.inl (vp_updL o 0 ((fl_cnt f0 f4 (nI k) L).toInt64)))))] H := hP
  have hD : va_D A [(h0, .inr (11, [.ref (r 0), .ref (r 1), .ref (r 2), .ref (r 3), .ref (r 4), .ref (r 5), .ref (r 6), .ref (r 7), .ref (r 8), .ref (r 9), .ref (r 10), .ref (r 11), .ref (r 12), .ref (r 13), .ref (r 14), .int fp, .int 0])), (r 7, .inr (2, [.ref (q 0), .ref (q 1), .ref (q 2), .ref (q 3), .ref (q 4), .ref (q 5), .ref (q 6), .ref (q 7), .ref (q 8), .ref (q 9), .ref (q 10), .int (z 11), .ref (q 12), .ref (q 13), .int (z 14), .int (z 15), .int (z 16), .int (z 17)])), (q 10, .inl (kA 1, 4, .inl vs)), (r 14, .inr (10, [.ref (g 0), .ref (g 1), .ref (g 2), .ref (g 3), .ref (g 4), .int (nI L), .int tu, .ref (g 5), .ref (g 6)])), (g 0, .inl (kA 1, 40, .inl f0)), (g 4, .inl (kA 1, 40, .inl f4)), (ou, .inl (kA 2, 1, .inr (.inl (vp_updL o 0 ((fl_cnt f0 f4 (nI k) L).toInt64)))))] := hD
  refine lv_goto (tgt := 21) hx hb d_La_count_10 (by decide) ?_
  refine lv_iconst (v := 0) hx hb d_La_count_21 (by decide) ?_
  exact W.iret (v := 0) hx hb hr (fun t ht hW => ⟨⟨0, (), rfl, rfl, by rw [ht]; exact hP, va_K.moved hW.alike hK, hD⟩, hS.F ht⟩) hS.2.2 d_La_count_22

set_option maxHeartbeats 4000000 in
set_option maxRecDepth 100000 in
/-- the law's count -/
theorem c_La_count2 (l : Launch) (D : va_G) (kA : Nat → ClassId) (kS : Nat → Nat) (sz : Nat) (ou : Nat) (o : Nat → Int64) (h0 L : Nat) (r q g : Nat → Nat) (fp tu : Int32) (z vs f0 f4 : Nat → Int32) (hL : L ≤ 40) (k : Nat) (hk : k < 4) : Met l y_La_count w_La_count { frames := 4, cells := 0, slots := 0, locals := 89 } (xPre D vC (tK kA) kS [.ref h0, .int (nI k), .int 2, .ref ou] ((oLk h0 r fp 0 :: oSc (r 7) q z :: (q 10, .inl (kA 1, 4, .inl vs)) :: wFl (r 14) g kA (nI L) tu f0 f4) ++ [(ou, .inl (kA 2, 1, .inr (.inl o)))]) sz) (va_Qi (fun (x : Int32) (_ : Unit) => x = 0) (xB D vC (tK kA) (fun _ => (oLk h0 r fp 0 :: oSc (r 7) q z :: (q 10, .inl (kA 1, 4, .inl vs)) :: wFl (r 14) g kA (nI L) tu f0 f4) ++ [(ou, .inl (kA 2, 1, .inr (.inl (vp_updL o 0 ((fl_sum f0 f4 (nI k) L).toInt64)))))]) (va_A ((oLk h0 r fp 0 :: oSc (r 7) q z :: (q 10, .inl (kA 1, 4, .inl vs)) :: wFl (r 14) g kA (nI L) tu f0 f4) ++ [(ou, .inl (kA 2, 1, .inr (.inl o)))]) sz)) (va_A ((oLk h0 r fp 0 :: oSc (r 7) q z :: (q 10, .inl (kA 1, 4, .inl vs)) :: wFl (r 14) g kA (nI L) tu f0 f4) ++ [(ou, .inl (kA 2, 1, .inr (.inl o)))]) sz)) 0 0 (va_A ((oLk h0 r fp 0 :: oSc (r 7) q z :: (q 10, .inl (kA 1, 4, .inl vs)) :: wFl (r 14) g kA (nI L) tu f0 f4) ++ [(ou, .inl (kA 2, 1, .inr (.inl o)))]) sz) := by
  refine va_MetW (cc := b_La_count) (maxL := 5) (ret := (some .int)) (hh := [(0, 10, 13, 25), (0, 10, 17, 19)]) (by decide) rfl ?_
  intro p e s m args below meth c s₁ B hml hv
  obtain ⟨rfl, hsz, hP, hK, hD0, hN, hC⟩ := hv
  have hx := B.exec
  have hb := B.bytes
  have hr := B.returns
  have hts := atoms_spec (ws := w_La_count) B.pre
  have hg : ∀ w ∈ gW, w.before _ s = true := fun w h => hts w (List.mem_cons_of_mem _ h)
  have hown : s.vm.findClass R_La = some m.cls := findClass_of_methodNamed B.named
  have hlocks := B.notSynchronized
  have htab := xt_table B (hts _ List.mem_cons_self)
  subst hsz
  have hD := hD0.self (sz := s.heap.size)
  generalize hAe : va_A ((oLk h0 r fp 0 :: oSc (r 7) q z :: (q 10, .inl (kA 1, 4, .inl vs)) :: wFl (r 14) g kA (nI L) tu f0 f4) ++ [(ou, .inl (kA 2, 1, .inr (.inl o)))]) s.heap.size = A at hD hC ⊢
  have hA : ∀ q : Nat, s.heap.size ≤ q → A q := fun q h => by rw [← hAe]; exact Or.inr h
  have hS : va_S A s.heap s.heap [] := va_S.rf
  have hP : va_P D vC [(h0, .inr (11, [.ref (r 0), .ref (r 1), .ref (r 2), .ref (r 3), .ref (r 4), .ref (r 5), .ref (r 6), .ref (r 7), .ref (r 8), .ref (r 9), .ref (r 10), .ref (r 11), .ref (r 12), .ref (r 13), .ref (r 14), .int fp, .int 0])), (r 7, .inr (2, [.ref (q 0), .ref (q 1), .ref (q 2), .ref (q 3), .ref (q 4), .ref (q 5), .ref (q 6), .ref (q 7), .ref (q 8), .ref (q 9), .ref (q 10), .int (z 11), .ref (q 12), .ref (q 13), .int (z 14), .int (z 15), .int (z 16), .int (z 17)])), (q 10, .inl (kA 1, 4, .inl vs)), (r 14, .inr (10, [.ref (g 0), .ref (g 1), .ref (g 2), .ref (g 3), .ref (g 4), .int (nI L), .int tu, .ref (g 5), .ref (g 6)])), (g 0, .inl (kA 1, 40, .inl f0)), (g 4, .inl (kA 1, 40, .inl f4)), (ou, .inl (kA 2, 1, .inr (.inl o)))] s.heap := hP
  have hD : va_D A [(h0, .inr (11, [.ref (r 0), .ref (r 1), .ref (r 2), .ref (r 3), .ref (r 4), .ref (r 5), .ref (r 6), .ref (r 7), .ref (r 8), .ref (r 9), .ref (r 10), .ref (r 11), .ref (r 12), .ref (r 13), .ref (r 14), .int fp, .int 0])), (r 7, .inr (2, [.ref (q 0), .ref (q 1), .ref (q 2), .ref (q 3), .ref (q 4), .ref (q 5), .ref (q 6), .ref (q 7), .ref (q 8), .ref (q 9), .ref (q 10), .int (z 11), .ref (q 12), .ref (q 13), .int (z 14), .int (z 15), .int (z 16), .int (z 17)])), (q 10, .inl (kA 1, 4, .inl vs)), (r 14, .inr (10, [.ref (g 0), .ref (g 1), .ref (g 2), .ref (g 3), .ref (g 4), .int (nI L), .int tu, .ref (g 5), .ref (g 6)])), (g 0, .inl (kA 1, 40, .inl f0)), (g 4, .inl (kA 1, 40, .inl f4)), (ou, .inl (kA 2, 1, .inr (.inl o)))] := hD
  have hl := lv_entry ([.ref h0, .int (nI k), .int 2, .ref ou]) (n := 5) (Nat.le_of_ble_eq_true rfl)
  rw [lg_entry_eq]
  generalize (lg_sl ([.ref h0, .int (nI k), .int 2, .ref ou]) ++ List.replicate (5 - (lg_sl ([.ref h0, .int (nI k), .int 2, .ref ou])).length) Slot.unset).toArray = ls at hl ⊢
  have hl : lv_has ls 5 [(0, .ref h0), (1, .int (nI k)), (2, .int 2), (3, .ref ou)] := hl
  refine lv_aload_n hx hb d_La_count_0 rfl (lv_at hl 3 rfl) ?_
  refine lv_iconst (v := nI 0) hx hb d_La_count_1 (by decide) ?_
  refine lv_aload_n hx hb d_La_count_2 rfl (lv_at hl 0 rfl) ?_
  refine lv_iload_n hx hb d_La_count_3 rfl (lv_at hl 1 rfl) ?_
  refine lv_iload_n hx hb d_La_count_4 rfl (lv_at hl 2 rfl) ?_
  refine xc_pi (va_runV (As := [.int (nI k), .int 2]) (rest := [.int (nI 0), .ref ou]) ⟨hx, hb, hml, hown, hg⟩ (p_Lk_count2 l D kA kS s.heap.size h0 L r q g fp tu z vs f0 f4 hL k hk) (cwV 2 hg (xg_V mw_1493 mw_1494 mw_1495 mw_1 mw_1496) rfl rfl rfl (by decide +kernel) ⟨Nat.le_of_ble_eq_true rfl, Nat.le_of_ble_eq_true rfl⟩) (xc_preV hK hN hC hP hD hS hA [0, 1, 2, 3, 4, 5] (by decide) rfl 0 rfl rfl) rfl rfl hl.1 rfl (lv_room (Nat.le_of_ble_eq_true rfl)) d_La_count_5 ⟨Nat.le_of_ble_eq_true rfl, Nat.le_of_ble_eq_true rfl⟩) (fun r_5 hw => ?_)
  subst hw
  refine lv_i2l hx hb d_La_count_8 rfl ?_
  refine lv_topl (fun x_8 ex_8 => ?_)
  replace ex_8 : x_8 = (fl_sum f0 f4 (nI k) L).toInt64 := ex_8.trans (rfl)
  subst ex_8
  refine xb_last hx hb hK hP hD hS 6 2 rfl rfl (by decide) (by decide) d_La_count_9 (fun H locs hP hD hS => ?_)
  have hP : va_P D vC [(h0, .inr (11, [.ref (r 0), .ref (r 1), .ref (r 2), .ref (r 3), .ref (r 4), .ref (r 5), .ref (r 6), .ref (r 7), .ref (r 8), .ref (r 9), .ref (r 10), .ref (r 11), .ref (r 12), .ref (r 13), .ref (r 14), .int fp, .int 0])), (r 7, .inr (2, [.ref (q 0), .ref (q 1), .ref (q 2), .ref (q 3), .ref (q 4), .ref (q 5), .ref (q 6), .ref (q 7), .ref (q 8), .ref (q 9), .ref (q 10), .int (z 11), .ref (q 12), .ref (q 13), .int (z 14), .int (z 15), .int (z 16), .int (z 17)])), (q 10, .inl (kA 1, 4, .inl vs)), (r 14, .inr (10, [.ref (g 0), .ref (g 1), .ref (g 2), .ref (g 3), .ref (g 4), .int (nI L), .int tu, .ref (g 5), .ref (g 6)])), (g 0, .inl (kA 1, 40, .inl f0)), (g 4, .inl (kA 1, 40, .inl f4)), (ou, .inl (kA 2, 1, .inr (.inl (vp_updL o 0 ((fl_sum f0 f4 (nI k) L).toInt64)))))] H := hP
  have hD : va_D A [(h0, .inr (11, [.ref (r 0), .ref (r 1), .ref (r 2), .ref (r 3), .ref (r 4), .ref (r 5), .ref (r 6), .ref (r 7), .ref (r 8), .ref (r 9), .ref (r 10), .ref (r 11), .ref (r 12), .ref (r 13), .ref (r 14), .int fp, .int 0])), (r 7, .inr (2, [.ref (q 0), .ref (q 1), .ref (q 2), .ref (q 3), .ref (q 4), .ref (q 5), .ref (q 6), .ref (q 7), .ref (q 8), .ref (q 9), .ref (q 10), .int (z 11), .ref (q 12), .ref (q 13), .int (z 14), .int (z 15), .int (z 16), .int (z 17)])), (q 10, .inl (kA 1, 4, .inl vs)), (r 14, .inr (10, [.ref (g 0), .ref (g 1), .ref (g 2), .ref (g 3), .ref (g 4), .int (nI L), .int tu, .ref (g 5), .ref (g 6)])), (g 0, .inl (kA 1, 40, .inl f0)), (g 4, .inl (kA 1, 40, .inl f4)), (ou, .inl (kA 2, 1, .inr (.inl (vp_updL o 0 ((fl_sum f0 f4 (nI k) L).toInt64)))))] := hD
  refine lv_goto (tgt := 21) hx hb d_La_count_10 (by decide) ?_
  refine lv_iconst (v := 0) hx hb d_La_count_21 (by decide) ?_
  exact W.iret (v := 0) hx hb hr (fun t ht hW => ⟨⟨0, (), rfl, rfl, by rw [ht]; exact hP, va_K.moved hW.alike hK, hD⟩, hS.F ht⟩) hS.2.2 d_La_count_22
