/-! the lake: count; refusals of subjects and versions; nothing to clear or compact -/
set_option maxHeartbeats 4000000 in
set_option maxRecDepth 100000 in
/-- count(k, 0) -/
theorem p_Lk_count0 (l : Launch) (D : va_G) (kA : Nat → ClassId) (kS : Nat → Nat) (sz : Nat) (h0 L : Nat) (r q g : Nat → Nat) (fp tu : Int32) (z vs f0 f4 : Nat → Int32) (hL : L ≤ 40) (k : Nat) (hk : k < 4) : Met l y_Lk_count w_Lk_count { frames := 1, cells := 0, slots := 0, locals := 21 } (xPre D vC (tK kA) kS [.ref h0, .int (nI k), .int 0] (oLk h0 r fp 0 :: oSc (r 7) q z :: (q 10, .inl (kA 1, 4, .inl vs)) :: wFl (r 14) g kA (nI L) tu f0 f4) sz) (xt_Pi (fun y => y = vs k)) 0 0 (fun _ => False) := by
  refine Met.ofW (cc := b_Lk_count) (maxL := 3) (ret := (some .int)) (by decide) rfl ?_
  intro p e s m args below meth c s₁ B hml hv
  obtain ⟨rfl, hsz, hP, hK, hD0, hN, hC⟩ := hv
  have hx := B.exec
  have hb := B.bytes
  have hr := B.returns
  have hts := atoms_spec (ws := w_Lk_count) B.pre
  have hg : ∀ w ∈ gW, w.before _ s = true := fun w h => hts w (List.mem_cons_of_mem _ h)
  have hown : s.vm.findClass R_Lk = some m.cls := findClass_of_methodNamed B.named
  have hlocks := B.notSynchronized
  subst hsz
  have hD := hD0.self (sz := s.heap.size)
  generalize hAe : va_A (oLk h0 r fp 0 :: oSc (r 7) q z :: (q 10, .inl (kA 1, 4, .inl vs)) :: wFl (r 14) g kA (nI L) tu f0 f4) s.heap.size = A at hD hC ⊢
  have hA : ∀ q : Nat, s.heap.size ≤ q → A q := fun q h => by rw [← hAe]; exact Or.inr h
  have hS : va_S A s.heap s.heap [] := va_S.rf
  have hP : va_P D vC [(h0, .inr (11, [.ref (r 0), .ref (r 1), .ref (r 2), .ref (r 3), .ref (r 4), .ref (r 5), .ref (r 6), .ref (r 7), .ref (r 8), .ref (r 9), .ref (r 10), .ref (r 11), .ref (r 12), .ref (r 13), .ref (r 14), .int fp, .int 0])), (r 7, .inr (2, [.ref (q 0), .ref (q 1), .ref (q 2), .ref (q 3), .ref (q 4), .ref (q 5), .ref (q 6), .ref (q 7), .ref (q 8), .ref (q 9), .ref (q 10), .int (z 11), .ref (q 12), .ref (q 13), .int (z 14), .int (z 15), .int (z 16), .int (z 17)])), (q 10, .inl (kA 1, 4, .inl vs)), (r 14, .inr (10, [.ref (g 0), .ref (g 1), .ref (g 2), .ref (g 3), .ref (g 4), .int (nI L), .int tu, .ref (g 5), .ref (g 6)])), (g 0, .inl (kA 1, 40, .inl f0)), (g 4, .inl (kA 1, 40, .inl f4))] s.heap := hP
  have hD : va_D A [(h0, .inr (11, [.ref (r 0), .ref (r 1), .ref (r 2), .ref (r 3), .ref (r 4), .ref (r 5), .ref (r 6), .ref (r 7), .ref (r 8), .ref (r 9), .ref (r 10), .ref (r 11), .ref (r 12), .ref (r 13), .ref (r 14), .int fp, .int 0])), (r 7, .inr (2, [.ref (q 0), .ref (q 1), .ref (q 2), .ref (q 3), .ref (q 4), .ref (q 5), .ref (q 6), .ref (q 7), .ref (q 8), .ref (q 9), .ref (q 10), .int (z 11), .ref (q 12), .ref (q 13), .int (z 14), .int (z 15), .int (z 16), .int (z 17)])), (q 10, .inl (kA 1, 4, .inl vs)), (r 14, .inr (10, [.ref (g 0), .ref (g 1), .ref (g 2), .ref (g 3), .ref (g 4), .int (nI L), .int tu, .ref (g 5), .ref (g 6)])), (g 0, .inl (kA 1, 40, .inl f0)), (g 4, .inl (kA 1, 40, .inl f4))] := hD
  have hl := lv_entry ([.ref h0, .int (nI k), .int 0]) (n := 3) (Nat.le_of_ble_eq_true rfl)
  rw [lg_entry_eq]
  generalize (lg_sl ([.ref h0, .int (nI k), .int 0]) ++ List.replicate (3 - (lg_sl ([.ref h0, .int (nI k), .int 0])).length) Slot.unset).toArray = ls at hl ⊢
  have hl : lv_has ls 3 [(0, .ref h0), (1, .int (nI k)), (2, .int 0)] := hl
  refine lv_iload_n hx hb d_Lk_count_0 rfl (lv_at hl 1 rfl) ?_
  refine xc_pv (va_runS (As := [.int (nI k)]) (rest := []) ⟨hx, hb, hml, hown, hg⟩ (p_Lk_needSubject l D kA kS s.heap.size (nI k) (nI_pos (by omega)) (by rcases (show k = 0 ∨ k = 1 ∨ k = 2 ∨ k = 3 by omega) with rfl | rfl | rfl | rfl <;> decide)) (cwS 1 hg (xg_S mw_1077 mw_1078 mw_1 mw_1079) rfl rfl rfl (by decide +kernel) ⟨Nat.le_of_ble_eq_true rfl, Nat.le_of_ble_eq_true rfl⟩) (xc_pre hK hN hC hP hD hS hA [] (by decide) rfl) rfl rfl hl.1 rfl (lv_room (Nat.le_of_ble_eq_true rfl)) d_Lk_count_1 ⟨Nat.le_of_ble_eq_true rfl, Nat.le_of_ble_eq_true rfl⟩) ?_
  refine lv_iload_n hx hb d_Lk_count_4 rfl (lv_at hl 2 rfl) ?_
  refine lv_iconst (v := 2) hx hb d_Lk_count_5 (by decide) ?_
  refine xc_pv (va_runS (As := [.int 0, .int 2]) (rest := []) ⟨hx, hb, hml, hown, hg⟩ (p_Lk_needWhat l D kA kS s.heap.size 0 2 (by decide) (by decide)) (cwS 2 hg (xg_S mw_1497 mw_1498 mw_1 mw_1499) rfl rfl rfl (by decide +kernel) ⟨Nat.le_of_ble_eq_true rfl, Nat.le_of_ble_eq_true rfl⟩) (xc_pre hK hN hC hP hD hS hA [] (by decide) rfl) rfl rfl hl.1 rfl (lv_room (Nat.le_of_ble_eq_true rfl)) d_Lk_count_6 ⟨Nat.le_of_ble_eq_true rfl, Nat.le_of_ble_eq_true rfl⟩) ?_
  refine lv_aload_n hx hb d_Lk_count_9 rfl (lv_at hl 0 rfl) ?_
  refine va_get (D := D) (ci := 11) (v := .int 0) (C := R_Lk) (T := F_Lk) (N := 17) hx hb hg i_Lk hown hK hP 0 rfl rfl 16 (by decide) (hg _ mw_499) (fun _ h9 => h9) rfl d_Lk_count_10 ?_
  refine lv_if_eq (tgt := 19) hx hb d_Lk_count_13 (by decide) (fun c_13 => ?_) (fun c_13 => ?_)
  · skip
    refine lv_iload_n hx hb d_Lk_count_19 rfl (lv_at hl 2 rfl) ?_
    refine lv_lookup (off := 28) (tgt := 48) hx hb d_Lk_count_20 (by decide +kernel) (by decide +kernel) (by decide) ?_
    refine lv_aload_n hx hb d_Lk_count_48 rfl (lv_at hl 0 rfl) ?_
    refine va_get (D := D) (ci := 11) (v := .ref (r 7)) (C := R_Lk) (T := F_Lk) (N := 17) hx hb hg i_Lk hown hK hP 0 rfl rfl 7 (by decide) (hg _ mw_490) (fun _ h9 => h9) rfl d_Lk_count_49 ?_
    refine va_get (D := D) (ci := 2) (v := .ref (q 10)) (C := R_Sc) (T := F_Sc) (N := 18) hx hb hg i_Sc hown hK hP 1 rfl rfl 10 (by decide) (hg _ mw_201) (fun _ h9 => h9) rfl d_Lk_count_52 ?_
    refine lv_iload_n hx hb d_Lk_count_55 rfl (lv_at hl 1 rfl) ?_
    refine xb_iald hx hb hK hP 2 1 rfl rfl (by omega) (by omega) d_Lk_count_56 ?_
    refine lv_topi (fun x_56 ex_56 => ?_)
    exact W.iret (v := x_56) hx hb hr (fun t ht hW => ⟨x_56, rfl, ex_56, ht⟩) (fun q hq => by cases hq) d_Lk_count_57
  · skip
    exact absurd rfl c_13

set_option maxHeartbeats 4000000 in
set_option maxRecDepth 100000 in
/-- count(k, 1) -/
theorem p_Lk_count1 (l : Launch) (D : va_G) (kA : Nat → ClassId) (kS : Nat → Nat) (sz : Nat) (h0 L : Nat) (r q g : Nat → Nat) (fp tu : Int32) (z vs f0 f4 : Nat → Int32) (hL : L ≤ 40) (k : Nat) (hk : k < 4) : Met l y_Lk_count w_Lk_count { frames := 2, cells := 0, slots := 0, locals := 45 } (xPre D vC (tK kA) kS [.ref h0, .int (nI k), .int 1] (oLk h0 r fp 0 :: oSc (r 7) q z :: (q 10, .inl (kA 1, 4, .inl vs)) :: wFl (r 14) g kA (nI L) tu f0 f4) sz) (xt_Pi (fun y => y = fl_cnt f0 f4 (nI k) L)) 0 0 (fun _ => False) := by
  refine Met.ofW (cc := b_Lk_count) (maxL := 3) (ret := (some .int)) (by decide) rfl ?_
  intro p e s m args below meth c s₁ B hml hv
  obtain ⟨rfl, hsz, hP, hK, hD0, hN, hC⟩ := hv
  have hx := B.exec
  have hb := B.bytes
  have hr := B.returns
  have hts := atoms_spec (ws := w_Lk_count) B.pre
  have hg : ∀ w ∈ gW, w.before _ s = true := fun w h => hts w (List.mem_cons_of_mem _ h)
  have hown : s.vm.findClass R_Lk = some m.cls := findClass_of_methodNamed B.named
  have hlocks := B.notSynchronized
  subst hsz
  have hD := hD0.self (sz := s.heap.size)
  generalize hAe : va_A (oLk h0 r fp 0 :: oSc (r 7) q z :: (q 10, .inl (kA 1, 4, .inl vs)) :: wFl (r 14) g kA (nI L) tu f0 f4) s.heap.size = A at hD hC ⊢
  have hA : ∀ q : Nat, s.heap.size ≤ q → A q := fun q h => by rw [← hAe]; exact Or.inr h
  have hS : va_S A s.heap s.heap [] := va_S.rf
  have hP : va_P D vC [(h0, .inr (11, [.ref (r 0), .ref (r 1), .ref (r 2), .ref (r 3), .ref (r 4), .ref (r 5), .ref (r 6), .ref (r 7), .ref (r 8), .ref (r 9), .ref (r 10), .ref (r 11), .ref (r 12), .ref (r 13), .ref (r 14), .int fp, .int 0])), (r 7, .inr (2, [.ref (q 0), .ref (q 1), .ref (q 2), .ref (q 3), .ref (q 4), .ref (q 5), .ref (q 6), .ref (q 7), .ref (q 8), .ref (q 9), .ref (q 10), .int (z 11), .ref (q 12), .ref (q 13), .int (z 14), .int (z 15), .int (z 16), .int (z 17)])), (q 10, .inl (kA 1, 4, .inl vs)), (r 14, .inr (10, [.ref (g 0), .ref (g 1), .ref (g 2), .ref (g 3), .ref (g 4), .int (nI L), .int tu, .ref (g 5), .ref (g 6)])), (g 0, .inl (kA 1, 40, .inl f0)), (g 4, .inl (kA 1, 40, .inl f4))] s.heap := hP
  have hD : va_D A [(h0, .inr (11, [.ref (r 0), .ref (r 1), .ref (r 2), .ref (r 3), .ref (r 4), .ref (r 5), .ref (r 6), .ref (r 7), .ref (r 8), .ref (r 9), .ref (r 10), .ref (r 11), .ref (r 12), .ref (r 13), .ref (r 14), .int fp, .int 0])), (r 7, .inr (2, [.ref (q 0), .ref (q 1), .ref (q 2), .ref (q 3), .ref (q 4), .ref (q 5), .ref (q 6), .ref (q 7), .ref (q 8), .ref (q 9), .ref (q 10), .int (z 11), .ref (q 12), .ref (q 13), .int (z 14), .int (z 15), .int (z 16), .int (z 17)])), (q 10, .inl (kA 1, 4, .inl vs)), (r 14, .inr (10, [.ref (g 0), .ref (g 1), .ref (g 2), .ref (g 3), .ref (g 4), .int (nI L), .int tu, .ref (g 5), .ref (g 6)])), (g 0, .inl (kA 1, 40, .inl f0)), (g 4, .inl (kA 1, 40, .inl f4))] := hD
  have hl := lv_entry ([.ref h0, .int (nI k), .int 1]) (n := 3) (Nat.le_of_ble_eq_true rfl)
  rw [lg_entry_eq]
  generalize (lg_sl ([.ref h0, .int (nI k), .int 1]) ++ List.replicate (3 - (lg_sl ([.ref h0, .int (nI k), .int 1])).length) Slot.unset).toArray = ls at hl ⊢
  have hl : lv_has ls 3 [(0, .ref h0), (1, .int (nI k)), (2, .int 1)] := hl
  refine lv_iload_n hx hb d_Lk_count_0 rfl (lv_at hl 1 rfl) ?_
  refine xc_pv (va_runS (As := [.int (nI k)]) (rest := []) ⟨hx, hb, hml, hown, hg⟩ (p_Lk_needSubject l D kA kS s.heap.size (nI k) (nI_pos (by omega)) (by rcases (show k = 0 ∨ k = 1 ∨ k = 2 ∨ k = 3 by omega) with rfl | rfl | rfl | rfl <;> decide)) (cwS 1 hg (xg_S mw_1077 mw_1078 mw_1 mw_1079) rfl rfl rfl (by decide +kernel) ⟨Nat.le_of_ble_eq_true rfl, Nat.le_of_ble_eq_true rfl⟩) (xc_pre hK hN hC hP hD hS hA [] (by decide) rfl) rfl rfl hl.1 rfl (lv_room (Nat.le_of_ble_eq_true rfl)) d_Lk_count_1 ⟨Nat.le_of_ble_eq_true rfl, Nat.le_of_ble_eq_true rfl⟩) ?_
  refine lv_iload_n hx hb d_Lk_count_4 rfl (lv_at hl 2 rfl) ?_
  refine lv_iconst (v := 2) hx hb d_Lk_count_5 (by decide) ?_
  refine xc_pv (va_runS (As := [.int 1, .int 2]) (rest := []) ⟨hx, hb, hml, hown, hg⟩ (p_Lk_needWhat l D kA kS s.heap.size 1 2 (by decide) (by decide)) (cwS 2 hg (xg_S mw_1497 mw_1498 mw_1 mw_1499) rfl rfl rfl (by decide +kernel) ⟨Nat.le_of_ble_eq_true rfl, Nat.le_of_ble_eq_true rfl⟩) (xc_pre hK hN hC hP hD hS hA [] (by decide) rfl) rfl rfl hl.1 rfl (lv_room (Nat.le_of_ble_eq_true rfl)) d_Lk_count_6 ⟨Nat.le_of_ble_eq_true rfl, Nat.le_of_ble_eq_true rfl⟩) ?_
  refine lv_aload_n hx hb d_Lk_count_9 rfl (lv_at hl 0 rfl) ?_
  refine va_get (D := D) (ci := 11) (v := .int 0) (C := R_Lk) (T := F_Lk) (N := 17) hx hb hg i_Lk hown hK hP 0 rfl rfl 16 (by decide) (hg _ mw_499) (fun _ h9 => h9) rfl d_Lk_count_10 ?_
  refine lv_if_eq (tgt := 19) hx hb d_Lk_count_13 (by decide) (fun c_13 => ?_) (fun c_13 => ?_)
  · skip
    refine lv_iload_n hx hb d_Lk_count_19 rfl (lv_at hl 2 rfl) ?_
    refine lv_lookup (off := 38) (tgt := 58) hx hb d_Lk_count_20 (by decide +kernel) (by decide +kernel) (by decide) ?_
    refine lv_aload_n hx hb d_Lk_count_58 rfl (lv_at hl 0 rfl) ?_
    refine va_get (D := D) (ci := 11) (v := .ref (r 14)) (C := R_Lk) (T := F_Lk) (N := 17) hx hb hg i_Lk hown hK hP 0 rfl rfl 14 (by decide) (hg _ mw_497) (fun _ h9 => h9) rfl d_Lk_count_59 ?_
    refine lv_iload_n hx hb d_Lk_count_62 rfl (lv_at hl 1 rfl) ?_
    refine xc_pi (va_runV (As := [.int (nI k)]) (rest := []) ⟨hx, hb, hml, hown, hg⟩ (p_Fl_filesOf l D kA kS s.heap.size (r 14) L g tu (nI k) f0 f4 hL) (cwV 1 hg (xg_V mw_1501 mw_1502 mw_1503 mw_12 mw_1504) rfl rfl rfl (by decide +kernel) ⟨Nat.le_of_ble_eq_true rfl, Nat.le_of_ble_eq_true rfl⟩) (xc_preV hK hN hC hP hD hS hA [3, 4, 5] (by decide) rfl 0 rfl rfl) rfl rfl hl.1 rfl (lv_room (Nat.le_of_ble_eq_true rfl)) d_Lk_count_63 ⟨Nat.le_of_ble_eq_true rfl, Nat.le_of_ble_eq_true rfl⟩) (fun r_63 hw => ?_)
    exact W.iret (v := r_63) hx hb hr (fun t ht hW => ⟨r_63, rfl, hw, ht⟩) (fun q hq => by cases hq) d_Lk_count_66
  · skip
    exact absurd rfl c_13

set_option maxHeartbeats 4000000 in
set_option maxRecDepth 100000 in
/-- count(k, 2) -/
theorem p_Lk_count2 (l : Launch) (D : va_G) (kA : Nat → ClassId) (kS : Nat → Nat) (sz : Nat) (h0 L : Nat) (r q g : Nat → Nat) (fp tu : Int32) (z vs f0 f4 : Nat → Int32) (hL : L ≤ 40) (k : Nat) (hk : k < 4) : Met l y_Lk_count w_Lk_count { frames := 3, cells := 0, slots := 0, locals := 67 } (xPre D vC (tK kA) kS [.ref h0, .int (nI k), .int 2] (oLk h0 r fp 0 :: oSc (r 7) q z :: (q 10, .inl (kA 1, 4, .inl vs)) :: wFl (r 14) g kA (nI L) tu f0 f4) sz) (xt_Pi (fun y => y = fl_sum f0 f4 (nI k) L)) 0 0 (fun _ => False) := by
  refine Met.ofW (cc := b_Lk_count) (maxL := 3) (ret := (some .int)) (by decide) rfl ?_
  intro p e s m args below meth c s₁ B hml hv
  obtain ⟨rfl, hsz, hP, hK, hD0, hN, hC⟩ := hv
  have hx := B.exec
  have hb := B.bytes
  have hr := B.returns
  have hts := atoms_spec (ws := w_Lk_count) B.pre
  have hg : ∀ w ∈ gW, w.before _ s = true := fun w h => hts w (List.mem_cons_of_mem _ h)
  have hown : s.vm.findClass R_Lk = some m.cls := findClass_of_methodNamed B.named
  have hlocks := B.notSynchronized
  subst hsz
  have hD := hD0.self (sz := s.heap.size)
  generalize hAe : va_A (oLk h0 r fp 0 :: oSc (r 7) q z :: (q 10, .inl (kA 1, 4, .inl vs)) :: wFl (r 14) g kA (nI L) tu f0 f4) s.heap.size = A at hD hC ⊢
  have hA : ∀ q : Nat, s.heap.size ≤ q → A q := fun q h => by rw [← hAe]; exact Or.inr h
  have hS : va_S A s.heap s.heap [] := va_S.rf
  have hP : va_P D vC [(h0, .inr (11, [.ref (r 0), .ref (r 1), .ref (r 2), .ref (r 3), .ref (r 4), .ref (r 5), .ref (r 6), .ref (r 7), .ref (r 8), .ref (r 9), .ref (r 10), .ref (r 11), .ref (r 12), .ref (r 13), .ref (r 14), .int fp, .int 0])), (r 7, .inr (2, [.ref (q 0), .ref (q 1), .ref (q 2), .ref (q 3), .ref (q 4), .ref (q 5), .ref (q 6), .ref (q 7), .ref (q 8), .ref (q 9), .ref (q 10), .int (z 11), .ref (q 12), .ref (q 13), .int (z 14), .int (z 15), .int (z 16), .int (z 17)])), (q 10, .inl (kA 1, 4, .inl vs)), (r 14, .inr (10, [.ref (g 0), .ref (g 1), .ref (g 2), .ref (g 3), .ref (g 4), .int (nI L), .int tu, .ref (g 5), .ref (g 6)])), (g 0, .inl (kA 1, 40, .inl f0)), (g 4, .inl (kA 1, 40, .inl f4))] s.heap := hP
  have hD : va_D A [(h0, .inr (11, [.ref (r 0), .ref (r 1), .ref (r 2), .ref (r 3), .ref (r 4), .ref (r 5), .ref (r 6), .ref (r 7), .ref (r 8), .ref (r 9), .ref (r 10), .ref (r 11), .ref (r 12), .ref (r 13), .ref (r 14), .int fp, .int 0])), (r 7, .inr (2, [.ref (q 0), .ref (q 1), .ref (q 2), .ref (q 3), .ref (q 4), .ref (q 5), .ref (q 6), .ref (q 7), .ref (q 8), .ref (q 9), .ref (q 10), .int (z 11), .ref (q 12), .ref (q 13), .int (z 14), .int (z 15), .int (z 16), .int (z 17)])), (q 10, .inl (kA 1, 4, .inl vs)), (r 14, .inr (10, [.ref (g 0), .ref (g 1), .ref (g 2), .ref (g 3), .ref (g 4), .int (nI L), .int tu, .ref (g 5), .ref (g 6)])), (g 0, .inl (kA 1, 40, .inl f0)), (g 4, .inl (kA 1, 40, .inl f4))] := hD
  have hl := lv_entry ([.ref h0, .int (nI k), .int 2]) (n := 3) (Nat.le_of_ble_eq_true rfl)
  rw [lg_entry_eq]
  generalize (lg_sl ([.ref h0, .int (nI k), .int 2]) ++ List.replicate (3 - (lg_sl ([.ref h0, .int (nI k), .int 2])).length) Slot.unset).toArray = ls at hl ⊢
  have hl : lv_has ls 3 [(0, .ref h0), (1, .int (nI k)), (2, .int 2)] := hl
  refine lv_iload_n hx hb d_Lk_count_0 rfl (lv_at hl 1 rfl) ?_
  refine xc_pv (va_runS (As := [.int (nI k)]) (rest := []) ⟨hx, hb, hml, hown, hg⟩ (p_Lk_needSubject l D kA kS s.heap.size (nI k) (nI_pos (by omega)) (by rcases (show k = 0 ∨ k = 1 ∨ k = 2 ∨ k = 3 by omega) with rfl | rfl | rfl | rfl <;> decide)) (cwS 1 hg (xg_S mw_1077 mw_1078 mw_1 mw_1079) rfl rfl rfl (by decide +kernel) ⟨Nat.le_of_ble_eq_true rfl, Nat.le_of_ble_eq_true rfl⟩) (xc_pre hK hN hC hP hD hS hA [] (by decide) rfl) rfl rfl hl.1 rfl (lv_room (Nat.le_of_ble_eq_true rfl)) d_Lk_count_1 ⟨Nat.le_of_ble_eq_true rfl, Nat.le_of_ble_eq_true rfl⟩) ?_
  refine lv_iload_n hx hb d_Lk_count_4 rfl (lv_at hl 2 rfl) ?_
  refine lv_iconst (v := 2) hx hb d_Lk_count_5 (by decide) ?_
  refine xc_pv (va_runS (As := [.int 2, .int 2]) (rest := []) ⟨hx, hb, hml, hown, hg⟩ (p_Lk_needWhat l D kA kS s.heap.size 2 2 (by decide) (by decide)) (cwS 2 hg (xg_S mw_1497 mw_1498 mw_1 mw_1499) rfl rfl rfl (by decide +kernel) ⟨Nat.le_of_ble_eq_true rfl, Nat.le_of_ble_eq_true rfl⟩) (xc_pre hK hN hC hP hD hS hA [] (by decide) rfl) rfl rfl hl.1 rfl (lv_room (Nat.le_of_ble_eq_true rfl)) d_Lk_count_6 ⟨Nat.le_of_ble_eq_true rfl, Nat.le_of_ble_eq_true rfl⟩) ?_
  refine lv_aload_n hx hb d_Lk_count_9 rfl (lv_at hl 0 rfl) ?_
  refine va_get (D := D) (ci := 11) (v := .int 0) (C := R_Lk) (T := F_Lk) (N := 17) hx hb hg i_Lk hown hK hP 0 rfl rfl 16 (by decide) (hg _ mw_499) (fun _ h9 => h9) rfl d_Lk_count_10 ?_
  refine lv_if_eq (tgt := 19) hx hb d_Lk_count_13 (by decide) (fun c_13 => ?_) (fun c_13 => ?_)
  · skip
    refine lv_iload_n hx hb d_Lk_count_19 rfl (lv_at hl 2 rfl) ?_
    refine lv_lookup (off := 47) (tgt := 67) hx hb d_Lk_count_20 (by decide +kernel) (by decide +kernel) (by decide) ?_
    refine lv_aload_n hx hb d_Lk_count_67 rfl (lv_at hl 0 rfl) ?_
    refine va_get (D := D) (ci := 11) (v := .ref (r 14)) (C := R_Lk) (T := F_Lk) (N := 17) hx hb hg i_Lk hown hK hP 0 rfl rfl 14 (by decide) (hg _ mw_497) (fun _ h9 => h9) rfl d_Lk_count_68 ?_
    refine lv_iload_n hx hb d_Lk_count_71 rfl (lv_at hl 1 rfl) ?_
    refine xc_pi (va_runV (As := [.int (nI k)]) (rest := []) ⟨hx, hb, hml, hown, hg⟩ (p_Fl_rowsOf l D kA kS s.heap.size (r 14) L g tu (nI k) f0 f4 hL) (cwV 1 hg (xg_V mw_1475 mw_1476 mw_1477 mw_12 mw_1478) rfl rfl rfl (by decide +kernel) ⟨Nat.le_of_ble_eq_true rfl, Nat.le_of_ble_eq_true rfl⟩) (xc_preV hK hN hC hP hD hS hA [3, 4, 5] (by decide) rfl 0 rfl rfl) rfl rfl hl.1 rfl (lv_room (Nat.le_of_ble_eq_true rfl)) d_Lk_count_72 ⟨Nat.le_of_ble_eq_true rfl, Nat.le_of_ble_eq_true rfl⟩) (fun r_72 hw => ?_)
    exact W.iret (v := r_72) hx hb hr (fun t ht hW => ⟨r_72, rfl, hw, ht⟩) (fun q hq => by cases hq) d_Lk_count_75
  · skip
    exact absurd rfl c_13

set_option maxHeartbeats 4000000 in
set_option maxRecDepth 100000 in
/-- count: no such subject -/
theorem t_Lk_count (l : Launch) (hfl : l.flags = flags0) (D : va_G) (kA : Nat → ClassId) (kS : Nat → Nat) (sz : Nat) (h0 L : Nat) (r q g : Nat → Nat) (fp tu : Int32) (z vs f0 f4 : Nat → Int32) (hL : L ≤ 40) (x y : Int32) (h1 : x < 0 ∨ ¬ x < 4) : xt_Met l y_Lk_count w_Lk_count { frames := 7, cells := 1, slots := 6, locals := 102 } (xPre D vC (tK kA) kS [.ref h0, .int x, .int y] (oLk h0 r fp 0 :: oSc (r 7) q z :: (q 10, .inl (kA 1, 4, .inl vs)) :: wFl (r 14) g kA (nI L) tu f0 f4) sz) (xt_Q "java/lang/IndexOutOfBoundsException" (fun _ : Unit => True) (xB D vC (tK kA) (fun _ => oLk h0 r fp 0 :: oSc (r 7) q z :: (q 10, .inl (kA 1, 4, .inl vs)) :: wFl (r 14) g kA (nI L) tu f0 f4) (va_A (oLk h0 r fp 0 :: oSc (r 7) q z :: (q 10, .inl (kA 1, 4, .inl vs)) :: wFl (r 14) g kA (nI L) tu f0 f4) sz)) (va_A (oLk h0 r fp 0 :: oSc (r 7) q z :: (q 10, .inl (kA 1, 4, .inl vs)) :: wFl (r 14) g kA (nI L) tu f0 f4) sz)) 1 6 (va_A (oLk h0 r fp 0 :: oSc (r 7) q z :: (q 10, .inl (kA 1, 4, .inl vs)) :: wFl (r 14) g kA (nI L) tu f0 f4) sz) := by
  refine xt_ofW (cc := b_Lk_count) (maxL := 3) (ret := (some .int)) (by decide) rfl ?_
  intro p e s m args below meth c s₁ B hml hemp hv
  obtain ⟨rfl, hsz, hP, hK, hD0, hN, hC⟩ := hv
  have hx := B.exec
  have hb := B.bytes
  have hts := atoms_spec (ws := w_Lk_count) B.pre
  have hg : ∀ w ∈ gW, w.before _ s = true := fun w h => hts w (List.mem_cons_of_mem _ h)
  have hown : s.vm.findClass R_Lk = some m.cls := findClass_of_methodNamed B.named
  have hlocks := B.notSynchronized
  subst hsz
  have hD := hD0.self (sz := s.heap.size)
  generalize hAe : va_A (oLk h0 r fp 0 :: oSc (r 7) q z :: (q 10, .inl (kA 1, 4, .inl vs)) :: wFl (r 14) g kA (nI L) tu f0 f4) s.heap.size = A at hD hC ⊢
  have hA : ∀ q : Nat, s.heap.size ≤ q → A q := fun q h => by rw [← hAe]; exact Or.inr h
  have hS : va_S A s.heap s.heap [] := va_S.rf
  have hP : va_P D vC [(h0, .inr (11, [.ref (r 0), .ref (r 1), .ref (r 2), .ref (r 3), .ref (r 4), .ref (r 5), .ref (r 6), .ref (r 7), .ref (r 8), .ref (r 9), .ref (r 10), .ref (r 11), .ref (r 12), .ref (r 13), .ref (r 14), .int fp, .int 0])), (r 7, .inr (2, [.ref (q 0), .ref (q 1), .ref (q 2), .ref (q 3), .ref (q 4), .ref (q 5), .ref (q 6), .ref (q 7), .ref (q 8), .ref (q 9), .ref (q 10), .int (z 11), .ref (q 12), .ref (q 13), .int (z 14), .int (z 15), .int (z 16), .int (z 17)])), (q 10, .inl (kA 1, 4, .inl vs)), (r 14, .inr (10, [.ref (g 0), .ref (g 1), .ref (g 2), .ref (g 3), .ref (g 4), .int (nI L), .int tu, .ref (g 5), .ref (g 6)])), (g 0, .inl (kA 1, 40, .inl f0)), (g 4, .inl (kA 1, 40, .inl f4))] s.heap := hP
  have hD : va_D A [(h0, .inr (11, [.ref (r 0), .ref (r 1), .ref (r 2), .ref (r 3), .ref (r 4), .ref (r 5), .ref (r 6), .ref (r 7), .ref (r 8), .ref (r 9), .ref (r 10), .ref (r 11), .ref (r 12), .ref (r 13), .ref (r 14), .int fp, .int 0])), (r 7, .inr (2, [.ref (q 0), .ref (q 1), .ref (q 2), .ref (q 3), .ref (q 4), .ref (q 5), .ref (q 6), .ref (q 7), .ref (q 8), .ref (q 9), .ref (q 10), .int (z 11), .ref (q 12), .ref (q 13), .int (z 14), .int (z 15), .int (z 16), .int (z 17)])), (q 10, .inl (kA 1, 4, .inl vs)), (r 14, .inr (10, [.ref (g 0), .ref (g 1), .ref (g 2), .ref (g 3), .ref (g 4), .int (nI L), .int tu, .ref (g 5), .ref (g 6)])), (g 0, .inl (kA 1, 40, .inl f0)), (g 4, .inl (kA 1, 40, .inl f4))] := hD
  have hl := lv_entry ([.ref h0, .int x, .int y]) (n := 3) (Nat.le_of_ble_eq_true rfl)
  rw [lg_entry_eq]
  generalize (lg_sl ([.ref h0, .int x, .int y]) ++ List.replicate (3 - (lg_sl ([.ref h0, .int x, .int y])).length) Slot.unset).toArray = ls at hl ⊢
  have hl : lv_has ls 3 [(0, .ref h0), (1, .int x), (2, .int y)] := hl
  refine lv_iload_n hx hb d_Lk_count_0 rfl (lv_at hl 1 rfl) ?_
  exact xc_o (wr := [(h0, .inr (11, [.ref (r 0), .ref (r 1), .ref (r 2), .ref (r 3), .ref (r 4), .ref (r 5), .ref (r 6), .ref (r 7), .ref (r 8), .ref (r 9), .ref (r 10), .ref (r 11), .ref (r 12), .ref (r 13), .ref (r 14), .int fp, .int 0])), (r 7, .inr (2, [.ref (q 0), .ref (q 1), .ref (q 2), .ref (q 3), .ref (q 4), .ref (q 5), .ref (q 6), .ref (q 7), .ref (q 8), .ref (q 9), .ref (q 10), .int (z 11), .ref (q 12), .ref (q 13), .int (z 14), .int (z 15), .int (z 16), .int (z 17)])), (q 10, .inl (kA 1, 4, .inl vs)), (r 14, .inr (10, [.ref (g 0), .ref (g 1), .ref (g 2), .ref (g 3), .ref (g 4), .int (nI L), .int tu, .ref (g 5), .ref (g 6)])), (g 0, .inl (kA 1, 40, .inl f0)), (g 4, .inl (kA 1, 40, .inl f4))]) (xt_runS (As := [.int x]) (rest := []) ⟨hx, hb, hml, hown, hg⟩ (t_Lk_needSubject l hfl D kA kS s.heap.size x h1) (cwS 1 hg (xg_S mw_1077 mw_1078 mw_1 mw_1079) rfl rfl rfl (by decide +kernel) ⟨Nat.le_of_ble_eq_true rfl, Nat.le_of_ble_eq_true rfl⟩) (xc_pre hK hN hC hP hD hS hA [] (by decide) rfl) rfl rfl hl.1 rfl (lv_room (Nat.le_of_ble_eq_true rfl)) d_Lk_count_1 ⟨Nat.le_of_ble_eq_true rfl, Nat.le_of_ble_eq_true rfl⟩) hK hP hD hS hA [] [0, 1, 2, 3, 4, 5] rfl rfl (by decide) (by decide) hemp hlocks (fun q h => h) (fun u _ => ⟨(), trivial, fun H1 hP1 hD1 => ⟨hP1.sub [0, 1, 2, 3, 4, 5] rfl, hD1.sub [0, 1, 2, 3, 4, 5] (by decide) rfl⟩⟩)

set_option maxHeartbeats 4000000 in
set_option maxRecDepth 100000 in
/-- count: no such thing -/
theorem t_Lk_count2 (l : Launch) (hfl : l.flags = flags0) (D : va_G) (kA : Nat → ClassId) (kS : Nat → Nat) (sz : Nat) (h0 L : Nat) (r q g : Nat → Nat) (fp tu : Int32) (z vs f0 f4 : Nat → Int32) (hL : L ≤ 40) (k : Nat) (hk : k < 4) (y : Int32) (h1 : y < 0 ∨ ¬ y ≤ 2) : xt_Met l y_Lk_count w_Lk_count { frames := 7, cells := 1, slots := 6, locals := 103 } (xPre D vC (tK kA) kS [.ref h0, .int (nI k), .int y] (oLk h0 r fp 0 :: oSc (r 7) q z :: (q 10, .inl (kA 1, 4, .inl vs)) :: wFl (r 14) g kA (nI L) tu f0 f4) sz) (xt_Q "java/lang/IllegalArgumentException" (fun _ : Unit => True) (xB D vC (tK kA) (fun _ => oLk h0 r fp 0 :: oSc (r 7) q z :: (q 10, .inl (kA 1, 4, .inl vs)) :: wFl (r 14) g kA (nI L) tu f0 f4) (va_A (oLk h0 r fp 0 :: oSc (r 7) q z :: (q 10, .inl (kA 1, 4, .inl vs)) :: wFl (r 14) g kA (nI L) tu f0 f4) sz)) (va_A (oLk h0 r fp 0 :: oSc (r 7) q z :: (q 10, .inl (kA 1, 4, .inl vs)) :: wFl (r 14) g kA (nI L) tu f0 f4) sz)) 1 6 (va_A (oLk h0 r fp 0 :: oSc (r 7) q z :: (q 10, .inl (kA 1, 4, .inl vs)) :: wFl (r 14) g kA (nI L) tu f0 f4) sz) := by
  refine xt_ofW (cc := b_Lk_count) (maxL := 3) (ret := (some .int)) (by decide) rfl ?_
  intro p e s m args below meth c s₁ B hml hemp hv
  obtain ⟨rfl, hsz, hP, hK, hD0, hN, hC⟩ := hv
  have hx := B.exec
  have hb := B.bytes
  have hts := atoms_spec (ws := w_Lk_count) B.pre
  have hg : ∀ w ∈ gW, w.before _ s = true := fun w h => hts w (List.mem_cons_of_mem _ h)
  have hown : s.vm.findClass R_Lk = some m.cls := findClass_of_methodNamed B.named
  have hlocks := B.notSynchronized
  subst hsz
  have hD := hD0.self (sz := s.heap.size)
  generalize hAe : va_A (oLk h0 r fp 0 :: oSc (r 7) q z :: (q 10, .inl (kA 1, 4, .inl vs)) :: wFl (r 14) g kA (nI L) tu f0 f4) s.heap.size = A at hD hC ⊢
  have hA : ∀ q : Nat, s.heap.size ≤ q → A q := fun q h => by rw [← hAe]; exact Or.inr h
  have hS : va_S A s.heap s.heap [] := va_S.rf
  have hP : va_P D vC [(h0, .inr (11, [.ref (r 0), .ref (r 1), .ref (r 2), .ref (r 3), .ref (r 4), .ref (r 5), .ref (r 6), .ref (r 7), .ref (r 8), .ref (r 9), .ref (r 10), .ref (r 11), .ref (r 12), .ref (r 13), .ref (r 14), .int fp, .int 0])), (r 7, .inr (2, [.ref (q 0), .ref (q 1), .ref (q 2), .ref (q 3), .ref (q 4), .ref (q 5), .ref (q 6), .ref (q 7), .ref (q 8), .ref (q 9), .ref (q 10), .int (z 11), .ref (q 12), .ref (q 13), .int (z 14), .int (z 15), .int (z 16), .int (z 17)])), (q 10, .inl (kA 1, 4, .inl vs)), (r 14, .inr (10, [.ref (g 0), .ref (g 1), .ref (g 2), .ref (g 3), .ref (g 4), .int (nI L), .int tu, .ref (g 5), .ref (g 6)])), (g 0, .inl (kA 1, 40, .inl f0)), (g 4, .inl (kA 1, 40, .inl f4))] s.heap := hP
  have hD : va_D A [(h0, .inr (11, [.ref (r 0), .ref (r 1), .ref (r 2), .ref (r 3), .ref (r 4), .ref (r 5), .ref (r 6), .ref (r 7), .ref (r 8), .ref (r 9), .ref (r 10), .ref (r 11), .ref (r 12), .ref (r 13), .ref (r 14), .int fp, .int 0])), (r 7, .inr (2, [.ref (q 0), .ref (q 1), .ref (q 2), .ref (q 3), .ref (q 4), .ref (q 5), .ref (q 6), .ref (q 7), .ref (q 8), .ref (q 9), .ref (q 10), .int (z 11), .ref (q 12), .ref (q 13), .int (z 14), .int (z 15), .int (z 16), .int (z 17)])), (q 10, .inl (kA 1, 4, .inl vs)), (r 14, .inr (10, [.ref (g 0), .ref (g 1), .ref (g 2), .ref (g 3), .ref (g 4), .int (nI L), .int tu, .ref (g 5), .ref (g 6)])), (g 0, .inl (kA 1, 40, .inl f0)), (g 4, .inl (kA 1, 40, .inl f4))] := hD
  have hl := lv_entry ([.ref h0, .int (nI k), .int y]) (n := 3) (Nat.le_of_ble_eq_true rfl)
  rw [lg_entry_eq]
  generalize (lg_sl ([.ref h0, .int (nI k), .int y]) ++ List.replicate (3 - (lg_sl ([.ref h0, .int (nI k), .int y])).length) Slot.unset).toArray = ls at hl ⊢
  have hl : lv_has ls 3 [(0, .ref h0), (1, .int (nI k)), (2, .int y)] := hl
  refine lv_iload_n hx hb d_Lk_count_0 rfl (lv_at hl 1 rfl) ?_
  refine xc_pv (va_runS (As := [.int (nI k)]) (rest := []) ⟨hx, hb, hml, hown, hg⟩ (p_Lk_needSubject l D kA kS s.heap.size (nI k) (nI_pos (by omega)) (by rcases (show k = 0 ∨ k = 1 ∨ k = 2 ∨ k = 3 by omega) with rfl | rfl | rfl | rfl <;> decide)) (cwS 1 hg (xg_S mw_1077 mw_1078 mw_1 mw_1079) rfl rfl rfl (by decide +kernel) ⟨Nat.le_of_ble_eq_true rfl, Nat.le_of_ble_eq_true rfl⟩) (xc_pre hK hN hC hP hD hS hA [] (by decide) rfl) rfl rfl hl.1 rfl (lv_room (Nat.le_of_ble_eq_true rfl)) d_Lk_count_1 ⟨Nat.le_of_ble_eq_true rfl, Nat.le_of_ble_eq_true rfl⟩) ?_
  refine lv_iload_n hx hb d_Lk_count_4 rfl (lv_at hl 2 rfl) ?_
  refine lv_iconst (v := 2) hx hb d_Lk_count_5 (by decide) ?_
  exact xc_o (wr := [(h0, .inr (11, [.ref (r 0), .ref (r 1), .ref (r 2), .ref (r 3), .ref (r 4), .ref (r 5), .ref (r 6), .ref (r 7), .ref (r 8), .ref (r 9), .ref (r 10), .ref (r 11), .ref (r 12), .ref (r 13), .ref (r 14), .int fp, .int 0])), (r 7, .inr (2, [.ref (q 0), .ref (q 1), .ref (q 2), .ref (q 3), .ref (q 4), .ref (q 5), .ref (q 6), .ref (q 7), .ref (q 8), .ref (q 9), .ref (q 10), .int (z 11), .ref (q 12), .ref (q 13), .int (z 14), .int (z 15), .int (z 16), .int (z 17)])), (q 10, .inl (kA 1, 4, .inl vs)), (r 14, .inr (10, [.ref (g 0), .ref (g 1), .ref (g 2), .ref (g 3), .ref (g 4), .int (nI L), .int tu, .ref (g 5), .ref (g 6)])), (g 0, .inl (kA 1, 40, .inl f0)), (g 4, .inl (kA 1, 40, .inl f4))]) (xt_runS (As := [.int y, .int 2]) (rest := []) ⟨hx, hb, hml, hown, hg⟩ (t_Lk_needWhat l hfl D kA kS s.heap.size y 2 h1) (cwS 2 hg (xg_S mw_1497 mw_1498 mw_1 mw_1499) rfl rfl rfl (by decide +kernel) ⟨Nat.le_of_ble_eq_true rfl, Nat.le_of_ble_eq_true rfl⟩) (xc_pre hK hN hC hP hD hS hA [] (by decide) rfl) rfl rfl hl.1 rfl (lv_room (Nat.le_of_ble_eq_true rfl)) d_Lk_count_6 ⟨Nat.le_of_ble_eq_true rfl, Nat.le_of_ble_eq_true rfl⟩) hK hP hD hS hA [] [0, 1, 2, 3, 4, 5] rfl rfl (by decide) (by decide) hemp hlocks (fun q h => h) (fun u _ => ⟨(), trivial, fun H1 hP1 hD1 => ⟨hP1.sub [0, 1, 2, 3, 4, 5] rfl, hD1.sub [0, 1, 2, 3, 4, 5] (by decide) rfl⟩⟩)

set_option maxHeartbeats 4000000 in
set_option maxRecDepth 100000 in
/-- clear(k): no rows -/
theorem p_Lk_clear0 (l : Launch) (D : va_G) (kA : Nat → ClassId) (kS : Nat → Nat) (sz : Nat) (h0 L : Nat) (r g : Nat → Nat) (fp tu : Int32) (f0 f4 : Nat → Int32) (hL : L ≤ 40) (k : Nat) (hk : k < 4) (h0s : fl_sum f0 f4 (nI k) L = 0) : Met l y_Lk_clear w_Lk_clear { frames := 3, cells := 0, slots := 0, locals := 67 } (xPre D vC (tK kA) kS [.ref h0, .int (nI k)] (oLk h0 r fp 0 :: wFl (r 14) g kA (nI L) tu f0 f4) sz) (xt_Pi (fun y => y = 0)) 0 0 (fun _ => False) := by
  refine Met.ofW (cc := b_Lk_clear) (maxL := 4) (ret := (some .int)) (by decide) rfl ?_
  intro p e s m args below meth c s₁ B hml hv
  obtain ⟨rfl, hsz, hP, hK, hD0, hN, hC⟩ := hv
  have hx := B.exec
  have hb := B.bytes
  have hr := B.returns
  have hts := atoms_spec (ws := w_Lk_clear) B.pre
  have hg : ∀ w ∈ gW, w.before _ s = true := fun w h => hts w (List.mem_cons_of_mem _ h)
  have hown : s.vm.findClass R_Lk = some m.cls := findClass_of_methodNamed B.named
  have hlocks := B.notSynchronized
  subst hsz
  have hD := hD0.self (sz := s.heap.size)
  generalize hAe : va_A (oLk h0 r fp 0 :: wFl (r 14) g kA (nI L) tu f0 f4) s.heap.size = A at hD hC ⊢
  have hA : ∀ q : Nat, s.heap.size ≤ q → A q := fun q h => by rw [← hAe]; exact Or.inr h
  have hS : va_S A s.heap s.heap [] := va_S.rf
  have hP : va_P D vC [(h0, .inr (11, [.ref (r 0), .ref (r 1), .ref (r 2), .ref (r 3), .ref (r 4), .ref (r 5), .ref (r 6), .ref (r 7), .ref (r 8), .ref (r 9), .ref (r 10), .ref (r 11), .ref (r 12), .ref (r 13), .ref (r 14), .int fp, .int 0])), (r 14, .inr (10, [.ref (g 0), .ref (g 1), .ref (g 2), .ref (g 3), .ref (g 4), .int (nI L), .int tu, .ref (g 5), .ref (g 6)])), (g 0, .inl (kA 1, 40, .inl f0)), (g 4, .inl (kA 1, 40, .inl f4))] s.heap := hP
  have hD : va_D A [(h0, .inr (11, [.ref (r 0), .ref (r 1), .ref (r 2), .ref (r 3), .ref (r 4), .ref (r 5), .ref (r 6), .ref (r 7), .ref (r 8), .ref (r 9), .ref (r 10), .ref (r 11), .ref (r 12), .ref (r 13), .ref (r 14), .int fp, .int 0])), (r 14, .inr (10, [.ref (g 0), .ref (g 1), .ref (g 2), .ref (g 3), .ref (g 4), .int (nI L), .int tu, .ref (g 5), .ref (g 6)])), (g 0, .inl (kA 1, 40, .inl f0)), (g 4, .inl (kA 1, 40, .inl f4))] := hD
  have hl := lv_entry ([.ref h0, .int (nI k)]) (n := 4) (Nat.le_of_ble_eq_true rfl)
  rw [lg_entry_eq]
  generalize (lg_sl ([.ref h0, .int (nI k)]) ++ List.replicate (4 - (lg_sl ([.ref h0, .int (nI k)])).length) Slot.unset).toArray = ls at hl ⊢
  have hl : lv_has ls 4 [(0, .ref h0), (1, .int (nI k))] := hl
  refine lv_iload_n hx hb d_Lk_clear_0 rfl (lv_at hl 1 rfl) ?_
  refine xc_pv (va_runS (As := [.int (nI k)]) (rest := []) ⟨hx, hb, hml, hown, hg⟩ (p_Lk_needSubject l D kA kS s.heap.size (nI k) (nI_pos (by omega)) (by rcases (show k = 0 ∨ k = 1 ∨ k = 2 ∨ k = 3 by omega) with rfl | rfl | rfl | rfl <;> decide)) (cwS 1 hg (xg_S mw_1077 mw_1078 mw_1 mw_1079) rfl rfl rfl (by decide +kernel) ⟨Nat.le_of_ble_eq_true rfl, Nat.le_of_ble_eq_true rfl⟩) (xc_pre hK hN hC hP hD hS hA [] (by decide) rfl) rfl rfl hl.1 rfl (lv_room (Nat.le_of_ble_eq_true rfl)) d_Lk_clear_1 ⟨Nat.le_of_ble_eq_true rfl, Nat.le_of_ble_eq_true rfl⟩) ?_
  refine lv_aload_n hx hb d_Lk_clear_4 rfl (lv_at hl 0 rfl) ?_
  refine va_get (D := D) (ci := 11) (v := .int 0) (C := R_Lk) (T := F_Lk) (N := 17) hx hb hg i_Lk hown hK hP 0 rfl rfl 16 (by decide) (hg _ mw_499) (fun _ h9 => h9) rfl d_Lk_clear_5 ?_
  refine lv_if_eq (tgt := 14) hx hb d_Lk_clear_8 (by decide) (fun c_8 => ?_) (fun c_8 => ?_)
  · skip
    refine lv_aload_n hx hb d_Lk_clear_14 rfl (lv_at hl 0 rfl) ?_
    refine va_get (D := D) (ci := 11) (v := .ref (r 14)) (C := R_Lk) (T := F_Lk) (N := 17) hx hb hg i_Lk hown hK hP 0 rfl rfl 14 (by decide) (hg _ mw_497) (fun _ h9 => h9) rfl d_Lk_clear_15 ?_
    refine lv_iload_n hx hb d_Lk_clear_18 rfl (lv_at hl 1 rfl) ?_
    refine xc_pi (va_runV (As := [.int (nI k)]) (rest := []) ⟨hx, hb, hml, hown, hg⟩ (p_Fl_rowsOf l D kA kS s.heap.size (r 14) L g tu (nI k) f0 f4 hL) (cwV 1 hg (xg_V mw_1475 mw_1476 mw_1477 mw_12 mw_1478) rfl rfl rfl (by decide +kernel) ⟨Nat.le_of_ble_eq_true rfl, Nat.le_of_ble_eq_true rfl⟩) (xc_preV hK hN hC hP hD hS hA [1, 2, 3] (by decide) rfl 0 rfl rfl) rfl rfl hl.1 rfl (lv_room (Nat.le_of_ble_eq_true rfl)) d_Lk_clear_19 ⟨Nat.le_of_ble_eq_true rfl, Nat.le_of_ble_eq_true rfl⟩) (fun r_19 hw => ?_)
    refine lv_istore_n (lv' := [(2, .int r_19), (0, .ref h0), (1, .int (nI k))]) hx hb d_Lk_clear_22 rfl hl (by decide) rfl (fun ls hl => ?_)
    refine lv_iload_n hx hb d_Lk_clear_23 rfl (lv_at hl 0 rfl) ?_
    refine lv_if_ne (tgt := 29) hx hb d_Lk_clear_24 (by decide) (fun c_24 => ?_) (fun c_24 => ?_)
    · skip
      exact absurd (hw.trans h0s) c_24
    · skip
      refine lv_iconst (v := 0) hx hb d_Lk_clear_27 (by decide) ?_
      exact W.iret (v := 0) hx hb hr (fun t ht hW => ⟨0, rfl, rfl, ht⟩) (fun q hq => by cases hq) d_Lk_clear_28
  · skip
    exact absurd rfl c_8

set_option maxHeartbeats 4000000 in
set_option maxRecDepth 100000 in
/-- clear: no such subject -/
theorem t_Lk_clear (l : Launch) (hfl : l.flags = flags0) (D : va_G) (kA : Nat → ClassId) (kS : Nat → Nat) (sz : Nat) (h0 L : Nat) (r g : Nat → Nat) (fp tu : Int32) (f0 f4 : Nat → Int32) (hL : L ≤ 40) (x : Int32) (h1 : x < 0 ∨ ¬ x < 4) : xt_Met l y_Lk_clear w_Lk_clear { frames := 7, cells := 1, slots := 6, locals := 102 } (xPre D vC (tK kA) kS [.ref h0, .int x] (oLk h0 r fp 0 :: wFl (r 14) g kA (nI L) tu f0 f4) sz) (xt_Q "java/lang/IndexOutOfBoundsException" (fun _ : Unit => True) (xB D vC (tK kA) (fun _ => oLk h0 r fp 0 :: wFl (r 14) g kA (nI L) tu f0 f4) (va_A (oLk h0 r fp 0 :: wFl (r 14) g kA (nI L) tu f0 f4) sz)) (va_A (oLk h0 r fp 0 :: wFl (r 14) g kA (nI L) tu f0 f4) sz)) 1 6 (va_A (oLk h0 r fp 0 :: wFl (r 14) g kA (nI L) tu f0 f4) sz) := by
  refine xt_ofW (cc := b_Lk_clear) (maxL := 4) (ret := (some .int)) (by decide) rfl ?_
  intro p e s m args below meth c s₁ B hml hemp hv
  obtain ⟨rfl, hsz, hP, hK, hD0, hN, hC⟩ := hv
  have hx := B.exec
  have hb := B.bytes
  have hts := atoms_spec (ws := w_Lk_clear) B.pre
  have hg : ∀ w ∈ gW, w.before _ s = true := fun w h => hts w (List.mem_cons_of_mem _ h)
  have hown : s.vm.findClass R_Lk = some m.cls := findClass_of_methodNamed B.named
  have hlocks := B.notSynchronized
  subst hsz
  have hD := hD0.self (sz := s.heap.size)
  generalize hAe : va_A (oLk h0 r fp 0 :: wFl (r 14) g kA (nI L) tu f0 f4) s.heap.size = A at hD hC ⊢
  have hA : ∀ q : Nat, s.heap.size ≤ q → A q := fun q h => by rw [← hAe]; exact Or.inr h
  have hS : va_S A s.heap s.heap [] := va_S.rf
  have hP : va_P D vC [(h0, .inr (11, [.ref (r 0), .ref (r 1), .ref (r 2), .ref (r 3), .ref (r 4), .ref (r 5), .ref (r 6), .ref (r 7), .ref (r 8), .ref (r 9), .ref (r 10), .ref (r 11), .ref (r 12), .ref (r 13), .ref (r 14), .int fp, .int 0])), (r 14, .inr (10, [.ref (g 0), .ref (g 1), .ref (g 2), .ref (g 3), .ref (g 4), .int (nI L), .int tu, .ref (g 5), .ref (g 6)])), (g 0, .inl (kA 1, 40, .inl f0)), (g 4, .inl (kA 1, 40, .inl f4))] s.heap := hP
  have hD : va_D A [(h0, .inr (11, [.ref (r 0), .ref (r 1), .ref (r 2), .ref (r 3), .ref (r 4), .ref (r 5), .ref (r 6), .ref (r 7), .ref (r 8), .ref (r 9), .ref (r 10), .ref (r 11), .ref (r 12), .ref (r 13), .ref (r 14), .int fp, .int 0])), (r 14, .inr (10, [.ref (g 0), .ref (g 1), .ref (g 2), .ref (g 3), .ref (g 4), .int (nI L), .int tu, .ref (g 5), .ref (g 6)])), (g 0, .inl (kA 1, 40, .inl f0)), (g 4, .inl (kA 1, 40, .inl f4))] := hD
  have hl := lv_entry ([.ref h0, .int x]) (n := 4) (Nat.le_of_ble_eq_true rfl)
  rw [lg_entry_eq]
  generalize (lg_sl ([.ref h0, .int x]) ++ List.replicate (4 - (lg_sl ([.ref h0, .int x])).length) Slot.unset).toArray = ls at hl ⊢
  have hl : lv_has ls 4 [(0, .ref h0), (1, .int x)] := hl
  refine lv_iload_n hx hb d_Lk_clear_0 rfl (lv_at hl 1 rfl) ?_
  exact xc_o (wr := [(h0, .inr (11, [.ref (r 0), .ref (r 1), .ref (r 2), .ref (r 3), .ref (r 4), .ref (r 5), .ref (r 6), .ref (r 7), .ref (r 8), .ref (r 9), .ref (r 10), .ref (r 11), .ref (r 12), .ref (r 13), .ref (r 14), .int fp, .int 0])), (r 14, .inr (10, [.ref (g 0), .ref (g 1), .ref (g 2), .ref (g 3), .ref (g 4), .int (nI L), .int tu, .ref (g 5), .ref (g 6)])), (g 0, .inl (kA 1, 40, .inl f0)), (g 4, .inl (kA 1, 40, .inl f4))]) (xt_runS (As := [.int x]) (rest := []) ⟨hx, hb, hml, hown, hg⟩ (t_Lk_needSubject l hfl D kA kS s.heap.size x h1) (cwS 1 hg (xg_S mw_1077 mw_1078 mw_1 mw_1079) rfl rfl rfl (by decide +kernel) ⟨Nat.le_of_ble_eq_true rfl, Nat.le_of_ble_eq_true rfl⟩) (xc_pre hK hN hC hP hD hS hA [] (by decide) rfl) rfl rfl hl.1 rfl (lv_room (Nat.le_of_ble_eq_true rfl)) d_Lk_clear_1 ⟨Nat.le_of_ble_eq_true rfl, Nat.le_of_ble_eq_true rfl⟩) hK hP hD hS hA [] [0, 1, 2, 3] rfl rfl (by decide) (by decide) hemp hlocks (fun q h => h) (fun u _ => ⟨(), trivial, fun H1 hP1 hD1 => ⟨hP1.sub [0, 1, 2, 3] rfl, hD1.sub [0, 1, 2, 3] (by decide) rfl⟩⟩)

set_option maxHeartbeats 4000000 in
set_option maxRecDepth 100000 in
/-- compact(k): no files -/
theorem p_Lk_compact0 (l : Launch) (D : va_G) (kA : Nat → ClassId) (kS : Nat → Nat) (sz : Nat) (h0 : Nat) (r g : Nat → Nat) (fp tu : Int32) (f0 f4 : Nat → Int32) (k : Nat) (hk : k < 4) : Met l y_Lk_compact w_Lk_compact { frames := 1, cells := 0, slots := 0, locals := 20 } (xPre D vC (tK kA) kS [.ref h0, .int (nI k)] (oLk h0 r fp 0 :: wFl (r 14) g kA (nI 0) tu f0 f4) sz) (xt_Pi (fun y => y = 0)) 0 0 (fun _ => False) := by
  refine Met.ofW (cc := b_Lk_compact) (maxL := 4) (ret := (some .int)) (by decide) rfl ?_
  intro p e s m args below meth c s₁ B hml hv
  obtain ⟨rfl, hsz, hP, hK, hD0, hN, hC⟩ := hv
  have hx := B.exec
  have hb := B.bytes
  have hr := B.returns
  have hts := atoms_spec (ws := w_Lk_compact) B.pre
  have hg : ∀ w ∈ gW, w.before _ s = true := fun w h => hts w (List.mem_cons_of_mem _ h)
  have hown : s.vm.findClass R_Lk = some m.cls := findClass_of_methodNamed B.named
  have hlocks := B.notSynchronized
  subst hsz
  have hD := hD0.self (sz := s.heap.size)
  generalize hAe : va_A (oLk h0 r fp 0 :: wFl (r 14) g kA (nI 0) tu f0 f4) s.heap.size = A at hD hC ⊢
  have hA : ∀ q : Nat, s.heap.size ≤ q → A q := fun q h => by rw [← hAe]; exact Or.inr h
  have hS : va_S A s.heap s.heap [] := va_S.rf
  have hP : va_P D vC [(h0, .inr (11, [.ref (r 0), .ref (r 1), .ref (r 2), .ref (r 3), .ref (r 4), .ref (r 5), .ref (r 6), .ref (r 7), .ref (r 8), .ref (r 9), .ref (r 10), .ref (r 11), .ref (r 12), .ref (r 13), .ref (r 14), .int fp, .int 0])), (r 14, .inr (10, [.ref (g 0), .ref (g 1), .ref (g 2), .ref (g 3), .ref (g 4), .int (nI 0), .int tu, .ref (g 5), .ref (g 6)])), (g 0, .inl (kA 1, 40, .inl f0)), (g 4, .inl (kA 1, 40, .inl f4))] s.heap := hP
  have hD : va_D A [(h0, .inr (11, [.ref (r 0), .ref (r 1), .ref (r 2), .ref (r 3), .ref (r 4), .ref (r 5), .ref (r 6), .ref (r 7), .ref (r 8), .ref (r 9), .ref (r 10), .ref (r 11), .ref (r 12), .ref (r 13), .ref (r 14), .int fp, .int 0])), (r 14, .inr (10, [.ref (g 0), .ref (g 1), .ref (g 2), .ref (g 3), .ref (g 4), .int (nI 0), .int tu, .ref (g 5), .ref (g 6)])), (g 0, .inl (kA 1, 40, .inl f0)), (g 4, .inl (kA 1, 40, .inl f4))] := hD
  have hl := lv_entry ([.ref h0, .int (nI k)]) (n := 4) (Nat.le_of_ble_eq_true rfl)
  rw [lg_entry_eq]
  generalize (lg_sl ([.ref h0, .int (nI k)]) ++ List.replicate (4 - (lg_sl ([.ref h0, .int (nI k)])).length) Slot.unset).toArray = ls at hl ⊢
  have hl : lv_has ls 4 [(0, .ref h0), (1, .int (nI k))] := hl
  refine lv_iload_n hx hb d_Lk_compact_0 rfl (lv_at hl 1 rfl) ?_
  refine xc_pv (va_runS (As := [.int (nI k)]) (rest := []) ⟨hx, hb, hml, hown, hg⟩ (p_Lk_needSubject l D kA kS s.heap.size (nI k) (nI_pos (by omega)) (by rcases (show k = 0 ∨ k = 1 ∨ k = 2 ∨ k = 3 by omega) with rfl | rfl | rfl | rfl <;> decide)) (cwS 1 hg (xg_S mw_1077 mw_1078 mw_1 mw_1079) rfl rfl rfl (by decide +kernel) ⟨Nat.le_of_ble_eq_true rfl, Nat.le_of_ble_eq_true rfl⟩) (xc_pre hK hN hC hP hD hS hA [] (by decide) rfl) rfl rfl hl.1 rfl (lv_room (Nat.le_of_ble_eq_true rfl)) d_Lk_compact_1 ⟨Nat.le_of_ble_eq_true rfl, Nat.le_of_ble_eq_true rfl⟩) ?_
  refine lv_aload_n hx hb d_Lk_compact_4 rfl (lv_at hl 0 rfl) ?_
  refine va_get (D := D) (ci := 11) (v := .int 0) (C := R_Lk) (T := F_Lk) (N := 17) hx hb hg i_Lk hown hK hP 0 rfl rfl 16 (by decide) (hg _ mw_499) (fun _ h9 => h9) rfl d_Lk_compact_5 ?_
  refine lv_if_eq (tgt := 14) hx hb d_Lk_compact_8 (by decide) (fun c_8 => ?_) (fun c_8 => ?_)
  · skip
    refine lv_iconst (v := nI 0) hx hb d_Lk_compact_14 (by decide) ?_
    refine lv_istore_n (lv' := [(2, .int (nI 0)), (0, .ref h0), (1, .int (nI k))]) hx hb d_Lk_compact_15 rfl hl (by decide) rfl (fun ls hl => ?_)
    refine lv_iload_n hx hb d_Lk_compact_16 rfl (lv_at hl 0 rfl) ?_
    refine lv_aload_n hx hb d_Lk_compact_17 rfl (lv_at hl 1 rfl) ?_
    refine va_get (D := D) (ci := 11) (v := .ref (r 14)) (C := R_Lk) (T := F_Lk) (N := 17) hx hb hg i_Lk hown hK hP 0 rfl rfl 14 (by decide) (hg _ mw_497) (fun _ h9 => h9) rfl d_Lk_compact_18 ?_
    refine va_get (D := D) (ci := 10) (v := .int (nI 0)) (C := R_Fl) (T := F_Fl) (N := 9) hx hb hg i_Fl hown hK hP 1 rfl rfl 5 (by decide) (hg _ mw_459) (fun _ h9 => h9) rfl d_Lk_compact_21 ?_
    refine xb_ge (tgt := 91) hx hb d_Lk_compact_24 (by decide) (by decide) (by decide) (fun c_24 => ?_) (fun c_24 => ?_)
    · skip
      refine lv_iconst (v := 0) hx hb d_Lk_compact_91 (by decide) ?_
      exact W.iret (v := 0) hx hb hr (fun t ht hW => ⟨0, rfl, rfl, ht⟩) (fun q hq => by cases hq) d_Lk_compact_92
    · skip
      exact absurd c_24 (by decide)
  · skip
    exact absurd rfl c_8

set_option maxHeartbeats 4000000 in
set_option maxRecDepth 100000 in
/-- compact: no such subject -/
theorem t_Lk_compact (l : Launch) (hfl : l.flags = flags0) (D : va_G) (kA : Nat → ClassId) (kS : Nat → Nat) (sz : Nat) (h0 L : Nat) (r g : Nat → Nat) (fp tu : Int32) (f0 f4 : Nat → Int32) (hL : L ≤ 40) (x : Int32) (h1 : x < 0 ∨ ¬ x < 4) : xt_Met l y_Lk_compact w_Lk_compact { frames := 7, cells := 1, slots := 6, locals := 102 } (xPre D vC (tK kA) kS [.ref h0, .int x] (oLk h0 r fp 0 :: wFl (r 14) g kA (nI L) tu f0 f4) sz) (xt_Q "java/lang/IndexOutOfBoundsException" (fun _ : Unit => True) (xB D vC (tK kA) (fun _ => oLk h0 r fp 0 :: wFl (r 14) g kA (nI L) tu f0 f4) (va_A (oLk h0 r fp 0 :: wFl (r 14) g kA (nI L) tu f0 f4) sz)) (va_A (oLk h0 r fp 0 :: wFl (r 14) g kA (nI L) tu f0 f4) sz)) 1 6 (va_A (oLk h0 r fp 0 :: wFl (r 14) g kA (nI L) tu f0 f4) sz) := by
  refine xt_ofW (cc := b_Lk_compact) (maxL := 4) (ret := (some .int)) (by decide) rfl ?_
  intro p e s m args below meth c s₁ B hml hemp hv
  obtain ⟨rfl, hsz, hP, hK, hD0, hN, hC⟩ := hv
  have hx := B.exec
  have hb := B.bytes
  have hts := atoms_spec (ws := w_Lk_compact) B.pre
  have hg : ∀ w ∈ gW, w.before _ s = true := fun w h => hts w (List.mem_cons_of_mem _ h)
  have hown : s.vm.findClass R_Lk = some m.cls := findClass_of_methodNamed B.named
  have hlocks := B.notSynchronized
  subst hsz
  have hD := hD0.self (sz := s.heap.size)
  generalize hAe : va_A (oLk h0 r fp 0 :: wFl (r 14) g kA (nI L) tu f0 f4) s.heap.size = A at hD hC ⊢
  have hA : ∀ q : Nat, s.heap.size ≤ q → A q := fun q h => by rw [← hAe]; exact Or.inr h
  have hS : va_S A s.heap s.heap [] := va_S.rf
  have hP : va_P D vC [(h0, .inr (11, [.ref (r 0), .ref (r 1), .ref (r 2), .ref (r 3), .ref (r 4), .ref (r 5), .ref (r 6), .ref (r 7), .ref (r 8), .ref (r 9), .ref (r 10), .ref (r 11), .ref (r 12), .ref (r 13), .ref (r 14), .int fp, .int 0])), (r 14, .inr (10, [.ref (g 0), .ref (g 1), .ref (g 2), .ref (g 3), .ref (g 4), .int (nI L), .int tu, .ref (g 5), .ref (g 6)])), (g 0, .inl (kA 1, 40, .inl f0)), (g 4, .inl (kA 1, 40, .inl f4))] s.heap := hP
  have hD : va_D A [(h0, .inr (11, [.ref (r 0), .ref (r 1), .ref (r 2), .ref (r 3), .ref (r 4), .ref (r 5), .ref (r 6), .ref (r 7), .ref (r 8), .ref (r 9), .ref (r 10), .ref (r 11), .ref (r 12), .ref (r 13), .ref (r 14), .int fp, .int 0])), (r 14, .inr (10, [.ref (g 0), .ref (g 1), .ref (g 2), .ref (g 3), .ref (g 4), .int (nI L), .int tu, .ref (g 5), .ref (g 6)])), (g 0, .inl (kA 1, 40, .inl f0)), (g 4, .inl (kA 1, 40, .inl f4))] := hD
  have hl := lv_entry ([.ref h0, .int x]) (n := 4) (Nat.le_of_ble_eq_true rfl)
  rw [lg_entry_eq]
  generalize (lg_sl ([.ref h0, .int x]) ++ List.replicate (4 - (lg_sl ([.ref h0, .int x])).length) Slot.unset).toArray = ls at hl ⊢
  have hl : lv_has ls 4 [(0, .ref h0), (1, .int x)] := hl
  refine lv_iload_n hx hb d_Lk_compact_0 rfl (lv_at hl 1 rfl) ?_
  exact xc_o (wr := [(h0, .inr (11, [.ref (r 0), .ref (r 1), .ref (r 2), .ref (r 3), .ref (r 4), .ref (r 5), .ref (r 6), .ref (r 7), .ref (r 8), .ref (r 9), .ref (r 10), .ref (r 11), .ref (r 12), .ref (r 13), .ref (r 14), .int fp, .int 0])), (r 14, .inr (10, [.ref (g 0), .ref (g 1), .ref (g 2), .ref (g 3), .ref (g 4), .int (nI L), .int tu, .ref (g 5), .ref (g 6)])), (g 0, .inl (kA 1, 40, .inl f0)), (g 4, .inl (kA 1, 40, .inl f4))]) (xt_runS (As := [.int x]) (rest := []) ⟨hx, hb, hml, hown, hg⟩ (t_Lk_needSubject l hfl D kA kS s.heap.size x h1) (cwS 1 hg (xg_S mw_1077 mw_1078 mw_1 mw_1079) rfl rfl rfl (by decide +kernel) ⟨Nat.le_of_ble_eq_true rfl, Nat.le_of_ble_eq_true rfl⟩) (xc_pre hK hN hC hP hD hS hA [] (by decide) rfl) rfl rfl hl.1 rfl (lv_room (Nat.le_of_ble_eq_true rfl)) d_Lk_compact_1 ⟨Nat.le_of_ble_eq_true rfl, Nat.le_of_ble_eq_true rfl⟩) hK hP hD hS hA [] [0, 1, 2, 3] rfl rfl (by decide) (by decide) hemp hlocks (fun q h => h) (fun u _ => ⟨(), trivial, fun H1 hP1 hD1 => ⟨hP1.sub [0, 1, 2, 3] rfl, hD1.sub [0, 1, 2, 3] (by decide) rfl⟩⟩)

set_option maxHeartbeats 4000000 in
set_option maxRecDepth 100000 in
/-- look: no such subject -/
theorem t_Lk_look (l : Launch) (hfl : l.flags = flags0) (D : va_G) (kA : Nat → ClassId) (kS : Nat → Nat) (sz : Nat) (h0 : Nat) (r q : Nat → Nat) (fp : Int32) (z vs : Nat → Int32) (x y : Int32) (h1 : x < 0 ∨ ¬ x < 4) : xt_Met l y_Lk_look w_Lk_look { frames := 7, cells := 1, slots := 6, locals := 102 } (xPre D vC (tK kA) kS [.ref h0, .int x, .int y] ([oLk h0 r fp 0, oSc (r 7) q z, (q 10, .inl (kA 1, 4, .inl vs))]) sz) (xt_Q "java/lang/IndexOutOfBoundsException" (fun _ : Unit => True) (xB D vC (tK kA) (fun _ => [oLk h0 r fp 0, oSc (r 7) q z, (q 10, .inl (kA 1, 4, .inl vs))]) (va_A ([oLk h0 r fp 0, oSc (r 7) q z, (q 10, .inl (kA 1, 4, .inl vs))]) sz)) (va_A ([oLk h0 r fp 0, oSc (r 7) q z, (q 10, .inl (kA 1, 4, .inl vs))]) sz)) 1 6 (va_A ([oLk h0 r fp 0, oSc (r 7) q z, (q 10, .inl (kA 1, 4, .inl vs))]) sz) := by
  refine xt_ofW (cc := b_Lk_look) (maxL := 3) (ret := (some .int)) (by decide) rfl ?_
  intro p e s m args below meth c s₁ B hml hemp hv
  obtain ⟨rfl, hsz, hP, hK, hD0, hN, hC⟩ := hv
  have hx := B.exec
  have hb := B.bytes
  have hts := atoms_spec (ws := w_Lk_look) B.pre
  have hg : ∀ w ∈ gW, w.before _ s = true := fun w h => hts w (List.mem_cons_of_mem _ h)
  have hown : s.vm.findClass R_Lk = some m.cls := findClass_of_methodNamed B.named
  have hlocks := B.notSynchronized
  subst hsz
  have hD := hD0.self (sz := s.heap.size)
  generalize hAe : va_A ([oLk h0 r fp 0, oSc (r 7) q z, (q 10, .inl (kA 1, 4, .inl vs))]) s.heap.size = A at hD hC ⊢
  have hA : ∀ q : Nat, s.heap.size ≤ q → A q := fun q h => by rw [← hAe]; exact Or.inr h
  have hS : va_S A s.heap s.heap [] := va_S.rf
  have hP : va_P D vC [(h0, .inr (11, [.ref (r 0), .ref (r 1), .ref (r 2), .ref (r 3), .ref (r 4), .ref (r 5), .ref (r 6), .ref (r 7), .ref (r 8), .ref (r 9), .ref (r 10), .ref (r 11), .ref (r 12), .ref (r 13), .ref (r 14), .int fp, .int 0])), (r 7, .inr (2, [.ref (q 0), .ref (q 1), .ref (q 2), .ref (q 3), .ref (q 4), .ref (q 5), .ref (q 6), .ref (q 7), .ref (q 8), .ref (q 9), .ref (q 10), .int (z 11), .ref (q 12), .ref (q 13), .int (z 14), .int (z 15), .int (z 16), .int (z 17)])), (q 10, .inl (kA 1, 4, .inl vs))] s.heap := hP
  have hD : va_D A [(h0, .inr (11, [.ref (r 0), .ref (r 1), .ref (r 2), .ref (r 3), .ref (r 4), .ref (r 5), .ref (r 6), .ref (r 7), .ref (r 8), .ref (r 9), .ref (r 10), .ref (r 11), .ref (r 12), .ref (r 13), .ref (r 14), .int fp, .int 0])), (r 7, .inr (2, [.ref (q 0), .ref (q 1), .ref (q 2), .ref (q 3), .ref (q 4), .ref (q 5), .ref (q 6), .ref (q 7), .ref (q 8), .ref (q 9), .ref (q 10), .int (z 11), .ref (q 12), .ref (q 13), .int (z 14), .int (z 15), .int (z 16), .int (z 17)])), (q 10, .inl (kA 1, 4, .inl vs))] := hD
  have hl := lv_entry ([.ref h0, .int x, .int y]) (n := 3) (Nat.le_of_ble_eq_true rfl)
  rw [lg_entry_eq]
  generalize (lg_sl ([.ref h0, .int x, .int y]) ++ List.replicate (3 - (lg_sl ([.ref h0, .int x, .int y])).length) Slot.unset).toArray = ls at hl ⊢
  have hl : lv_has ls 3 [(0, .ref h0), (1, .int x), (2, .int y)] := hl
  refine lv_iload_n hx hb d_Lk_look_0 rfl (lv_at hl 1 rfl) ?_
  exact xc_o (wr := [(h0, .inr (11, [.ref (r 0), .ref (r 1), .ref (r 2), .ref (r 3), .ref (r 4), .ref (r 5), .ref (r 6), .ref (r 7), .ref (r 8), .ref (r 9), .ref (r 10), .ref (r 11), .ref (r 12), .ref (r 13), .ref (r 14), .int fp, .int 0])), (r 7, .inr (2, [.ref (q 0), .ref (q 1), .ref (q 2), .ref (q 3), .ref (q 4), .ref (q 5), .ref (q 6), .ref (q 7), .ref (q 8), .ref (q 9), .ref (q 10), .int (z 11), .ref (q 12), .ref (q 13), .int (z 14), .int (z 15), .int (z 16), .int (z 17)])), (q 10, .inl (kA 1, 4, .inl vs))]) (xt_runS (As := [.int x]) (rest := []) ⟨hx, hb, hml, hown, hg⟩ (t_Lk_needSubject l hfl D kA kS s.heap.size x h1) (cwS 1 hg (xg_S mw_1077 mw_1078 mw_1 mw_1079) rfl rfl rfl (by decide +kernel) ⟨Nat.le_of_ble_eq_true rfl, Nat.le_of_ble_eq_true rfl⟩) (xc_pre hK hN hC hP hD hS hA [] (by decide) rfl) rfl rfl hl.1 rfl (lv_room (Nat.le_of_ble_eq_true rfl)) d_Lk_look_1 ⟨Nat.le_of_ble_eq_true rfl, Nat.le_of_ble_eq_true rfl⟩) hK hP hD hS hA [] [0, 1, 2] rfl rfl (by decide) (by decide) hemp hlocks (fun q h => h) (fun u _ => ⟨(), trivial, fun H1 hP1 hD1 => ⟨hP1.sub [0, 1, 2] rfl, hD1.sub [0, 1, 2] (by decide) rfl⟩⟩)

set_option maxHeartbeats 4000000 in
set_option maxRecDepth 100000 in
/-- look: no such version -/
theorem t_Lk_look2 (l : Launch) (hfl : l.flags = flags0) (D : va_G) (kA : Nat → ClassId) (kS : Nat → Nat) (sz : Nat) (h0 : Nat) (r q : Nat → Nat) (fp : Int32) (z vs : Nat → Int32) (k : Nat) (hk : k < 4) (y : Int32) (h1 : y < 0 ∨ ¬ y < vs k) : xt_Met l y_Lk_look w_Lk_look { frames := 7, cells := 1, slots := 6, locals := 104 } (xPre D vC (tK kA) kS [.ref h0, .int (nI k), .int y] ([oLk h0 r fp 0, oSc (r 7) q z, (q 10, .inl (kA 1, 4, .inl vs))]) sz) (xt_Q "java/lang/IndexOutOfBoundsException" (fun _ : Unit => True) (xB D vC (tK kA) (fun _ => [oLk h0 r fp 0, oSc (r 7) q z, (q 10, .inl (kA 1, 4, .inl vs))]) (va_A ([oLk h0 r fp 0, oSc (r 7) q z, (q 10, .inl (kA 1, 4, .inl vs))]) sz)) (va_A ([oLk h0 r fp 0, oSc (r 7) q z, (q 10, .inl (kA 1, 4, .inl vs))]) sz)) 1 6 (va_A ([oLk h0 r fp 0, oSc (r 7) q z, (q 10, .inl (kA 1, 4, .inl vs))]) sz) := by
  refine xt_ofW (cc := b_Lk_look) (maxL := 3) (ret := (some .int)) (by decide) rfl ?_
  intro p e s m args below meth c s₁ B hml hemp hv
  obtain ⟨rfl, hsz, hP, hK, hD0, hN, hC⟩ := hv
  have hx := B.exec
  have hb := B.bytes
  have hts := atoms_spec (ws := w_Lk_look) B.pre
  have hg : ∀ w ∈ gW, w.before _ s = true := fun w h => hts w (List.mem_cons_of_mem _ h)
  have hown : s.vm.findClass R_Lk = some m.cls := findClass_of_methodNamed B.named
  have hlocks := B.notSynchronized
  subst hsz
  have hD := hD0.self (sz := s.heap.size)
  generalize hAe : va_A ([oLk h0 r fp 0, oSc (r 7) q z, (q 10, .inl (kA 1, 4, .inl vs))]) s.heap.size = A at hD hC ⊢
  have hA : ∀ q : Nat, s.heap.size ≤ q → A q := fun q h => by rw [← hAe]; exact Or.inr h
  have hS : va_S A s.heap s.heap [] := va_S.rf
  have hP : va_P D vC [(h0, .inr (11, [.ref (r 0), .ref (r 1), .ref (r 2), .ref (r 3), .ref (r 4), .ref (r 5), .ref (r 6), .ref (r 7), .ref (r 8), .ref (r 9), .ref (r 10), .ref (r 11), .ref (r 12), .ref (r 13), .ref (r 14), .int fp, .int 0])), (r 7, .inr (2, [.ref (q 0), .ref (q 1), .ref (q 2), .ref (q 3), .ref (q 4), .ref (q 5), .ref (q 6), .ref (q 7), .ref (q 8), .ref (q 9), .ref (q 10), .int (z 11), .ref (q 12), .ref (q 13), .int (z 14), .int (z 15), .int (z 16), .int (z 17)])), (q 10, .inl (kA 1, 4, .inl vs))] s.heap := hP
  have hD : va_D A [(h0, .inr (11, [.ref (r 0), .ref (r 1), .ref (r 2), .ref (r 3), .ref (r 4), .ref (r 5), .ref (r 6), .ref (r 7), .ref (r 8), .ref (r 9), .ref (r 10), .ref (r 11), .ref (r 12), .ref (r 13), .ref (r 14), .int fp, .int 0])), (r 7, .inr (2, [.ref (q 0), .ref (q 1), .ref (q 2), .ref (q 3), .ref (q 4), .ref (q 5), .ref (q 6), .ref (q 7), .ref (q 8), .ref (q 9), .ref (q 10), .int (z 11), .ref (q 12), .ref (q 13), .int (z 14), .int (z 15), .int (z 16), .int (z 17)])), (q 10, .inl (kA 1, 4, .inl vs))] := hD
  have hl := lv_entry ([.ref h0, .int (nI k), .int y]) (n := 3) (Nat.le_of_ble_eq_true rfl)
  rw [lg_entry_eq]
  generalize (lg_sl ([.ref h0, .int (nI k), .int y]) ++ List.replicate (3 - (lg_sl ([.ref h0, .int (nI k), .int y])).length) Slot.unset).toArray = ls at hl ⊢
  have hl : lv_has ls 3 [(0, .ref h0), (1, .int (nI k)), (2, .int y)] := hl
  refine lv_iload_n hx hb d_Lk_look_0 rfl (lv_at hl 1 rfl) ?_
  refine xc_pv (va_runS (As := [.int (nI k)]) (rest := []) ⟨hx, hb, hml, hown, hg⟩ (p_Lk_needSubject l D kA kS s.heap.size (nI k) (nI_pos (by omega)) (by rcases (show k = 0 ∨ k = 1 ∨ k = 2 ∨ k = 3 by omega) with rfl | rfl | rfl | rfl <;> decide)) (cwS 1 hg (xg_S mw_1077 mw_1078 mw_1 mw_1079) rfl rfl rfl (by decide +kernel) ⟨Nat.le_of_ble_eq_true rfl, Nat.le_of_ble_eq_true rfl⟩) (xc_pre hK hN hC hP hD hS hA [] (by decide) rfl) rfl rfl hl.1 rfl (lv_room (Nat.le_of_ble_eq_true rfl)) d_Lk_look_1 ⟨Nat.le_of_ble_eq_true rfl, Nat.le_of_ble_eq_true rfl⟩) ?_
  refine lv_aload_n hx hb d_Lk_look_4 rfl (lv_at hl 0 rfl) ?_
  refine va_get (D := D) (ci := 11) (v := .int 0) (C := R_Lk) (T := F_Lk) (N := 17) hx hb hg i_Lk hown hK hP 0 rfl rfl 16 (by decide) (hg _ mw_499) (fun _ h9 => h9) rfl d_Lk_look_5 ?_
  refine lv_if_eq (tgt := 14) hx hb d_Lk_look_8 (by decide) (fun c_8 => ?_) (fun c_8 => ?_)
  · skip
    refine lv_aload_n hx hb d_Lk_look_14 rfl (lv_at hl 0 rfl) ?_
    refine lv_iload_n hx hb d_Lk_look_15 rfl (lv_at hl 1 rfl) ?_
    refine lv_iload_n hx hb d_Lk_look_16 rfl (lv_at hl 2 rfl) ?_
    exact xc_o (wr := []) (xt_runV (As := [.int (nI k), .int y]) (rest := []) ⟨hx, hb, hml, hown, hg⟩ (t_Lk_needVersion l hfl D kA kS s.heap.size h0 r q fp 0 z vs k y hk h1) (cwV 2 hg (xg_V mw_1230 mw_1232 ms_62 mw_1 mw_1233) rfl rfl rfl (by decide +kernel) ⟨Nat.le_of_ble_eq_true rfl, Nat.le_of_ble_eq_true rfl⟩) (xc_preV hK hN hC hP hD hS hA [0, 1, 2] (by decide) rfl 0 rfl rfl) rfl rfl hl.1 rfl (lv_room (Nat.le_of_ble_eq_true rfl)) d_Lk_look_17 ⟨Nat.le_of_ble_eq_true rfl, Nat.le_of_ble_eq_true rfl⟩) hK hP hD hS hA [0, 1, 2] [] rfl rfl (by decide) (by decide) hemp hlocks (fun q h => h) (fun u _ => ⟨(), trivial, fun H1 hP1 hD1 => ⟨hP1.sub [0, 1, 2] rfl, hD1.sub [0, 1, 2] (by decide) rfl⟩⟩)
  · skip
    exact absurd rfl c_8

set_option maxHeartbeats 4000000 in
set_option maxRecDepth 100000 in
/-- load: no such subject -/
theorem t_Lk_load (l : Launch) (hfl : l.flags = flags0) (D : va_G) (kA : Nat → ClassId) (kS : Nat → Nat) (sz : Nat) (h0 : Nat) (r q : Nat → Nat) (fp : Int32) (z vs : Nat → Int32) (x y : Int32) (h1 : x < 0 ∨ ¬ x < 4) : xt_Met l y_Lk_load w_Lk_load { frames := 7, cells := 1, slots := 6, locals := 102 } (xPre D vC (tK kA) kS [.ref h0, .int x, .int y] ([oLk h0 r fp 0, oSc (r 7) q z, (q 10, .inl (kA 1, 4, .inl vs))]) sz) (xt_Q "java/lang/IndexOutOfBoundsException" (fun _ : Unit => True) (xB D vC (tK kA) (fun _ => [oLk h0 r fp 0, oSc (r 7) q z, (q 10, .inl (kA 1, 4, .inl vs))]) (va_A ([oLk h0 r fp 0, oSc (r 7) q z, (q 10, .inl (kA 1, 4, .inl vs))]) sz)) (va_A ([oLk h0 r fp 0, oSc (r 7) q z, (q 10, .inl (kA 1, 4, .inl vs))]) sz)) 1 6 (va_A ([oLk h0 r fp 0, oSc (r 7) q z, (q 10, .inl (kA 1, 4, .inl vs))]) sz) := by
  refine xt_ofW (cc := b_Lk_load) (maxL := 5) (ret := (some .int)) (by decide) rfl ?_
  intro p e s m args below meth c s₁ B hml hemp hv
  obtain ⟨rfl, hsz, hP, hK, hD0, hN, hC⟩ := hv
  have hx := B.exec
  have hb := B.bytes
  have hts := atoms_spec (ws := w_Lk_load) B.pre
  have hg : ∀ w ∈ gW, w.before _ s = true := fun w h => hts w (List.mem_cons_of_mem _ h)
  have hown : s.vm.findClass R_Lk = some m.cls := findClass_of_methodNamed B.named
  have hlocks := B.notSynchronized
  subst hsz
  have hD := hD0.self (sz := s.heap.size)
  generalize hAe : va_A ([oLk h0 r fp 0, oSc (r 7) q z, (q 10, .inl (kA 1, 4, .inl vs))]) s.heap.size = A at hD hC ⊢
  have hA : ∀ q : Nat, s.heap.size ≤ q → A q := fun q h => by rw [← hAe]; exact Or.inr h
  have hS : va_S A s.heap s.heap [] := va_S.rf
  have hP : va_P D vC [(h0, .inr (11, [.ref (r 0), .ref (r 1), .ref (r 2), .ref (r 3), .ref (r 4), .ref (r 5), .ref (r 6), .ref (r 7), .ref (r 8), .ref (r 9), .ref (r 10), .ref (r 11), .ref (r 12), .ref (r 13), .ref (r 14), .int fp, .int 0])), (r 7, .inr (2, [.ref (q 0), .ref (q 1), .ref (q 2), .ref (q 3), .ref (q 4), .ref (q 5), .ref (q 6), .ref (q 7), .ref (q 8), .ref (q 9), .ref (q 10), .int (z 11), .ref (q 12), .ref (q 13), .int (z 14), .int (z 15), .int (z 16), .int (z 17)])), (q 10, .inl (kA 1, 4, .inl vs))] s.heap := hP
  have hD : va_D A [(h0, .inr (11, [.ref (r 0), .ref (r 1), .ref (r 2), .ref (r 3), .ref (r 4), .ref (r 5), .ref (r 6), .ref (r 7), .ref (r 8), .ref (r 9), .ref (r 10), .ref (r 11), .ref (r 12), .ref (r 13), .ref (r 14), .int fp, .int 0])), (r 7, .inr (2, [.ref (q 0), .ref (q 1), .ref (q 2), .ref (q 3), .ref (q 4), .ref (q 5), .ref (q 6), .ref (q 7), .ref (q 8), .ref (q 9), .ref (q 10), .int (z 11), .ref (q 12), .ref (q 13), .int (z 14), .int (z 15), .int (z 16), .int (z 17)])), (q 10, .inl (kA 1, 4, .inl vs))] := hD
  have hl := lv_entry ([.ref h0, .int x, .int y]) (n := 5) (Nat.le_of_ble_eq_true rfl)
  rw [lg_entry_eq]
  generalize (lg_sl ([.ref h0, .int x, .int y]) ++ List.replicate (5 - (lg_sl ([.ref h0, .int x, .int y])).length) Slot.unset).toArray = ls at hl ⊢
  have hl : lv_has ls 5 [(0, .ref h0), (1, .int x), (2, .int y)] := hl
  refine lv_iload_n hx hb d_Lk_load_0 rfl (lv_at hl 1 rfl) ?_
  exact xc_o (wr := [(h0, .inr (11, [.ref (r 0), .ref (r 1), .ref (r 2), .ref (r 3), .ref (r 4), .ref (r 5), .ref (r 6), .ref (r 7), .ref (r 8), .ref (r 9), .ref (r 10), .ref (r 11), .ref (r 12), .ref (r 13), .ref (r 14), .int fp, .int 0])), (r 7, .inr (2, [.ref (q 0), .ref (q 1), .ref (q 2), .ref (q 3), .ref (q 4), .ref (q 5), .ref (q 6), .ref (q 7), .ref (q 8), .ref (q 9), .ref (q 10), .int (z 11), .ref (q 12), .ref (q 13), .int (z 14), .int (z 15), .int (z 16), .int (z 17)])), (q 10, .inl (kA 1, 4, .inl vs))]) (xt_runS (As := [.int x]) (rest := []) ⟨hx, hb, hml, hown, hg⟩ (t_Lk_needSubject l hfl D kA kS s.heap.size x h1) (cwS 1 hg (xg_S mw_1077 mw_1078 mw_1 mw_1079) rfl rfl rfl (by decide +kernel) ⟨Nat.le_of_ble_eq_true rfl, Nat.le_of_ble_eq_true rfl⟩) (xc_pre hK hN hC hP hD hS hA [] (by decide) rfl) rfl rfl hl.1 rfl (lv_room (Nat.le_of_ble_eq_true rfl)) d_Lk_load_1 ⟨Nat.le_of_ble_eq_true rfl, Nat.le_of_ble_eq_true rfl⟩) hK hP hD hS hA [] [0, 1, 2] rfl rfl (by decide) (by decide) hemp hlocks (fun q h => h) (fun u _ => ⟨(), trivial, fun H1 hP1 hD1 => ⟨hP1.sub [0, 1, 2] rfl, hD1.sub [0, 1, 2] (by decide) rfl⟩⟩)

set_option maxHeartbeats 4000000 in
set_option maxRecDepth 100000 in
/-- load: no such version -/
theorem t_Lk_load2 (l : Launch) (hfl : l.flags = flags0) (D : va_G) (kA : Nat → ClassId) (kS : Nat → Nat) (sz : Nat) (h0 : Nat) (r q : Nat → Nat) (fp : Int32) (z vs : Nat → Int32) (k : Nat) (hk : k < 4) (y : Int32) (h1 : y < 0 ∨ ¬ y < vs k) : xt_Met l y_Lk_load w_Lk_load { frames := 7, cells := 1, slots := 6, locals := 104 } (xPre D vC (tK kA) kS [.ref h0, .int (nI k), .int y] ([oLk h0 r fp 0, oSc (r 7) q z, (q 10, .inl (kA 1, 4, .inl vs))]) sz) (xt_Q "java/lang/IndexOutOfBoundsException" (fun _ : Unit => True) (xB D vC (tK kA) (fun _ => [oLk h0 r fp 0, oSc (r 7) q z, (q 10, .inl (kA 1, 4, .inl vs))]) (va_A ([oLk h0 r fp 0, oSc (r 7) q z, (q 10, .inl (kA 1, 4, .inl vs))]) sz)) (va_A ([oLk h0 r fp 0, oSc (r 7) q z, (q 10, .inl (kA 1, 4, .inl vs))]) sz)) 1 6 (va_A ([oLk h0 r fp 0, oSc (r 7) q z, (q 10, .inl (kA 1, 4, .inl vs))]) sz) := by
  refine xt_ofW (cc := b_Lk_load) (maxL := 5) (ret := (some .int)) (by decide) rfl ?_
  intro p e s m args below meth c s₁ B hml hemp hv
  obtain ⟨rfl, hsz, hP, hK, hD0, hN, hC⟩ := hv
  have hx := B.exec
  have hb := B.bytes
  have hts := atoms_spec (ws := w_Lk_load) B.pre
  have hg : ∀ w ∈ gW, w.before _ s = true := fun w h => hts w (List.mem_cons_of_mem _ h)
  have hown : s.vm.findClass R_Lk = some m.cls := findClass_of_methodNamed B.named
  have hlocks := B.notSynchronized
  subst hsz
  have hD := hD0.self (sz := s.heap.size)
  generalize hAe : va_A ([oLk h0 r fp 0, oSc (r 7) q z, (q 10, .inl (kA 1, 4, .inl vs))]) s.heap.size = A at hD hC ⊢
  have hA : ∀ q : Nat, s.heap.size ≤ q → A q := fun q h => by rw [← hAe]; exact Or.inr h
  have hS : va_S A s.heap s.heap [] := va_S.rf
  have hP : va_P D vC [(h0, .inr (11, [.ref (r 0), .ref (r 1), .ref (r 2), .ref (r 3), .ref (r 4), .ref (r 5), .ref (r 6), .ref (r 7), .ref (r 8), .ref (r 9), .ref (r 10), .ref (r 11), .ref (r 12), .ref (r 13), .ref (r 14), .int fp, .int 0])), (r 7, .inr (2, [.ref (q 0), .ref (q 1), .ref (q 2), .ref (q 3), .ref (q 4), .ref (q 5), .ref (q 6), .ref (q 7), .ref (q 8), .ref (q 9), .ref (q 10), .int (z 11), .ref (q 12), .ref (q 13), .int (z 14), .int (z 15), .int (z 16), .int (z 17)])), (q 10, .inl (kA 1, 4, .inl vs))] s.heap := hP
  have hD : va_D A [(h0, .inr (11, [.ref (r 0), .ref (r 1), .ref (r 2), .ref (r 3), .ref (r 4), .ref (r 5), .ref (r 6), .ref (r 7), .ref (r 8), .ref (r 9), .ref (r 10), .ref (r 11), .ref (r 12), .ref (r 13), .ref (r 14), .int fp, .int 0])), (r 7, .inr (2, [.ref (q 0), .ref (q 1), .ref (q 2), .ref (q 3), .ref (q 4), .ref (q 5), .ref (q 6), .ref (q 7), .ref (q 8), .ref (q 9), .ref (q 10), .int (z 11), .ref (q 12), .ref (q 13), .int (z 14), .int (z 15), .int (z 16), .int (z 17)])), (q 10, .inl (kA 1, 4, .inl vs))] := hD
  have hl := lv_entry ([.ref h0, .int (nI k), .int y]) (n := 5) (Nat.le_of_ble_eq_true rfl)
  rw [lg_entry_eq]
  generalize (lg_sl ([.ref h0, .int (nI k), .int y]) ++ List.replicate (5 - (lg_sl ([.ref h0, .int (nI k), .int y])).length) Slot.unset).toArray = ls at hl ⊢
  have hl : lv_has ls 5 [(0, .ref h0), (1, .int (nI k)), (2, .int y)] := hl
  refine lv_iload_n hx hb d_Lk_load_0 rfl (lv_at hl 1 rfl) ?_
  refine xc_pv (va_runS (As := [.int (nI k)]) (rest := []) ⟨hx, hb, hml, hown, hg⟩ (p_Lk_needSubject l D kA kS s.heap.size (nI k) (nI_pos (by omega)) (by rcases (show k = 0 ∨ k = 1 ∨ k = 2 ∨ k = 3 by omega) with rfl | rfl | rfl | rfl <;> decide)) (cwS 1 hg (xg_S mw_1077 mw_1078 mw_1 mw_1079) rfl rfl rfl (by decide +kernel) ⟨Nat.le_of_ble_eq_true rfl, Nat.le_of_ble_eq_true rfl⟩) (xc_pre hK hN hC hP hD hS hA [] (by decide) rfl) rfl rfl hl.1 rfl (lv_room (Nat.le_of_ble_eq_true rfl)) d_Lk_load_1 ⟨Nat.le_of_ble_eq_true rfl, Nat.le_of_ble_eq_true rfl⟩) ?_
  refine lv_aload_n hx hb d_Lk_load_4 rfl (lv_at hl 0 rfl) ?_
  refine va_get (D := D) (ci := 11) (v := .int 0) (C := R_Lk) (T := F_Lk) (N := 17) hx hb hg i_Lk hown hK hP 0 rfl rfl 16 (by decide) (hg _ mw_499) (fun _ h9 => h9) rfl d_Lk_load_5 ?_
  refine lv_if_eq (tgt := 14) hx hb d_Lk_load_8 (by decide) (fun c_8 => ?_) (fun c_8 => ?_)
  · skip
    refine lv_aload_n hx hb d_Lk_load_14 rfl (lv_at hl 0 rfl) ?_
    refine lv_iload_n hx hb d_Lk_load_15 rfl (lv_at hl 1 rfl) ?_
    refine lv_iload_n hx hb d_Lk_load_16 rfl (lv_at hl 2 rfl) ?_
    exact xc_o (wr := []) (xt_runV (As := [.int (nI k), .int y]) (rest := []) ⟨hx, hb, hml, hown, hg⟩ (t_Lk_needVersion l hfl D kA kS s.heap.size h0 r q fp 0 z vs k y hk h1) (cwV 2 hg (xg_V mw_1230 mw_1232 ms_62 mw_1 mw_1233) rfl rfl rfl (by decide +kernel) ⟨Nat.le_of_ble_eq_true rfl, Nat.le_of_ble_eq_true rfl⟩) (xc_preV hK hN hC hP hD hS hA [0, 1, 2] (by decide) rfl 0 rfl rfl) rfl rfl hl.1 rfl (lv_room (Nat.le_of_ble_eq_true rfl)) d_Lk_load_17 ⟨Nat.le_of_ble_eq_true rfl, Nat.le_of_ble_eq_true rfl⟩) hK hP hD hS hA [0, 1, 2] [] rfl rfl (by decide) (by decide) hemp hlocks (fun q h => h) (fun u _ => ⟨(), trivial, fun H1 hP1 hD1 => ⟨hP1.sub [0, 1, 2] rfl, hD1.sub [0, 1, 2] (by decide) rfl⟩⟩)
  · skip
    exact absurd rfl c_8

set_option maxHeartbeats 4000000 in
set_option maxRecDepth 100000 in
/-- print: no such subject -/
theorem t_Lk_print (l : Launch) (hfl : l.flags = flags0) (D : va_G) (kA : Nat → ClassId) (kS : Nat → Nat) (sz : Nat) (h0 : Nat) (r q : Nat → Nat) (fp : Int32) (z vs : Nat → Int32) (x y : Int32) (h1 : x < 0 ∨ ¬ x < 4) : xt_Met l y_Lk_print w_Lk_print { frames := 7, cells := 1, slots := 6, locals := 102 } (xPre D vC (tK kA) kS [.ref h0, .int x, .int y] ([oLk h0 r fp 0, oSc (r 7) q z, (q 10, .inl (kA 1, 4, .inl vs))]) sz) (xt_Q "java/lang/IndexOutOfBoundsException" (fun _ : Unit => True) (xB D vC (tK kA) (fun _ => [oLk h0 r fp 0, oSc (r 7) q z, (q 10, .inl (kA 1, 4, .inl vs))]) (va_A ([oLk h0 r fp 0, oSc (r 7) q z, (q 10, .inl (kA 1, 4, .inl vs))]) sz)) (va_A ([oLk h0 r fp 0, oSc (r 7) q z, (q 10, .inl (kA 1, 4, .inl vs))]) sz)) 1 6 (va_A ([oLk h0 r fp 0, oSc (r 7) q z, (q 10, .inl (kA 1, 4, .inl vs))]) sz) := by
  refine xt_ofW (cc := b_Lk_print) (maxL := 3) (ret := (some .long)) (by decide) rfl ?_
  intro p e s m args below meth c s₁ B hml hemp hv
  obtain ⟨rfl, hsz, hP, hK, hD0, hN, hC⟩ := hv
  have hx := B.exec
  have hb := B.bytes
  have hts := atoms_spec (ws := w_Lk_print) B.pre
  have hg : ∀ w ∈ gW, w.before _ s = true := fun w h => hts w (List.mem_cons_of_mem _ h)
  have hown : s.vm.findClass R_Lk = some m.cls := findClass_of_methodNamed B.named
  have hlocks := B.notSynchronized
  subst hsz
  have hD := hD0.self (sz := s.heap.size)
  generalize hAe : va_A ([oLk h0 r fp 0, oSc (r 7) q z, (q 10, .inl (kA 1, 4, .inl vs))]) s.heap.size = A at hD hC ⊢
  have hA : ∀ q : Nat, s.heap.size ≤ q → A q := fun q h => by rw [← hAe]; exact Or.inr h
  have hS : va_S A s.heap s.heap [] := va_S.rf
  have hP : va_P D vC [(h0, .inr (11, [.ref (r 0), .ref (r 1), .ref (r 2), .ref (r 3), .ref (r 4), .ref (r 5), .ref (r 6), .ref (r 7), .ref (r 8), .ref (r 9), .ref (r 10), .ref (r 11), .ref (r 12), .ref (r 13), .ref (r 14), .int fp, .int 0])), (r 7, .inr (2, [.ref (q 0), .ref (q 1), .ref (q 2), .ref (q 3), .ref (q 4), .ref (q 5), .ref (q 6), .ref (q 7), .ref (q 8), .ref (q 9), .ref (q 10), .int (z 11), .ref (q 12), .ref (q 13), .int (z 14), .int (z 15), .int (z 16), .int (z 17)])), (q 10, .inl (kA 1, 4, .inl vs))] s.heap := hP
  have hD : va_D A [(h0, .inr (11, [.ref (r 0), .ref (r 1), .ref (r 2), .ref (r 3), .ref (r 4), .ref (r 5), .ref (r 6), .ref (r 7), .ref (r 8), .ref (r 9), .ref (r 10), .ref (r 11), .ref (r 12), .ref (r 13), .ref (r 14), .int fp, .int 0])), (r 7, .inr (2, [.ref (q 0), .ref (q 1), .ref (q 2), .ref (q 3), .ref (q 4), .ref (q 5), .ref (q 6), .ref (q 7), .ref (q 8), .ref (q 9), .ref (q 10), .int (z 11), .ref (q 12), .ref (q 13), .int (z 14), .int (z 15), .int (z 16), .int (z 17)])), (q 10, .inl (kA 1, 4, .inl vs))] := hD
  have hl := lv_entry ([.ref h0, .int x, .int y]) (n := 3) (Nat.le_of_ble_eq_true rfl)
  rw [lg_entry_eq]
  generalize (lg_sl ([.ref h0, .int x, .int y]) ++ List.replicate (3 - (lg_sl ([.ref h0, .int x, .int y])).length) Slot.unset).toArray = ls at hl ⊢
  have hl : lv_has ls 3 [(0, .ref h0), (1, .int x), (2, .int y)] := hl
  refine lv_iload_n hx hb d_Lk_print_0 rfl (lv_at hl 1 rfl) ?_
  exact xc_o (wr := [(h0, .inr (11, [.ref (r 0), .ref (r 1), .ref (r 2), .ref (r 3), .ref (r 4), .ref (r 5), .ref (r 6), .ref (r 7), .ref (r 8), .ref (r 9), .ref (r 10), .ref (r 11), .ref (r 12), .ref (r 13), .ref (r 14), .int fp, .int 0])), (r 7, .inr (2, [.ref (q 0), .ref (q 1), .ref (q 2), .ref (q 3), .ref (q 4), .ref (q 5), .ref (q 6), .ref (q 7), .ref (q 8), .ref (q 9), .ref (q 10), .int (z 11), .ref (q 12), .ref (q 13), .int (z 14), .int (z 15), .int (z 16), .int (z 17)])), (q 10, .inl (kA 1, 4, .inl vs))]) (xt_runS (As := [.int x]) (rest := []) ⟨hx, hb, hml, hown, hg⟩ (t_Lk_needSubject l hfl D kA kS s.heap.size x h1) (cwS 1 hg (xg_S mw_1077 mw_1078 mw_1 mw_1079) rfl rfl rfl (by decide +kernel) ⟨Nat.le_of_ble_eq_true rfl, Nat.le_of_ble_eq_true rfl⟩) (xc_pre hK hN hC hP hD hS hA [] (by decide) rfl) rfl rfl hl.1 rfl (lv_room (Nat.le_of_ble_eq_true rfl)) d_Lk_print_1 ⟨Nat.le_of_ble_eq_true rfl, Nat.le_of_ble_eq_true rfl⟩) hK hP hD hS hA [] [0, 1, 2] rfl rfl (by decide) (by decide) hemp hlocks (fun q h => h) (fun u _ => ⟨(), trivial, fun H1 hP1 hD1 => ⟨hP1.sub [0, 1, 2] rfl, hD1.sub [0, 1, 2] (by decide) rfl⟩⟩)

set_option maxHeartbeats 4000000 in
set_option maxRecDepth 100000 in
/-- print: no such version -/
theorem t_Lk_print2 (l : Launch) (hfl : l.flags = flags0) (D : va_G) (kA : Nat → ClassId) (kS : Nat → Nat) (sz : Nat) (h0 : Nat) (r q : Nat → Nat) (fp : Int32) (z vs : Nat → Int32) (k : Nat) (hk : k < 4) (y : Int32) (h1 : y < 0 ∨ ¬ y < vs k) : xt_Met l y_Lk_print w_Lk_print { frames := 7, cells := 1, slots := 6, locals := 104 } (xPre D vC (tK kA) kS [.ref h0, .int (nI k), .int y] ([oLk h0 r fp 0, oSc (r 7) q z, (q 10, .inl (kA 1, 4, .inl vs))]) sz) (xt_Q "java/lang/IndexOutOfBoundsException" (fun _ : Unit => True) (xB D vC (tK kA) (fun _ => [oLk h0 r fp 0, oSc (r 7) q z, (q 10, .inl (kA 1, 4, .inl vs))]) (va_A ([oLk h0 r fp 0, oSc (r 7) q z, (q 10, .inl (kA 1, 4, .inl vs))]) sz)) (va_A ([oLk h0 r fp 0, oSc (r 7) q z, (q 10, .inl (kA 1, 4, .inl vs))]) sz)) 1 6 (va_A ([oLk h0 r fp 0, oSc (r 7) q z, (q 10, .inl (kA 1, 4, .inl vs))]) sz) := by
  refine xt_ofW (cc := b_Lk_print) (maxL := 3) (ret := (some .long)) (by decide) rfl ?_
  intro p e s m args below meth c s₁ B hml hemp hv
  obtain ⟨rfl, hsz, hP, hK, hD0, hN, hC⟩ := hv
  have hx := B.exec
  have hb := B.bytes
  have hts := atoms_spec (ws := w_Lk_print) B.pre
  have hg : ∀ w ∈ gW, w.before _ s = true := fun w h => hts w (List.mem_cons_of_mem _ h)
  have hown : s.vm.findClass R_Lk = some m.cls := findClass_of_methodNamed B.named
  have hlocks := B.notSynchronized
  subst hsz
  have hD := hD0.self (sz := s.heap.size)
  generalize hAe : va_A ([oLk h0 r fp 0, oSc (r 7) q z, (q 10, .inl (kA 1, 4, .inl vs))]) s.heap.size = A at hD hC ⊢
  have hA : ∀ q : Nat, s.heap.size ≤ q → A q := fun q h => by rw [← hAe]; exact Or.inr h
  have hS : va_S A s.heap s.heap [] := va_S.rf
  have hP : va_P D vC [(h0, .inr (11, [.ref (r 0), .ref (r 1), .ref (r 2), .ref (r 3), .ref (r 4), .ref (r 5), .ref (r 6), .ref (r 7), .ref (r 8), .ref (r 9), .ref (r 10), .ref (r 11), .ref (r 12), .ref (r 13), .ref (r 14), .int fp, .int 0])), (r 7, .inr (2, [.ref (q 0), .ref (q 1), .ref (q 2), .ref (q 3), .ref (q 4), .ref (q 5), .ref (q 6), .ref (q 7), .ref (q 8), .ref (q 9), .ref (q 10), .int (z 11), .ref (q 12), .ref (q 13), .int (z 14), .int (z 15), .int (z 16), .int (z 17)])), (q 10, .inl (kA 1, 4, .inl vs))] s.heap := hP
  have hD : va_D A [(h0, .inr (11, [.ref (r 0), .ref (r 1), .ref (r 2), .ref (r 3), .ref (r 4), .ref (r 5), .ref (r 6), .ref (r 7), .ref (r 8), .ref (r 9), .ref (r 10), .ref (r 11), .ref (r 12), .ref (r 13), .ref (r 14), .int fp, .int 0])), (r 7, .inr (2, [.ref (q 0), .ref (q 1), .ref (q 2), .ref (q 3), .ref (q 4), .ref (q 5), .ref (q 6), .ref (q 7), .ref (q 8), .ref (q 9), .ref (q 10), .int (z 11), .ref (q 12), .ref (q 13), .int (z 14), .int (z 15), .int (z 16), .int (z 17)])), (q 10, .inl (kA 1, 4, .inl vs))] := hD
  have hl := lv_entry ([.ref h0, .int (nI k), .int y]) (n := 3) (Nat.le_of_ble_eq_true rfl)
  rw [lg_entry_eq]
  generalize (lg_sl ([.ref h0, .int (nI k), .int y]) ++ List.replicate (3 - (lg_sl ([.ref h0, .int (nI k), .int y])).length) Slot.unset).toArray = ls at hl ⊢
  have hl : lv_has ls 3 [(0, .ref h0), (1, .int (nI k)), (2, .int y)] := hl
  refine lv_iload_n hx hb d_Lk_print_0 rfl (lv_at hl 1 rfl) ?_
  refine xc_pv (va_runS (As := [.int (nI k)]) (rest := []) ⟨hx, hb, hml, hown, hg⟩ (p_Lk_needSubject l D kA kS s.heap.size (nI k) (nI_pos (by omega)) (by rcases (show k = 0 ∨ k = 1 ∨ k = 2 ∨ k = 3 by omega) with rfl | rfl | rfl | rfl <;> decide)) (cwS 1 hg (xg_S mw_1077 mw_1078 mw_1 mw_1079) rfl rfl rfl (by decide +kernel) ⟨Nat.le_of_ble_eq_true rfl, Nat.le_of_ble_eq_true rfl⟩) (xc_pre hK hN hC hP hD hS hA [] (by decide) rfl) rfl rfl hl.1 rfl (lv_room (Nat.le_of_ble_eq_true rfl)) d_Lk_print_1 ⟨Nat.le_of_ble_eq_true rfl, Nat.le_of_ble_eq_true rfl⟩) ?_
  refine lv_aload_n hx hb d_Lk_print_4 rfl (lv_at hl 0 rfl) ?_
  refine va_get (D := D) (ci := 11) (v := .int 0) (C := R_Lk) (T := F_Lk) (N := 17) hx hb hg i_Lk hown hK hP 0 rfl rfl 16 (by decide) (hg _ mw_499) (fun _ h9 => h9) rfl d_Lk_print_5 ?_
  refine lv_if_eq (tgt := 13) hx hb d_Lk_print_8 (by decide) (fun c_8 => ?_) (fun c_8 => ?_)
  · skip
    refine lv_aload_n hx hb d_Lk_print_13 rfl (lv_at hl 0 rfl) ?_
    refine lv_iload_n hx hb d_Lk_print_14 rfl (lv_at hl 1 rfl) ?_
    refine lv_iload_n hx hb d_Lk_print_15 rfl (lv_at hl 2 rfl) ?_
    exact xc_o (wr := []) (xt_runV (As := [.int (nI k), .int y]) (rest := []) ⟨hx, hb, hml, hown, hg⟩ (t_Lk_needVersion l hfl D kA kS s.heap.size h0 r q fp 0 z vs k y hk h1) (cwV 2 hg (xg_V mw_1230 mw_1232 ms_62 mw_1 mw_1233) rfl rfl rfl (by decide +kernel) ⟨Nat.le_of_ble_eq_true rfl, Nat.le_of_ble_eq_true rfl⟩) (xc_preV hK hN hC hP hD hS hA [0, 1, 2] (by decide) rfl 0 rfl rfl) rfl rfl hl.1 rfl (lv_room (Nat.le_of_ble_eq_true rfl)) d_Lk_print_16 ⟨Nat.le_of_ble_eq_true rfl, Nat.le_of_ble_eq_true rfl⟩) hK hP hD hS hA [0, 1, 2] [] rfl rfl (by decide) (by decide) hemp hlocks (fun q h => h) (fun u _ => ⟨(), trivial, fun H1 hP1 hD1 => ⟨hP1.sub [0, 1, 2] rfl, hD1.sub [0, 1, 2] (by decide) rfl⟩⟩)
  · skip
    exact absurd rfl c_8

set_option maxHeartbeats 4000000 in
set_option maxRecDepth 100000 in
/-- read: no such subject -/
theorem t_Lk_read (l : Launch) (hfl : l.flags = flags0) (D : va_G) (kA : Nat → ClassId) (kS : Nat → Nat) (sz : Nat) (h0 : Nat) (r q : Nat → Nat) (fp : Int32) (z vs : Nat → Int32) (x y i : Int32) (h1 : x < 0 ∨ ¬ x < 4) : xt_Met l y_Lk_read w_Lk_read { frames := 7, cells := 1, slots := 6, locals := 102 } (xPre D vC (tK kA) kS [.ref h0, .int x, .int y, .int i] ([oLk h0 r fp 0, oSc (r 7) q z, (q 10, .inl (kA 1, 4, .inl vs))]) sz) (xt_Q "java/lang/IndexOutOfBoundsException" (fun _ : Unit => True) (xB D vC (tK kA) (fun _ => [oLk h0 r fp 0, oSc (r 7) q z, (q 10, .inl (kA 1, 4, .inl vs))]) (va_A ([oLk h0 r fp 0, oSc (r 7) q z, (q 10, .inl (kA 1, 4, .inl vs))]) sz)) (va_A ([oLk h0 r fp 0, oSc (r 7) q z, (q 10, .inl (kA 1, 4, .inl vs))]) sz)) 1 6 (va_A ([oLk h0 r fp 0, oSc (r 7) q z, (q 10, .inl (kA 1, 4, .inl vs))]) sz) := by
  refine xt_ofW (cc := b_Lk_read) (maxL := 7) (ret := (some .int)) (by decide) rfl ?_
  intro p e s m args below meth c s₁ B hml hemp hv
  obtain ⟨rfl, hsz, hP, hK, hD0, hN, hC⟩ := hv
  have hx := B.exec
  have hb := B.bytes
  have hts := atoms_spec (ws := w_Lk_read) B.pre
  have hg : ∀ w ∈ gW, w.before _ s = true := fun w h => hts w (List.mem_cons_of_mem _ h)
  have hown : s.vm.findClass R_Lk = some m.cls := findClass_of_methodNamed B.named
  have hlocks := B.notSynchronized
  subst hsz
  have hD := hD0.self (sz := s.heap.size)
  generalize hAe : va_A ([oLk h0 r fp 0, oSc (r 7) q z, (q 10, .inl (kA 1, 4, .inl vs))]) s.heap.size = A at hD hC ⊢
  have hA : ∀ q : Nat, s.heap.size ≤ q → A q := fun q h => by rw [← hAe]; exact Or.inr h
  have hS : va_S A s.heap s.heap [] := va_S.rf
  have hP : va_P D vC [(h0, .inr (11, [.ref (r 0), .ref (r 1), .ref (r 2), .ref (r 3), .ref (r 4), .ref (r 5), .ref (r 6), .ref (r 7), .ref (r 8), .ref (r 9), .ref (r 10), .ref (r 11), .ref (r 12), .ref (r 13), .ref (r 14), .int fp, .int 0])), (r 7, .inr (2, [.ref (q 0), .ref (q 1), .ref (q 2), .ref (q 3), .ref (q 4), .ref (q 5), .ref (q 6), .ref (q 7), .ref (q 8), .ref (q 9), .ref (q 10), .int (z 11), .ref (q 12), .ref (q 13), .int (z 14), .int (z 15), .int (z 16), .int (z 17)])), (q 10, .inl (kA 1, 4, .inl vs))] s.heap := hP
  have hD : va_D A [(h0, .inr (11, [.ref (r 0), .ref (r 1), .ref (r 2), .ref (r 3), .ref (r 4), .ref (r 5), .ref (r 6), .ref (r 7), .ref (r 8), .ref (r 9), .ref (r 10), .ref (r 11), .ref (r 12), .ref (r 13), .ref (r 14), .int fp, .int 0])), (r 7, .inr (2, [.ref (q 0), .ref (q 1), .ref (q 2), .ref (q 3), .ref (q 4), .ref (q 5), .ref (q 6), .ref (q 7), .ref (q 8), .ref (q 9), .ref (q 10), .int (z 11), .ref (q 12), .ref (q 13), .int (z 14), .int (z 15), .int (z 16), .int (z 17)])), (q 10, .inl (kA 1, 4, .inl vs))] := hD
  have hl := lv_entry ([.ref h0, .int x, .int y, .int i]) (n := 7) (Nat.le_of_ble_eq_true rfl)
  rw [lg_entry_eq]
  generalize (lg_sl ([.ref h0, .int x, .int y, .int i]) ++ List.replicate (7 - (lg_sl ([.ref h0, .int x, .int y, .int i])).length) Slot.unset).toArray = ls at hl ⊢
  have hl : lv_has ls 7 [(0, .ref h0), (1, .int x), (2, .int y), (3, .int i)] := hl
  refine lv_iload_n hx hb d_Lk_read_0 rfl (lv_at hl 1 rfl) ?_
  exact xc_o (wr := [(h0, .inr (11, [.ref (r 0), .ref (r 1), .ref (r 2), .ref (r 3), .ref (r 4), .ref (r 5), .ref (r 6), .ref (r 7), .ref (r 8), .ref (r 9), .ref (r 10), .ref (r 11), .ref (r 12), .ref (r 13), .ref (r 14), .int fp, .int 0])), (r 7, .inr (2, [.ref (q 0), .ref (q 1), .ref (q 2), .ref (q 3), .ref (q 4), .ref (q 5), .ref (q 6), .ref (q 7), .ref (q 8), .ref (q 9), .ref (q 10), .int (z 11), .ref (q 12), .ref (q 13), .int (z 14), .int (z 15), .int (z 16), .int (z 17)])), (q 10, .inl (kA 1, 4, .inl vs))]) (xt_runS (As := [.int x]) (rest := []) ⟨hx, hb, hml, hown, hg⟩ (t_Lk_needSubject l hfl D kA kS s.heap.size x h1) (cwS 1 hg (xg_S mw_1077 mw_1078 mw_1 mw_1079) rfl rfl rfl (by decide +kernel) ⟨Nat.le_of_ble_eq_true rfl, Nat.le_of_ble_eq_true rfl⟩) (xc_pre hK hN hC hP hD hS hA [] (by decide) rfl) rfl rfl hl.1 rfl (lv_room (Nat.le_of_ble_eq_true rfl)) d_Lk_read_1 ⟨Nat.le_of_ble_eq_true rfl, Nat.le_of_ble_eq_true rfl⟩) hK hP hD hS hA [] [0, 1, 2] rfl rfl (by decide) (by decide) hemp hlocks (fun q h => h) (fun u _ => ⟨(), trivial, fun H1 hP1 hD1 => ⟨hP1.sub [0, 1, 2] rfl, hD1.sub [0, 1, 2] (by decide) rfl⟩⟩)

set_option maxHeartbeats 4000000 in
set_option maxRecDepth 100000 in
/-- read: no such version -/
theorem t_Lk_read2 (l : Launch) (hfl : l.flags = flags0) (D : va_G) (kA : Nat → ClassId) (kS : Nat → Nat) (sz : Nat) (h0 : Nat) (r q : Nat → Nat) (fp : Int32) (z vs : Nat → Int32) (k : Nat) (hk : k < 4) (y i : Int32) (h1 : y < 0 ∨ ¬ y < vs k) : xt_Met l y_Lk_read w_Lk_read { frames := 7, cells := 1, slots := 6, locals := 104 } (xPre D vC (tK kA) kS [.ref h0, .int (nI k), .int y, .int i] ([oLk h0 r fp 0, oSc (r 7) q z, (q 10, .inl (kA 1, 4, .inl vs))]) sz) (xt_Q "java/lang/IndexOutOfBoundsException" (fun _ : Unit => True) (xB D vC (tK kA) (fun _ => [oLk h0 r fp 0, oSc (r 7) q z, (q 10, .inl (kA 1, 4, .inl vs))]) (va_A ([oLk h0 r fp 0, oSc (r 7) q z, (q 10, .inl (kA 1, 4, .inl vs))]) sz)) (va_A ([oLk h0 r fp 0, oSc (r 7) q z, (q 10, .inl (kA 1, 4, .inl vs))]) sz)) 1 6 (va_A ([oLk h0 r fp 0, oSc (r 7) q z, (q 10, .inl (kA 1, 4, .inl vs))]) sz) := by
  refine xt_ofW (cc := b_Lk_read) (maxL := 7) (ret := (some .int)) (by decide) rfl ?_
  intro p e s m args below meth c s₁ B hml hemp hv
  obtain ⟨rfl, hsz, hP, hK, hD0, hN, hC⟩ := hv
  have hx := B.exec
  have hb := B.bytes
  have hts := atoms_spec (ws := w_Lk_read) B.pre
  have hg : ∀ w ∈ gW, w.before _ s = true := fun w h => hts w (List.mem_cons_of_mem _ h)
  have hown : s.vm.findClass R_Lk = some m.cls := findClass_of_methodNamed B.named
  have hlocks := B.notSynchronized
  subst hsz
  have hD := hD0.self (sz := s.heap.size)
  generalize hAe : va_A ([oLk h0 r fp 0, oSc (r 7) q z, (q 10, .inl (kA 1, 4, .inl vs))]) s.heap.size = A at hD hC ⊢
  have hA : ∀ q : Nat, s.heap.size ≤ q → A q := fun q h => by rw [← hAe]; exact Or.inr h
  have hS : va_S A s.heap s.heap [] := va_S.rf
  have hP : va_P D vC [(h0, .inr (11, [.ref (r 0), .ref (r 1), .ref (r 2), .ref (r 3), .ref (r 4), .ref (r 5), .ref (r 6), .ref (r 7), .ref (r 8), .ref (r 9), .ref (r 10), .ref (r 11), .ref (r 12), .ref (r 13), .ref (r 14), .int fp, .int 0])), (r 7, .inr (2, [.ref (q 0), .ref (q 1), .ref (q 2), .ref (q 3), .ref (q 4), .ref (q 5), .ref (q 6), .ref (q 7), .ref (q 8), .ref (q 9), .ref (q 10), .int (z 11), .ref (q 12), .ref (q 13), .int (z 14), .int (z 15), .int (z 16), .int (z 17)])), (q 10, .inl (kA 1, 4, .inl vs))] s.heap := hP
  have hD : va_D A [(h0, .inr (11, [.ref (r 0), .ref (r 1), .ref (r 2), .ref (r 3), .ref (r 4), .ref (r 5), .ref (r 6), .ref (r 7), .ref (r 8), .ref (r 9), .ref (r 10), .ref (r 11), .ref (r 12), .ref (r 13), .ref (r 14), .int fp, .int 0])), (r 7, .inr (2, [.ref (q 0), .ref (q 1), .ref (q 2), .ref (q 3), .ref (q 4), .ref (q 5), .ref (q 6), .ref (q 7), .ref (q 8), .ref (q 9), .ref (q 10), .int (z 11), .ref (q 12), .ref (q 13), .int (z 14), .int (z 15), .int (z 16), .int (z 17)])), (q 10, .inl (kA 1, 4, .inl vs))] := hD
  have hl := lv_entry ([.ref h0, .int (nI k), .int y, .int i]) (n := 7) (Nat.le_of_ble_eq_true rfl)
  rw [lg_entry_eq]
  generalize (lg_sl ([.ref h0, .int (nI k), .int y, .int i]) ++ List.replicate (7 - (lg_sl ([.ref h0, .int (nI k), .int y, .int i])).length) Slot.unset).toArray = ls at hl ⊢
  have hl : lv_has ls 7 [(0, .ref h0), (1, .int (nI k)), (2, .int y), (3, .int i)] := hl
  refine lv_iload_n hx hb d_Lk_read_0 rfl (lv_at hl 1 rfl) ?_
  refine xc_pv (va_runS (As := [.int (nI k)]) (rest := []) ⟨hx, hb, hml, hown, hg⟩ (p_Lk_needSubject l D kA kS s.heap.size (nI k) (nI_pos (by omega)) (by rcases (show k = 0 ∨ k = 1 ∨ k = 2 ∨ k = 3 by omega) with rfl | rfl | rfl | rfl <;> decide)) (cwS 1 hg (xg_S mw_1077 mw_1078 mw_1 mw_1079) rfl rfl rfl (by decide +kernel) ⟨Nat.le_of_ble_eq_true rfl, Nat.le_of_ble_eq_true rfl⟩) (xc_pre hK hN hC hP hD hS hA [] (by decide) rfl) rfl rfl hl.1 rfl (lv_room (Nat.le_of_ble_eq_true rfl)) d_Lk_read_1 ⟨Nat.le_of_ble_eq_true rfl, Nat.le_of_ble_eq_true rfl⟩) ?_
  refine lv_aload_n hx hb d_Lk_read_4 rfl (lv_at hl 0 rfl) ?_
  refine va_get (D := D) (ci := 11) (v := .int 0) (C := R_Lk) (T := F_Lk) (N := 17) hx hb hg i_Lk hown hK hP 0 rfl rfl 16 (by decide) (hg _ mw_499) (fun _ h9 => h9) rfl d_Lk_read_5 ?_
  refine lv_if_eq (tgt := 14) hx hb d_Lk_read_8 (by decide) (fun c_8 => ?_) (fun c_8 => ?_)
  · skip
    refine lv_aload_n hx hb d_Lk_read_14 rfl (lv_at hl 0 rfl) ?_
    refine lv_iload_n hx hb d_Lk_read_15 rfl (lv_at hl 1 rfl) ?_
    refine lv_iload_n hx hb d_Lk_read_16 rfl (lv_at hl 2 rfl) ?_
    exact xc_o (wr := []) (xt_runV (As := [.int (nI k), .int y]) (rest := []) ⟨hx, hb, hml, hown, hg⟩ (t_Lk_needVersion l hfl D kA kS s.heap.size h0 r q fp 0 z vs k y hk h1) (cwV 2 hg (xg_V mw_1230 mw_1232 ms_62 mw_1 mw_1233) rfl rfl rfl (by decide +kernel) ⟨Nat.le_of_ble_eq_true rfl, Nat.le_of_ble_eq_true rfl⟩) (xc_preV hK hN hC hP hD hS hA [0, 1, 2] (by decide) rfl 0 rfl rfl) rfl rfl hl.1 rfl (lv_room (Nat.le_of_ble_eq_true rfl)) d_Lk_read_17 ⟨Nat.le_of_ble_eq_true rfl, Nat.le_of_ble_eq_true rfl⟩) hK hP hD hS hA [0, 1, 2] [] rfl rfl (by decide) (by decide) hemp hlocks (fun q h => h) (fun u _ => ⟨(), trivial, fun H1 hP1 hD1 => ⟨hP1.sub [0, 1, 2] rfl, hD1.sub [0, 1, 2] (by decide) rfl⟩⟩)
  · skip
    exact absurd rfl c_8

set_option maxHeartbeats 4000000 in
set_option maxRecDepth 100000 in
/-- register: no such subject -/
theorem t_Lk_register (l : Launch) (hfl : l.flags = flags0) (D : va_G) (kA : Nat → ClassId) (kS : Nat → Nat) (sz : Nat) (h0 : Nat) (r : Nat → Nat) (fp dn x : Int32) (h1 : x < 0 ∨ ¬ x < 4) : xt_Met l y_Lk_register w_Lk_register { frames := 7, cells := 1, slots := 6, locals := 102 } (xPre D vC (tK kA) kS [.ref h0, .int x] ([oLk h0 r fp dn]) sz) (xt_Q "java/lang/IndexOutOfBoundsException" (fun _ : Unit => True) (xB D vC (tK kA) (fun _ => [oLk h0 r fp dn]) (va_A ([oLk h0 r fp dn]) sz)) (va_A ([oLk h0 r fp dn]) sz)) 1 6 (va_A ([oLk h0 r fp dn]) sz) := by
  refine xt_ofW (cc := b_Lk_register) (maxL := 4) (ret := (some .int)) (by decide) rfl ?_
  intro p e s m args below meth c s₁ B hml hemp hv
  obtain ⟨rfl, hsz, hP, hK, hD0, hN, hC⟩ := hv
  have hx := B.exec
  have hb := B.bytes
  have hts := atoms_spec (ws := w_Lk_register) B.pre
  have hg : ∀ w ∈ gW, w.before _ s = true := fun w h => hts w (List.mem_cons_of_mem _ h)
  have hown : s.vm.findClass R_Lk = some m.cls := findClass_of_methodNamed B.named
  have hlocks := B.notSynchronized
  subst hsz
  have hD := hD0.self (sz := s.heap.size)
  generalize hAe : va_A ([oLk h0 r fp dn]) s.heap.size = A at hD hC ⊢
  have hA : ∀ q : Nat, s.heap.size ≤ q → A q := fun q h => by rw [← hAe]; exact Or.inr h
  have hS : va_S A s.heap s.heap [] := va_S.rf
  have hP : va_P D vC [(h0, .inr (11, [.ref (r 0), .ref (r 1), .ref (r 2), .ref (r 3), .ref (r 4), .ref (r 5), .ref (r 6), .ref (r 7), .ref (r 8), .ref (r 9), .ref (r 10), .ref (r 11), .ref (r 12), .ref (r 13), .ref (r 14), .int fp, .int dn]))] s.heap := hP
  have hD : va_D A [(h0, .inr (11, [.ref (r 0), .ref (r 1), .ref (r 2), .ref (r 3), .ref (r 4), .ref (r 5), .ref (r 6), .ref (r 7), .ref (r 8), .ref (r 9), .ref (r 10), .ref (r 11), .ref (r 12), .ref (r 13), .ref (r 14), .int fp, .int dn]))] := hD
  have hl := lv_entry ([.ref h0, .int x]) (n := 4) (Nat.le_of_ble_eq_true rfl)
  rw [lg_entry_eq]
  generalize (lg_sl ([.ref h0, .int x]) ++ List.replicate (4 - (lg_sl ([.ref h0, .int x])).length) Slot.unset).toArray = ls at hl ⊢
  have hl : lv_has ls 4 [(0, .ref h0), (1, .int x)] := hl
  refine lv_iload_n hx hb d_Lk_register_0 rfl (lv_at hl 1 rfl) ?_
  exact xc_o (wr := [(h0, .inr (11, [.ref (r 0), .ref (r 1), .ref (r 2), .ref (r 3), .ref (r 4), .ref (r 5), .ref (r 6), .ref (r 7), .ref (r 8), .ref (r 9), .ref (r 10), .ref (r 11), .ref (r 12), .ref (r 13), .ref (r 14), .int fp, .int dn]))]) (xt_runS (As := [.int x]) (rest := []) ⟨hx, hb, hml, hown, hg⟩ (t_Lk_needSubject l hfl D kA kS s.heap.size x h1) (cwS 1 hg (xg_S mw_1077 mw_1078 mw_1 mw_1079) rfl rfl rfl (by decide +kernel) ⟨Nat.le_of_ble_eq_true rfl, Nat.le_of_ble_eq_true rfl⟩) (xc_pre hK hN hC hP hD hS hA [] (by decide) rfl) rfl rfl hl.1 rfl (lv_room (Nat.le_of_ble_eq_true rfl)) d_Lk_register_1 ⟨Nat.le_of_ble_eq_true rfl, Nat.le_of_ble_eq_true rfl⟩) hK hP hD hS hA [] [0] rfl rfl (by decide) (by decide) hemp hlocks (fun q h => h) (fun u _ => ⟨(), trivial, fun H1 hP1 hD1 => ⟨hP1.sub [0] rfl, hD1.sub [0] (by decide) rfl⟩⟩)

set_option maxHeartbeats 4000000 in
set_option maxRecDepth 100000 in
/-- copy: no such subject -/
theorem t_Lk_copy (l : Launch) (hfl : l.flags = flags0) (D : va_G) (kA : Nat → ClassId) (kS : Nat → Nat) (sz : Nat) (h0 : Nat) (r q : Nat → Nat) (fp : Int32) (z vs : Nat → Int32) (x y v : Int32) (h1 : x < 0 ∨ ¬ x < 4) : xt_Met l y_Lk_copy w_Lk_copy { frames := 7, cells := 1, slots := 6, locals := 102 } (xPre D vC (tK kA) kS [.ref h0, .int x, .int y, .int v] ([oLk h0 r fp 0, oSc (r 7) q z, (q 10, .inl (kA 1, 4, .inl vs))]) sz) (xt_Q "java/lang/IndexOutOfBoundsException" (fun _ : Unit => True) (xB D vC (tK kA) (fun _ => [oLk h0 r fp 0, oSc (r 7) q z, (q 10, .inl (kA 1, 4, .inl vs))]) (va_A ([oLk h0 r fp 0, oSc (r 7) q z, (q 10, .inl (kA 1, 4, .inl vs))]) sz)) (va_A ([oLk h0 r fp 0, oSc (r 7) q z, (q 10, .inl (kA 1, 4, .inl vs))]) sz)) 1 6 (va_A ([oLk h0 r fp 0, oSc (r 7) q z, (q 10, .inl (kA 1, 4, .inl vs))]) sz) := by
  refine xt_ofW (cc := b_Lk_copy) (maxL := 6) (ret := (some .int)) (by decide) rfl ?_
  intro p e s m args below meth c s₁ B hml hemp hv
  obtain ⟨rfl, hsz, hP, hK, hD0, hN, hC⟩ := hv
  have hx := B.exec
  have hb := B.bytes
  have hts := atoms_spec (ws := w_Lk_copy) B.pre
  have hg : ∀ w ∈ gW, w.before _ s = true := fun w h => hts w (List.mem_cons_of_mem _ h)
  have hown : s.vm.findClass R_Lk = some m.cls := findClass_of_methodNamed B.named
  have hlocks := B.notSynchronized
  subst hsz
  have hD := hD0.self (sz := s.heap.size)
  generalize hAe : va_A ([oLk h0 r fp 0, oSc (r 7) q z, (q 10, .inl (kA 1, 4, .inl vs))]) s.heap.size = A at hD hC ⊢
  have hA : ∀ q : Nat, s.heap.size ≤ q → A q := fun q h => by rw [← hAe]; exact Or.inr h
  have hS : va_S A s.heap s.heap [] := va_S.rf
  have hP : va_P D vC [(h0, .inr (11, [.ref (r 0), .ref (r 1), .ref (r 2), .ref (r 3), .ref (r 4), .ref (r 5), .ref (r 6), .ref (r 7), .ref (r 8), .ref (r 9), .ref (r 10), .ref (r 11), .ref (r 12), .ref (r 13), .ref (r 14), .int fp, .int 0])), (r 7, .inr (2, [.ref (q 0), .ref (q 1), .ref (q 2), .ref (q 3), .ref (q 4), .ref (q 5), .ref (q 6), .ref (q 7), .ref (q 8), .ref (q 9), .ref (q 10), .int (z 11), .ref (q 12), .ref (q 13), .int (z 14), .int (z 15), .int (z 16), .int (z 17)])), (q 10, .inl (kA 1, 4, .inl vs))] s.heap := hP
  have hD : va_D A [(h0, .inr (11, [.ref (r 0), .ref (r 1), .ref (r 2), .ref (r 3), .ref (r 4), .ref (r 5), .ref (r 6), .ref (r 7), .ref (r 8), .ref (r 9), .ref (r 10), .ref (r 11), .ref (r 12), .ref (r 13), .ref (r 14), .int fp, .int 0])), (r 7, .inr (2, [.ref (q 0), .ref (q 1), .ref (q 2), .ref (q 3), .ref (q 4), .ref (q 5), .ref (q 6), .ref (q 7), .ref (q 8), .ref (q 9), .ref (q 10), .int (z 11), .ref (q 12), .ref (q 13), .int (z 14), .int (z 15), .int (z 16), .int (z 17)])), (q 10, .inl (kA 1, 4, .inl vs))] := hD
  have hl := lv_entry ([.ref h0, .int x, .int y, .int v]) (n := 6) (Nat.le_of_ble_eq_true rfl)
  rw [lg_entry_eq]
  generalize (lg_sl ([.ref h0, .int x, .int y, .int v]) ++ List.replicate (6 - (lg_sl ([.ref h0, .int x, .int y, .int v])).length) Slot.unset).toArray = ls at hl ⊢
  have hl : lv_has ls 6 [(0, .ref h0), (1, .int x), (2, .int y), (3, .int v)] := hl
  refine lv_iload_n hx hb d_Lk_copy_0 rfl (lv_at hl 1 rfl) ?_
  exact xc_o (wr := [(h0, .inr (11, [.ref (r 0), .ref (r 1), .ref (r 2), .ref (r 3), .ref (r 4), .ref (r 5), .ref (r 6), .ref (r 7), .ref (r 8), .ref (r 9), .ref (r 10), .ref (r 11), .ref (r 12), .ref (r 13), .ref (r 14), .int fp, .int 0])), (r 7, .inr (2, [.ref (q 0), .ref (q 1), .ref (q 2), .ref (q 3), .ref (q 4), .ref (q 5), .ref (q 6), .ref (q 7), .ref (q 8), .ref (q 9), .ref (q 10), .int (z 11), .ref (q 12), .ref (q 13), .int (z 14), .int (z 15), .int (z 16), .int (z 17)])), (q 10, .inl (kA 1, 4, .inl vs))]) (xt_runS (As := [.int x]) (rest := []) ⟨hx, hb, hml, hown, hg⟩ (t_Lk_needSubject l hfl D kA kS s.heap.size x h1) (cwS 1 hg (xg_S mw_1077 mw_1078 mw_1 mw_1079) rfl rfl rfl (by decide +kernel) ⟨Nat.le_of_ble_eq_true rfl, Nat.le_of_ble_eq_true rfl⟩) (xc_pre hK hN hC hP hD hS hA [] (by decide) rfl) rfl rfl hl.1 rfl (lv_room (Nat.le_of_ble_eq_true rfl)) d_Lk_copy_1 ⟨Nat.le_of_ble_eq_true rfl, Nat.le_of_ble_eq_true rfl⟩) hK hP hD hS hA [] [0, 1, 2] rfl rfl (by decide) (by decide) hemp hlocks (fun q h => h) (fun u _ => ⟨(), trivial, fun H1 hP1 hD1 => ⟨hP1.sub [0, 1, 2] rfl, hD1.sub [0, 1, 2] (by decide) rfl⟩⟩)

set_option maxHeartbeats 4000000 in
set_option maxRecDepth 100000 in
/-- copy: no such other -/
theorem t_Lk_copy2 (l : Launch) (hfl : l.flags = flags0) (D : va_G) (kA : Nat → ClassId) (kS : Nat → Nat) (sz : Nat) (h0 : Nat) (r q : Nat → Nat) (fp : Int32) (z vs : Nat → Int32) (x y v : Int32) (hx1 : ¬ x < 0) (hx2 : x < 4) (h1 : y < 0 ∨ ¬ y < 4) : xt_Met l y_Lk_copy w_Lk_copy { frames := 7, cells := 1, slots := 6, locals := 102 } (xPre D vC (tK kA) kS [.ref h0, .int x, .int y, .int v] ([oLk h0 r fp 0, oSc (r 7) q z, (q 10, .inl (kA 1, 4, .inl vs))]) sz) (xt_Q "java/lang/IndexOutOfBoundsException" (fun _ : Unit => True) (xB D vC (tK kA) (fun _ => [oLk h0 r fp 0, oSc (r 7) q z, (q 10, .inl (kA 1, 4, .inl vs))]) (va_A ([oLk h0 r fp 0, oSc (r 7) q z, (q 10, .inl (kA 1, 4, .inl vs))]) sz)) (va_A ([oLk h0 r fp 0, oSc (r 7) q z, (q 10, .inl (kA 1, 4, .inl vs))]) sz)) 1 6 (va_A ([oLk h0 r fp 0, oSc (r 7) q z, (q 10, .inl (kA 1, 4, .inl vs))]) sz) := by
  refine xt_ofW (cc := b_Lk_copy) (maxL := 6) (ret := (some .int)) (by decide) rfl ?_
  intro p e s m args below meth c s₁ B hml hemp hv
  obtain ⟨rfl, hsz, hP, hK, hD0, hN, hC⟩ := hv
  have hx := B.exec
  have hb := B.bytes
  have hts := atoms_spec (ws := w_Lk_copy) B.pre
  have hg : ∀ w ∈ gW, w.before _ s = true := fun w h => hts w (List.mem_cons_of_mem _ h)
  have hown : s.vm.findClass R_Lk = some m.cls := findClass_of_methodNamed B.named
  have hlocks := B.notSynchronized
  subst hsz
  have hD := hD0.self (sz := s.heap.size)
  generalize hAe : va_A ([oLk h0 r fp 0, oSc (r 7) q z, (q 10, .inl (kA 1, 4, .inl vs))]) s.heap.size = A at hD hC ⊢
  have hA : ∀ q : Nat, s.heap.size ≤ q → A q := fun q h => by rw [← hAe]; exact Or.inr h
  have hS : va_S A s.heap s.heap [] := va_S.rf
  have hP : va_P D vC [(h0, .inr (11, [.ref (r 0), .ref (r 1), .ref (r 2), .ref (r 3), .ref (r 4), .ref (r 5), .ref (r 6), .ref (r 7), .ref (r 8), .ref (r 9), .ref (r 10), .ref (r 11), .ref (r 12), .ref (r 13), .ref (r 14), .int fp, .int 0])), (r 7, .inr (2, [.ref (q 0), .ref (q 1), .ref (q 2), .ref (q 3), .ref (q 4), .ref (q 5), .ref (q 6), .ref (q 7), .ref (q 8), .ref (q 9), .ref (q 10), .int (z 11), .ref (q 12), .ref (q 13), .int (z 14), .int (z 15), .int (z 16), .int (z 17)])), (q 10, .inl (kA 1, 4, .inl vs))] s.heap := hP
  have hD : va_D A [(h0, .inr (11, [.ref (r 0), .ref (r 1), .ref (r 2), .ref (r 3), .ref (r 4), .ref (r 5), .ref (r 6), .ref (r 7), .ref (r 8), .ref (r 9), .ref (r 10), .ref (r 11), .ref (r 12), .ref (r 13), .ref (r 14), .int fp, .int 0])), (r 7, .inr (2, [.ref (q 0), .ref (q 1), .ref (q 2), .ref (q 3), .ref (q 4), .ref (q 5), .ref (q 6), .ref (q 7), .ref (q 8), .ref (q 9), .ref (q 10), .int (z 11), .ref (q 12), .ref (q 13), .int (z 14), .int (z 15), .int (z 16), .int (z 17)])), (q 10, .inl (kA 1, 4, .inl vs))] := hD
  have hl := lv_entry ([.ref h0, .int x, .int y, .int v]) (n := 6) (Nat.le_of_ble_eq_true rfl)
  rw [lg_entry_eq]
  generalize (lg_sl ([.ref h0, .int x, .int y, .int v]) ++ List.replicate (6 - (lg_sl ([.ref h0, .int x, .int y, .int v])).length) Slot.unset).toArray = ls at hl ⊢
  have hl : lv_has ls 6 [(0, .ref h0), (1, .int x), (2, .int y), (3, .int v)] := hl
  refine lv_iload_n hx hb d_Lk_copy_0 rfl (lv_at hl 1 rfl) ?_
  refine xc_pv (va_runS (As := [.int x]) (rest := []) ⟨hx, hb, hml, hown, hg⟩ (p_Lk_needSubject l D kA kS s.heap.size x hx1 hx2) (cwS 1 hg (xg_S mw_1077 mw_1078 mw_1 mw_1079) rfl rfl rfl (by decide +kernel) ⟨Nat.le_of_ble_eq_true rfl, Nat.le_of_ble_eq_true rfl⟩) (xc_pre hK hN hC hP hD hS hA [] (by decide) rfl) rfl rfl hl.1 rfl (lv_room (Nat.le_of_ble_eq_true rfl)) d_Lk_copy_1 ⟨Nat.le_of_ble_eq_true rfl, Nat.le_of_ble_eq_true rfl⟩) ?_
  refine lv_iload_n hx hb d_Lk_copy_4 rfl (lv_at hl 2 rfl) ?_
  exact xc_o (wr := [(h0, .inr (11, [.ref (r 0), .ref (r 1), .ref (r 2), .ref (r 3), .ref (r 4), .ref (r 5), .ref (r 6), .ref (r 7), .ref (r 8), .ref (r 9), .ref (r 10), .ref (r 11), .ref (r 12), .ref (r 13), .ref (r 14), .int fp, .int 0])), (r 7, .inr (2, [.ref (q 0), .ref (q 1), .ref (q 2), .ref (q 3), .ref (q 4), .ref (q 5), .ref (q 6), .ref (q 7), .ref (q 8), .ref (q 9), .ref (q 10), .int (z 11), .ref (q 12), .ref (q 13), .int (z 14), .int (z 15), .int (z 16), .int (z 17)])), (q 10, .inl (kA 1, 4, .inl vs))]) (xt_runS (As := [.int y]) (rest := []) ⟨hx, hb, hml, hown, hg⟩ (t_Lk_needSubject l hfl D kA kS s.heap.size y h1) (cwS 1 hg (xg_S mw_1077 mw_1078 mw_1 mw_1079) rfl rfl rfl (by decide +kernel) ⟨Nat.le_of_ble_eq_true rfl, Nat.le_of_ble_eq_true rfl⟩) (xc_pre hK hN hC hP hD hS hA [] (by decide) rfl) rfl rfl hl.1 rfl (lv_room (Nat.le_of_ble_eq_true rfl)) d_Lk_copy_5 ⟨Nat.le_of_ble_eq_true rfl, Nat.le_of_ble_eq_true rfl⟩) hK hP hD hS hA [] [0, 1, 2] rfl rfl (by decide) (by decide) hemp hlocks (fun q h => h) (fun u _ => ⟨(), trivial, fun H1 hP1 hD1 => ⟨hP1.sub [0, 1, 2] rfl, hD1.sub [0, 1, 2] (by decide) rfl⟩⟩)

set_option maxHeartbeats 4000000 in
set_option maxRecDepth 100000 in
/-- copy: no such version -/
theorem t_Lk_copy3 (l : Launch) (hfl : l.flags = flags0) (D : va_G) (kA : Nat → ClassId) (kS : Nat → Nat) (sz : Nat) (h0 : Nat) (r q : Nat → Nat) (fp : Int32) (z vs : Nat → Int32) (x v : Int32) (hx1 : ¬ x < 0) (hx2 : x < 4) (k : Nat) (hk : k < 4) (h1 : v < 0 ∨ ¬ v < vs k) : xt_Met l y_Lk_copy w_Lk_copy { frames := 7, cells := 1, slots := 6, locals := 104 } (xPre D vC (tK kA) kS [.ref h0, .int x, .int (nI k), .int v] ([oLk h0 r fp 0, oSc (r 7) q z, (q 10, .inl (kA 1, 4, .inl vs))]) sz) (xt_Q "java/lang/IndexOutOfBoundsException" (fun _ : Unit => True) (xB D vC (tK kA) (fun _ => [oLk h0 r fp 0, oSc (r 7) q z, (q 10, .inl (kA 1, 4, .inl vs))]) (va_A ([oLk h0 r fp 0, oSc (r 7) q z, (q 10, .inl (kA 1, 4, .inl vs))]) sz)) (va_A ([oLk h0 r fp 0, oSc (r 7) q z, (q 10, .inl (kA 1, 4, .inl vs))]) sz)) 1 6 (va_A ([oLk h0 r fp 0, oSc (r 7) q z, (q 10, .inl (kA 1, 4, .inl vs))]) sz) := by
  refine xt_ofW (cc := b_Lk_copy) (maxL := 6) (ret := (some .int)) (by decide) rfl ?_
  intro p e s m args below meth c s₁ B hml hemp hv
  obtain ⟨rfl, hsz, hP, hK, hD0, hN, hC⟩ := hv
  have hx := B.exec
  have hb := B.bytes
  have hts := atoms_spec (ws := w_Lk_copy) B.pre
  have hg : ∀ w ∈ gW, w.before _ s = true := fun w h => hts w (List.mem_cons_of_mem _ h)
  have hown : s.vm.findClass R_Lk = some m.cls := findClass_of_methodNamed B.named
  have hlocks := B.notSynchronized
  subst hsz
  have hD := hD0.self (sz := s.heap.size)
  generalize hAe : va_A ([oLk h0 r fp 0, oSc (r 7) q z, (q 10, .inl (kA 1, 4, .inl vs))]) s.heap.size = A at hD hC ⊢
  have hA : ∀ q : Nat, s.heap.size ≤ q → A q := fun q h => by rw [← hAe]; exact Or.inr h
  have hS : va_S A s.heap s.heap [] := va_S.rf
  have hP : va_P D vC [(h0, .inr (11, [.ref (r 0), .ref (r 1), .ref (r 2), .ref (r 3), .ref (r 4), .ref (r 5), .ref (r 6), .ref (r 7), .ref (r 8), .ref (r 9), .ref (r 10), .ref (r 11), .ref (r 12), .ref (r 13), .ref (r 14), .int fp, .int 0])), (r 7, .inr (2, [.ref (q 0), .ref (q 1), .ref (q 2), .ref (q 3), .ref (q 4), .ref (q 5), .ref (q 6), .ref (q 7), .ref (q 8), .ref (q 9), .ref (q 10), .int (z 11), .ref (q 12), .ref (q 13), .int (z 14), .int (z 15), .int (z 16), .int (z 17)])), (q 10, .inl (kA 1, 4, .inl vs))] s.heap := hP
  have hD : va_D A [(h0, .inr (11, [.ref (r 0), .ref (r 1), .ref (r 2), .ref (r 3), .ref (r 4), .ref (r 5), .ref (r 6), .ref (r 7), .ref (r 8), .ref (r 9), .ref (r 10), .ref (r 11), .ref (r 12), .ref (r 13), .ref (r 14), .int fp, .int 0])), (r 7, .inr (2, [.ref (q 0), .ref (q 1), .ref (q 2), .ref (q 3), .ref (q 4), .ref (q 5), .ref (q 6), .ref (q 7), .ref (q 8), .ref (q 9), .ref (q 10), .int (z 11), .ref (q 12), .ref (q 13), .int (z 14), .int (z 15), .int (z 16), .int (z 17)])), (q 10, .inl (kA 1, 4, .inl vs))] := hD
  have hl := lv_entry ([.ref h0, .int x, .int (nI k), .int v]) (n := 6) (Nat.le_of_ble_eq_true rfl)
  rw [lg_entry_eq]
  generalize (lg_sl ([.ref h0, .int x, .int (nI k), .int v]) ++ List.replicate (6 - (lg_sl ([.ref h0, .int x, .int (nI k), .int v])).length) Slot.unset).toArray = ls at hl ⊢
  have hl : lv_has ls 6 [(0, .ref h0), (1, .int x), (2, .int (nI k)), (3, .int v)] := hl
  refine lv_iload_n hx hb d_Lk_copy_0 rfl (lv_at hl 1 rfl) ?_
  refine xc_pv (va_runS (As := [.int x]) (rest := []) ⟨hx, hb, hml, hown, hg⟩ (p_Lk_needSubject l D kA kS s.heap.size x hx1 hx2) (cwS 1 hg (xg_S mw_1077 mw_1078 mw_1 mw_1079) rfl rfl rfl (by decide +kernel) ⟨Nat.le_of_ble_eq_true rfl, Nat.le_of_ble_eq_true rfl⟩) (xc_pre hK hN hC hP hD hS hA [] (by decide) rfl) rfl rfl hl.1 rfl (lv_room (Nat.le_of_ble_eq_true rfl)) d_Lk_copy_1 ⟨Nat.le_of_ble_eq_true rfl, Nat.le_of_ble_eq_true rfl⟩) ?_
  refine lv_iload_n hx hb d_Lk_copy_4 rfl (lv_at hl 2 rfl) ?_
  refine xc_pv (va_runS (As := [.int (nI k)]) (rest := []) ⟨hx, hb, hml, hown, hg⟩ (p_Lk_needSubject l D kA kS s.heap.size (nI k) (nI_pos (by omega)) (by rcases (show k = 0 ∨ k = 1 ∨ k = 2 ∨ k = 3 by omega) with rfl | rfl | rfl | rfl <;> decide)) (cwS 1 hg (xg_S mw_1077 mw_1078 mw_1 mw_1079) rfl rfl rfl (by decide +kernel) ⟨Nat.le_of_ble_eq_true rfl, Nat.le_of_ble_eq_true rfl⟩) (xc_pre hK hN hC hP hD hS hA [] (by decide) rfl) rfl rfl hl.1 rfl (lv_room (Nat.le_of_ble_eq_true rfl)) d_Lk_copy_5 ⟨Nat.le_of_ble_eq_true rfl, Nat.le_of_ble_eq_true rfl⟩) ?_
  refine lv_aload_n hx hb d_Lk_copy_8 rfl (lv_at hl 0 rfl) ?_
  refine va_get (D := D) (ci := 11) (v := .int 0) (C := R_Lk) (T := F_Lk) (N := 17) hx hb hg i_Lk hown hK hP 0 rfl rfl 16 (by decide) (hg _ mw_499) (fun _ h9 => h9) rfl d_Lk_copy_9 ?_
  refine lv_if_eq (tgt := 18) hx hb d_Lk_copy_12 (by decide) (fun c_12 => ?_) (fun c_12 => ?_)
  · skip
    refine lv_aload_n hx hb d_Lk_copy_18 rfl (lv_at hl 0 rfl) ?_
    refine lv_iload_n hx hb d_Lk_copy_19 rfl (lv_at hl 2 rfl) ?_
    refine lv_iload_n hx hb d_Lk_copy_20 rfl (lv_at hl 3 rfl) ?_
    exact xc_o (wr := []) (xt_runV (As := [.int (nI k), .int v]) (rest := []) ⟨hx, hb, hml, hown, hg⟩ (t_Lk_needVersion l hfl D kA kS s.heap.size h0 r q fp 0 z vs k v hk h1) (cwV 2 hg (xg_V mw_1230 mw_1232 ms_62 mw_1 mw_1233) rfl rfl rfl (by decide +kernel) ⟨Nat.le_of_ble_eq_true rfl, Nat.le_of_ble_eq_true rfl⟩) (xc_preV hK hN hC hP hD hS hA [0, 1, 2] (by decide) rfl 0 rfl rfl) rfl rfl hl.1 rfl (lv_room (Nat.le_of_ble_eq_true rfl)) d_Lk_copy_21 ⟨Nat.le_of_ble_eq_true rfl, Nat.le_of_ble_eq_true rfl⟩) hK hP hD hS hA [0, 1, 2] [] rfl rfl (by decide) (by decide) hemp hlocks (fun q h => h) (fun u _ => ⟨(), trivial, fun H1 hP1 hD1 => ⟨hP1.sub [0, 1, 2] rfl, hD1.sub [0, 1, 2] (by decide) rfl⟩⟩)
  · skip
    exact absurd rfl c_12

set_option maxHeartbeats 4000000 in
set_option maxRecDepth 100000 in
/-- fits: no such subject -/
theorem t_Lk_fits (l : Launch) (hfl : l.flags = flags0) (D : va_G) (kA : Nat → ClassId) (kS : Nat → Nat) (sz : Nat) (h0 : Nat) (r q : Nat → Nat) (fp : Int32) (z vs : Nat → Int32) (x v y t : Int32) (h1 : x < 0 ∨ ¬ x < 4) : xt_Met l y_Lk_fits w_Lk_fits { frames := 7, cells := 1, slots := 6, locals := 102 } (xPre D vC (tK kA) kS [.ref h0, .int x, .int v, .int y, .int t] ([oLk h0 r fp 0, oSc (r 7) q z, (q 10, .inl (kA 1, 4, .inl vs))]) sz) (xt_Q "java/lang/IndexOutOfBoundsException" (fun _ : Unit => True) (xB D vC (tK kA) (fun _ => [oLk h0 r fp 0, oSc (r 7) q z, (q 10, .inl (kA 1, 4, .inl vs))]) (va_A ([oLk h0 r fp 0, oSc (r 7) q z, (q 10, .inl (kA 1, 4, .inl vs))]) sz)) (va_A ([oLk h0 r fp 0, oSc (r 7) q z, (q 10, .inl (kA 1, 4, .inl vs))]) sz)) 1 6 (va_A ([oLk h0 r fp 0, oSc (r 7) q z, (q 10, .inl (kA 1, 4, .inl vs))]) sz) := by
  refine xt_ofW (cc := b_Lk_fits) (maxL := 5) (ret := (some .boolean)) (by decide) rfl ?_
  intro p e s m args below meth c s₁ B hml hemp hv
  obtain ⟨rfl, hsz, hP, hK, hD0, hN, hC⟩ := hv
  have hx := B.exec
  have hb := B.bytes
  have hts := atoms_spec (ws := w_Lk_fits) B.pre
  have hg : ∀ w ∈ gW, w.before _ s = true := fun w h => hts w (List.mem_cons_of_mem _ h)
  have hown : s.vm.findClass R_Lk = some m.cls := findClass_of_methodNamed B.named
  have hlocks := B.notSynchronized
  subst hsz
  have hD := hD0.self (sz := s.heap.size)
  generalize hAe : va_A ([oLk h0 r fp 0, oSc (r 7) q z, (q 10, .inl (kA 1, 4, .inl vs))]) s.heap.size = A at hD hC ⊢
  have hA : ∀ q : Nat, s.heap.size ≤ q → A q := fun q h => by rw [← hAe]; exact Or.inr h
  have hS : va_S A s.heap s.heap [] := va_S.rf
  have hP : va_P D vC [(h0, .inr (11, [.ref (r 0), .ref (r 1), .ref (r 2), .ref (r 3), .ref (r 4), .ref (r 5), .ref (r 6), .ref (r 7), .ref (r 8), .ref (r 9), .ref (r 10), .ref (r 11), .ref (r 12), .ref (r 13), .ref (r 14), .int fp, .int 0])), (r 7, .inr (2, [.ref (q 0), .ref (q 1), .ref (q 2), .ref (q 3), .ref (q 4), .ref (q 5), .ref (q 6), .ref (q 7), .ref (q 8), .ref (q 9), .ref (q 10), .int (z 11), .ref (q 12), .ref (q 13), .int (z 14), .int (z 15), .int (z 16), .int (z 17)])), (q 10, .inl (kA 1, 4, .inl vs))] s.heap := hP
  have hD : va_D A [(h0, .inr (11, [.ref (r 0), .ref (r 1), .ref (r 2), .ref (r 3), .ref (r 4), .ref (r 5), .ref (r 6), .ref (r 7), .ref (r 8), .ref (r 9), .ref (r 10), .ref (r 11), .ref (r 12), .ref (r 13), .ref (r 14), .int fp, .int 0])), (r 7, .inr (2, [.ref (q 0), .ref (q 1), .ref (q 2), .ref (q 3), .ref (q 4), .ref (q 5), .ref (q 6), .ref (q 7), .ref (q 8), .ref (q 9), .ref (q 10), .int (z 11), .ref (q 12), .ref (q 13), .int (z 14), .int (z 15), .int (z 16), .int (z 17)])), (q 10, .inl (kA 1, 4, .inl vs))] := hD
  have hl := lv_entry ([.ref h0, .int x, .int v, .int y, .int t]) (n := 5) (Nat.le_of_ble_eq_true rfl)
  rw [lg_entry_eq]
  generalize (lg_sl ([.ref h0, .int x, .int v, .int y, .int t]) ++ List.replicate (5 - (lg_sl ([.ref h0, .int x, .int v, .int y, .int t])).length) Slot.unset).toArray = ls at hl ⊢
  have hl : lv_has ls 5 [(0, .ref h0), (1, .int x), (2, .int v), (3, .int y), (4, .int t)] := hl
  refine lv_iload_n hx hb d_Lk_fits_0 rfl (lv_at hl 1 rfl) ?_
  exact xc_o (wr := [(h0, .inr (11, [.ref (r 0), .ref (r 1), .ref (r 2), .ref (r 3), .ref (r 4), .ref (r 5), .ref (r 6), .ref (r 7), .ref (r 8), .ref (r 9), .ref (r 10), .ref (r 11), .ref (r 12), .ref (r 13), .ref (r 14), .int fp, .int 0])), (r 7, .inr (2, [.ref (q 0), .ref (q 1), .ref (q 2), .ref (q 3), .ref (q 4), .ref (q 5), .ref (q 6), .ref (q 7), .ref (q 8), .ref (q 9), .ref (q 10), .int (z 11), .ref (q 12), .ref (q 13), .int (z 14), .int (z 15), .int (z 16), .int (z 17)])), (q 10, .inl (kA 1, 4, .inl vs))]) (xt_runS (As := [.int x]) (rest := []) ⟨hx, hb, hml, hown, hg⟩ (t_Lk_needSubject l hfl D kA kS s.heap.size x h1) (cwS 1 hg (xg_S mw_1077 mw_1078 mw_1 mw_1079) rfl rfl rfl (by decide +kernel) ⟨Nat.le_of_ble_eq_true rfl, Nat.le_of_ble_eq_true rfl⟩) (xc_pre hK hN hC hP hD hS hA [] (by decide) rfl) rfl rfl hl.1 rfl (lv_room (Nat.le_of_ble_eq_true rfl)) d_Lk_fits_1 ⟨Nat.le_of_ble_eq_true rfl, Nat.le_of_ble_eq_true rfl⟩) hK hP hD hS hA [] [0, 1, 2] rfl rfl (by decide) (by decide) hemp hlocks (fun q h => h) (fun u _ => ⟨(), trivial, fun H1 hP1 hD1 => ⟨hP1.sub [0, 1, 2] rfl, hD1.sub [0, 1, 2] (by decide) rfl⟩⟩)

set_option maxHeartbeats 4000000 in
set_option maxRecDepth 100000 in
/-- fits: no such other -/
theorem t_Lk_fits2 (l : Launch) (hfl : l.flags = flags0) (D : va_G) (kA : Nat → ClassId) (kS : Nat → Nat) (sz : Nat) (h0 : Nat) (r q : Nat → Nat) (fp : Int32) (z vs : Nat → Int32) (x v y t : Int32) (hx1 : ¬ x < 0) (hx2 : x < 4) (h1 : y < 0 ∨ ¬ y < 4) : xt_Met l y_Lk_fits w_Lk_fits { frames := 7, cells := 1, slots := 6, locals := 102 } (xPre D vC (tK kA) kS [.ref h0, .int x, .int v, .int y, .int t] ([oLk h0 r fp 0, oSc (r 7) q z, (q 10, .inl (kA 1, 4, .inl vs))]) sz) (xt_Q "java/lang/IndexOutOfBoundsException" (fun _ : Unit => True) (xB D vC (tK kA) (fun _ => [oLk h0 r fp 0, oSc (r 7) q z, (q 10, .inl (kA 1, 4, .inl vs))]) (va_A ([oLk h0 r fp 0, oSc (r 7) q z, (q 10, .inl (kA 1, 4, .inl vs))]) sz)) (va_A ([oLk h0 r fp 0, oSc (r 7) q z, (q 10, .inl (kA 1, 4, .inl vs))]) sz)) 1 6 (va_A ([oLk h0 r fp 0, oSc (r 7) q z, (q 10, .inl (kA 1, 4, .inl vs))]) sz) := by
  refine xt_ofW (cc := b_Lk_fits) (maxL := 5) (ret := (some .boolean)) (by decide) rfl ?_
  intro p e s m args below meth c s₁ B hml hemp hv
  obtain ⟨rfl, hsz, hP, hK, hD0, hN, hC⟩ := hv
  have hx := B.exec
  have hb := B.bytes
  have hts := atoms_spec (ws := w_Lk_fits) B.pre
  have hg : ∀ w ∈ gW, w.before _ s = true := fun w h => hts w (List.mem_cons_of_mem _ h)
  have hown : s.vm.findClass R_Lk = some m.cls := findClass_of_methodNamed B.named
  have hlocks := B.notSynchronized
  subst hsz
  have hD := hD0.self (sz := s.heap.size)
  generalize hAe : va_A ([oLk h0 r fp 0, oSc (r 7) q z, (q 10, .inl (kA 1, 4, .inl vs))]) s.heap.size = A at hD hC ⊢
  have hA : ∀ q : Nat, s.heap.size ≤ q → A q := fun q h => by rw [← hAe]; exact Or.inr h
  have hS : va_S A s.heap s.heap [] := va_S.rf
  have hP : va_P D vC [(h0, .inr (11, [.ref (r 0), .ref (r 1), .ref (r 2), .ref (r 3), .ref (r 4), .ref (r 5), .ref (r 6), .ref (r 7), .ref (r 8), .ref (r 9), .ref (r 10), .ref (r 11), .ref (r 12), .ref (r 13), .ref (r 14), .int fp, .int 0])), (r 7, .inr (2, [.ref (q 0), .ref (q 1), .ref (q 2), .ref (q 3), .ref (q 4), .ref (q 5), .ref (q 6), .ref (q 7), .ref (q 8), .ref (q 9), .ref (q 10), .int (z 11), .ref (q 12), .ref (q 13), .int (z 14), .int (z 15), .int (z 16), .int (z 17)])), (q 10, .inl (kA 1, 4, .inl vs))] s.heap := hP
  have hD : va_D A [(h0, .inr (11, [.ref (r 0), .ref (r 1), .ref (r 2), .ref (r 3), .ref (r 4), .ref (r 5), .ref (r 6), .ref (r 7), .ref (r 8), .ref (r 9), .ref (r 10), .ref (r 11), .ref (r 12), .ref (r 13), .ref (r 14), .int fp, .int 0])), (r 7, .inr (2, [.ref (q 0), .ref (q 1), .ref (q 2), .ref (q 3), .ref (q 4), .ref (q 5), .ref (q 6), .ref (q 7), .ref (q 8), .ref (q 9), .ref (q 10), .int (z 11), .ref (q 12), .ref (q 13), .int (z 14), .int (z 15), .int (z 16), .int (z 17)])), (q 10, .inl (kA 1, 4, .inl vs))] := hD
  have hl := lv_entry ([.ref h0, .int x, .int v, .int y, .int t]) (n := 5) (Nat.le_of_ble_eq_true rfl)
  rw [lg_entry_eq]
  generalize (lg_sl ([.ref h0, .int x, .int v, .int y, .int t]) ++ List.replicate (5 - (lg_sl ([.ref h0, .int x, .int v, .int y, .int t])).length) Slot.unset).toArray = ls at hl ⊢
  have hl : lv_has ls 5 [(0, .ref h0), (1, .int x), (2, .int v), (3, .int y), (4, .int t)] := hl
  refine lv_iload_n hx hb d_Lk_fits_0 rfl (lv_at hl 1 rfl) ?_
  refine xc_pv (va_runS (As := [.int x]) (rest := []) ⟨hx, hb, hml, hown, hg⟩ (p_Lk_needSubject l D kA kS s.heap.size x hx1 hx2) (cwS 1 hg (xg_S mw_1077 mw_1078 mw_1 mw_1079) rfl rfl rfl (by decide +kernel) ⟨Nat.le_of_ble_eq_true rfl, Nat.le_of_ble_eq_true rfl⟩) (xc_pre hK hN hC hP hD hS hA [] (by decide) rfl) rfl rfl hl.1 rfl (lv_room (Nat.le_of_ble_eq_true rfl)) d_Lk_fits_1 ⟨Nat.le_of_ble_eq_true rfl, Nat.le_of_ble_eq_true rfl⟩) ?_
  refine lv_iload_n hx hb d_Lk_fits_4 rfl (lv_at hl 3 rfl) ?_
  exact xc_o (wr := [(h0, .inr (11, [.ref (r 0), .ref (r 1), .ref (r 2), .ref (r 3), .ref (r 4), .ref (r 5), .ref (r 6), .ref (r 7), .ref (r 8), .ref (r 9), .ref (r 10), .ref (r 11), .ref (r 12), .ref (r 13), .ref (r 14), .int fp, .int 0])), (r 7, .inr (2, [.ref (q 0), .ref (q 1), .ref (q 2), .ref (q 3), .ref (q 4), .ref (q 5), .ref (q 6), .ref (q 7), .ref (q 8), .ref (q 9), .ref (q 10), .int (z 11), .ref (q 12), .ref (q 13), .int (z 14), .int (z 15), .int (z 16), .int (z 17)])), (q 10, .inl (kA 1, 4, .inl vs))]) (xt_runS (As := [.int y]) (rest := []) ⟨hx, hb, hml, hown, hg⟩ (t_Lk_needSubject l hfl D kA kS s.heap.size y h1) (cwS 1 hg (xg_S mw_1077 mw_1078 mw_1 mw_1079) rfl rfl rfl (by decide +kernel) ⟨Nat.le_of_ble_eq_true rfl, Nat.le_of_ble_eq_true rfl⟩) (xc_pre hK hN hC hP hD hS hA [] (by decide) rfl) rfl rfl hl.1 rfl (lv_room (Nat.le_of_ble_eq_true rfl)) d_Lk_fits_5 ⟨Nat.le_of_ble_eq_true rfl, Nat.le_of_ble_eq_true rfl⟩) hK hP hD hS hA [] [0, 1, 2] rfl rfl (by decide) (by decide) hemp hlocks (fun q h => h) (fun u _ => ⟨(), trivial, fun H1 hP1 hD1 => ⟨hP1.sub [0, 1, 2] rfl, hD1.sub [0, 1, 2] (by decide) rfl⟩⟩)

set_option maxHeartbeats 4000000 in
set_option maxRecDepth 100000 in
/-- fits: no such version -/
theorem t_Lk_fits3 (l : Launch) (hfl : l.flags = flags0) (D : va_G) (kA : Nat → ClassId) (kS : Nat → Nat) (sz : Nat) (h0 : Nat) (r q : Nat → Nat) (fp : Int32) (z vs : Nat → Int32) (v y t : Int32) (hy1 : ¬ y < 0) (hy2 : y < 4) (k : Nat) (hk : k < 4) (h1 : v < 0 ∨ ¬ v < vs k) : xt_Met l y_Lk_fits w_Lk_fits { frames := 7, cells := 1, slots := 6, locals := 104 } (xPre D vC (tK kA) kS [.ref h0, .int (nI k), .int v, .int y, .int t] ([oLk h0 r fp 0, oSc (r 7) q z, (q 10, .inl (kA 1, 4, .inl vs))]) sz) (xt_Q "java/lang/IndexOutOfBoundsException" (fun _ : Unit => True) (xB D vC (tK kA) (fun _ => [oLk h0 r fp 0, oSc (r 7) q z, (q 10, .inl (kA 1, 4, .inl vs))]) (va_A ([oLk h0 r fp 0, oSc (r 7) q z, (q 10, .inl (kA 1, 4, .inl vs))]) sz)) (va_A ([oLk h0 r fp 0, oSc (r 7) q z, (q 10, .inl (kA 1, 4, .inl vs))]) sz)) 1 6 (va_A ([oLk h0 r fp 0, oSc (r 7) q z, (q 10, .inl (kA 1, 4, .inl vs))]) sz) := by
  refine xt_ofW (cc := b_Lk_fits) (maxL := 5) (ret := (some .boolean)) (by decide) rfl ?_
  intro p e s m args below meth c s₁ B hml hemp hv
  obtain ⟨rfl, hsz, hP, hK, hD0, hN, hC⟩ := hv
  have hx := B.exec
  have hb := B.bytes
  have hts := atoms_spec (ws := w_Lk_fits) B.pre
  have hg : ∀ w ∈ gW, w.before _ s = true := fun w h => hts w (List.mem_cons_of_mem _ h)
  have hown : s.vm.findClass R_Lk = some m.cls := findClass_of_methodNamed B.named
  have hlocks := B.notSynchronized
  subst hsz
  have hD := hD0.self (sz := s.heap.size)
  generalize hAe : va_A ([oLk h0 r fp 0, oSc (r 7) q z, (q 10, .inl (kA 1, 4, .inl vs))]) s.heap.size = A at hD hC ⊢
  have hA : ∀ q : Nat, s.heap.size ≤ q → A q := fun q h => by rw [← hAe]; exact Or.inr h
  have hS : va_S A s.heap s.heap [] := va_S.rf
  have hP : va_P D vC [(h0, .inr (11, [.ref (r 0), .ref (r 1), .ref (r 2), .ref (r 3), .ref (r 4), .ref (r 5), .ref (r 6), .ref (r 7), .ref (r 8), .ref (r 9), .ref (r 10), .ref (r 11), .ref (r 12), .ref (r 13), .ref (r 14), .int fp, .int 0])), (r 7, .inr (2, [.ref (q 0), .ref (q 1), .ref (q 2), .ref (q 3), .ref (q 4), .ref (q 5), .ref (q 6), .ref (q 7), .ref (q 8), .ref (q 9), .ref (q 10), .int (z 11), .ref (q 12), .ref (q 13), .int (z 14), .int (z 15), .int (z 16), .int (z 17)])), (q 10, .inl (kA 1, 4, .inl vs))] s.heap := hP
  have hD : va_D A [(h0, .inr (11, [.ref (r 0), .ref (r 1), .ref (r 2), .ref (r 3), .ref (r 4), .ref (r 5), .ref (r 6), .ref (r 7), .ref (r 8), .ref (r 9), .ref (r 10), .ref (r 11), .ref (r 12), .ref (r 13), .ref (r 14), .int fp, .int 0])), (r 7, .inr (2, [.ref (q 0), .ref (q 1), .ref (q 2), .ref (q 3), .ref (q 4), .ref (q 5), .ref (q 6), .ref (q 7), .ref (q 8), .ref (q 9), .ref (q 10), .int (z 11), .ref (q 12), .ref (q 13), .int (z 14), .int (z 15), .int (z 16), .int (z 17)])), (q 10, .inl (kA 1, 4, .inl vs))] := hD
  have hl := lv_entry ([.ref h0, .int (nI k), .int v, .int y, .int t]) (n := 5) (Nat.le_of_ble_eq_true rfl)
  rw [lg_entry_eq]
  generalize (lg_sl ([.ref h0, .int (nI k), .int v, .int y, .int t]) ++ List.replicate (5 - (lg_sl ([.ref h0, .int (nI k), .int v, .int y, .int t])).length) Slot.unset).toArray = ls at hl ⊢
  have hl : lv_has ls 5 [(0, .ref h0), (1, .int (nI k)), (2, .int v), (3, .int y), (4, .int t)] := hl
  refine lv_iload_n hx hb d_Lk_fits_0 rfl (lv_at hl 1 rfl) ?_
  refine xc_pv (va_runS (As := [.int (nI k)]) (rest := []) ⟨hx, hb, hml, hown, hg⟩ (p_Lk_needSubject l D kA kS s.heap.size (nI k) (nI_pos (by omega)) (by rcases (show k = 0 ∨ k = 1 ∨ k = 2 ∨ k = 3 by omega) with rfl | rfl | rfl | rfl <;> decide)) (cwS 1 hg (xg_S mw_1077 mw_1078 mw_1 mw_1079) rfl rfl rfl (by decide +kernel) ⟨Nat.le_of_ble_eq_true rfl, Nat.le_of_ble_eq_true rfl⟩) (xc_pre hK hN hC hP hD hS hA [] (by decide) rfl) rfl rfl hl.1 rfl (lv_room (Nat.le_of_ble_eq_true rfl)) d_Lk_fits_1 ⟨Nat.le_of_ble_eq_true rfl, Nat.le_of_ble_eq_true rfl⟩) ?_
  refine lv_iload_n hx hb d_Lk_fits_4 rfl (lv_at hl 3 rfl) ?_
  refine xc_pv (va_runS (As := [.int y]) (rest := []) ⟨hx, hb, hml, hown, hg⟩ (p_Lk_needSubject l D kA kS s.heap.size y hy1 hy2) (cwS 1 hg (xg_S mw_1077 mw_1078 mw_1 mw_1079) rfl rfl rfl (by decide +kernel) ⟨Nat.le_of_ble_eq_true rfl, Nat.le_of_ble_eq_true rfl⟩) (xc_pre hK hN hC hP hD hS hA [] (by decide) rfl) rfl rfl hl.1 rfl (lv_room (Nat.le_of_ble_eq_true rfl)) d_Lk_fits_5 ⟨Nat.le_of_ble_eq_true rfl, Nat.le_of_ble_eq_true rfl⟩) ?_
  refine lv_aload_n hx hb d_Lk_fits_8 rfl (lv_at hl 0 rfl) ?_
  refine va_get (D := D) (ci := 11) (v := .int 0) (C := R_Lk) (T := F_Lk) (N := 17) hx hb hg i_Lk hown hK hP 0 rfl rfl 16 (by decide) (hg _ mw_499) (fun _ h9 => h9) rfl d_Lk_fits_9 ?_
  refine lv_if_eq (tgt := 17) hx hb d_Lk_fits_12 (by decide) (fun c_12 => ?_) (fun c_12 => ?_)
  · skip
    refine lv_aload_n hx hb d_Lk_fits_17 rfl (lv_at hl 0 rfl) ?_
    refine lv_iload_n hx hb d_Lk_fits_18 rfl (lv_at hl 1 rfl) ?_
    refine lv_iload_n hx hb d_Lk_fits_19 rfl (lv_at hl 2 rfl) ?_
    exact xc_o (wr := []) (xt_runV (As := [.int (nI k), .int v]) (rest := []) ⟨hx, hb, hml, hown, hg⟩ (t_Lk_needVersion l hfl D kA kS s.heap.size h0 r q fp 0 z vs k v hk h1) (cwV 2 hg (xg_V mw_1230 mw_1232 ms_62 mw_1 mw_1233) rfl rfl rfl (by decide +kernel) ⟨Nat.le_of_ble_eq_true rfl, Nat.le_of_ble_eq_true rfl⟩) (xc_preV hK hN hC hP hD hS hA [0, 1, 2] (by decide) rfl 0 rfl rfl) rfl rfl hl.1 rfl (lv_room (Nat.le_of_ble_eq_true rfl)) d_Lk_fits_20 ⟨Nat.le_of_ble_eq_true rfl, Nat.le_of_ble_eq_true rfl⟩) hK hP hD hS hA [0, 1, 2] [] rfl rfl (by decide) (by decide) hemp hlocks (fun q h => h) (fun u _ => ⟨(), trivial, fun H1 hP1 hD1 => ⟨hP1.sub [0, 1, 2] rfl, hD1.sub [0, 1, 2] (by decide) rfl⟩⟩)
  · skip
    exact absurd rfl c_12
