set_option maxHeartbeats 4000000 in
set_option maxRecDepth 100000 in
/-- coder() -/
theorem p_Str_coder (l : Launch) (D : va_G) (kA : Nat → ClassId) (kS : Nat → Nat) (sz : Nat) (j : Nat) (hj : j < 80) : Met l y_String_coder w_String_coder { frames := 0, cells := 0, slots := 0, locals := 0 } (xPre D vC (tK kA) kS [.ref (kS j)] ([]) sz) (xt_Pi (fun y => y = 0)) 0 0 (fun _ => False) := by
  refine Met.ofW (cc := b_String_coder) (maxL := 1) (ret := (some .byte)) (by decide) rfl ?_
  intro p e s m args below meth c s₁ B hml hv
  obtain ⟨rfl, hsz, hP, hK, hD0, hN, hC⟩ := hv
  have hx := B.exec
  have hb := B.bytes
  have hr := B.returns
  have hts := atoms_spec (ws := w_String_coder) B.pre
  have hg : ∀ w ∈ gW, w.before _ s = true := fun w h => hts w (List.mem_cons_of_mem _ h)
  have hown : s.vm.findClass "java/lang/String" = some m.cls := findClass_of_methodNamed B.named
  have hlocks := B.notSynchronized
  subst hsz
  have hD := hD0.self (sz := s.heap.size)
  generalize hAe : va_A ([]) s.heap.size = A at hD hC ⊢
  have hA : ∀ q : Nat, s.heap.size ≤ q → A q := fun q h => by rw [← hAe]; exact Or.inr h
  have hS : va_S A s.heap s.heap [] := va_S.rf
  have hP : va_P D vC [] s.heap := hP
  have hD : va_D A [] := hD
  have hl := lv_entry ([.ref (kS j)]) (n := 1) (Nat.le_of_ble_eq_true rfl)
  rw [lg_entry_eq]
  generalize (lg_sl ([.ref (kS j)]) ++ List.replicate (1 - (lg_sl ([.ref (kS j)])).length) Slot.unset).toArray = ls at hl ⊢
  have hl : lv_has ls 1 [(0, .ref (kS j))] := hl
  obtain ⟨hT1, ⟨v9, hv9, hT2⟩, hT3⟩ := hC.1.2
  refine va_gets hx hb hT1 hS hown (hg _ mw_637) (fun _ h9 => h9) d_String_coder_0 ?_
  refine lv_if_eq (tgt := 13) hx hb d_String_coder_3 (by decide) (fun c_3 => ?_) (fun c_3 => ?_)
  · skip
    exact absurd c_3 (by decide)
  · skip
    refine lv_aload_n hx hb d_String_coder_6 rfl (lv_at hl 0 rfl) ?_
    refine vk_getf hx hb (hT3 j hj).2.1 hS hown (hg _ mw_2379) (fun _ h9 => h9) d_String_coder_7 ?_
    refine lv_goto (tgt := 14) hx hb d_String_coder_10 (by decide) ?_
    exact W.zret (v := 0) hx hb hr (rfl) (fun t ht hW => ⟨0, rfl, rfl, ht⟩) (fun q hq => by cases hq) d_String_coder_14

set_option maxHeartbeats 4000000 in
set_option maxRecDepth 100000 in
/-- length() -/
theorem p_Str_length (l : Launch) (D : va_G) (kA : Nat → ClassId) (kS : Nat → Nat) (sz : Nat) (j : Nat) (hj : j < 80) : Met l y_String_length w_String_length { frames := 1, cells := 0, slots := 0, locals := 20 } (xPre D vC (tK kA) kS [.ref (kS j)] ([]) sz) (xt_Pi (fun y => y = nI (sL j))) 0 0 (fun _ => False) := by
  refine Met.ofW (cc := b_String_length) (maxL := 1) (ret := (some .int)) (by decide) rfl ?_
  intro p e s m args below meth c s₁ B hml hv
  obtain ⟨rfl, hsz, hP, hK, hD0, hN, hC⟩ := hv
  have hx := B.exec
  have hb := B.bytes
  have hr := B.returns
  have hts := atoms_spec (ws := w_String_length) B.pre
  have hg : ∀ w ∈ gW, w.before _ s = true := fun w h => hts w (List.mem_cons_of_mem _ h)
  have hown : s.vm.findClass "java/lang/String" = some m.cls := findClass_of_methodNamed B.named
  have hlocks := B.notSynchronized
  subst hsz
  have hD := hD0.self (sz := s.heap.size)
  generalize hAe : va_A ([]) s.heap.size = A at hD hC ⊢
  have hA : ∀ q : Nat, s.heap.size ≤ q → A q := fun q h => by rw [← hAe]; exact Or.inr h
  have hS : va_S A s.heap s.heap [] := va_S.rf
  have hP : va_P D vC [] s.heap := hP
  have hD : va_D A [] := hD
  have hl := lv_entry ([.ref (kS j)]) (n := 1) (Nat.le_of_ble_eq_true rfl)
  rw [lg_entry_eq]
  generalize (lg_sl ([.ref (kS j)]) ++ List.replicate (1 - (lg_sl ([.ref (kS j)])).length) Slot.unset).toArray = ls at hl ⊢
  have hl : lv_has ls 1 [(0, .ref (kS j))] := hl
  obtain ⟨hT1, ⟨v9, hv9, hT2⟩, hT3⟩ := hC.1.2
  refine lv_aload_n hx hb d_String_length_0 rfl (lv_at hl 0 rfl) ?_
  refine vk_getf hx hb (hT3 j hj).2.2.1 hS hown (hg _ mw_2378) (fun _ h9 => h9) d_String_length_1 ?_
  refine va_tlen (v := nI (sL j)) hx hb (hT3 j hj).2.2.2 hS rfl d_String_length_4 ?_
  refine lv_aload_n hx hb d_String_length_5 rfl (lv_at hl 0 rfl) ?_
  refine xc_pi (va_runV (As := []) (rest := [.int (nI (sL j))]) ⟨hx, hb, hml, hown, hg⟩ (p_Str_coder l D kA kS s.heap.size j hj) (cwV 0 hg (xg_V mw_633 mw_634 mw_635 mw_21 mw_636) rfl rfl rfl (by decide +kernel) ⟨Nat.le_of_ble_eq_true rfl, Nat.le_of_ble_eq_true rfl⟩) (xs_preV hK hN hC hP hD hS hA hj) rfl rfl hl.1 rfl (lv_room (Nat.le_of_ble_eq_true rfl)) d_String_length_6 ⟨Nat.le_of_ble_eq_true rfl, Nat.le_of_ble_eq_true rfl⟩) (fun r_6 hw => ?_)
  subst hw
  refine lv_ishr hx hb d_String_length_9 ?_
  refine lv_topi (fun x_9 ex_9 => ?_)
  replace ex_9 : x_9 = nI (sL j) := ex_9.trans (sh_zero _)
  subst ex_9
  exact W.iret (v := nI (sL j)) hx hb hr (fun t ht hW => ⟨nI (sL j), rfl, rfl, ht⟩) (fun q hq => by cases hq) d_String_length_10

set_option maxHeartbeats 4000000 in
set_option maxRecDepth 100000 in
/-- isLatin1() -/
theorem p_Str_isLatin1 (l : Launch) (D : va_G) (kA : Nat → ClassId) (kS : Nat → Nat) (sz : Nat) (j : Nat) (hj : j < 80) : Met l y_String_isLatin1 w_String_isLatin1 { frames := 0, cells := 0, slots := 0, locals := 0 } (xPre D vC (tK kA) kS [.ref (kS j)] ([]) sz) (xt_Pi (fun y => y = 1)) 0 0 (fun _ => False) := by
  refine Met.ofW (cc := b_String_isLatin1) (maxL := 1) (ret := (some .boolean)) (by decide) rfl ?_
  intro p e s m args below meth c s₁ B hml hv
  obtain ⟨rfl, hsz, hP, hK, hD0, hN, hC⟩ := hv
  have hx := B.exec
  have hb := B.bytes
  have hr := B.returns
  have hts := atoms_spec (ws := w_String_isLatin1) B.pre
  have hg : ∀ w ∈ gW, w.before _ s = true := fun w h => hts w (List.mem_cons_of_mem _ h)
  have hown : s.vm.findClass "java/lang/String" = some m.cls := findClass_of_methodNamed B.named
  have hlocks := B.notSynchronized
  subst hsz
  have hD := hD0.self (sz := s.heap.size)
  generalize hAe : va_A ([]) s.heap.size = A at hD hC ⊢
  have hA : ∀ q : Nat, s.heap.size ≤ q → A q := fun q h => by rw [← hAe]; exact Or.inr h
  have hS : va_S A s.heap s.heap [] := va_S.rf
  have hP : va_P D vC [] s.heap := hP
  have hD : va_D A [] := hD
  have hl := lv_entry ([.ref (kS j)]) (n := 1) (Nat.le_of_ble_eq_true rfl)
  rw [lg_entry_eq]
  generalize (lg_sl ([.ref (kS j)]) ++ List.replicate (1 - (lg_sl ([.ref (kS j)])).length) Slot.unset).toArray = ls at hl ⊢
  have hl : lv_has ls 1 [(0, .ref (kS j))] := hl
  obtain ⟨hT1, ⟨v9, hv9, hT2⟩, hT3⟩ := hC.1.2
  refine va_gets hx hb hT1 hS hown (hg _ mw_637) (fun _ h9 => h9) d_String_isLatin1_0 ?_
  refine lv_if_eq (tgt := 17) hx hb d_String_isLatin1_3 (by decide) (fun c_3 => ?_) (fun c_3 => ?_)
  · skip
    exact absurd c_3 (by decide)
  · skip
    refine lv_aload_n hx hb d_String_isLatin1_6 rfl (lv_at hl 0 rfl) ?_
    refine vk_getf hx hb (hT3 j hj).2.1 hS hown (hg _ mw_2379) (fun _ h9 => h9) d_String_isLatin1_7 ?_
    refine lv_if_ne (tgt := 17) hx hb d_String_isLatin1_10 (by decide) (fun c_10 => ?_) (fun c_10 => ?_)
    · skip
      exact absurd rfl c_10
    · skip
      refine lv_iconst (v := 1) hx hb d_String_isLatin1_13 (by decide) ?_
      refine lv_goto (tgt := 18) hx hb d_String_isLatin1_14 (by decide) ?_
      exact W.zret (v := 1) hx hb hr (rfl) (fun t ht hW => ⟨1, rfl, rfl, ht⟩) (fun q hq => by cases hq) d_String_isLatin1_18

set_option maxHeartbeats 4000000 in
set_option maxRecDepth 100000 in
/-- checkIndex, within -/
theorem p_Pr_ciN (l : Launch) (D : va_G) (kA : Nat → ClassId) (kS : Nat → Nat) (sz : Nat) (i n : Nat) (hi : i < n) (hn : n < 2 ^ 31) : Met l y_Preconditions_checkIndex w_Preconditions_checkIndex { frames := 0, cells := 0, slots := 0, locals := 0 } (xPre D vC (tK kA) kS [.int (nI i), .int (nI n), .null] ([]) sz) (xt_Pi (fun y => y = nI i)) 0 0 (fun _ => False) := by
  refine Met.ofW (cc := b_Preconditions_checkIndex) (maxL := 3) (ret := (some .int)) (by decide) rfl ?_
  intro p e s m args below meth c s₁ B hml hv
  obtain ⟨rfl, hsz, hP, hK, hD0, hN, hC⟩ := hv
  have hx := B.exec
  have hb := B.bytes
  have hr := B.returns
  have hts := atoms_spec (ws := w_Preconditions_checkIndex) B.pre
  have hg : ∀ w ∈ gW, w.before _ s = true := fun w h => hts w (List.mem_cons_of_mem _ h)
  have hown : s.vm.findClass "jdk/internal/util/Preconditions" = some m.cls := findClass_of_methodNamed B.named
  have hlocks := B.notSynchronized
  subst hsz
  have hD := hD0.self (sz := s.heap.size)
  generalize hAe : va_A ([]) s.heap.size = A at hD hC ⊢
  have hA : ∀ q : Nat, s.heap.size ≤ q → A q := fun q h => by rw [← hAe]; exact Or.inr h
  have hS : va_S A s.heap s.heap [] := va_S.rf
  have hP : va_P D vC [] s.heap := hP
  have hD : va_D A [] := hD
  have hl := lv_entry ([.int (nI i), .int (nI n), .null]) (n := 3) (Nat.le_of_ble_eq_true rfl)
  rw [lg_entry_eq]
  generalize (lg_sl ([.int (nI i), .int (nI n), .null]) ++ List.replicate (3 - (lg_sl ([.int (nI i), .int (nI n), .null])).length) Slot.unset).toArray = ls at hl ⊢
  have hl : lv_has ls 3 [(0, .int (nI i)), (1, .int (nI n)), (2, .null)] := hl
  refine lv_iload_n hx hb d_Preconditions_checkIndex_0 rfl (lv_at hl 0 rfl) ?_
  refine lv_if_lt (tgt := 9) hx hb d_Preconditions_checkIndex_1 (by decide) (fun c_1 => ?_) (fun c_1 => ?_)
  · skip
    exact absurd c_1 (nI_pos (by omega))
  · skip
    refine lv_iload_n hx hb d_Preconditions_checkIndex_4 rfl (lv_at hl 0 rfl) ?_
    refine lv_iload_n hx hb d_Preconditions_checkIndex_5 rfl (lv_at hl 1 rfl) ?_
    refine lv_icmp_lt (tgt := 16) hx hb d_Preconditions_checkIndex_6 (by decide) (fun c_6 => ?_) (fun c_6 => ?_)
    · skip
      refine lv_iload_n hx hb d_Preconditions_checkIndex_16 rfl (lv_at hl 0 rfl) ?_
      exact W.iret (v := nI i) hx hb hr (fun t ht hW => ⟨nI i, rfl, rfl, ht⟩) (fun q hq => by cases hq) d_Preconditions_checkIndex_17
    · skip
      exact absurd (nI_lt hi hn) c_6

set_option maxHeartbeats 4000000 in
set_option maxRecDepth 100000 in
/-- checkIndex, within -/
theorem p_Pr_ciR (l : Launch) (D : va_G) (kA : Nat → ClassId) (kS : Nat → Nat) (sz : Nat) (i n : Nat) (hi : i < n) (hn : n < 2 ^ 31) (t9 : Nat) : Met l y_Preconditions_checkIndex w_Preconditions_checkIndex { frames := 0, cells := 0, slots := 0, locals := 0 } (xPre D vC (tK kA) kS [.int (nI i), .int (nI n), .ref t9] ([]) sz) (xt_Pi (fun y => y = nI i)) 0 0 (fun _ => False) := by
  refine Met.ofW (cc := b_Preconditions_checkIndex) (maxL := 3) (ret := (some .int)) (by decide) rfl ?_
  intro p e s m args below meth c s₁ B hml hv
  obtain ⟨rfl, hsz, hP, hK, hD0, hN, hC⟩ := hv
  have hx := B.exec
  have hb := B.bytes
  have hr := B.returns
  have hts := atoms_spec (ws := w_Preconditions_checkIndex) B.pre
  have hg : ∀ w ∈ gW, w.before _ s = true := fun w h => hts w (List.mem_cons_of_mem _ h)
  have hown : s.vm.findClass "jdk/internal/util/Preconditions" = some m.cls := findClass_of_methodNamed B.named
  have hlocks := B.notSynchronized
  subst hsz
  have hD := hD0.self (sz := s.heap.size)
  generalize hAe : va_A ([]) s.heap.size = A at hD hC ⊢
  have hA : ∀ q : Nat, s.heap.size ≤ q → A q := fun q h => by rw [← hAe]; exact Or.inr h
  have hS : va_S A s.heap s.heap [] := va_S.rf
  have hP : va_P D vC [] s.heap := hP
  have hD : va_D A [] := hD
  have hl := lv_entry ([.int (nI i), .int (nI n), .ref t9]) (n := 3) (Nat.le_of_ble_eq_true rfl)
  rw [lg_entry_eq]
  generalize (lg_sl ([.int (nI i), .int (nI n), .ref t9]) ++ List.replicate (3 - (lg_sl ([.int (nI i), .int (nI n), .ref t9])).length) Slot.unset).toArray = ls at hl ⊢
  have hl : lv_has ls 3 [(0, .int (nI i)), (1, .int (nI n)), (2, .ref t9)] := hl
  refine lv_iload_n hx hb d_Preconditions_checkIndex_0 rfl (lv_at hl 0 rfl) ?_
  refine lv_if_lt (tgt := 9) hx hb d_Preconditions_checkIndex_1 (by decide) (fun c_1 => ?_) (fun c_1 => ?_)
  · skip
    exact absurd c_1 (nI_pos (by omega))
  · skip
    refine lv_iload_n hx hb d_Preconditions_checkIndex_4 rfl (lv_at hl 0 rfl) ?_
    refine lv_iload_n hx hb d_Preconditions_checkIndex_5 rfl (lv_at hl 1 rfl) ?_
    refine lv_icmp_lt (tgt := 16) hx hb d_Preconditions_checkIndex_6 (by decide) (fun c_6 => ?_) (fun c_6 => ?_)
    · skip
      refine lv_iload_n hx hb d_Preconditions_checkIndex_16 rfl (lv_at hl 0 rfl) ?_
      exact W.iret (v := nI i) hx hb hr (fun t ht hW => ⟨nI i, rfl, rfl, ht⟩) (fun q hq => by cases hq) d_Preconditions_checkIndex_17
    · skip
      exact absurd (nI_lt hi hn) c_6

set_option maxHeartbeats 4000000 in
set_option maxRecDepth 100000 in
/-- checkIndex(i, n) -/
theorem p_Str_checkIndex (l : Launch) (D : va_G) (kA : Nat → ClassId) (kS : Nat → Nat) (sz : Nat) (i n : Nat) (hi : i < n) (hn : n < 2 ^ 31) : Met l y_String_checkIndex w_String_checkIndex { frames := 1, cells := 0, slots := 0, locals := 22 } (xPre D vC (tK kA) kS [.int (nI i), .int (nI n)] ([]) sz) (xt_Pv) 0 0 (fun _ => False) := by
  refine Met.ofW (cc := b_String_checkIndex) (maxL := 2) (ret := none) (by decide) rfl ?_
  intro p e s m args below meth c s₁ B hml hv
  obtain ⟨rfl, hsz, hP, hK, hD0, hN, hC⟩ := hv
  have hx := B.exec
  have hb := B.bytes
  have hr := B.returns
  have hts := atoms_spec (ws := w_String_checkIndex) B.pre
  have hg : ∀ w ∈ gW, w.before _ s = true := fun w h => hts w (List.mem_cons_of_mem _ h)
  have hown : s.vm.findClass "java/lang/String" = some m.cls := findClass_of_methodNamed B.named
  have hlocks := B.notSynchronized
  subst hsz
  have hD := hD0.self (sz := s.heap.size)
  generalize hAe : va_A ([]) s.heap.size = A at hD hC ⊢
  have hA : ∀ q : Nat, s.heap.size ≤ q → A q := fun q h => by rw [← hAe]; exact Or.inr h
  have hS : va_S A s.heap s.heap [] := va_S.rf
  have hP : va_P D vC [] s.heap := hP
  have hD : va_D A [] := hD
  have hl := lv_entry ([.int (nI i), .int (nI n)]) (n := 2) (Nat.le_of_ble_eq_true rfl)
  rw [lg_entry_eq]
  generalize (lg_sl ([.int (nI i), .int (nI n)]) ++ List.replicate (2 - (lg_sl ([.int (nI i), .int (nI n)])).length) Slot.unset).toArray = ls at hl ⊢
  have hl : lv_has ls 2 [(0, .int (nI i)), (1, .int (nI n))] := hl
  obtain ⟨hT1, ⟨v9, hv9, hT2⟩, hT3⟩ := hC.1.2
  refine lv_iload_n hx hb d_String_checkIndex_0 rfl (lv_at hl 0 rfl) ?_
  refine lv_iload_n hx hb d_String_checkIndex_1 rfl (lv_at hl 1 rfl) ?_
  refine va_gets hx hb hT2 hS hown (hg _ mw_653) (fun _ h9 => h9) d_String_checkIndex_2 ?_
  rcases hv9 with rfl | ⟨t9, rfl⟩
  · skip
    refine xc_pi (va_runS (As := [.int (nI i), .int (nI n), .null]) (rest := []) ⟨hx, hb, hml, hown, hg⟩ (p_Pr_ciN l D kA kS s.heap.size i n hi hn) (va_cwS 3 hg (xg_S2 mw_655 mw_656 mw_23 mw_657) rfl rfl rfl (by decide +kernel) ⟨Nat.le_of_ble_eq_true rfl, Nat.le_of_ble_eq_true rfl⟩) (xc_pre hK hN hC hP hD hS hA [] (by decide) rfl) rfl rfl hl.1 rfl (lv_room (Nat.le_of_ble_eq_true rfl)) d_String_checkIndex_5 ⟨Nat.le_of_ble_eq_true rfl, Nat.le_of_ble_eq_true rfl⟩) (fun r_5 hw => ?_)
    refine lv_pop hx hb d_String_checkIndex_8 rfl ?_
    exact W.vret hx hb hr (fun t ht hW => ⟨rfl, ht⟩) (fun q hq => by cases hq) d_String_checkIndex_9
  · skip
    refine xc_pi (va_runS (As := [.int (nI i), .int (nI n), .ref t9]) (rest := []) ⟨hx, hb, hml, hown, hg⟩ (p_Pr_ciR l D kA kS s.heap.size i n hi hn t9) (va_cwS 3 hg (xg_S2 mw_655 mw_656 mw_23 mw_657) rfl rfl rfl (by decide +kernel) ⟨Nat.le_of_ble_eq_true rfl, Nat.le_of_ble_eq_true rfl⟩) (xc_pre hK hN hC hP hD hS hA [] (by decide) rfl) rfl rfl hl.1 rfl (lv_room (Nat.le_of_ble_eq_true rfl)) d_String_checkIndex_5 ⟨Nat.le_of_ble_eq_true rfl, Nat.le_of_ble_eq_true rfl⟩) (fun r_5 hw => ?_)
    refine lv_pop hx hb d_String_checkIndex_8 rfl ?_
    exact W.vret hx hb hr (fun t ht hW => ⟨rfl, ht⟩) (fun q hq => by cases hq) d_String_checkIndex_9

set_option maxHeartbeats 4000000 in
set_option maxRecDepth 100000 in
/-- charAt(bytes, i) -/
theorem p_SL_charAt (l : Launch) (D : va_G) (kA : Nat → ClassId) (kS : Nat → Nat) (sz : Nat) (j : Nat) (hj : j < 80) (i : Nat) (hi : i < sL j) : Met l y_StringLatin1_charAt w_StringLatin1_charAt { frames := 2, cells := 0, slots := 0, locals := 43 } (xPre D vC (tK kA) kS [.ref (kS (80 + j)), .int (nI i)] ([]) sz) (xt_Pi (fun y => y = sB j i)) 0 0 (fun _ => False) := by
  refine Met.ofW (cc := b_StringLatin1_charAt) (maxL := 2) (ret := (some .char)) (by decide) rfl ?_
  intro p e s m args below meth c s₁ B hml hv
  obtain ⟨rfl, hsz, hP, hK, hD0, hN, hC⟩ := hv
  have hx := B.exec
  have hb := B.bytes
  have hr := B.returns
  have hts := atoms_spec (ws := w_StringLatin1_charAt) B.pre
  have hg : ∀ w ∈ gW, w.before _ s = true := fun w h => hts w (List.mem_cons_of_mem _ h)
  have hown : s.vm.findClass "java/lang/StringLatin1" = some m.cls := findClass_of_methodNamed B.named
  have hlocks := B.notSynchronized
  subst hsz
  have hD := hD0.self (sz := s.heap.size)
  generalize hAe : va_A ([]) s.heap.size = A at hD hC ⊢
  have hA : ∀ q : Nat, s.heap.size ≤ q → A q := fun q h => by rw [← hAe]; exact Or.inr h
  have hS : va_S A s.heap s.heap [] := va_S.rf
  have hP : va_P D vC [] s.heap := hP
  have hD : va_D A [] := hD
  have hl := lv_entry ([.ref (kS (80 + j)), .int (nI i)]) (n := 2) (Nat.le_of_ble_eq_true rfl)
  rw [lg_entry_eq]
  generalize (lg_sl ([.ref (kS (80 + j)), .int (nI i)]) ++ List.replicate (2 - (lg_sl ([.ref (kS (80 + j)), .int (nI i)])).length) Slot.unset).toArray = ls at hl ⊢
  have hl : lv_has ls 2 [(0, .ref (kS (80 + j))), (1, .int (nI i))] := hl
  obtain ⟨hT1, ⟨v9, hv9, hT2⟩, hT3⟩ := hC.1.2
  have hL9 := sL_lt j hj
  obtain ⟨hb1, hb2, hb3⟩ := sB_ok j hj i hi
  refine lv_iload_n hx hb d_StringLatin1_charAt_0 rfl (lv_at hl 1 rfl) ?_
  refine lv_aload_n hx hb d_StringLatin1_charAt_1 rfl (lv_at hl 0 rfl) ?_
  refine va_tlen (v := nI (sL j)) hx hb (hT3 j hj).2.2.2 hS rfl d_StringLatin1_charAt_2 ?_
  refine xc_pv (va_runS (As := [.int (nI i), .int (nI (sL j))]) (rest := []) ⟨hx, hb, hml, hown, hg⟩ (p_Str_checkIndex l D kA kS s.heap.size i (sL j) hi (by omega)) (va_cwS 2 hg (xg_S2 mw_650 mw_651 mw_21 mw_652) rfl rfl rfl (by decide +kernel) ⟨Nat.le_of_ble_eq_true rfl, Nat.le_of_ble_eq_true rfl⟩) (xc_pre hK hN hC hP hD hS hA [] (by decide) rfl) rfl rfl hl.1 rfl (lv_room (Nat.le_of_ble_eq_true rfl)) d_StringLatin1_charAt_3 ⟨Nat.le_of_ble_eq_true rfl, Nat.le_of_ble_eq_true rfl⟩) ?_
  refine lv_aload_n hx hb d_StringLatin1_charAt_6 rfl (lv_at hl 0 rfl) ?_
  refine lv_iload_n hx hb d_StringLatin1_charAt_7 rfl (lv_at hl 1 rfl) ?_
  refine va_tb (i := nI i) (v := .int (sB j i)) hx hb (hT3 j hj).2.2.2 hS (vp_in_nI hi (show sL j < 2 ^ 31 by omega)) (by rw [nI_clamp (by omega)]; rfl) d_StringLatin1_charAt_8 ?_
  refine lv_sipush (v := 255) hx hb d_StringLatin1_charAt_9 (by decide) ?_
  refine lv_iand hx hb d_StringLatin1_charAt_12 ?_
  refine lv_topi (fun x_12 ex_12 => ?_)
  replace ex_12 : x_12 = sB j i := ex_12.trans (hb1)
  subst ex_12
  refine lv_i2c hx hb d_StringLatin1_charAt_13 rfl ?_
  refine lv_topi (fun x_13 ex_13 => ?_)
  replace ex_13 : x_13 = sB j i := ex_13.trans (hb2)
  subst ex_13
  exact W.zret (v := sB j i) hx hb hr (hb3) (fun t ht hW => ⟨sB j i, rfl, rfl, ht⟩) (fun q hq => by cases hq) d_StringLatin1_charAt_14

set_option maxHeartbeats 4000000 in
set_option maxRecDepth 100000 in
/-- charAt(i) -/
theorem p_Str_charAt (l : Launch) (D : va_G) (kA : Nat → ClassId) (kS : Nat → Nat) (sz : Nat) (j : Nat) (hj : j < 80) (i : Nat) (hi : i < sL j) : Met l y_String_charAt w_String_charAt { frames := 3, cells := 0, slots := 0, locals := 64 } (xPre D vC (tK kA) kS [.ref (kS j), .int (nI i)] ([]) sz) (xt_Pi (fun y => y = sB j i)) 0 0 (fun _ => False) := by
  refine Met.ofW (cc := b_String_charAt) (maxL := 2) (ret := (some .char)) (by decide) rfl ?_
  intro p e s m args below meth c s₁ B hml hv
  obtain ⟨rfl, hsz, hP, hK, hD0, hN, hC⟩ := hv
  have hx := B.exec
  have hb := B.bytes
  have hr := B.returns
  have hts := atoms_spec (ws := w_String_charAt) B.pre
  have hg : ∀ w ∈ gW, w.before _ s = true := fun w h => hts w (List.mem_cons_of_mem _ h)
  have hown : s.vm.findClass "java/lang/String" = some m.cls := findClass_of_methodNamed B.named
  have hlocks := B.notSynchronized
  subst hsz
  have hD := hD0.self (sz := s.heap.size)
  generalize hAe : va_A ([]) s.heap.size = A at hD hC ⊢
  have hA : ∀ q : Nat, s.heap.size ≤ q → A q := fun q h => by rw [← hAe]; exact Or.inr h
  have hS : va_S A s.heap s.heap [] := va_S.rf
  have hP : va_P D vC [] s.heap := hP
  have hD : va_D A [] := hD
  have hl := lv_entry ([.ref (kS j), .int (nI i)]) (n := 2) (Nat.le_of_ble_eq_true rfl)
  rw [lg_entry_eq]
  generalize (lg_sl ([.ref (kS j), .int (nI i)]) ++ List.replicate (2 - (lg_sl ([.ref (kS j), .int (nI i)])).length) Slot.unset).toArray = ls at hl ⊢
  have hl : lv_has ls 2 [(0, .ref (kS j)), (1, .int (nI i))] := hl
  obtain ⟨hT1, ⟨v9, hv9, hT2⟩, hT3⟩ := hC.1.2
  obtain ⟨hb1, hb2, hb3⟩ := sB_ok j hj i hi
  refine lv_aload_n hx hb d_String_charAt_0 rfl (lv_at hl 0 rfl) ?_
  refine xc_pi (va_runV (As := []) (rest := []) ⟨hx, hb, hml, hown, hg⟩ (p_Str_isLatin1 l D kA kS s.heap.size j hj) (cwV 0 hg (xg_V mw_643 mw_644 mw_645 mw_21 mw_646) rfl rfl rfl (by decide +kernel) ⟨Nat.le_of_ble_eq_true rfl, Nat.le_of_ble_eq_true rfl⟩) (xs_preV hK hN hC hP hD hS hA hj) rfl rfl hl.1 rfl (lv_room (Nat.le_of_ble_eq_true rfl)) d_String_charAt_1 ⟨Nat.le_of_ble_eq_true rfl, Nat.le_of_ble_eq_true rfl⟩) (fun r_1 hw1 => ?_)
  subst hw1
  refine lv_if_eq (tgt := 16) hx hb d_String_charAt_4 (by decide) (fun c_4 => ?_) (fun c_4 => ?_)
  · skip
    exact absurd c_4 (by decide)
  · skip
    refine lv_aload_n hx hb d_String_charAt_7 rfl (lv_at hl 0 rfl) ?_
    refine vk_getf hx hb (hT3 j hj).2.2.1 hS hown (hg _ mw_2378) (fun _ h9 => h9) d_String_charAt_8 ?_
    refine lv_iload_n hx hb d_String_charAt_11 rfl (lv_at hl 1 rfl) ?_
    refine xc_pi (va_runS (As := [.ref (kS (80 + j)), .int (nI i)]) (rest := []) ⟨hx, hb, hml, hown, hg⟩ (p_SL_charAt l D kA kS s.heap.size j hj i hi) (va_cwS 2 hg (xg_S2 mw_647 mw_648 mw_22 mw_649) rfl rfl rfl (by decide +kernel) ⟨Nat.le_of_ble_eq_true rfl, Nat.le_of_ble_eq_true rfl⟩) (xc_pre hK hN hC hP hD hS hA [] (by decide) rfl) rfl rfl hl.1 rfl (lv_room (Nat.le_of_ble_eq_true rfl)) d_String_charAt_12 ⟨Nat.le_of_ble_eq_true rfl, Nat.le_of_ble_eq_true rfl⟩) (fun r_12 hw2 => ?_)
    subst hw2
    exact W.zret (v := sB j i) hx hb hr (hb3) (fun t ht hW => ⟨sB j i, rfl, rfl, ht⟩) (fun q hq => by cases hq) d_String_charAt_15
