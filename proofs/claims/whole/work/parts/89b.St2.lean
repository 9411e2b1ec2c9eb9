/-! String.indexOf over the constants -/
def sIx (j : Nat) (v : Int32) : Nat → Nat → Int32
  | 0, _ => -1
  | m + 1, i => if sB j i = v then nI i else sIx j v m (i + 1)
theorem v_i8 {v : Int32} (h0 : ¬ v < 0) (h1 : v < 128) : v.toInt8.toInt32 = v := by
  have a0 : 0 ≤ v.toInt := by
    have := Int32.le_iff_toInt_le.mp (Int32.not_lt.mp h0)
    simpa using this
  have a1 : v.toInt < 128 := by
    have := Int32.lt_iff_toInt_lt.mp h1
    simpa using this
  apply Int32.toInt_inj.mp
  rw [Int8.toInt_toInt32, Int32.toInt_toInt8]
  exact Int.bmod_eq_of_le (by omega) (by omega)
theorem v_255 {v : Int32} (h1 : v < 128) : ¬ 255 < v := fun h => by
  have a1 := Int32.lt_iff_toInt_lt.mp h1
  have a2 := Int32.lt_iff_toInt_lt.mp h
  have b1 : (128 : Int32).toInt = 128 := rfl
  have b2 : (255 : Int32).toInt = 255 := rfl
  omega
set_option maxHeartbeats 4000000 in
set_option maxRecDepth 100000 in
/-- canEncode(v) -/
theorem p_SL_canEncode (l : Launch) (D : va_G) (kA : Nat → ClassId) (kS : Nat → Nat) (sz : Nat) (v : Int32) (hv0 : ¬ v < 0) (hv1 : v < 128) : Met l y_StringLatin1_canEncode w_StringLatin1_canEncode { frames := 0, cells := 0, slots := 0, locals := 0 } (xPre D vC (tK kA) kS [.int v] ([]) sz) (xt_Pi (fun y => y = 1)) 0 0 (fun _ => False) := by
  refine Met.ofW (cc := b_StringLatin1_canEncode) (maxL := 1) (ret := (some .boolean)) (by decide) rfl ?_
  intro p e s m args below meth c s₁ B hml hv
  obtain ⟨rfl, hsz, hP, hK, hD0, hN, hC⟩ := hv
  have hx := B.exec
  have hb := B.bytes
  have hr := B.returns
  have hts := atoms_spec (ws := w_StringLatin1_canEncode) B.pre
  have hg : ∀ w ∈ gW, w.before _ s = true := fun w h => hts w (List.mem_cons_of_mem _ h)
  have hown : s.vm.findClass "java/lang/StringLatin1" = some m.cls := findClass_of_methodNamed B.named
  have hlocks := B.notSynchronized
  subst hsz
  have hD := hD0.self (sz := s.heap.size)
  generalize hAe : va_A ([]) s.heap.size = A at hD hC ⊢
  have hA : ∀ q : Nat, s.heap.size ≤ q → A q := fun q h => by rw [← hAe]; exact Or.inr h
  have hS : va_S A s.heap s.heap [] := va_S.rf
  have hP : va_P D vC [] s.heap := hP
  have hD : va_D A [] := hD
  have hl := lv_entry ([.int v]) (n := 1) (Nat.le_of_ble_eq_true rfl)
  rw [lg_entry_eq]
  generalize (lg_sl ([.int v]) ++ List.replicate (1 - (lg_sl ([.int v])).length) Slot.unset).toArray = ls at hl ⊢
  have hl : lv_has ls 1 [(0, .int v)] := hl
  refine lv_iload_n hx hb d_StringLatin1_canEncode_0 rfl (lv_at hl 0 rfl) ?_
  refine lv_if_lt (tgt := 15) hx hb d_StringLatin1_canEncode_1 (by decide) (fun c_1 => ?_) (fun c_1 => ?_)
  · skip
    exact absurd c_1 hv0
  · skip
    refine lv_iload_n hx hb d_StringLatin1_canEncode_4 rfl (lv_at hl 0 rfl) ?_
    refine lv_sipush (v := 255) hx hb d_StringLatin1_canEncode_5 (by decide) ?_
    refine lv_icmp_gt (tgt := 15) hx hb d_StringLatin1_canEncode_8 (by decide) (fun c_8 => ?_) (fun c_8 => ?_)
    · skip
      exact absurd c_8 (v_255 hv1)
    · skip
      refine lv_iconst (v := 1) hx hb d_StringLatin1_canEncode_11 (by decide) ?_
      refine lv_goto (tgt := 16) hx hb d_StringLatin1_canEncode_12 (by decide) ?_
      exact W.zret (v := 1) hx hb hr (rfl) (fun t ht hW => ⟨1, rfl, rfl, ht⟩) (fun q hq => by cases hq) d_StringLatin1_canEncode_16

set_option maxHeartbeats 4000000 in
set_option maxRecDepth 100000 in
/-- indexOfChar -/
theorem p_SL_indexOfChar (l : Launch) (D : va_G) (kA : Nat → ClassId) (kS : Nat → Nat) (sz : Nat) (j : Nat) (hj : j < 80) (v : Int32) (hv0 : ¬ v < 0) (hv1 : v < 128) : Met l y_StringLatin1_indexOfChar w_StringLatin1_indexOfChar { frames := 0, cells := 0, slots := 0, locals := 0 } (xPre D vC (tK kA) kS [.ref (kS (80 + j)), .int v, .int (nI 0), .int (nI (sL j))] ([]) sz) (xt_Pi (fun y => y = sIx j v (sL j) 0)) 0 0 (fun _ => False) := by
  refine Met.ofW (cc := b_StringLatin1_indexOfChar) (maxL := 6) (ret := (some .int)) (by decide) rfl ?_
  intro p e s m args below meth c s₁ B hml hv
  obtain ⟨rfl, hsz, hP, hK, hD0, hN, hC⟩ := hv
  have hx := B.exec
  have hb := B.bytes
  have hr := B.returns
  have hts := atoms_spec (ws := w_StringLatin1_indexOfChar) B.pre
  have hg : ∀ w ∈ gW, w.before _ s = true := fun w h => hts w (List.mem_cons_of_mem _ h)
  have hown : s.vm.findClass "java/lang/StringLatin1" = some m.cls := findClass_of_methodNamed B.named
  have hlocks := B.notSynchronized
  subst hsz
  have hD := hD0.self (sz := s.heap.size)
  generalize hAe : va_A ([]) s.heap.size = A at hD hC ⊢
  have hA : ∀ q : Nat, s.heap.size ≤ q → A q := fun q h => by rw [← hAe]; exact Or.inr h
  have hS : va_S A s.heap s.heap [] := va_S.rf
  have hP : va_P D vC [] s.heap := hP
  have hD : va_D A [] := hD
  have hl := lv_entry ([.ref (kS (80 + j)), .int v, .int (nI 0), .int (nI (sL j))]) (n := 6) (Nat.le_of_ble_eq_true rfl)
  rw [lg_entry_eq]
  generalize (lg_sl ([.ref (kS (80 + j)), .int v, .int (nI 0), .int (nI (sL j))]) ++ List.replicate (6 - (lg_sl ([.ref (kS (80 + j)), .int v, .int (nI 0), .int (nI (sL j))])).length) Slot.unset).toArray = ls at hl ⊢
  have hl : lv_has ls 6 [(0, .ref (kS (80 + j))), (1, .int v), (2, .int (nI 0)), (3, .int (nI (sL j)))] := hl
  obtain ⟨hT1, ⟨v9, hv9, hT2⟩, hT3⟩ := hC.1.2
  have hL9 := sL_lt j hj
  refine xl_Q (fun Q9 hQ9 => ?_)
  refine lv_iload_n hx hb d_StringLatin1_indexOfChar_0 rfl (lv_at hl 1 rfl) ?_
  refine lv_i2b hx hb d_StringLatin1_indexOfChar_1 rfl ?_
  refine lv_topi (fun x_1 ex_1 => ?_)
  refine lv_istore (lv' := [(4, .int x_1), (0, .ref (kS (80 + j))), (1, .int v), (2, .int (nI 0)), (3, .int (nI (sL j)))]) hx hb d_StringLatin1_indexOfChar_2 hl (by decide) rfl (fun ls hl => ?_)
  refine lv_iload_n hx hb d_StringLatin1_indexOfChar_4 rfl (lv_at hl 3 rfl) ?_
  refine lv_istore (lv' := [(5, .int (nI 0)), (4, .int x_1), (0, .ref (kS (80 + j))), (1, .int v), (2, .int (nI 0)), (3, .int (nI (sL j)))]) hx hb d_StringLatin1_indexOfChar_5 hl (by decide) rfl (fun ls hl => ?_)
  have lp : ∀ (k i : Nat), i + k = sL j → sIx j v (sL j) 0 = sIx j v k i → ∀ (ls : Array Slot), lv_has ls 6 [(0, .ref (kS (80 + j))), (1, .int v), (3, .int (nI (sL j))), (4, .int v.toInt8.toInt32), (5, .int (nI i))] → W p l e (headSpec w_StringLatin1_indexOfChar { frames := 0, cells := 0, slots := 0, locals := 0 }).room s m ([.ref (kS (80 + j)), .int v, .int (nI 0), .int (nI (sL j))] : List Value).toArray below meth c s.heap [] 0 0 Q9 (F0 m 7 ls []) := by
    intro k
    induction k with
    | zero =>
      intro i hi hs9 ls hl
      refine lv_iload hx hb d_StringLatin1_indexOfChar_7 (lv_at hl 4 rfl) ?_
      refine lv_iload_n hx hb d_StringLatin1_indexOfChar_9 rfl (lv_at hl 2 rfl) ?_
      refine xb_ge (tgt := 31) hx hb d_StringLatin1_indexOfChar_10 (by decide) (by omega) (by omega) (fun c_10 => ?_) (fun c_10 => ?_)
      · skip
        refine lv_iconst (v := (-1)) hx hb d_StringLatin1_indexOfChar_31 (by decide) ?_
        rw [hQ9]
        exact W.iret (v := (-1)) hx hb hr (fun t ht hW => ⟨(-1), rfl, hs9.symm, ht⟩) (fun q hq => by cases hq) d_StringLatin1_indexOfChar_32
      · skip
        exact absurd c_10 (by omega)
    | succ k ih =>
      intro i hi hs9 ls hl
      refine lv_iload hx hb d_StringLatin1_indexOfChar_7 (lv_at hl 4 rfl) ?_
      refine lv_iload_n hx hb d_StringLatin1_indexOfChar_9 rfl (lv_at hl 2 rfl) ?_
      refine xb_ge (tgt := 31) hx hb d_StringLatin1_indexOfChar_10 (by decide) (by omega) (by omega) (fun c_10 => ?_) (fun c_10 => ?_)
      · skip
        exact absurd c_10 (by omega)
      · skip
        refine lv_aload_n hx hb d_StringLatin1_indexOfChar_13 rfl (lv_at hl 0 rfl) ?_
        refine lv_iload hx hb d_StringLatin1_indexOfChar_14 (lv_at hl 4 rfl) ?_
        refine va_tb (i := nI i) (v := .int (sB j i)) hx hb (hT3 j hj).2.2.2 hS (vp_in_nI (show i < sL j by omega) (show sL j < 2 ^ 31 by omega)) (by rw [nI_clamp (by omega)]; rfl) d_StringLatin1_indexOfChar_16 ?_
        refine lv_iload hx hb d_StringLatin1_indexOfChar_17 (lv_at hl 3 rfl) ?_
        refine lv_icmp_ne (tgt := 25) hx hb d_StringLatin1_indexOfChar_19 (by decide) (fun c_19 => ?_) (fun c_19 => ?_)
        · skip
          obtain ⟨x_25, ex_25⟩ : ∃ y : Int32, y = (nI i) + Int32.ofInt 1 := ⟨_, rfl⟩
          replace ex_25 : x_25 = nI (i + 1) := ex_25.trans (nI_1 i)
          refine lv_iinc (v := x_25) (lv' := [(5, .int x_25), (0, .ref (kS (80 + j))), (1, .int v), (3, .int (nI (sL j))), (4, .int v.toInt8.toInt32)]) hx hb d_StringLatin1_indexOfChar_25 hl (k := 4) rfl (by rw [ex_25]; exact nI_1 i) (by decide) rfl (fun ls hl => ?_)
          subst ex_25
          refine lv_goto (tgt := 7) hx hb d_StringLatin1_indexOfChar_28 (by decide) ?_
          exact ih (i + 1) (by omega) (hs9.trans (show sIx j v (k + 1) i = sIx j v k (i + 1) from if_neg (by rw [← v_i8 hv0 hv1]; exact c_19))) ls (lv_sub hl [1, 2, 3, 4, 0] rfl)
        · skip
          refine lv_iload hx hb d_StringLatin1_indexOfChar_22 (lv_at hl 4 rfl) ?_
          rw [hQ9]
          exact W.iret (v := nI i) hx hb hr (fun t ht hW => ⟨nI i, rfl, (hs9.trans (show sIx j v (k + 1) i = nI i from if_pos (c_19.trans (v_i8 hv0 hv1)))).symm, ht⟩) (fun q hq => by cases hq) d_StringLatin1_indexOfChar_24
  subst ex_1
  exact lp (sL j) 0 (by omega) rfl ls (lv_sub hl [2, 3, 5, 1, 0] rfl)

set_option maxHeartbeats 4000000 in
set_option maxRecDepth 100000 in
/-- indexOf(bytes, v, 0, n) -/
theorem p_SL_indexOf (l : Launch) (D : va_G) (kA : Nat → ClassId) (kS : Nat → Nat) (sz : Nat) (j : Nat) (hj : j < 80) (v : Int32) (hv0 : ¬ v < 0) (hv1 : v < 128) (hL0 : 0 < sL j) : Met l y_StringLatin1_indexOf w_StringLatin1_indexOf { frames := 1, cells := 0, slots := 0, locals := 25 } (xPre D vC (tK kA) kS [.ref (kS (80 + j)), .int v, .int 0, .int (nI (sL j))] ([]) sz) (xt_Pi (fun y => y = sIx j v (sL j) 0)) 0 0 (fun _ => False) := by
  refine Met.ofW (cc := b_StringLatin1_indexOf) (maxL := 4) (ret := (some .int)) (by decide) rfl ?_
  intro p e s m args below meth c s₁ B hml hv
  obtain ⟨rfl, hsz, hP, hK, hD0, hN, hC⟩ := hv
  have hx := B.exec
  have hb := B.bytes
  have hr := B.returns
  have hts := atoms_spec (ws := w_StringLatin1_indexOf) B.pre
  have hg : ∀ w ∈ gW, w.before _ s = true := fun w h => hts w (List.mem_cons_of_mem _ h)
  have hown : s.vm.findClass "java/lang/StringLatin1" = some m.cls := findClass_of_methodNamed B.named
  have hlocks := B.notSynchronized
  subst hsz
  have hD := hD0.self (sz := s.heap.size)
  generalize hAe : va_A ([]) s.heap.size = A at hD hC ⊢
  have hA : ∀ q : Nat, s.heap.size ≤ q → A q := fun q h => by rw [← hAe]; exact Or.inr h
  have hS : va_S A s.heap s.heap [] := va_S.rf
  have hP : va_P D vC [] s.heap := hP
  have hD : va_D A [] := hD
  have hl := lv_entry ([.ref (kS (80 + j)), .int v, .int 0, .int (nI (sL j))]) (n := 4) (Nat.le_of_ble_eq_true rfl)
  rw [lg_entry_eq]
  generalize (lg_sl ([.ref (kS (80 + j)), .int v, .int 0, .int (nI (sL j))]) ++ List.replicate (4 - (lg_sl ([.ref (kS (80 + j)), .int v, .int 0, .int (nI (sL j))])).length) Slot.unset).toArray = ls at hl ⊢
  have hl : lv_has ls 4 [(0, .ref (kS (80 + j))), (1, .int v), (2, .int 0), (3, .int (nI (sL j)))] := hl
  obtain ⟨hT1, ⟨v9, hv9, hT2⟩, hT3⟩ := hC.1.2
  have hL9 := sL_lt j hj
  refine lv_iload_n hx hb d_StringLatin1_indexOf_0 rfl (lv_at hl 1 rfl) ?_
  refine xc_pi (va_runS (As := [.int v]) (rest := []) ⟨hx, hb, hml, hown, hg⟩ (p_SL_canEncode l D kA kS s.heap.size v hv0 hv1) (va_cwS 1 hg (xg_S2 mw_1913 mw_1914 mw_22 mw_1915) rfl rfl rfl (by decide +kernel) ⟨Nat.le_of_ble_eq_true rfl, Nat.le_of_ble_eq_true rfl⟩) (xc_pre hK hN hC hP hD hS hA [] (by decide) rfl) rfl rfl hl.1 rfl (lv_room (Nat.le_of_ble_eq_true rfl)) d_StringLatin1_indexOf_1 ⟨Nat.le_of_ble_eq_true rfl, Nat.le_of_ble_eq_true rfl⟩) (fun r_1 hw1 => ?_)
  subst hw1
  refine lv_if_ne (tgt := 9) hx hb d_StringLatin1_indexOf_4 (by decide) (fun c_4 => ?_) (fun c_4 => ?_)
  · skip
    refine lv_iload_n hx hb d_StringLatin1_indexOf_9 rfl (lv_at hl 2 rfl) ?_
    refine lv_iconst (v := 0) hx hb d_StringLatin1_indexOf_10 (by decide) ?_
    refine va_mmax hx hb (by first | (rw [hml]; exact hl.1) | (rw [hml]; exact hl.1.symm)) hown (hg _ mw_1916) (hg _ mw_1176) (hg _ mw_20) (hg _ mw_1177) (Nat.le_of_ble_eq_true rfl) (Nat.le_of_ble_eq_true rfl) (Nat.le_of_ble_eq_true rfl) (Nat.le_of_ble_eq_true rfl) d_StringLatin1_indexOf_11 ?_
    show W _ _ _ _ _ _ _ _ _ _ _ _ _ _ _ (F0 _ _ _ [.int (nI 0)])
    refine lv_istore_n (lv' := [(2, .int (nI 0)), (0, .ref (kS (80 + j))), (1, .int v), (3, .int (nI (sL j)))]) hx hb d_StringLatin1_indexOf_14 rfl hl (by decide) rfl (fun ls hl => ?_)
    refine lv_iload_n hx hb d_StringLatin1_indexOf_15 rfl (lv_at hl 3 rfl) ?_
    refine lv_aload_n hx hb d_StringLatin1_indexOf_16 rfl (lv_at hl 1 rfl) ?_
    refine va_tlen (v := nI (sL j)) hx hb (hT3 j hj).2.2.2 hS rfl d_StringLatin1_indexOf_17 ?_
    refine va_mmin hx hb (by first | (rw [hml]; exact hl.1) | (rw [hml]; exact hl.1.symm)) hown (hg _ mw_1917) (hg _ mw_548) (hg _ mw_20) (hg _ mw_549) (Nat.le_of_ble_eq_true rfl) (Nat.le_of_ble_eq_true rfl) (Nat.le_of_ble_eq_true rfl) (Nat.le_of_ble_eq_true rfl) d_StringLatin1_indexOf_18 ?_
    rw [if_neg (Int32.lt_irrefl)]
    refine lv_istore_n (lv' := [(3, .int (nI (sL j))), (2, .int (nI 0)), (0, .ref (kS (80 + j))), (1, .int v)]) hx hb d_StringLatin1_indexOf_21 rfl hl (by decide) rfl (fun ls hl => ?_)
    refine lv_iload_n hx hb d_StringLatin1_indexOf_22 rfl (lv_at hl 1 rfl) ?_
    refine lv_iload_n hx hb d_StringLatin1_indexOf_23 rfl (lv_at hl 0 rfl) ?_
    refine xb_lt (tgt := 29) hx hb d_StringLatin1_indexOf_24 (by decide) (by omega) (by omega) (fun c_24 => ?_) (fun c_24 => ?_)
    · skip
      refine lv_aload_n hx hb d_StringLatin1_indexOf_29 rfl (lv_at hl 2 rfl) ?_
      refine lv_iload_n hx hb d_StringLatin1_indexOf_30 rfl (lv_at hl 3 rfl) ?_
      refine lv_iload_n hx hb d_StringLatin1_indexOf_31 rfl (lv_at hl 1 rfl) ?_
      refine lv_iload_n hx hb d_StringLatin1_indexOf_32 rfl (lv_at hl 0 rfl) ?_
      refine xc_pi (va_runS (As := [.ref (kS (80 + j)), .int v, .int (nI 0), .int (nI (sL j))]) (rest := []) ⟨hx, hb, hml, hown, hg⟩ (p_SL_indexOfChar l D kA kS s.heap.size j hj v hv0 hv1) (va_cwS 4 hg (xg_S2 mw_1918 mw_1919 mw_22 mw_1920) rfl rfl rfl (by decide +kernel) ⟨Nat.le_of_ble_eq_true rfl, Nat.le_of_ble_eq_true rfl⟩) (xc_pre hK hN hC hP hD hS hA [] (by decide) rfl) rfl rfl hl.1 rfl (lv_room (Nat.le_of_ble_eq_true rfl)) d_StringLatin1_indexOf_33 ⟨Nat.le_of_ble_eq_true rfl, Nat.le_of_ble_eq_true rfl⟩) (fun r_33 hw2 => ?_)
      subst hw2
      exact W.iret (v := sIx j v (sL j) 0) hx hb hr (fun t ht hW => ⟨sIx j v (sL j) 0, rfl, rfl, ht⟩) (fun q hq => by cases hq) d_StringLatin1_indexOf_36
    · skip
      exact absurd hL0 (by omega)
  · skip
    exact absurd c_4 (by decide)

set_option maxHeartbeats 4000000 in
set_option maxRecDepth 100000 in
/-- indexOf(v, 0) -/
theorem p_Str_indexOf2 (l : Launch) (D : va_G) (kA : Nat → ClassId) (kS : Nat → Nat) (sz : Nat) (j : Nat) (hj : j < 80) (v : Int32) (hv0 : ¬ v < 0) (hv1 : v < 128) (hL0 : 0 < sL j) : Met l y_String_indexOf_2 w_String_indexOf_2 { frames := 2, cells := 0, slots := 0, locals := 48 } (xPre D vC (tK kA) kS [.ref (kS j), .int v, .int 0] ([]) sz) (xt_Pi (fun y => y = sIx j v (sL j) 0)) 0 0 (fun _ => False) := by
  refine Met.ofW (cc := b_String_indexOf_2) (maxL := 3) (ret := (some .int)) (by decide) rfl ?_
  intro p e s m args below meth c s₁ B hml hv
  obtain ⟨rfl, hsz, hP, hK, hD0, hN, hC⟩ := hv
  have hx := B.exec
  have hb := B.bytes
  have hr := B.returns
  have hts := atoms_spec (ws := w_String_indexOf_2) B.pre
  have hg : ∀ w ∈ gW, w.before _ s = true := fun w h => hts w (List.mem_cons_of_mem _ h)
  have hown : s.vm.findClass "java/lang/String" = some m.cls := findClass_of_methodNamed B.named
  have hlocks := B.notSynchronized
  subst hsz
  have hD := hD0.self (sz := s.heap.size)
  generalize hAe : va_A ([]) s.heap.size = A at hD hC ⊢
  have hA : ∀ q : Nat, s.heap.size ≤ q → A q := fun q h => by rw [← hAe]; exact Or.inr h
  have hS : va_S A s.heap s.heap [] := va_S.rf
  have hP : va_P D vC [] s.heap := hP
  have hD : va_D A [] := hD
  have hl := lv_entry ([.ref (kS j), .int v, .int 0]) (n := 3) (Nat.le_of_ble_eq_true rfl)
  rw [lg_entry_eq]
  generalize (lg_sl ([.ref (kS j), .int v, .int 0]) ++ List.replicate (3 - (lg_sl ([.ref (kS j), .int v, .int 0])).length) Slot.unset).toArray = ls at hl ⊢
  have hl : lv_has ls 3 [(0, .ref (kS j)), (1, .int v), (2, .int 0)] := hl
  obtain ⟨hT1, ⟨v9, hv9, hT2⟩, hT3⟩ := hC.1.2
  refine lv_aload_n hx hb d_String_indexOf_2_0 rfl (lv_at hl 0 rfl) ?_
  refine xc_pi (va_runV (As := []) (rest := []) ⟨hx, hb, hml, hown, hg⟩ (p_Str_isLatin1 l D kA kS s.heap.size j hj) (cwV 0 hg (xg_V mw_643 mw_644 mw_645 mw_21 mw_646) rfl rfl rfl (by decide +kernel) ⟨Nat.le_of_ble_eq_true rfl, Nat.le_of_ble_eq_true rfl⟩) (xs_preV hK hN hC hP hD hS hA hj) rfl rfl hl.1 rfl (lv_room (Nat.le_of_ble_eq_true rfl)) d_String_indexOf_2_1 ⟨Nat.le_of_ble_eq_true rfl, Nat.le_of_ble_eq_true rfl⟩) (fun r_1 hw1 => ?_)
  subst hw1
  refine lv_if_eq (tgt := 23) hx hb d_String_indexOf_2_4 (by decide) (fun c_4 => ?_) (fun c_4 => ?_)
  · skip
    exact absurd c_4 (by decide)
  · skip
    refine lv_aload_n hx hb d_String_indexOf_2_7 rfl (lv_at hl 0 rfl) ?_
    refine vk_getf hx hb (hT3 j hj).2.2.1 hS hown (hg _ mw_2378) (fun _ h9 => h9) d_String_indexOf_2_8 ?_
    refine lv_iload_n hx hb d_String_indexOf_2_11 rfl (lv_at hl 1 rfl) ?_
    refine lv_iload_n hx hb d_String_indexOf_2_12 rfl (lv_at hl 2 rfl) ?_
    refine lv_aload_n hx hb d_String_indexOf_2_13 rfl (lv_at hl 0 rfl) ?_
    refine xc_pi (va_runV (As := []) (rest := [.int 0, .int v, .ref (kS (80 + j))]) ⟨hx, hb, hml, hown, hg⟩ (p_Str_length l D kA kS s.heap.size j hj) (cwV 0 hg (xg_V mw_1909 mw_630 mw_631 mw_21 mw_632) rfl rfl rfl (by decide +kernel) ⟨Nat.le_of_ble_eq_true rfl, Nat.le_of_ble_eq_true rfl⟩) (xs_preV hK hN hC hP hD hS hA hj) rfl rfl hl.1 rfl (lv_room (Nat.le_of_ble_eq_true rfl)) d_String_indexOf_2_14 ⟨Nat.le_of_ble_eq_true rfl, Nat.le_of_ble_eq_true rfl⟩) (fun r_14 hw2 => ?_)
    subst hw2
    refine xc_pi (va_runS (As := [.ref (kS (80 + j)), .int v, .int 0, .int (nI (sL j))]) (rest := []) ⟨hx, hb, hml, hown, hg⟩ (p_SL_indexOf l D kA kS s.heap.size j hj v hv0 hv1 hL0) (va_cwS 4 hg (xg_S2 mw_1910 mw_1911 mw_22 mw_1912) rfl rfl rfl (by decide +kernel) ⟨Nat.le_of_ble_eq_true rfl, Nat.le_of_ble_eq_true rfl⟩) (xc_pre hK hN hC hP hD hS hA [] (by decide) rfl) rfl rfl hl.1 rfl (lv_room (Nat.le_of_ble_eq_true rfl)) d_String_indexOf_2_17 ⟨Nat.le_of_ble_eq_true rfl, Nat.le_of_ble_eq_true rfl⟩) (fun r_17 hw3 => ?_)
    subst hw3
    refine lv_goto (tgt := 36) hx hb d_String_indexOf_2_20 (by decide) ?_
    exact W.iret (v := sIx j v (sL j) 0) hx hb hr (fun t ht hW => ⟨sIx j v (sL j) 0, rfl, rfl, ht⟩) (fun q hq => by cases hq) d_String_indexOf_2_36

set_option maxHeartbeats 4000000 in
set_option maxRecDepth 100000 in
/-- indexOf(v) -/
theorem p_Str_indexOf (l : Launch) (D : va_G) (kA : Nat → ClassId) (kS : Nat → Nat) (sz : Nat) (j : Nat) (hj : j < 80) (v : Int32) (hv0 : ¬ v < 0) (hv1 : v < 128) (hL0 : 0 < sL j) : Met l y_String_indexOf w_String_indexOf { frames := 3, cells := 0, slots := 0, locals := 70 } (xPre D vC (tK kA) kS [.ref (kS j), .int v] ([]) sz) (xt_Pi (fun y => y = sIx j v (sL j) 0)) 0 0 (fun _ => False) := by
  refine Met.ofW (cc := b_String_indexOf) (maxL := 2) (ret := (some .int)) (by decide) rfl ?_
  intro p e s m args below meth c s₁ B hml hv
  obtain ⟨rfl, hsz, hP, hK, hD0, hN, hC⟩ := hv
  have hx := B.exec
  have hb := B.bytes
  have hr := B.returns
  have hts := atoms_spec (ws := w_String_indexOf) B.pre
  have hg : ∀ w ∈ gW, w.before _ s = true := fun w h => hts w (List.mem_cons_of_mem _ h)
  have hown : s.vm.findClass "java/lang/String" = some m.cls := findClass_of_methodNamed B.named
  have hlocks := B.notSynchronized
  subst hsz
  have hD := hD0.self (sz := s.heap.size)
  generalize hAe : va_A ([]) s.heap.size = A at hD hC ⊢
  have hA : ∀ q : Nat, s.heap.size ≤ q → A q := fun q h => by rw [← hAe]; exact Or.inr h
  have hS : va_S A s.heap s.heap [] := va_S.rf
  have hP : va_P D vC [] s.heap := hP
  have hD : va_D A [] := hD
  have hl := lv_entry ([.ref (kS j), .int v]) (n := 2) (Nat.le_of_ble_eq_true rfl)
  rw [lg_entry_eq]
  generalize (lg_sl ([.ref (kS j), .int v]) ++ List.replicate (2 - (lg_sl ([.ref (kS j), .int v])).length) Slot.unset).toArray = ls at hl ⊢
  have hl : lv_has ls 2 [(0, .ref (kS j)), (1, .int v)] := hl
  obtain ⟨hT1, ⟨v9, hv9, hT2⟩, hT3⟩ := hC.1.2
  refine lv_aload_n hx hb d_String_indexOf_0 rfl (lv_at hl 0 rfl) ?_
  refine lv_iload_n hx hb d_String_indexOf_1 rfl (lv_at hl 1 rfl) ?_
  refine lv_iconst (v := 0) hx hb d_String_indexOf_2 (by decide) ?_
  refine xc_pi (va_runV (As := [.int v, .int 0]) (rest := []) ⟨hx, hb, hml, hown, hg⟩ (p_Str_indexOf2 l D kA kS s.heap.size j hj v hv0 hv1 hL0) (cwV 2 hg (xg_V mw_1905 mw_1906 mw_1907 mw_21 mw_1908) rfl rfl rfl (by decide +kernel) ⟨Nat.le_of_ble_eq_true rfl, Nat.le_of_ble_eq_true rfl⟩) (xs_preV hK hN hC hP hD hS hA hj) rfl rfl hl.1 rfl (lv_room (Nat.le_of_ble_eq_true rfl)) d_String_indexOf_3 ⟨Nat.le_of_ble_eq_true rfl, Nat.le_of_ble_eq_true rfl⟩) (fun r_3 hw1 => ?_)
  subst hw1
  exact W.iret (v := sIx j v (sL j) 0) hx hb hr (fun t ht hW => ⟨sIx j v (sL j) 0, rfl, rfl, ht⟩) (fun q hq => by cases hq) d_String_indexOf_6
