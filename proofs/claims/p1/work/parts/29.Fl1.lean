/-! the list of files: its reads -/
def fl_is (f0 f4 : Nat → Int32) (sb : Int32) (k : Nat) : Int32 := if f0 k = sb then (if f4 k = -1 then 0 else 1) else 0
def fl_cnt (f0 f4 : Nat → Int32) (sb : Int32) : Nat → Int32
  | 0 => 0
  | k + 1 => fl_cnt f0 f4 sb k + (if fl_is f0 f4 sb k = 0 then 0 else 1)
def fl_sum (f0 f4 : Nat → Int32) (sb : Int32) : Nat → Int32
  | 0 => 0
  | k + 1 => fl_sum f0 f4 sb k + (if fl_is f0 f4 sb k = 0 then 0 else f4 k)
abbrev wFl (h0 : Nat) (g : Nat → Nat) (kA : Nat → ClassId) (ln tu : Int32) (f0 f4 : Nat → Int32) : va_W := [oFl h0 g ln tu, (g 0, .inl (kA 1, 40, .inl f0)), (g 4, .inl (kA 1, 40, .inl f4))]
abbrev oSc (h0 : Nat) (q : Nat → Nat) (z : Nat → Int32) : Nat × va_E := (h0, .inr (2, [.ref (q 0), .ref (q 1), .ref (q 2), .ref (q 3), .ref (q 4), .ref (q 5), .ref (q 6), .ref (q 7), .ref (q 8), .ref (q 9), .ref (q 10), .int (z 11), .ref (q 12), .ref (q 13), .int (z 14), .int (z 15), .int (z 16), .int (z 17)]))
set_option maxHeartbeats 4000000 in
set_option maxRecDepth 100000 in
/-- isRowsOf(k, sb) -/
theorem p_Fl_isRowsOf (l : Launch) (D : va_G) (kA : Nat → ClassId) (kS : Nat → Nat) (sz : Nat) (h0 L : Nat) (g : Nat → Nat) (tu sb : Int32) (f0 f4 : Nat → Int32) (k : Nat) (hk : k < 40) : Met l y_Fl_isRowsOf w_Fl_isRowsOf { frames := 0, cells := 0, slots := 0, locals := 0 } (xPre D vC (tK kA) kS [.ref h0, .int (nI k), .int sb] (wFl h0 g kA (nI L) tu f0 f4) sz) (xt_Pi (fun r => r = fl_is f0 f4 sb k)) 0 0 (fun _ => False) := by
  refine Met.ofW (cc := b_Fl_isRowsOf) (maxL := 3) (ret := (some .boolean)) (by decide) rfl ?_
  intro p e s m args below meth c s₁ B hml hv
  obtain ⟨rfl, hsz, hP, hK, hD0, hN, hC⟩ := hv
  have hx := B.exec
  have hb := B.bytes
  have hr := B.returns
  have hts := atoms_spec (ws := w_Fl_isRowsOf) B.pre
  have hg : ∀ w ∈ gW, w.before _ s = true := fun w h => hts w (List.mem_cons_of_mem _ h)
  have hown : s.vm.findClass R_Fl = some m.cls := findClass_of_methodNamed B.named
  have hlocks := B.notSynchronized
  subst hsz
  have hD := hD0.self (sz := s.heap.size)
  generalize hAe : va_A (wFl h0 g kA (nI L) tu f0 f4) s.heap.size = A at hD hC ⊢
  have hA : ∀ q : Nat, s.heap.size ≤ q → A q := fun q h => by rw [← hAe]; exact Or.inr h
  have hS : va_S A s.heap s.heap [] := va_S.rf
  have hP : va_P D vC [(h0, .inr (10, [.ref (g 0), .ref (g 1), .ref (g 2), .ref (g 3), .ref (g 4), .int (nI L), .int tu, .ref (g 5), .ref (g 6)])), (g 0, .inl (kA 1, 40, .inl f0)), (g 4, .inl (kA 1, 40, .inl f4))] s.heap := hP
  have hD : va_D A [(h0, .inr (10, [.ref (g 0), .ref (g 1), .ref (g 2), .ref (g 3), .ref (g 4), .int (nI L), .int tu, .ref (g 5), .ref (g 6)])), (g 0, .inl (kA 1, 40, .inl f0)), (g 4, .inl (kA 1, 40, .inl f4))] := hD
  have hl := lv_entry ([.ref h0, .int (nI k), .int sb]) (n := 3) (Nat.le_of_ble_eq_true rfl)
  rw [lg_entry_eq]
  generalize (lg_sl ([.ref h0, .int (nI k), .int sb]) ++ List.replicate (3 - (lg_sl ([.ref h0, .int (nI k), .int sb])).length) Slot.unset).toArray = ls at hl ⊢
  have hl : lv_has ls 3 [(0, .ref h0), (1, .int (nI k)), (2, .int sb)] := hl
  refine lv_aload_n hx hb d_Fl_isRowsOf_0 rfl (lv_at hl 0 rfl) ?_
  refine va_get (D := D) (ci := 10) (v := .ref (g 0)) (C := R_Fl) (T := F_Fl) (N := 9) hx hb hg i_Fl hown hK hP 0 rfl rfl 0 (by decide) (hg _ mw_448) (fun _ h9 => h9) rfl d_Fl_isRowsOf_1 ?_
  refine lv_iload_n hx hb d_Fl_isRowsOf_4 rfl (lv_at hl 1 rfl) ?_
  refine xb_iald hx hb hK hP 1 1 rfl rfl (by omega) (by omega) d_Fl_isRowsOf_5 ?_
  refine lv_topi (fun x_5 ex_5 => ?_)
  refine lv_iload_n hx hb d_Fl_isRowsOf_6 rfl (lv_at hl 2 rfl) ?_
  refine lv_icmp_ne (tgt := 24) hx hb d_Fl_isRowsOf_7 (by decide) (fun c_7 => ?_) (fun c_7 => ?_)
  · skip
    refine lv_iconst (v := 0) hx hb d_Fl_isRowsOf_24 (by decide) ?_
    exact W.zret (v := 0) hx hb hr (rfl) (fun t ht hW => ⟨0, rfl, by unfold fl_is; rw [if_neg (by rw [← ex_5]; exact c_7)], ht⟩) (fun q hq => by cases hq) d_Fl_isRowsOf_25
  · skip
    refine lv_aload_n hx hb d_Fl_isRowsOf_10 rfl (lv_at hl 0 rfl) ?_
    refine va_get (D := D) (ci := 10) (v := .ref (g 4)) (C := R_Fl) (T := F_Fl) (N := 9) hx hb hg i_Fl hown hK hP 0 rfl rfl 4 (by decide) (hg _ mw_456) (fun _ h9 => h9) rfl d_Fl_isRowsOf_11 ?_
    refine lv_iload_n hx hb d_Fl_isRowsOf_14 rfl (lv_at hl 1 rfl) ?_
    refine xb_iald hx hb hK hP 2 1 rfl rfl (by omega) (by omega) d_Fl_isRowsOf_15 ?_
    refine lv_topi (fun x_15 ex_15 => ?_)
    refine lv_iconst (v := (-1)) hx hb d_Fl_isRowsOf_16 (by decide) ?_
    refine lv_icmp_eq (tgt := 24) hx hb d_Fl_isRowsOf_17 (by decide) (fun c_17 => ?_) (fun c_17 => ?_)
    · skip
      refine lv_iconst (v := 0) hx hb d_Fl_isRowsOf_24 (by decide) ?_
      exact W.zret (v := 0) hx hb hr (rfl) (fun t ht hW => ⟨0, rfl, by unfold fl_is; rw [if_pos (by rw [← ex_5]; exact c_7), if_pos (by rw [← ex_15]; exact c_17)], ht⟩) (fun q hq => by cases hq) d_Fl_isRowsOf_25
    · skip
      refine lv_iconst (v := 1) hx hb d_Fl_isRowsOf_20 (by decide) ?_
      refine lv_goto (tgt := 25) hx hb d_Fl_isRowsOf_21 (by decide) ?_
      exact W.zret (v := 1) hx hb hr (rfl) (fun t ht hW => ⟨1, rfl, by unfold fl_is; rw [if_pos (by rw [← ex_5]; exact c_7), if_neg (by rw [← ex_15]; exact c_17)], ht⟩) (fun q hq => by cases hq) d_Fl_isRowsOf_25

set_option maxHeartbeats 4000000 in
set_option maxRecDepth 100000 in
/-- filesOf(sb) -/
theorem p_Fl_filesOf (l : Launch) (D : va_G) (kA : Nat → ClassId) (kS : Nat → Nat) (sz : Nat) (h0 L : Nat) (g : Nat → Nat) (tu sb : Int32) (f0 f4 : Nat → Int32) (hL : L ≤ 40) : Met l y_Fl_filesOf w_Fl_filesOf { frames := 1, cells := 0, slots := 0, locals := 22 } (xPre D vC (tK kA) kS [.ref h0, .int sb] (wFl h0 g kA (nI L) tu f0 f4) sz) (xt_Pi (fun r => r = fl_cnt f0 f4 sb L)) 0 0 (fun _ => False) := by
  refine Met.ofW (cc := b_Fl_filesOf) (maxL := 4) (ret := (some .int)) (by decide) rfl ?_
  intro p e s m args below meth c s₁ B hml hv
  obtain ⟨rfl, hsz, hP, hK, hD0, hN, hC⟩ := hv
  have hx := B.exec
  have hb := B.bytes
  have hr := B.returns
  have hts := atoms_spec (ws := w_Fl_filesOf) B.pre
  have hg : ∀ w ∈ gW, w.before _ s = true := fun w h => hts w (List.mem_cons_of_mem _ h)
  have hown : s.vm.findClass R_Fl = some m.cls := findClass_of_methodNamed B.named
  have hlocks := B.notSynchronized
  subst hsz
  have hD := hD0.self (sz := s.heap.size)
  generalize hAe : va_A (wFl h0 g kA (nI L) tu f0 f4) s.heap.size = A at hD hC ⊢
  have hA : ∀ q : Nat, s.heap.size ≤ q → A q := fun q h => by rw [← hAe]; exact Or.inr h
  have hS : va_S A s.heap s.heap [] := va_S.rf
  have hP : va_P D vC [(h0, .inr (10, [.ref (g 0), .ref (g 1), .ref (g 2), .ref (g 3), .ref (g 4), .int (nI L), .int tu, .ref (g 5), .ref (g 6)])), (g 0, .inl (kA 1, 40, .inl f0)), (g 4, .inl (kA 1, 40, .inl f4))] s.heap := hP
  have hD : va_D A [(h0, .inr (10, [.ref (g 0), .ref (g 1), .ref (g 2), .ref (g 3), .ref (g 4), .int (nI L), .int tu, .ref (g 5), .ref (g 6)])), (g 0, .inl (kA 1, 40, .inl f0)), (g 4, .inl (kA 1, 40, .inl f4))] := hD
  have hl := lv_entry ([.ref h0, .int sb]) (n := 4) (Nat.le_of_ble_eq_true rfl)
  rw [lg_entry_eq]
  generalize (lg_sl ([.ref h0, .int sb]) ++ List.replicate (4 - (lg_sl ([.ref h0, .int sb])).length) Slot.unset).toArray = ls at hl ⊢
  have hl : lv_has ls 4 [(0, .ref h0), (1, .int sb)] := hl
  refine xl_Q (fun Q9 hQ9 => ?_)
  refine lv_iconst (v := 0) hx hb d_Fl_filesOf_0 (by decide) ?_
  refine lv_istore_n (lv' := [(2, .int 0), (0, .ref h0), (1, .int sb)]) hx hb d_Fl_filesOf_1 rfl hl (by decide) rfl (fun ls hl => ?_)
  refine lv_iconst (v := nI 0) hx hb d_Fl_filesOf_2 (by decide) ?_
  refine lv_istore_n (lv' := [(3, .int (nI 0)), (2, .int 0), (0, .ref h0), (1, .int sb)]) hx hb d_Fl_filesOf_3 rfl hl (by decide) rfl (fun ls hl => ?_)
  have lp : ∀ (j i : Nat), i + j = L → ∀ (ls : Array Slot), lv_has ls 4 [(0, .ref h0), (1, .int sb), (2, .int (fl_cnt f0 f4 sb i)), (3, .int (nI i))] → W p l e (headSpec w_Fl_filesOf { frames := 1, cells := 0, slots := 0, locals := 22 }).room s m ([.ref h0, .int sb] : List Value).toArray below meth c s.heap [] 0 0 Q9 (F0 m 4 ls []) := by
    intro j
    induction j with
    | zero =>
      intro i hi ls hl
      refine lv_iload_n hx hb d_Fl_filesOf_4 rfl (lv_at hl 3 rfl) ?_
      refine lv_aload_n hx hb d_Fl_filesOf_5 rfl (lv_at hl 0 rfl) ?_
      refine va_get (D := D) (ci := 10) (v := .int (nI L)) (C := R_Fl) (T := F_Fl) (N := 9) hx hb hg i_Fl hown hK hP 0 rfl rfl 5 (by decide) (hg _ mw_458) (fun _ h9 => h9) rfl d_Fl_filesOf_6 ?_
      refine xb_ge (tgt := 35) hx hb d_Fl_filesOf_9 (by decide) (by omega) (by omega) (fun c_9 => ?_) (fun c_9 => ?_)
      · skip
        obtain rfl : i = L := by omega
        refine lv_iload_n hx hb d_Fl_filesOf_35 rfl (lv_at hl 2 rfl) ?_
        rw [hQ9]
        exact W.iret (v := fl_cnt f0 f4 sb i) hx hb hr (fun t ht hW => ⟨fl_cnt f0 f4 sb i, rfl, rfl, ht⟩) (fun q hq => by cases hq) d_Fl_filesOf_36
      · skip
        exact absurd c_9 (by omega)
    | succ j ih =>
      intro i hi ls hl
      refine lv_iload_n hx hb d_Fl_filesOf_4 rfl (lv_at hl 3 rfl) ?_
      refine lv_aload_n hx hb d_Fl_filesOf_5 rfl (lv_at hl 0 rfl) ?_
      refine va_get (D := D) (ci := 10) (v := .int (nI L)) (C := R_Fl) (T := F_Fl) (N := 9) hx hb hg i_Fl hown hK hP 0 rfl rfl 5 (by decide) (hg _ mw_458) (fun _ h9 => h9) rfl d_Fl_filesOf_6 ?_
      refine xb_ge (tgt := 35) hx hb d_Fl_filesOf_9 (by decide) (by omega) (by omega) (fun c_9 => ?_) (fun c_9 => ?_)
      · skip
        exact absurd c_9 (by omega)
      · skip
        refine lv_iload_n hx hb d_Fl_filesOf_12 rfl (lv_at hl 2 rfl) ?_
        refine lv_aload_n hx hb d_Fl_filesOf_13 rfl (lv_at hl 0 rfl) ?_
        refine lv_iload_n hx hb d_Fl_filesOf_14 rfl (lv_at hl 3 rfl) ?_
        refine lv_iload_n hx hb d_Fl_filesOf_15 rfl (lv_at hl 1 rfl) ?_
        refine xc_pi (va_runV (As := [.int (nI i), .int sb]) (rest := [.int (fl_cnt f0 f4 sb i)]) ⟨hx, hb, hml, hown, hg⟩ (p_Fl_isRowsOf l D kA kS s.heap.size h0 L g tu sb f0 f4 i (by omega)) (cwV 2 hg (xg_V mw_1332 mw_1333 mw_1334 mw_12 mw_1335) rfl rfl rfl (by decide +kernel) ⟨Nat.le_of_ble_eq_true rfl, Nat.le_of_ble_eq_true rfl⟩) (xc_preV hK hN hC hP hD hS hA [0, 1, 2] (by decide) rfl 0 rfl rfl) rfl rfl hl.1 rfl (lv_room (Nat.le_of_ble_eq_true rfl)) d_Fl_filesOf_16 ⟨Nat.le_of_ble_eq_true rfl, Nat.le_of_ble_eq_true rfl⟩) (fun r_16 hw => ?_)
        refine lv_if_eq (tgt := 26) hx hb d_Fl_filesOf_19 (by decide) (fun c_19 => ?_) (fun c_19 => ?_)
        · skip
          refine lv_iconst (v := 0) hx hb d_Fl_filesOf_26 (by decide) ?_
          refine lv_iadd hx hb d_Fl_filesOf_27 ?_
          refine lv_topi (fun x_27 ex_27 => ?_)
          replace ex_27 : x_27 = fl_cnt f0 f4 sb (i + 1) := ex_27.trans (by show _ = fl_cnt f0 f4 sb i + (if fl_is f0 f4 sb i = 0 then 0 else 1); rw [← hw, if_pos c_19])
          subst ex_27
          refine lv_istore_n (lv' := [(2, .int (fl_cnt f0 f4 sb (i + 1))), (0, .ref h0), (1, .int sb), (3, .int (nI i))]) hx hb d_Fl_filesOf_28 rfl hl (by decide) rfl (fun ls hl => ?_)
          obtain ⟨x_29, ex_29⟩ : ∃ y : Int32, y = (nI i) + Int32.ofInt 1 := ⟨_, rfl⟩
          replace ex_29 : x_29 = nI (i + 1) := ex_29.trans (nI_1 i)
          refine lv_iinc (v := x_29) (lv' := [(3, .int x_29), (2, .int (fl_cnt f0 f4 sb (i + 1))), (0, .ref h0), (1, .int sb)]) hx hb d_Fl_filesOf_29 hl (k := 3) rfl (by rw [ex_29]; exact nI_1 i) (by decide) rfl (fun ls hl => ?_)
          subst ex_29
          refine lv_goto (tgt := 4) hx hb d_Fl_filesOf_32 (by decide) ?_
          exact ih (i + 1) (by omega) ls (lv_sub hl [2, 3, 1, 0] rfl)
        · skip
          refine lv_iconst (v := 1) hx hb d_Fl_filesOf_22 (by decide) ?_
          refine lv_goto (tgt := 27) hx hb d_Fl_filesOf_23 (by decide) ?_
          refine lv_iadd hx hb d_Fl_filesOf_27 ?_
          refine lv_topi (fun x_27 ex_27 => ?_)
          replace ex_27 : x_27 = fl_cnt f0 f4 sb (i + 1) := ex_27.trans (by show _ = fl_cnt f0 f4 sb i + (if fl_is f0 f4 sb i = 0 then 0 else 1); rw [← hw, if_neg c_19])
          subst ex_27
          refine lv_istore_n (lv' := [(2, .int (fl_cnt f0 f4 sb (i + 1))), (0, .ref h0), (1, .int sb), (3, .int (nI i))]) hx hb d_Fl_filesOf_28 rfl hl (by decide) rfl (fun ls hl => ?_)
          obtain ⟨x_29, ex_29⟩ : ∃ y : Int32, y = (nI i) + Int32.ofInt 1 := ⟨_, rfl⟩
          replace ex_29 : x_29 = nI (i + 1) := ex_29.trans (nI_1 i)
          refine lv_iinc (v := x_29) (lv' := [(3, .int x_29), (2, .int (fl_cnt f0 f4 sb (i + 1))), (0, .ref h0), (1, .int sb)]) hx hb d_Fl_filesOf_29 hl (k := 3) rfl (by rw [ex_29]; exact nI_1 i) (by decide) rfl (fun ls hl => ?_)
          subst ex_29
          refine lv_goto (tgt := 4) hx hb d_Fl_filesOf_32 (by decide) ?_
          exact ih (i + 1) (by omega) ls (lv_sub hl [2, 3, 1, 0] rfl)
  exact lp L 0 (by omega) ls (lv_sub hl [2, 3, 1, 0] rfl)

set_option maxHeartbeats 4000000 in
set_option maxRecDepth 100000 in
/-- rowsUpTo(sb, b) -/
theorem p_Fl_rowsUpTo (l : Launch) (D : va_G) (kA : Nat → ClassId) (kS : Nat → Nat) (sz : Nat) (h0 L : Nat) (g : Nat → Nat) (tu sb : Int32) (f0 f4 : Nat → Int32) (B0 : Nat) (hB : B0 ≤ 40) : Met l y_Fl_rowsUpTo w_Fl_rowsUpTo { frames := 1, cells := 0, slots := 0, locals := 22 } (xPre D vC (tK kA) kS [.ref h0, .int sb, .int (nI B0)] (wFl h0 g kA (nI L) tu f0 f4) sz) (xt_Pi (fun r => r = fl_sum f0 f4 sb B0)) 0 0 (fun _ => False) := by
  refine Met.ofW (cc := b_Fl_rowsUpTo) (maxL := 5) (ret := (some .int)) (by decide) rfl ?_
  intro p e s m args below meth c s₁ B hml hv
  obtain ⟨rfl, hsz, hP, hK, hD0, hN, hC⟩ := hv
  have hx := B.exec
  have hb := B.bytes
  have hr := B.returns
  have hts := atoms_spec (ws := w_Fl_rowsUpTo) B.pre
  have hg : ∀ w ∈ gW, w.before _ s = true := fun w h => hts w (List.mem_cons_of_mem _ h)
  have hown : s.vm.findClass R_Fl = some m.cls := findClass_of_methodNamed B.named
  have hlocks := B.notSynchronized
  subst hsz
  have hD := hD0.self (sz := s.heap.size)
  generalize hAe : va_A (wFl h0 g kA (nI L) tu f0 f4) s.heap.size = A at hD hC ⊢
  have hA : ∀ q : Nat, s.heap.size ≤ q → A q := fun q h => by rw [← hAe]; exact Or.inr h
  have hS : va_S A s.heap s.heap [] := va_S.rf
  have hP : va_P D vC [(h0, .inr (10, [.ref (g 0), .ref (g 1), .ref (g 2), .ref (g 3), .ref (g 4), .int (nI L), .int tu, .ref (g 5), .ref (g 6)])), (g 0, .inl (kA 1, 40, .inl f0)), (g 4, .inl (kA 1, 40, .inl f4))] s.heap := hP
  have hD : va_D A [(h0, .inr (10, [.ref (g 0), .ref (g 1), .ref (g 2), .ref (g 3), .ref (g 4), .int (nI L), .int tu, .ref (g 5), .ref (g 6)])), (g 0, .inl (kA 1, 40, .inl f0)), (g 4, .inl (kA 1, 40, .inl f4))] := hD
  have hl := lv_entry ([.ref h0, .int sb, .int (nI B0)]) (n := 5) (Nat.le_of_ble_eq_true rfl)
  rw [lg_entry_eq]
  generalize (lg_sl ([.ref h0, .int sb, .int (nI B0)]) ++ List.replicate (5 - (lg_sl ([.ref h0, .int sb, .int (nI B0)])).length) Slot.unset).toArray = ls at hl ⊢
  have hl : lv_has ls 5 [(0, .ref h0), (1, .int sb), (2, .int (nI B0))] := hl
  refine xl_Q (fun Q9 hQ9 => ?_)
  refine lv_iconst (v := 0) hx hb d_Fl_rowsUpTo_0 (by decide) ?_
  refine lv_istore_n (lv' := [(3, .int 0), (0, .ref h0), (1, .int sb), (2, .int (nI B0))]) hx hb d_Fl_rowsUpTo_1 rfl hl (by decide) rfl (fun ls hl => ?_)
  refine lv_iconst (v := nI 0) hx hb d_Fl_rowsUpTo_2 (by decide) ?_
  refine lv_istore (lv' := [(4, .int (nI 0)), (3, .int 0), (0, .ref h0), (1, .int sb), (2, .int (nI B0))]) hx hb d_Fl_rowsUpTo_3 hl (by decide) rfl (fun ls hl => ?_)
  have lp : ∀ (j i : Nat), i + j = B0 → ∀ (ls : Array Slot), lv_has ls 5 [(0, .ref h0), (1, .int sb), (2, .int (nI B0)), (3, .int (fl_sum f0 f4 sb i)), (4, .int (nI i))] → W p l e (headSpec w_Fl_rowsUpTo { frames := 1, cells := 0, slots := 0, locals := 22 }).room s m ([.ref h0, .int sb, .int (nI B0)] : List Value).toArray below meth c s.heap [] 0 0 Q9 (F0 m 5 ls []) := by
    intro j
    induction j with
    | zero =>
      intro i hi ls hl
      refine lv_iload hx hb d_Fl_rowsUpTo_5 (lv_at hl 4 rfl) ?_
      refine lv_iload_n hx hb d_Fl_rowsUpTo_7 rfl (lv_at hl 2 rfl) ?_
      refine xb_ge (tgt := 41) hx hb d_Fl_rowsUpTo_8 (by decide) (by omega) (by omega) (fun c_8 => ?_) (fun c_8 => ?_)
      · skip
        obtain rfl : i = B0 := by omega
        refine lv_iload_n hx hb d_Fl_rowsUpTo_41 rfl (lv_at hl 3 rfl) ?_
        rw [hQ9]
        exact W.iret (v := fl_sum f0 f4 sb i) hx hb hr (fun t ht hW => ⟨fl_sum f0 f4 sb i, rfl, rfl, ht⟩) (fun q hq => by cases hq) d_Fl_rowsUpTo_42
      · skip
        exact absurd c_8 (by omega)
    | succ j ih =>
      intro i hi ls hl
      refine lv_iload hx hb d_Fl_rowsUpTo_5 (lv_at hl 4 rfl) ?_
      refine lv_iload_n hx hb d_Fl_rowsUpTo_7 rfl (lv_at hl 2 rfl) ?_
      refine xb_ge (tgt := 41) hx hb d_Fl_rowsUpTo_8 (by decide) (by omega) (by omega) (fun c_8 => ?_) (fun c_8 => ?_)
      · skip
        exact absurd c_8 (by omega)
      · skip
        refine lv_iload_n hx hb d_Fl_rowsUpTo_11 rfl (lv_at hl 3 rfl) ?_
        refine lv_aload_n hx hb d_Fl_rowsUpTo_12 rfl (lv_at hl 0 rfl) ?_
        refine lv_iload hx hb d_Fl_rowsUpTo_13 (lv_at hl 4 rfl) ?_
        refine lv_iload_n hx hb d_Fl_rowsUpTo_15 rfl (lv_at hl 1 rfl) ?_
        refine xc_pi (va_runV (As := [.int (nI i), .int sb]) (rest := [.int (fl_sum f0 f4 sb i)]) ⟨hx, hb, hml, hown, hg⟩ (p_Fl_isRowsOf l D kA kS s.heap.size h0 L g tu sb f0 f4 i (by omega)) (cwV 2 hg (xg_V mw_1332 mw_1333 mw_1334 mw_12 mw_1335) rfl rfl rfl (by decide +kernel) ⟨Nat.le_of_ble_eq_true rfl, Nat.le_of_ble_eq_true rfl⟩) (xc_preV hK hN hC hP hD hS hA [0, 1, 2] (by decide) rfl 0 rfl rfl) rfl rfl hl.1 rfl (lv_room (Nat.le_of_ble_eq_true rfl)) d_Fl_rowsUpTo_16 ⟨Nat.le_of_ble_eq_true rfl, Nat.le_of_ble_eq_true rfl⟩) (fun r_16 hw => ?_)
        refine lv_if_eq (tgt := 32) hx hb d_Fl_rowsUpTo_19 (by decide) (fun c_19 => ?_) (fun c_19 => ?_)
        · skip
          refine lv_iconst (v := 0) hx hb d_Fl_rowsUpTo_32 (by decide) ?_
          refine lv_iadd hx hb d_Fl_rowsUpTo_33 ?_
          refine lv_topi (fun x_33 ex_33 => ?_)
          replace ex_33 : x_33 = fl_sum f0 f4 sb (i + 1) := ex_33.trans (by show _ = fl_sum f0 f4 sb i + (if fl_is f0 f4 sb i = 0 then 0 else f4 i); rw [← hw, if_pos c_19])
          subst ex_33
          refine lv_istore_n (lv' := [(3, .int (fl_sum f0 f4 sb (i + 1))), (0, .ref h0), (1, .int sb), (2, .int (nI B0)), (4, .int (nI i))]) hx hb d_Fl_rowsUpTo_34 rfl hl (by decide) rfl (fun ls hl => ?_)
          obtain ⟨x_35, ex_35⟩ : ∃ y : Int32, y = (nI i) + Int32.ofInt 1 := ⟨_, rfl⟩
          replace ex_35 : x_35 = nI (i + 1) := ex_35.trans (nI_1 i)
          refine lv_iinc (v := x_35) (lv' := [(4, .int x_35), (3, .int (fl_sum f0 f4 sb (i + 1))), (0, .ref h0), (1, .int sb), (2, .int (nI B0))]) hx hb d_Fl_rowsUpTo_35 hl (k := 4) rfl (by rw [ex_35]; exact nI_1 i) (by decide) rfl (fun ls hl => ?_)
          subst ex_35
          refine lv_goto (tgt := 5) hx hb d_Fl_rowsUpTo_38 (by decide) ?_
          exact ih (i + 1) (by omega) ls (lv_sub hl [2, 3, 4, 1, 0] rfl)
        · skip
          refine lv_aload_n hx hb d_Fl_rowsUpTo_22 rfl (lv_at hl 0 rfl) ?_
          refine va_get (D := D) (ci := 10) (v := .ref (g 4)) (C := R_Fl) (T := F_Fl) (N := 9) hx hb hg i_Fl hown hK hP 0 rfl rfl 4 (by decide) (hg _ mw_456) (fun _ h9 => h9) rfl d_Fl_rowsUpTo_23 ?_
          refine lv_iload hx hb d_Fl_rowsUpTo_26 (lv_at hl 4 rfl) ?_
          refine xb_iald hx hb hK hP 2 1 rfl rfl (by omega) (by omega) d_Fl_rowsUpTo_28 ?_
          refine lv_topi (fun x_28 ex_28 => ?_)
          refine lv_goto (tgt := 33) hx hb d_Fl_rowsUpTo_29 (by decide) ?_
          refine lv_iadd hx hb d_Fl_rowsUpTo_33 ?_
          refine lv_topi (fun x_33 ex_33 => ?_)
          replace ex_33 : x_33 = fl_sum f0 f4 sb (i + 1) := ex_33.trans (by show _ = fl_sum f0 f4 sb i + (if fl_is f0 f4 sb i = 0 then 0 else f4 i); rw [ex_28, ← hw, if_neg c_19])
          subst ex_33
          refine lv_istore_n (lv' := [(3, .int (fl_sum f0 f4 sb (i + 1))), (0, .ref h0), (1, .int sb), (2, .int (nI B0)), (4, .int (nI i))]) hx hb d_Fl_rowsUpTo_34 rfl hl (by decide) rfl (fun ls hl => ?_)
          obtain ⟨x_35, ex_35⟩ : ∃ y : Int32, y = (nI i) + Int32.ofInt 1 := ⟨_, rfl⟩
          replace ex_35 : x_35 = nI (i + 1) := ex_35.trans (nI_1 i)
          refine lv_iinc (v := x_35) (lv' := [(4, .int x_35), (3, .int (fl_sum f0 f4 sb (i + 1))), (0, .ref h0), (1, .int sb), (2, .int (nI B0))]) hx hb d_Fl_rowsUpTo_35 hl (k := 4) rfl (by rw [ex_35]; exact nI_1 i) (by decide) rfl (fun ls hl => ?_)
          subst ex_35
          refine lv_goto (tgt := 5) hx hb d_Fl_rowsUpTo_38 (by decide) ?_
          exact ih (i + 1) (by omega) ls (lv_sub hl [2, 3, 4, 1, 0] rfl)
  exact lp B0 0 (by omega) ls (lv_sub hl [2, 3, 4, 1, 0] rfl)

set_option maxHeartbeats 4000000 in
set_option maxRecDepth 100000 in
/-- rowsOf(sb) -/
theorem p_Fl_rowsOf (l : Launch) (D : va_G) (kA : Nat → ClassId) (kS : Nat → Nat) (sz : Nat) (h0 L : Nat) (g : Nat → Nat) (tu sb : Int32) (f0 f4 : Nat → Int32) (hL : L ≤ 40) : Met l y_Fl_rowsOf w_Fl_rowsOf { frames := 2, cells := 0, slots := 0, locals := 46 } (xPre D vC (tK kA) kS [.ref h0, .int sb] (wFl h0 g kA (nI L) tu f0 f4) sz) (xt_Pi (fun r => r = fl_sum f0 f4 sb L)) 0 0 (fun _ => False) := by
  refine Met.ofW (cc := b_Fl_rowsOf) (maxL := 2) (ret := (some .int)) (by decide) rfl ?_
  intro p e s m args below meth c s₁ B hml hv
  obtain ⟨rfl, hsz, hP, hK, hD0, hN, hC⟩ := hv
  have hx := B.exec
  have hb := B.bytes
  have hr := B.returns
  have hts := atoms_spec (ws := w_Fl_rowsOf) B.pre
  have hg : ∀ w ∈ gW, w.before _ s = true := fun w h => hts w (List.mem_cons_of_mem _ h)
  have hown : s.vm.findClass R_Fl = some m.cls := findClass_of_methodNamed B.named
  have hlocks := B.notSynchronized
  subst hsz
  have hD := hD0.self (sz := s.heap.size)
  generalize hAe : va_A (wFl h0 g kA (nI L) tu f0 f4) s.heap.size = A at hD hC ⊢
  have hA : ∀ q : Nat, s.heap.size ≤ q → A q := fun q h => by rw [← hAe]; exact Or.inr h
  have hS : va_S A s.heap s.heap [] := va_S.rf
  have hP : va_P D vC [(h0, .inr (10, [.ref (g 0), .ref (g 1), .ref (g 2), .ref (g 3), .ref (g 4), .int (nI L), .int tu, .ref (g 5), .ref (g 6)])), (g 0, .inl (kA 1, 40, .inl f0)), (g 4, .inl (kA 1, 40, .inl f4))] s.heap := hP
  have hD : va_D A [(h0, .inr (10, [.ref (g 0), .ref (g 1), .ref (g 2), .ref (g 3), .ref (g 4), .int (nI L), .int tu, .ref (g 5), .ref (g 6)])), (g 0, .inl (kA 1, 40, .inl f0)), (g 4, .inl (kA 1, 40, .inl f4))] := hD
  have hl := lv_entry ([.ref h0, .int sb]) (n := 2) (Nat.le_of_ble_eq_true rfl)
  rw [lg_entry_eq]
  generalize (lg_sl ([.ref h0, .int sb]) ++ List.replicate (2 - (lg_sl ([.ref h0, .int sb])).length) Slot.unset).toArray = ls at hl ⊢
  have hl : lv_has ls 2 [(0, .ref h0), (1, .int sb)] := hl
  refine lv_aload_n hx hb d_Fl_rowsOf_0 rfl (lv_at hl 0 rfl) ?_
  refine lv_iload_n hx hb d_Fl_rowsOf_1 rfl (lv_at hl 1 rfl) ?_
  refine lv_aload_n hx hb d_Fl_rowsOf_2 rfl (lv_at hl 0 rfl) ?_
  refine va_get (D := D) (ci := 10) (v := .int (nI L)) (C := R_Fl) (T := F_Fl) (N := 9) hx hb hg i_Fl hown hK hP 0 rfl rfl 5 (by decide) (hg _ mw_458) (fun _ h9 => h9) rfl d_Fl_rowsOf_3 ?_
  refine xc_pi (va_runV (As := [.int sb, .int (nI L)]) (rest := []) ⟨hx, hb, hml, hown, hg⟩ (p_Fl_rowsUpTo l D kA kS s.heap.size h0 L g tu sb f0 f4 L hL) (cwV 2 hg (xg_V mw_1350 mw_1352 ms_76 mw_12 mw_1353) rfl rfl rfl (by decide +kernel) ⟨Nat.le_of_ble_eq_true rfl, Nat.le_of_ble_eq_true rfl⟩) (xc_preV hK hN hC hP hD hS hA [0, 1, 2] (by decide) rfl 0 rfl rfl) rfl rfl hl.1 rfl (lv_room (Nat.le_of_ble_eq_true rfl)) d_Fl_rowsOf_6 ⟨Nat.le_of_ble_eq_true rfl, Nat.le_of_ble_eq_true rfl⟩) (fun r_6 hw => ?_)
  exact W.iret (v := r_6) hx hb hr (fun t ht hW => ⟨r_6, rfl, hw, ht⟩) (fun q hq => by cases hq) d_Fl_rowsOf_9

set_option maxHeartbeats 4000000 in
set_option maxRecDepth 100000 in
/-- needVersion: there is such a version -/
theorem p_Lk_needVersion (l : Launch) (D : va_G) (kA : Nat → ClassId) (kS : Nat → Nat) (sz : Nat) (h0 : Nat) (r q : Nat → Nat) (fp dn : Int32) (z vs : Nat → Int32) (k : Nat) (x : Int32) (hk : k < 4) (h1 : ¬ x < 0) (h2 : x < vs k) : Met l y_Lk_needVersion w_Lk_needVersion { frames := 0, cells := 0, slots := 0, locals := 0 } (xPre D vC (tK kA) kS [.ref h0, .int (nI k), .int x] ([oLk h0 r fp dn, oSc (r 7) q z, (q 10, .inl (kA 1, 4, .inl vs))]) sz) (xt_Pv) 0 0 (fun _ => False) := by
  refine Met.ofW (cc := b_Lk_needVersion) (maxL := 3) (ret := none) (by decide) rfl ?_
  intro p e s m args below meth c s₁ B hml hv
  obtain ⟨rfl, hsz, hP, hK, hD0, hN, hC⟩ := hv
  have hx := B.exec
  have hb := B.bytes
  have hr := B.returns
  have hts := atoms_spec (ws := w_Lk_needVersion) B.pre
  have hg : ∀ w ∈ gW, w.before _ s = true := fun w h => hts w (List.mem_cons_of_mem _ h)
  have hown : s.vm.findClass R_Lk = some m.cls := findClass_of_methodNamed B.named
  have hlocks := B.notSynchronized
  subst hsz
  have hD := hD0.self (sz := s.heap.size)
  generalize hAe : va_A ([oLk h0 r fp dn, oSc (r 7) q z, (q 10, .inl (kA 1, 4, .inl vs))]) s.heap.size = A at hD hC ⊢
  have hA : ∀ q : Nat, s.heap.size ≤ q → A q := fun q h => by rw [← hAe]; exact Or.inr h
  have hS : va_S A s.heap s.heap [] := va_S.rf
  have hP : va_P D vC [(h0, .inr (11, [.ref (r 0), .ref (r 1), .ref (r 2), .ref (r 3), .ref (r 4), .ref (r 5), .ref (r 6), .ref (r 7), .ref (r 8), .ref (r 9), .ref (r 10), .ref (r 11), .ref (r 12), .ref (r 13), .ref (r 14), .int fp, .int dn])), (r 7, .inr (2, [.ref (q 0), .ref (q 1), .ref (q 2), .ref (q 3), .ref (q 4), .ref (q 5), .ref (q 6), .ref (q 7), .ref (q 8), .ref (q 9), .ref (q 10), .int (z 11), .ref (q 12), .ref (q 13), .int (z 14), .int (z 15), .int (z 16), .int (z 17)])), (q 10, .inl (kA 1, 4, .inl vs))] s.heap := hP
  have hD : va_D A [(h0, .inr (11, [.ref (r 0), .ref (r 1), .ref (r 2), .ref (r 3), .ref (r 4), .ref (r 5), .ref (r 6), .ref (r 7), .ref (r 8), .ref (r 9), .ref (r 10), .ref (r 11), .ref (r 12), .ref (r 13), .ref (r 14), .int fp, .int dn])), (r 7, .inr (2, [.ref (q 0), .ref (q 1), .ref (q 2), .ref (q 3), .ref (q 4), .ref (q 5), .ref (q 6), .ref (q 7), .ref (q 8), .ref (q 9), .ref (q 10), .int (z 11), .ref (q 12), .ref (q 13), .int (z 14), .int (z 15), .int (z 16), .int (z 17)])), (q 10, .inl (kA 1, 4, .inl vs))] := hD
  have hl := lv_entry ([.ref h0, .int (nI k), .int x]) (n := 3) (Nat.le_of_ble_eq_true rfl)
  rw [lg_entry_eq]
  generalize (lg_sl ([.ref h0, .int (nI k), .int x]) ++ List.replicate (3 - (lg_sl ([.ref h0, .int (nI k), .int x])).length) Slot.unset).toArray = ls at hl ⊢
  have hl : lv_has ls 3 [(0, .ref h0), (1, .int (nI k)), (2, .int x)] := hl
  refine lv_iload_n hx hb d_Lk_needVersion_0 rfl (lv_at hl 2 rfl) ?_
  refine lv_if_lt (tgt := 17) hx hb d_Lk_needVersion_1 (by decide) (fun c_1 => ?_) (fun c_1 => ?_)
  · skip
    exact absurd c_1 h1
  · skip
    refine lv_iload_n hx hb d_Lk_needVersion_4 rfl (lv_at hl 2 rfl) ?_
    refine lv_aload_n hx hb d_Lk_needVersion_5 rfl (lv_at hl 0 rfl) ?_
    refine va_get (D := D) (ci := 11) (v := .ref (r 7)) (C := R_Lk) (T := F_Lk) (N := 17) hx hb hg i_Lk hown hK hP 0 rfl rfl 7 (by decide) (hg _ mw_490) (fun _ h9 => h9) rfl d_Lk_needVersion_6 ?_
    refine va_get (D := D) (ci := 2) (v := .ref (q 10)) (C := R_Sc) (T := F_Sc) (N := 18) hx hb hg i_Sc hown hK hP 1 rfl rfl 10 (by decide) (hg _ mw_201) (fun _ h9 => h9) rfl d_Lk_needVersion_9 ?_
    refine lv_iload_n hx hb d_Lk_needVersion_12 rfl (lv_at hl 1 rfl) ?_
    refine xb_iald hx hb hK hP 2 1 rfl rfl (by omega) (by omega) d_Lk_needVersion_13 ?_
    refine lv_topi (fun x_13 ex_13 => ?_)
    refine lv_icmp_lt (tgt := 28) hx hb d_Lk_needVersion_14 (by decide) (fun c_14 => ?_) (fun c_14 => ?_)
    · skip
      exact W.vret hx hb hr (fun t ht hW => ⟨rfl, ht⟩) (fun q hq => by cases hq) d_Lk_needVersion_28
    · skip
      exact absurd (by rw [ex_13]; exact h2) c_14

set_option maxHeartbeats 4000000 in
set_option maxRecDepth 100000 in
/-- needVersion: there is none -/
theorem t_Lk_needVersion (l : Launch) (hfl : l.flags = flags0) (D : va_G) (kA : Nat → ClassId) (kS : Nat → Nat) (sz : Nat) (h0 : Nat) (r q : Nat → Nat) (fp dn : Int32) (z vs : Nat → Int32) (k : Nat) (x : Int32) (hk : k < 4) (h1 : x < 0 ∨ ¬ x < vs k) : xt_Met l y_Lk_needVersion w_Lk_needVersion { frames := 6, cells := 1, slots := 6, locals := 82 } (xPre D vC (tK kA) kS [.ref h0, .int (nI k), .int x] ([oLk h0 r fp dn, oSc (r 7) q z, (q 10, .inl (kA 1, 4, .inl vs))]) sz) (xt_Q "java/lang/IndexOutOfBoundsException" (fun _ : Unit => True) (xB D vC (tK kA) (fun _ => [oLk h0 r fp dn, oSc (r 7) q z, (q 10, .inl (kA 1, 4, .inl vs))]) (va_A ([oLk h0 r fp dn, oSc (r 7) q z, (q 10, .inl (kA 1, 4, .inl vs))]) sz)) (va_A ([oLk h0 r fp dn, oSc (r 7) q z, (q 10, .inl (kA 1, 4, .inl vs))]) sz)) 1 6 (va_A ([oLk h0 r fp dn, oSc (r 7) q z, (q 10, .inl (kA 1, 4, .inl vs))]) sz) := by
  refine xt_ofW (cc := b_Lk_needVersion) (maxL := 3) (ret := none) (by decide) rfl ?_
  intro p e s m args below meth c s₁ B hml hemp hv
  obtain ⟨rfl, hsz, hP, hK, hD0, hN, hC⟩ := hv
  have hx := B.exec
  have hb := B.bytes
  have hts := atoms_spec (ws := w_Lk_needVersion) B.pre
  have hg : ∀ w ∈ gW, w.before _ s = true := fun w h => hts w (List.mem_cons_of_mem _ h)
  have hown : s.vm.findClass R_Lk = some m.cls := findClass_of_methodNamed B.named
  have hlocks := B.notSynchronized
  subst hsz
  have hD := hD0.self (sz := s.heap.size)
  generalize hAe : va_A ([oLk h0 r fp dn, oSc (r 7) q z, (q 10, .inl (kA 1, 4, .inl vs))]) s.heap.size = A at hD hC ⊢
  have hA : ∀ q : Nat, s.heap.size ≤ q → A q := fun q h => by rw [← hAe]; exact Or.inr h
  have hS : va_S A s.heap s.heap [] := va_S.rf
  have hP : va_P D vC [(h0, .inr (11, [.ref (r 0), .ref (r 1), .ref (r 2), .ref (r 3), .ref (r 4), .ref (r 5), .ref (r 6), .ref (r 7), .ref (r 8), .ref (r 9), .ref (r 10), .ref (r 11), .ref (r 12), .ref (r 13), .ref (r 14), .int fp, .int dn])), (r 7, .inr (2, [.ref (q 0), .ref (q 1), .ref (q 2), .ref (q 3), .ref (q 4), .ref (q 5), .ref (q 6), .ref (q 7), .ref (q 8), .ref (q 9), .ref (q 10), .int (z 11), .ref (q 12), .ref (q 13), .int (z 14), .int (z 15), .int (z 16), .int (z 17)])), (q 10, .inl (kA 1, 4, .inl vs))] s.heap := hP
  have hD : va_D A [(h0, .inr (11, [.ref (r 0), .ref (r 1), .ref (r 2), .ref (r 3), .ref (r 4), .ref (r 5), .ref (r 6), .ref (r 7), .ref (r 8), .ref (r 9), .ref (r 10), .ref (r 11), .ref (r 12), .ref (r 13), .ref (r 14), .int fp, .int dn])), (r 7, .inr (2, [.ref (q 0), .ref (q 1), .ref (q 2), .ref (q 3), .ref (q 4), .ref (q 5), .ref (q 6), .ref (q 7), .ref (q 8), .ref (q 9), .ref (q 10), .int (z 11), .ref (q 12), .ref (q 13), .int (z 14), .int (z 15), .int (z 16), .int (z 17)])), (q 10, .inl (kA 1, 4, .inl vs))] := hD
  have hl := lv_entry ([.ref h0, .int (nI k), .int x]) (n := 3) (Nat.le_of_ble_eq_true rfl)
  rw [lg_entry_eq]
  generalize (lg_sl ([.ref h0, .int (nI k), .int x]) ++ List.replicate (3 - (lg_sl ([.ref h0, .int (nI k), .int x])).length) Slot.unset).toArray = ls at hl ⊢
  have hl : lv_has ls 3 [(0, .ref h0), (1, .int (nI k)), (2, .int x)] := hl
  refine lv_iload_n hx hb d_Lk_needVersion_0 rfl (lv_at hl 2 rfl) ?_
  refine lv_if_lt (tgt := 17) hx hb d_Lk_needVersion_1 (by decide) (fun c_1 => ?_) (fun c_1 => ?_)
  · skip
    exact xt_new1 (D := D) hx hb hfl hown (by decide +kernel) xE_fit (xE_Lk_IOB.use hg hN hC) (hg _ mw_1080) (hg _ mw_27) (hC.2.2 35 ("RecordLake", 277, "there is no such version") rfl) hml hl.1 hemp hlocks (by decide) (by decide) (by decide) (by decide) d_Lk_needVersion_17 d_Lk_needVersion_20 d_Lk_needVersion_21 d_Lk_needVersion_24 d_Lk_needVersion_27 hK () trivial hP hD
  · skip
    refine lv_iload_n hx hb d_Lk_needVersion_4 rfl (lv_at hl 2 rfl) ?_
    refine lv_aload_n hx hb d_Lk_needVersion_5 rfl (lv_at hl 0 rfl) ?_
    refine va_get (D := D) (ci := 11) (v := .ref (r 7)) (C := R_Lk) (T := F_Lk) (N := 17) hx hb hg i_Lk hown hK hP 0 rfl rfl 7 (by decide) (hg _ mw_490) (fun _ h9 => h9) rfl d_Lk_needVersion_6 ?_
    refine va_get (D := D) (ci := 2) (v := .ref (q 10)) (C := R_Sc) (T := F_Sc) (N := 18) hx hb hg i_Sc hown hK hP 1 rfl rfl 10 (by decide) (hg _ mw_201) (fun _ h9 => h9) rfl d_Lk_needVersion_9 ?_
    refine lv_iload_n hx hb d_Lk_needVersion_12 rfl (lv_at hl 1 rfl) ?_
    refine xb_iald hx hb hK hP 2 1 rfl rfl (by omega) (by omega) d_Lk_needVersion_13 ?_
    refine lv_topi (fun x_13 ex_13 => ?_)
    refine lv_icmp_lt (tgt := 28) hx hb d_Lk_needVersion_14 (by decide) (fun c_14 => ?_) (fun c_14 => ?_)
    · skip
      exact absurd (by rw [← ex_13]; exact c_14) (h1.resolve_left c_1)
    · skip
      exact xt_new1 (D := D) hx hb hfl hown (by decide +kernel) xE_fit (xE_Lk_IOB.use hg hN hC) (hg _ mw_1080) (hg _ mw_27) (hC.2.2 35 ("RecordLake", 277, "there is no such version") rfl) hml hl.1 hemp hlocks (by decide) (by decide) (by decide) (by decide) d_Lk_needVersion_17 d_Lk_needVersion_20 d_Lk_needVersion_21 d_Lk_needVersion_24 d_Lk_needVersion_27 hK () trivial hP hD

set_option maxHeartbeats 4000000 in
set_option maxRecDepth 100000 in
/-- file: no such file -/
theorem t_Lk_file (l : Launch) (hfl : l.flags = flags0) (D : va_G) (kA : Nat → ClassId) (kS : Nat → Nat) (sz : Nat) (h0 : Nat) (r g : Nat → Nat) (fp ln tu k x : Int32) (h1 : k < 0 ∨ ¬ k < ln) : xt_Met l y_Lk_file w_Lk_file { frames := 6, cells := 1, slots := 6, locals := 82 } (xPre D vC (tK kA) kS [.ref h0, .int k, .int x] ([oLk h0 r fp 0, oFl (r 14) g ln tu]) sz) (xt_Q "java/lang/IndexOutOfBoundsException" (fun _ : Unit => True) (xB D vC (tK kA) (fun _ => [oLk h0 r fp 0, oFl (r 14) g ln tu]) (va_A ([oLk h0 r fp 0, oFl (r 14) g ln tu]) sz)) (va_A ([oLk h0 r fp 0, oFl (r 14) g ln tu]) sz)) 1 6 (va_A ([oLk h0 r fp 0, oFl (r 14) g ln tu]) sz) := by
  refine xt_ofW (cc := b_Lk_file) (maxL := 3) (ret := (some .int)) (by decide) rfl ?_
  intro p e s m args below meth c s₁ B hml hemp hv
  obtain ⟨rfl, hsz, hP, hK, hD0, hN, hC⟩ := hv
  have hx := B.exec
  have hb := B.bytes
  have hts := atoms_spec (ws := w_Lk_file) B.pre
  have hg : ∀ w ∈ gW, w.before _ s = true := fun w h => hts w (List.mem_cons_of_mem _ h)
  have hown : s.vm.findClass R_Lk = some m.cls := findClass_of_methodNamed B.named
  have hlocks := B.notSynchronized
  subst hsz
  have hD := hD0.self (sz := s.heap.size)
  generalize hAe : va_A ([oLk h0 r fp 0, oFl (r 14) g ln tu]) s.heap.size = A at hD hC ⊢
  have hA : ∀ q : Nat, s.heap.size ≤ q → A q := fun q h => by rw [← hAe]; exact Or.inr h
  have hS : va_S A s.heap s.heap [] := va_S.rf
  have hP : va_P D vC [(h0, .inr (11, [.ref (r 0), .ref (r 1), .ref (r 2), .ref (r 3), .ref (r 4), .ref (r 5), .ref (r 6), .ref (r 7), .ref (r 8), .ref (r 9), .ref (r 10), .ref (r 11), .ref (r 12), .ref (r 13), .ref (r 14), .int fp, .int 0])), (r 14, .inr (10, [.ref (g 0), .ref (g 1), .ref (g 2), .ref (g 3), .ref (g 4), .int ln, .int tu, .ref (g 5), .ref (g 6)]))] s.heap := hP
  have hD : va_D A [(h0, .inr (11, [.ref (r 0), .ref (r 1), .ref (r 2), .ref (r 3), .ref (r 4), .ref (r 5), .ref (r 6), .ref (r 7), .ref (r 8), .ref (r 9), .ref (r 10), .ref (r 11), .ref (r 12), .ref (r 13), .ref (r 14), .int fp, .int 0])), (r 14, .inr (10, [.ref (g 0), .ref (g 1), .ref (g 2), .ref (g 3), .ref (g 4), .int ln, .int tu, .ref (g 5), .ref (g 6)]))] := hD
  have hl := lv_entry ([.ref h0, .int k, .int x]) (n := 3) (Nat.le_of_ble_eq_true rfl)
  rw [lg_entry_eq]
  generalize (lg_sl ([.ref h0, .int k, .int x]) ++ List.replicate (3 - (lg_sl ([.ref h0, .int k, .int x])).length) Slot.unset).toArray = ls at hl ⊢
  have hl : lv_has ls 3 [(0, .ref h0), (1, .int k), (2, .int x)] := hl
  refine lv_aload_n hx hb d_Lk_file_0 rfl (lv_at hl 0 rfl) ?_
  refine va_get (D := D) (ci := 11) (v := .int 0) (C := R_Lk) (T := F_Lk) (N := 17) hx hb hg i_Lk hown hK hP 0 rfl rfl 16 (by decide) (hg _ mw_499) (fun _ h9 => h9) rfl d_Lk_file_1 ?_
  refine lv_if_ne (tgt := 32) hx hb d_Lk_file_4 (by decide) (fun c_4 => ?_) (fun c_4 => ?_)
  · skip
    exact absurd rfl c_4
  · skip
    refine lv_iload_n hx hb d_Lk_file_7 rfl (lv_at hl 1 rfl) ?_
    refine lv_if_lt (tgt := 22) hx hb d_Lk_file_8 (by decide) (fun c_8 => ?_) (fun c_8 => ?_)
    · skip
      exact xt_new0 (D := D) hx hb hfl hown (by decide +kernel) xE_fit (xE_Lk_IOB.use hg hN hC) (hg _ mw_1080) (hg _ mw_27) (hC.2.2 39 ("RecordLake", 247, "there is no such file") rfl) hml hl.1 hemp hlocks (by decide) (by decide) (by decide) (by decide) d_Lk_file_22 d_Lk_file_25 d_Lk_file_26 d_Lk_file_28 d_Lk_file_31 hK () trivial hP hD
    · skip
      refine lv_iload_n hx hb d_Lk_file_11 rfl (lv_at hl 1 rfl) ?_
      refine lv_aload_n hx hb d_Lk_file_12 rfl (lv_at hl 0 rfl) ?_
      refine va_get (D := D) (ci := 11) (v := .ref (r 14)) (C := R_Lk) (T := F_Lk) (N := 17) hx hb hg i_Lk hown hK hP 0 rfl rfl 14 (by decide) (hg _ mw_497) (fun _ h9 => h9) rfl d_Lk_file_13 ?_
      refine va_get (D := D) (ci := 10) (v := .int ln) (C := R_Fl) (T := F_Fl) (N := 9) hx hb hg i_Fl hown hK hP 1 rfl rfl 5 (by decide) (hg _ mw_459) (fun _ h9 => h9) rfl d_Lk_file_16 ?_
      refine lv_icmp_lt (tgt := 32) hx hb d_Lk_file_19 (by decide) (fun c_19 => ?_) (fun c_19 => ?_)
      · skip
        exact absurd c_19 (h1.resolve_left c_8)
      · skip
        exact xt_new0 (D := D) hx hb hfl hown (by decide +kernel) xE_fit (xE_Lk_IOB.use hg hN hC) (hg _ mw_1080) (hg _ mw_27) (hC.2.2 39 ("RecordLake", 247, "there is no such file") rfl) hml hl.1 hemp hlocks (by decide) (by decide) (by decide) (by decide) d_Lk_file_22 d_Lk_file_25 d_Lk_file_26 d_Lk_file_28 d_Lk_file_31 hK () trivial hP hD
