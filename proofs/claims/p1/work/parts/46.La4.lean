/-! a start that also holds: the one exception is not the other's kind (for a table of two handlers, the second taken) -/
abbrev xNo (U : State) : Prop := va_Nc "java/lang/IllegalArgumentException" "java/lang/IndexOutOfBoundsException" U
abbrev xPreN (D : va_G) (cl : List vw_C) (tys : List (ClassId × FieldType)) (kS : Nat → Nat) (av : List Value) (wc : va_W) (sz : Nat) : Array Value → State → Prop := fun a U => xPre D cl tys kS av wc sz a U ∧ xNo U
theorem xc_blindN {D : va_G} {cl : List vw_C} {tys : List (ClassId × FieldType)} {kS : Nat → Nat} {av : List Value} {wc : va_W} {sz : Nat} : FrameBlind (xPreN D cl tys kS av wc sz) := fun a U g mk q =>
  ⟨xc_blind a U g mk q.1, va_Nc.moved (u := U) (U := U.calling g mk a) (Vm.Alike.refl U.vm) q.2⟩
theorem xc_preN {s : State} {H : Heap} {D : va_G} {cl : List vw_C} {tys : List (ClassId × FieldType)} {A0 : Nat → Prop} {av : List Value} {W0 wc : va_W} {kS : Nat → Nat} {locs : List Loc} (hno : xNo s) (hK : va_K D cl tys s) (hN : xN s) (hC0 : xC kS A0 s s.heap) (hP : va_P D cl W0 H) (hD : va_D A0 W0) (hS : va_S A0 s.heap H locs) (hA : ∀ q, s.heap.size ≤ q → A0 q) (isC : List Nat) (hn : va_nd isC = true) (hC : isC.map (fun i => W0[i]?) = wc.map some) :
    PreS s H (xPreN D cl tys kS av wc H.size) av :=
  ⟨xc_blindN, fun U hU hW => ⟨(xc_pre hK hN hC0 hP hD hS hA isC hn hC).2 U hU hW, va_Nc.moved hW.alike hno⟩⟩
set_option maxHeartbeats 4000000 in
set_option maxRecDepth 100000 in
/-- the law's letter: refused -/
theorem n_La_letter2 (l : Launch) (D : va_G) (kA : Nat → ClassId) (kS : Nat → Nat) (sz : Nat) (hfl : l.flags = flags0) (ou : Nat) (o : Nat → Int64) (h0 t1 t2 : Nat) (r : Nat → Nat) (fp dn : Int32) (u v : Nat × (Nat → Int32)) (i x : Int32) (hu : u.1 ≤ 4096) (hv : v.1 ≤ 4096) (h1 : x < 0 ∨ ¬ x ≤ 1) : Met l y_La_letter w_La_letter { frames := 8, cells := 1, slots := 6, locals := 126 } (xPreN D vC (tK kA) kS [.ref h0, .int i, .int x, .ref ou] ([oLk h0 r fp dn, (r 1, .inr (0, [.ref t1, .int (nI u.1)])), (t1, .inl (kA 0, 4096, .inl u.2)), (r 2, .inr (0, [.ref t2, .int (nI v.1)])), (t2, .inl (kA 0, 4096, .inl v.2))] ++ [(ou, .inl (kA 2, 1, .inr (.inl o)))]) sz) (va_Qi (fun (x : Int32) (_ : Unit) => x = 2) (xB D vC (tK kA) (fun _ => [oLk h0 r fp dn, (r 1, .inr (0, [.ref t1, .int (nI u.1)])), (t1, .inl (kA 0, 4096, .inl u.2)), (r 2, .inr (0, [.ref t2, .int (nI v.1)])), (t2, .inl (kA 0, 4096, .inl v.2))] ++ [(ou, .inl (kA 2, 1, .inr (.inl o)))]) (va_A ([oLk h0 r fp dn, (r 1, .inr (0, [.ref t1, .int (nI u.1)])), (t1, .inl (kA 0, 4096, .inl u.2)), (r 2, .inr (0, [.ref t2, .int (nI v.1)])), (t2, .inl (kA 0, 4096, .inl v.2))] ++ [(ou, .inl (kA 2, 1, .inr (.inl o)))]) sz)) (va_A ([oLk h0 r fp dn, (r 1, .inr (0, [.ref t1, .int (nI u.1)])), (t1, .inl (kA 0, 4096, .inl u.2)), (r 2, .inr (0, [.ref t2, .int (nI v.1)])), (t2, .inl (kA 0, 4096, .inl v.2))] ++ [(ou, .inl (kA 2, 1, .inr (.inl o)))]) sz)) 1 6 (va_A ([oLk h0 r fp dn, (r 1, .inr (0, [.ref t1, .int (nI u.1)])), (t1, .inl (kA 0, 4096, .inl u.2)), (r 2, .inr (0, [.ref t2, .int (nI v.1)])), (t2, .inl (kA 0, 4096, .inl v.2))] ++ [(ou, .inl (kA 2, 1, .inr (.inl o)))]) sz) := by
  refine va_MetW (cc := b_La_letter) (maxL := 5) (ret := (some .int)) (hh := [(0, 10, 13, 25), (0, 10, 17, 19)]) (by decide) rfl ?_
  intro p e s m args below meth c s₁ B hml hv
  obtain ⟨⟨rfl, hsz, hP, hK, hD0, hN, hC⟩, hnc⟩ := hv
  have hx := B.exec
  have hb := B.bytes
  have hr := B.returns
  have hts := atoms_spec (ws := w_La_letter) B.pre
  have hg : ∀ w ∈ gW, w.before _ s = true := fun w h => hts w (List.mem_cons_of_mem _ h)
  have hown : s.vm.findClass R_La = some m.cls := findClass_of_methodNamed B.named
  have hlocks := B.notSynchronized
  have htab := xt_table B (hts _ List.mem_cons_self)
  subst hsz
  have hD := hD0.self (sz := s.heap.size)
  generalize hAe : va_A ([oLk h0 r fp dn, (r 1, .inr (0, [.ref t1, .int (nI u.1)])), (t1, .inl (kA 0, 4096, .inl u.2)), (r 2, .inr (0, [.ref t2, .int (nI v.1)])), (t2, .inl (kA 0, 4096, .inl v.2))] ++ [(ou, .inl (kA 2, 1, .inr (.inl o)))]) s.heap.size = A at hD hC ⊢
  have hA : ∀ q : Nat, s.heap.size ≤ q → A q := fun q h => by rw [← hAe]; exact Or.inr h
  have hS : va_S A s.heap s.heap [] := va_S.rf
  have hP : va_P D vC [(h0, .inr (11, [.ref (r 0), .ref (r 1), .ref (r 2), .ref (r 3), .ref (r 4), .ref (r 5), .ref (r 6), .ref (r 7), .ref (r 8), .ref (r 9), .ref (r 10), .ref (r 11), .ref (r 12), .ref (r 13), .ref (r 14), .int fp, .int dn])), (r 1, .inr (0, [.ref t1, .int (nI u.1)])), (t1, .inl (kA 0, 4096, .inl u.2)), (r 2, .inr (0, [.ref t2, .int (nI v.1)])), (t2, .inl (kA 0, 4096, .inl v.2)), (ou, .inl (kA 2, 1, .inr (.inl o)))] s.heap := hP
  have hD : va_D A [(h0, .inr (11, [.ref (r 0), .ref (r 1), .ref (r 2), .ref (r 3), .ref (r 4), .ref (r 5), .ref (r 6), .ref (r 7), .ref (r 8), .ref (r 9), .ref (r 10), .ref (r 11), .ref (r 12), .ref (r 13), .ref (r 14), .int fp, .int dn])), (r 1, .inr (0, [.ref t1, .int (nI u.1)])), (t1, .inl (kA 0, 4096, .inl u.2)), (r 2, .inr (0, [.ref t2, .int (nI v.1)])), (t2, .inl (kA 0, 4096, .inl v.2)), (ou, .inl (kA 2, 1, .inr (.inl o)))] := hD
  have hl := lv_entry ([.ref h0, .int i, .int x, .ref ou]) (n := 5) (Nat.le_of_ble_eq_true rfl)
  rw [lg_entry_eq]
  generalize (lg_sl ([.ref h0, .int i, .int x, .ref ou]) ++ List.replicate (5 - (lg_sl ([.ref h0, .int i, .int x, .ref ou])).length) Slot.unset).toArray = ls at hl ⊢
  have hl : lv_has ls 5 [(0, .ref h0), (1, .int i), (2, .int x), (3, .ref ou)] := hl
  refine lv_aload_n hx hb d_La_letter_0 rfl (lv_at hl 3 rfl) ?_
  refine lv_iconst (v := 0) hx hb d_La_letter_1 (by decide) ?_
  refine lv_aload_n hx hb d_La_letter_2 rfl (lv_at hl 0 rfl) ?_
  refine lv_iload_n hx hb d_La_letter_3 rfl (lv_at hl 1 rfl) ?_
  refine lv_iload_n hx hb d_La_letter_4 rfl (lv_at hl 2 rfl) ?_
  refine xc_t (wr := [(ou, .inl (kA 2, 1, .inr (.inl o)))]) (xt_runV (As := [.int i, .int x]) (rest := [.int 0, .ref ou]) ⟨hx, hb, hml, hown, hg⟩ (t_Lk_letter2 l hfl D kA kS s.heap.size h0 t1 t2 r fp dn u v i x hu hv h1) (cwV 2 hg (xg_V mw_1520 mw_1521 mw_1522 mw_1 mw_1523) rfl rfl rfl (by decide +kernel) ⟨Nat.le_of_ble_eq_true rfl, Nat.le_of_ble_eq_true rfl⟩) (xc_preV hK hN hC hP hD hS hA [0, 1, 2, 3, 4] (by decide) rfl 0 rfl rfl) rfl rfl hl.1 rfl (lv_room (Nat.le_of_ble_eq_true rfl)) d_La_letter_5 ⟨Nat.le_of_ble_eq_true rfl, Nat.le_of_ble_eq_true rfl⟩) hP hD hS hA [0, 1, 2, 3, 4] [5] rfl rfl (by decide) (by decide) (xt_lead2b hown htab (by decide) (by decide) (by decide) (by decide) (hg _ mw_1072) hnc (hg _ mw_1048) (hN.use nw_1055)) (fun u9 x9 H locs hw hP hD hS => ?_)
  have hP : va_P D vC [(ou, .inl (kA 2, 1, .inr (.inl o))), (h0, .inr (11, [.ref (r 0), .ref (r 1), .ref (r 2), .ref (r 3), .ref (r 4), .ref (r 5), .ref (r 6), .ref (r 7), .ref (r 8), .ref (r 9), .ref (r 10), .ref (r 11), .ref (r 12), .ref (r 13), .ref (r 14), .int fp, .int dn])), (r 1, .inr (0, [.ref t1, .int (nI u.1)])), (t1, .inl (kA 0, 4096, .inl u.2)), (r 2, .inr (0, [.ref t2, .int (nI v.1)])), (t2, .inl (kA 0, 4096, .inl v.2))] H := hP
  have hD : va_D A [(ou, .inl (kA 2, 1, .inr (.inl o))), (h0, .inr (11, [.ref (r 0), .ref (r 1), .ref (r 2), .ref (r 3), .ref (r 4), .ref (r 5), .ref (r 6), .ref (r 7), .ref (r 8), .ref (r 9), .ref (r 10), .ref (r 11), .ref (r 12), .ref (r 13), .ref (r 14), .int fp, .int dn])), (r 1, .inr (0, [.ref t1, .int (nI u.1)])), (t1, .inl (kA 0, 4096, .inl u.2)), (r 2, .inr (0, [.ref t2, .int (nI v.1)])), (t2, .inl (kA 0, 4096, .inl v.2))] := hD
  refine W.widen (k := 1) (n := 6) (Nat.le_of_ble_eq_true rfl) (Nat.le_of_ble_eq_true rfl) ?_
  refine lv_astore (lv' := [(4, .ref x9), (0, .ref h0), (1, .int i), (2, .int x), (3, .ref ou)]) hx hb d_La_letter_17 hl (by decide) rfl (fun ls hl => ?_)
  refine lv_iconst (v := 2) hx hb d_La_letter_19 (by decide) ?_
  have hP : va_P D vC [(h0, .inr (11, [.ref (r 0), .ref (r 1), .ref (r 2), .ref (r 3), .ref (r 4), .ref (r 5), .ref (r 6), .ref (r 7), .ref (r 8), .ref (r 9), .ref (r 10), .ref (r 11), .ref (r 12), .ref (r 13), .ref (r 14), .int fp, .int dn])), (r 1, .inr (0, [.ref t1, .int (nI u.1)])), (t1, .inl (kA 0, 4096, .inl u.2)), (r 2, .inr (0, [.ref t2, .int (nI v.1)])), (t2, .inl (kA 0, 4096, .inl v.2)), (ou, .inl (kA 2, 1, .inr (.inl o)))] H := hP.sub [1, 2, 3, 4, 5, 0] rfl
  have hD : va_D A [(h0, .inr (11, [.ref (r 0), .ref (r 1), .ref (r 2), .ref (r 3), .ref (r 4), .ref (r 5), .ref (r 6), .ref (r 7), .ref (r 8), .ref (r 9), .ref (r 10), .ref (r 11), .ref (r 12), .ref (r 13), .ref (r 14), .int fp, .int dn])), (r 1, .inr (0, [.ref t1, .int (nI u.1)])), (t1, .inl (kA 0, 4096, .inl u.2)), (r 2, .inr (0, [.ref t2, .int (nI v.1)])), (t2, .inl (kA 0, 4096, .inl v.2)), (ou, .inl (kA 2, 1, .inr (.inl o)))] := hD.sub [1, 2, 3, 4, 5, 0] (by decide) rfl
  exact W.iret (v := 2) hx hb hr (fun t ht hW => ⟨⟨2, (), rfl, rfl, by rw [ht]; exact hP, va_K.moved hW.alike hK, hD⟩, hS.F ht⟩) hS.2.2 d_La_letter_20

set_option maxHeartbeats 4000000 in
set_option maxRecDepth 100000 in
/-- the law's count: refused -/
theorem n_La_count2 (l : Launch) (D : va_G) (kA : Nat → ClassId) (kS : Nat → Nat) (sz : Nat) (hfl : l.flags = flags0) (ou : Nat) (o : Nat → Int64) (h0 L : Nat) (r q g : Nat → Nat) (fp tu : Int32) (z vs f0 f4 : Nat → Int32) (hL : L ≤ 40) (k : Nat) (hk : k < 4) (y : Int32) (h1 : y < 0 ∨ ¬ y ≤ 2) : Met l y_La_count w_La_count { frames := 8, cells := 1, slots := 6, locals := 125 } (xPreN D vC (tK kA) kS [.ref h0, .int (nI k), .int y, .ref ou] ((oLk h0 r fp 0 :: oSc (r 7) q z :: (q 10, .inl (kA 1, 4, .inl vs)) :: wFl (r 14) g kA (nI L) tu f0 f4) ++ [(ou, .inl (kA 2, 1, .inr (.inl o)))]) sz) (va_Qi (fun (x : Int32) (_ : Unit) => x = 2) (xB D vC (tK kA) (fun _ => (oLk h0 r fp 0 :: oSc (r 7) q z :: (q 10, .inl (kA 1, 4, .inl vs)) :: wFl (r 14) g kA (nI L) tu f0 f4) ++ [(ou, .inl (kA 2, 1, .inr (.inl o)))]) (va_A ((oLk h0 r fp 0 :: oSc (r 7) q z :: (q 10, .inl (kA 1, 4, .inl vs)) :: wFl (r 14) g kA (nI L) tu f0 f4) ++ [(ou, .inl (kA 2, 1, .inr (.inl o)))]) sz)) (va_A ((oLk h0 r fp 0 :: oSc (r 7) q z :: (q 10, .inl (kA 1, 4, .inl vs)) :: wFl (r 14) g kA (nI L) tu f0 f4) ++ [(ou, .inl (kA 2, 1, .inr (.inl o)))]) sz)) 1 6 (va_A ((oLk h0 r fp 0 :: oSc (r 7) q z :: (q 10, .inl (kA 1, 4, .inl vs)) :: wFl (r 14) g kA (nI L) tu f0 f4) ++ [(ou, .inl (kA 2, 1, .inr (.inl o)))]) sz) := by
  refine va_MetW (cc := b_La_count) (maxL := 5) (ret := (some .int)) (hh := [(0, 10, 13, 25), (0, 10, 17, 19)]) (by decide) rfl ?_
  intro p e s m args below meth c s₁ B hml hv
  obtain ⟨⟨rfl, hsz, hP, hK, hD0, hN, hC⟩, hnc⟩ := hv
  have hx := B.exec
  have hb := B.bytes
  have hr := B.returns
  have hts := atoms_spec (ws := w_La_count) B.pre
  have hg : ∀ w ∈ gW, w.before _ s = true := fun w h => hts w (List.mem_cons_of_mem _ h)
  have hown : s.vm.findClass R_La = some m.cls := findClass_of_methodNamed B.named
  have hlocks := B.notSynchronized
  have htab := xt_table B (hts _ List.mem_cons_self)
  subst hsz
  have hD := hD0.self (sz := s.heap.size)
  generalize hAe : va_A ((oLk h0 r fp 0 :: oSc (r 7) q z :: (q 10, .inl (kA 1, 4, .inl vs)) :: wFl (r 14) g kA (nI L) tu f0 f4) ++ [(ou, .inl (kA 2, 1, .inr (.inl o)))]) s.heap.size = A at hD hC ⊢
  have hA : ∀ q : Nat, s.heap.size ≤ q → A q := fun q h => by rw [← hAe]; exact Or.inr h
  have hS : va_S A s.heap s.heap [] := va_S.rf
  have hP : va_P D vC [(h0, .inr (11, [.ref (r 0), .ref (r 1), .ref (r 2), .ref (r 3), .ref (r 4), .ref (r 5), .ref (r 6), .ref (r 7), .ref (r 8), .ref (r 9), .ref (r 10), .ref (r 11), .ref (r 12), .ref (r 13), .ref (r 14), .int fp, .int 0])), (r 7, .inr (2, [.ref (q 0), .ref (q 1), .ref (q 2), .ref (q 3), .ref (q 4), .ref (q 5), .ref (q 6), .ref (q 7), .ref (q 8), .ref (q 9), .ref (q 10), .int (z 11), .ref (q 12), .ref (q 13), .int (z 14), .int (z 15), .int (z 16), .int (z 17)])), (q 10, .inl (kA 1, 4, .inl vs)), (r 14, .inr (10, [.ref (g 0), .ref (g 1), .ref (g 2), .ref (g 3), .ref (g 4), .int (nI L), .int tu, .ref (g 5), .ref (g 6)])), (g 0, .inl (kA 1, 40, .inl f0)), (g 4, .inl (kA 1, 40, .inl f4)), (ou, .inl (kA 2, 1, .inr (.inl o)))] s.heap := hP
  have hD : va_D A [(h0, .inr (11, [.ref (r 0), .ref (r 1), .ref (r 2), .ref (r 3), .ref (r 4), .ref (r 5), .ref (r 6), .ref (r 7), .ref (r 8), .ref (r 9), .ref (r 10), .ref (r 11), .ref (r 12), .ref (r 13), .ref (r 14), .int fp, .int 0])), (r 7, .inr (2, [.ref (q 0), .ref (q 1), .ref (q 2), .ref (q 3), .ref (q 4), .ref (q 5), .ref (q 6), .ref (q 7), .ref (q 8), .ref (q 9), .ref (q 10), .int (z 11), .ref (q 12), .ref (q 13), .int (z 14), .int (z 15), .int (z 16), .int (z 17)])), (q 10, .inl (kA 1, 4, .inl vs)), (r 14, .inr (10, [.ref (g 0), .ref (g 1), .ref (g 2), .ref (g 3), .ref (g 4), .int (nI L), .int tu, .ref (g 5), .ref (g 6)])), (g 0, .inl (kA 1, 40, .inl f0)), (g 4, .inl (kA 1, 40, .inl f4)), (ou, .inl (kA 2, 1, .inr (.inl o)))] := hD
  have hl := lv_entry ([.ref h0, .int (nI k), .int y, .ref ou]) (n := 5) (Nat.le_of_ble_eq_true rfl)
  rw [lg_entry_eq]
  generalize (lg_sl ([.ref h0, .int (nI k), .int y, .ref ou]) ++ List.replicate (5 - (lg_sl ([.ref h0, .int (nI k), .int y, .ref ou])).length) Slot.unset).toArray = ls at hl ⊢
  have hl : lv_has ls 5 [(0, .ref h0), (1, .int (nI k)), (2, .int y), (3, .ref ou)] := hl
  refine lv_aload_n hx hb d_La_count_0 rfl (lv_at hl 3 rfl) ?_
  refine lv_iconst (v := 0) hx hb d_La_count_1 (by decide) ?_
  refine lv_aload_n hx hb d_La_count_2 rfl (lv_at hl 0 rfl) ?_
  refine lv_iload_n hx hb d_La_count_3 rfl (lv_at hl 1 rfl) ?_
  refine lv_iload_n hx hb d_La_count_4 rfl (lv_at hl 2 rfl) ?_
  refine xc_t (wr := [(ou, .inl (kA 2, 1, .inr (.inl o)))]) (xt_runV (As := [.int (nI k), .int y]) (rest := [.int 0, .ref ou]) ⟨hx, hb, hml, hown, hg⟩ (t_Lk_count2 l hfl D kA kS s.heap.size h0 L r q g fp tu z vs f0 f4 hL k hk y h1) (cwV 2 hg (xg_V mw_1493 mw_1494 mw_1495 mw_1 mw_1496) rfl rfl rfl (by decide +kernel) ⟨Nat.le_of_ble_eq_true rfl, Nat.le_of_ble_eq_true rfl⟩) (xc_preV hK hN hC hP hD hS hA [0, 1, 2, 3, 4, 5] (by decide) rfl 0 rfl rfl) rfl rfl hl.1 rfl (lv_room (Nat.le_of_ble_eq_true rfl)) d_La_count_5 ⟨Nat.le_of_ble_eq_true rfl, Nat.le_of_ble_eq_true rfl⟩) hP hD hS hA [0, 1, 2, 3, 4, 5] [6] rfl rfl (by decide) (by decide) (xt_lead2b hown htab (by decide) (by decide) (by decide) (by decide) (hg _ mw_1072) hnc (hg _ mw_1048) (hN.use nw_1055)) (fun u9 x9 H locs hw hP hD hS => ?_)
  have hP : va_P D vC [(ou, .inl (kA 2, 1, .inr (.inl o))), (h0, .inr (11, [.ref (r 0), .ref (r 1), .ref (r 2), .ref (r 3), .ref (r 4), .ref (r 5), .ref (r 6), .ref (r 7), .ref (r 8), .ref (r 9), .ref (r 10), .ref (r 11), .ref (r 12), .ref (r 13), .ref (r 14), .int fp, .int 0])), (r 7, .inr (2, [.ref (q 0), .ref (q 1), .ref (q 2), .ref (q 3), .ref (q 4), .ref (q 5), .ref (q 6), .ref (q 7), .ref (q 8), .ref (q 9), .ref (q 10), .int (z 11), .ref (q 12), .ref (q 13), .int (z 14), .int (z 15), .int (z 16), .int (z 17)])), (q 10, .inl (kA 1, 4, .inl vs)), (r 14, .inr (10, [.ref (g 0), .ref (g 1), .ref (g 2), .ref (g 3), .ref (g 4), .int (nI L), .int tu, .ref (g 5), .ref (g 6)])), (g 0, .inl (kA 1, 40, .inl f0)), (g 4, .inl (kA 1, 40, .inl f4))] H := hP
  have hD : va_D A [(ou, .inl (kA 2, 1, .inr (.inl o))), (h0, .inr (11, [.ref (r 0), .ref (r 1), .ref (r 2), .ref (r 3), .ref (r 4), .ref (r 5), .ref (r 6), .ref (r 7), .ref (r 8), .ref (r 9), .ref (r 10), .ref (r 11), .ref (r 12), .ref (r 13), .ref (r 14), .int fp, .int 0])), (r 7, .inr (2, [.ref (q 0), .ref (q 1), .ref (q 2), .ref (q 3), .ref (q 4), .ref (q 5), .ref (q 6), .ref (q 7), .ref (q 8), .ref (q 9), .ref (q 10), .int (z 11), .ref (q 12), .ref (q 13), .int (z 14), .int (z 15), .int (z 16), .int (z 17)])), (q 10, .inl (kA 1, 4, .inl vs)), (r 14, .inr (10, [.ref (g 0), .ref (g 1), .ref (g 2), .ref (g 3), .ref (g 4), .int (nI L), .int tu, .ref (g 5), .ref (g 6)])), (g 0, .inl (kA 1, 40, .inl f0)), (g 4, .inl (kA 1, 40, .inl f4))] := hD
  refine W.widen (k := 1) (n := 6) (Nat.le_of_ble_eq_true rfl) (Nat.le_of_ble_eq_true rfl) ?_
  refine lv_astore (lv' := [(4, .ref x9), (0, .ref h0), (1, .int (nI k)), (2, .int y), (3, .ref ou)]) hx hb d_La_count_17 hl (by decide) rfl (fun ls hl => ?_)
  refine lv_iconst (v := 2) hx hb d_La_count_19 (by decide) ?_
  have hP : va_P D vC [(h0, .inr (11, [.ref (r 0), .ref (r 1), .ref (r 2), .ref (r 3), .ref (r 4), .ref (r 5), .ref (r 6), .ref (r 7), .ref (r 8), .ref (r 9), .ref (r 10), .ref (r 11), .ref (r 12), .ref (r 13), .ref (r 14), .int fp, .int 0])), (r 7, .inr (2, [.ref (q 0), .ref (q 1), .ref (q 2), .ref (q 3), .ref (q 4), .ref (q 5), .ref (q 6), .ref (q 7), .ref (q 8), .ref (q 9), .ref (q 10), .int (z 11), .ref (q 12), .ref (q 13), .int (z 14), .int (z 15), .int (z 16), .int (z 17)])), (q 10, .inl (kA 1, 4, .inl vs)), (r 14, .inr (10, [.ref (g 0), .ref (g 1), .ref (g 2), .ref (g 3), .ref (g 4), .int (nI L), .int tu, .ref (g 5), .ref (g 6)])), (g 0, .inl (kA 1, 40, .inl f0)), (g 4, .inl (kA 1, 40, .inl f4)), (ou, .inl (kA 2, 1, .inr (.inl o)))] H := hP.sub [1, 2, 3, 4, 5, 6, 0] rfl
  have hD : va_D A [(h0, .inr (11, [.ref (r 0), .ref (r 1), .ref (r 2), .ref (r 3), .ref (r 4), .ref (r 5), .ref (r 6), .ref (r 7), .ref (r 8), .ref (r 9), .ref (r 10), .ref (r 11), .ref (r 12), .ref (r 13), .ref (r 14), .int fp, .int 0])), (r 7, .inr (2, [.ref (q 0), .ref (q 1), .ref (q 2), .ref (q 3), .ref (q 4), .ref (q 5), .ref (q 6), .ref (q 7), .ref (q 8), .ref (q 9), .ref (q 10), .int (z 11), .ref (q 12), .ref (q 13), .int (z 14), .int (z 15), .int (z 16), .int (z 17)])), (q 10, .inl (kA 1, 4, .inl vs)), (r 14, .inr (10, [.ref (g 0), .ref (g 1), .ref (g 2), .ref (g 3), .ref (g 4), .int (nI L), .int tu, .ref (g 5), .ref (g 6)])), (g 0, .inl (kA 1, 40, .inl f0)), (g 4, .inl (kA 1, 40, .inl f4)), (ou, .inl (kA 2, 1, .inr (.inl o)))] := hD.sub [1, 2, 3, 4, 5, 6, 0] (by decide) rfl
  exact W.iret (v := 2) hx hb hr (fun t ht hW => ⟨⟨2, (), rfl, rfl, by rw [ht]; exact hP, va_K.moved hW.alike hK, hD⟩, hS.F ht⟩) hS.2.2 d_La_count_20
