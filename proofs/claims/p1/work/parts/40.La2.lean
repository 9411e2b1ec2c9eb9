/-! the law's own methods, refused and not -/
set_option maxHeartbeats 4000000 in
set_option maxRecDepth 100000 in
/-- the law's feed: refused -/
theorem n_La_feed (l : Launch) (D : va_G) (kA : Nat → ClassId) (kS : Nat → Nat) (sz : Nat) (hfl : l.flags = flags0) (ou : Nat) (o : Nat → Int64) (h0 t1 : Nat) (r : Nat → Nat) (fp dn : Int32) (u : Nat × (Nat → Int32)) (a1 a2 a3 a4 a5 : Int32) (hu : 4076 < u.1) (hu2 : u.1 ≤ 4096) : Met l y_La_feed w_La_feed { frames := 7, cells := 1, slots := 6, locals := 107 } (xPre D vC (tK kA) kS [.ref h0, .int a1, .int a2, .int a3, .int a4, .int a5, .ref ou] ((oLk h0 r fp dn :: wBy (r 0) t1 kA 4096 u) ++ [(ou, .inl (kA 2, 1, .inr (.inl o)))]) sz) (va_Qi (fun (x : Int32) (_ : Unit) => x = 1) (xB D vC (tK kA) (fun _ => (oLk h0 r fp dn :: wBy (r 0) t1 kA 4096 u) ++ [(ou, .inl (kA 2, 1, .inr (.inl o)))]) (va_A ((oLk h0 r fp dn :: wBy (r 0) t1 kA 4096 u) ++ [(ou, .inl (kA 2, 1, .inr (.inl o)))]) sz)) (va_A ((oLk h0 r fp dn :: wBy (r 0) t1 kA 4096 u) ++ [(ou, .inl (kA 2, 1, .inr (.inl o)))]) sz)) 1 6 (va_A ((oLk h0 r fp dn :: wBy (r 0) t1 kA 4096 u) ++ [(ou, .inl (kA 2, 1, .inr (.inl o)))]) sz) := by
  refine va_MetW (cc := b_La_feed) (maxL := 8) (ret := (some .int)) (hh := [(0, 16, 19, 13)]) (by decide) rfl ?_
  intro p e s m args below meth c s₁ B hml hv
  obtain ⟨rfl, hsz, hP, hK, hD0, hN, hC⟩ := hv
  have hx := B.exec
  have hb := B.bytes
  have hr := B.returns
  have hts := atoms_spec (ws := w_La_feed) B.pre
  have hg : ∀ w ∈ gW, w.before _ s = true := fun w h => hts w (List.mem_cons_of_mem _ h)
  have hown : s.vm.findClass R_La = some m.cls := findClass_of_methodNamed B.named
  have hlocks := B.notSynchronized
  have htab := xt_table B (hts _ List.mem_cons_self)
  subst hsz
  have hD := hD0.self (sz := s.heap.size)
  generalize hAe : va_A ((oLk h0 r fp dn :: wBy (r 0) t1 kA 4096 u) ++ [(ou, .inl (kA 2, 1, .inr (.inl o)))]) s.heap.size = A at hD hC ⊢
  have hA : ∀ q : Nat, s.heap.size ≤ q → A q := fun q h => by rw [← hAe]; exact Or.inr h
  have hS : va_S A s.heap s.heap [] := va_S.rf
  have hP : va_P D vC [(h0, .inr (11, [.ref (r 0), .ref (r 1), .ref (r 2), .ref (r 3), .ref (r 4), .ref (r 5), .ref (r 6), .ref (r 7), .ref (r 8), .ref (r 9), .ref (r 10), .ref (r 11), .ref (r 12), .ref (r 13), .ref (r 14), .int fp, .int dn])), (r 0, .inr (0, [.ref t1, .int (nI u.1)])), (t1, .inl (kA 0, 4096, .inl u.2)), (ou, .inl (kA 2, 1, .inr (.inl o)))] s.heap := hP
  have hD : va_D A [(h0, .inr (11, [.ref (r 0), .ref (r 1), .ref (r 2), .ref (r 3), .ref (r 4), .ref (r 5), .ref (r 6), .ref (r 7), .ref (r 8), .ref (r 9), .ref (r 10), .ref (r 11), .ref (r 12), .ref (r 13), .ref (r 14), .int fp, .int dn])), (r 0, .inr (0, [.ref t1, .int (nI u.1)])), (t1, .inl (kA 0, 4096, .inl u.2)), (ou, .inl (kA 2, 1, .inr (.inl o)))] := hD
  have hl := lv_entry ([.ref h0, .int a1, .int a2, .int a3, .int a4, .int a5, .ref ou]) (n := 8) (Nat.le_of_ble_eq_true rfl)
  rw [lg_entry_eq]
  generalize (lg_sl ([.ref h0, .int a1, .int a2, .int a3, .int a4, .int a5, .ref ou]) ++ List.replicate (8 - (lg_sl ([.ref h0, .int a1, .int a2, .int a3, .int a4, .int a5, .ref ou])).length) Slot.unset).toArray = ls at hl ⊢
  have hl : lv_has ls 8 [(0, .ref h0), (1, .int a1), (2, .int a2), (3, .int a3), (4, .int a4), (5, .int a5), (6, .ref ou)] := hl
  refine lv_aload hx hb d_La_feed_0 (lv_at hl 6 rfl) ?_
  refine lv_iconst (v := 0) hx hb d_La_feed_2 (by decide) ?_
  refine lv_aload_n hx hb d_La_feed_3 rfl (lv_at hl 0 rfl) ?_
  refine lv_iload_n hx hb d_La_feed_4 rfl (lv_at hl 1 rfl) ?_
  refine lv_iload_n hx hb d_La_feed_5 rfl (lv_at hl 2 rfl) ?_
  refine lv_iload_n hx hb d_La_feed_6 rfl (lv_at hl 3 rfl) ?_
  refine lv_iload hx hb d_La_feed_7 (lv_at hl 4 rfl) ?_
  refine lv_iload hx hb d_La_feed_9 (lv_at hl 5 rfl) ?_
  refine xc_t (wr := [(ou, .inl (kA 2, 1, .inr (.inl o)))]) (xt_runV (As := [.int a1, .int a2, .int a3, .int a4, .int a5]) (rest := [.int 0, .ref ou]) ⟨hx, hb, hml, hown, hg⟩ (t_Lk_feed l hfl D kA kS s.heap.size h0 t1 r fp dn u a1 a2 a3 a4 a5 hu hu2) (cwV 5 hg (xg_V mw_970 mw_971 mw_972 mw_1 mw_973) rfl rfl rfl (by decide +kernel) ⟨Nat.le_of_ble_eq_true rfl, Nat.le_of_ble_eq_true rfl⟩) (xc_preV hK hN hC hP hD hS hA [0, 1, 2] (by decide) rfl 0 rfl rfl) rfl rfl hl.1 rfl (lv_room (Nat.le_of_ble_eq_true rfl)) d_La_feed_11 ⟨Nat.le_of_ble_eq_true rfl, Nat.le_of_ble_eq_true rfl⟩) hP hD hS hA [0, 1, 2] [3] rfl rfl (by decide) (by decide) (xt_lead1 hown htab (by decide) (by decide) (by decide) (hg _ mw_969) (hN.use nw_976)) (fun u9 x9 H locs hw hP hD hS => ?_)
  have hP : va_P D vC [(ou, .inl (kA 2, 1, .inr (.inl o))), (h0, .inr (11, [.ref (r 0), .ref (r 1), .ref (r 2), .ref (r 3), .ref (r 4), .ref (r 5), .ref (r 6), .ref (r 7), .ref (r 8), .ref (r 9), .ref (r 10), .ref (r 11), .ref (r 12), .ref (r 13), .ref (r 14), .int fp, .int dn])), (r 0, .inr (0, [.ref t1, .int (nI u.1)])), (t1, .inl (kA 0, 4096, .inl u.2))] H := hP
  have hD : va_D A [(ou, .inl (kA 2, 1, .inr (.inl o))), (h0, .inr (11, [.ref (r 0), .ref (r 1), .ref (r 2), .ref (r 3), .ref (r 4), .ref (r 5), .ref (r 6), .ref (r 7), .ref (r 8), .ref (r 9), .ref (r 10), .ref (r 11), .ref (r 12), .ref (r 13), .ref (r 14), .int fp, .int dn])), (r 0, .inr (0, [.ref t1, .int (nI u.1)])), (t1, .inl (kA 0, 4096, .inl u.2))] := hD
  refine W.widen (k := 1) (n := 6) (Nat.le_of_ble_eq_true rfl) (Nat.le_of_ble_eq_true rfl) ?_
  refine lv_astore (lv' := [(7, .ref x9), (0, .ref h0), (1, .int a1), (2, .int a2), (3, .int a3), (4, .int a4), (5, .int a5), (6, .ref ou)]) hx hb d_La_feed_19 hl (by decide) rfl (fun ls hl => ?_)
  refine lv_iconst (v := 1) hx hb d_La_feed_21 (by decide) ?_
  have hP : va_P D vC [(h0, .inr (11, [.ref (r 0), .ref (r 1), .ref (r 2), .ref (r 3), .ref (r 4), .ref (r 5), .ref (r 6), .ref (r 7), .ref (r 8), .ref (r 9), .ref (r 10), .ref (r 11), .ref (r 12), .ref (r 13), .ref (r 14), .int fp, .int dn])), (r 0, .inr (0, [.ref t1, .int (nI u.1)])), (t1, .inl (kA 0, 4096, .inl u.2)), (ou, .inl (kA 2, 1, .inr (.inl o)))] H := hP.sub [1, 2, 3, 0] rfl
  have hD : va_D A [(h0, .inr (11, [.ref (r 0), .ref (r 1), .ref (r 2), .ref (r 3), .ref (r 4), .ref (r 5), .ref (r 6), .ref (r 7), .ref (r 8), .ref (r 9), .ref (r 10), .ref (r 11), .ref (r 12), .ref (r 13), .ref (r 14), .int fp, .int dn])), (r 0, .inr (0, [.ref t1, .int (nI u.1)])), (t1, .inl (kA 0, 4096, .inl u.2)), (ou, .inl (kA 2, 1, .inr (.inl o)))] := hD.sub [1, 2, 3, 0] (by decide) rfl
  exact W.iret (v := 1) hx hb hr (fun t ht hW => ⟨⟨1, (), rfl, rfl, by rw [ht]; exact hP, va_K.moved hW.alike hK, hD⟩, hS.F ht⟩) hS.2.2 d_La_feed_22

set_option maxHeartbeats 4000000 in
set_option maxRecDepth 100000 in
/-- the law's feed -/
theorem c_La_feed (l : Launch) (D : va_G) (kA : Nat → ClassId) (kS : Nat → Nat) (sz : Nat) (ou : Nat) (o : Nat → Int64) (h0 t1 : Nat) (r : Nat → Nat) (fp dn : Int32) (u : Nat × (Nat → Int32)) (a1 a2 a3 a4 a5 : Int32) (hu : u.1 ≤ 4076) : Met l y_La_feed w_La_feed { frames := 3, cells := 0, slots := 0, locals := 70 } (xPre D vC (tK kA) kS [.ref h0, .int a1, .int a2, .int a3, .int a4, .int a5, .ref ou] ((oLk h0 r fp dn :: wBy (r 0) t1 kA 4096 u) ++ [(ou, .inl (kA 2, 1, .inr (.inl o)))]) sz) (va_Qi (fun (x : Int32) (_ : Unit) => x = 0) (xB D vC (tK kA) (fun _ => (oLk h0 r fp dn :: wBy (r 0) t1 kA 4096 (lk_feed u a1 a2 a3 a4 a5)) ++ [(ou, .inl (kA 2, 1, .inr (.inl (vp_updL o 0 ((nI (lk_feed u a1 a2 a3 a4 a5).1).toInt64)))))]) (va_A ((oLk h0 r fp dn :: wBy (r 0) t1 kA 4096 u) ++ [(ou, .inl (kA 2, 1, .inr (.inl o)))]) sz)) (va_A ((oLk h0 r fp dn :: wBy (r 0) t1 kA 4096 u) ++ [(ou, .inl (kA 2, 1, .inr (.inl o)))]) sz)) 0 0 (va_A ((oLk h0 r fp dn :: wBy (r 0) t1 kA 4096 u) ++ [(ou, .inl (kA 2, 1, .inr (.inl o)))]) sz) := by
  refine va_MetW (cc := b_La_feed) (maxL := 8) (ret := (some .int)) (hh := [(0, 16, 19, 13)]) (by decide) rfl ?_
  intro p e s m args below meth c s₁ B hml hv
  obtain ⟨rfl, hsz, hP, hK, hD0, hN, hC⟩ := hv
  have hx := B.exec
  have hb := B.bytes
  have hr := B.returns
  have hts := atoms_spec (ws := w_La_feed) B.pre
  have hg : ∀ w ∈ gW, w.before _ s = true := fun w h => hts w (List.mem_cons_of_mem _ h)
  have hown : s.vm.findClass R_La = some m.cls := findClass_of_methodNamed B.named
  have hlocks := B.notSynchronized
  have htab := xt_table B (hts _ List.mem_cons_self)
  subst hsz
  have hD := hD0.self (sz := s.heap.size)
  generalize hAe : va_A ((oLk h0 r fp dn :: wBy (r 0) t1 kA 4096 u) ++ [(ou, .inl (kA 2, 1, .inr (.inl o)))]) s.heap.size = A at hD hC ⊢
  have hA : ∀ q : Nat, s.heap.size ≤ q → A q := fun q h => by rw [← hAe]; exact Or.inr h
  have hS : va_S A s.heap s.heap [] := va_S.rf
  have hP : va_P D vC [(h0, .inr (11, [.ref (r 0), .ref (r 1), .ref (r 2), .ref (r 3), .ref (r 4), .ref (r 5), .ref (r 6), .ref (r 7), .ref (r 8), .ref (r 9), .ref (r 10), .ref (r 11), .ref (r 12), .ref (r 13), .ref (r 14), .int fp, .int dn])), (r 0, .inr (0, [.ref t1, .int (nI u.1)])), (t1, .inl (kA 0, 4096, .inl u.2)), (ou, .inl (kA 2, 1, .inr (.inl o)))] s.heap := hP
  have hD : va_D A [(h0, .inr (11, [.ref (r 0), .ref (r 1), .ref (r 2), .ref (r 3), .ref (r 4), .ref (r 5), .ref (r 6), .ref (r 7), .ref (r 8), .ref (r 9), .ref (r 10), .ref (r 11), .ref (r 12), .ref (r 13), .ref (r 14), .int fp, .int dn])), (r 0, .inr (0, [.ref t1, .int (nI u.1)])), (t1, .inl (kA 0, 4096, .inl u.2)), (ou, .inl (kA 2, 1, .inr (.inl o)))] := hD
  have hl := lv_entry ([.ref h0, .int a1, .int a2, .int a3, .int a4, .int a5, .ref ou]) (n := 8) (Nat.le_of_ble_eq_true rfl)
  rw [lg_entry_eq]
  generalize (lg_sl ([.ref h0, .int a1, .int a2, .int a3, .int a4, .int a5, .ref ou]) ++ List.replicate (8 - (lg_sl ([.ref h0, .int a1, .int a2, .int a3, .int a4, .int a5, .ref ou])).length) Slot.unset).toArray = ls at hl ⊢
  have hl : lv_has ls 8 [(0, .ref h0), (1, .int a1), (2, .int a2), (3, .int a3), (4, .int a4), (5, .int a5), (6, .ref ou)] := hl
  refine lv_aload hx hb d_La_feed_0 (lv_at hl 6 rfl) ?_
  refine lv_iconst (v := nI 0) hx hb d_La_feed_2 (by decide) ?_
  refine lv_aload_n hx hb d_La_feed_3 rfl (lv_at hl 0 rfl) ?_
  refine lv_iload_n hx hb d_La_feed_4 rfl (lv_at hl 1 rfl) ?_
  refine lv_iload_n hx hb d_La_feed_5 rfl (lv_at hl 2 rfl) ?_
  refine lv_iload_n hx hb d_La_feed_6 rfl (lv_at hl 3 rfl) ?_
  refine lv_iload hx hb d_La_feed_7 (lv_at hl 4 rfl) ?_
  refine lv_iload hx hb d_La_feed_9 (lv_at hl 5 rfl) ?_
  refine xc_i (wr := [(ou, .inl (kA 2, 1, .inr (.inl o)))]) (va_runV (As := [.int a1, .int a2, .int a3, .int a4, .int a5]) (rest := [.int (nI 0), .ref ou]) ⟨hx, hb, hml, hown, hg⟩ (c_Lk_feed l D kA kS s.heap.size h0 t1 r fp dn u a1 a2 a3 a4 a5 hu) (cwV 5 hg (xg_V mw_970 mw_971 mw_972 mw_1 mw_973) rfl rfl rfl (by decide +kernel) ⟨Nat.le_of_ble_eq_true rfl, Nat.le_of_ble_eq_true rfl⟩) (xc_preV hK hN hC hP hD hS hA [0, 1, 2] (by decide) rfl 0 rfl rfl) rfl rfl hl.1 rfl (lv_room (Nat.le_of_ble_eq_true rfl)) d_La_feed_11 ⟨Nat.le_of_ble_eq_true rfl, Nat.le_of_ble_eq_true rfl⟩) hP hD hS hA [0, 1, 2] [3] rfl rfl (by decide) (by decide) (fun r_11 u9 H locs hw hP hD hS => ?_)
  have hP : va_P D vC [(ou, .inl (kA 2, 1, .inr (.inl o))), (h0, .inr (11, [.ref (r 0), .ref (r 1), .ref (r 2), .ref (r 3), .ref (r 4), .ref (r 5), .ref (r 6), .ref (r 7), .ref (r 8), .ref (r 9), .ref (r 10), .ref (r 11), .ref (r 12), .ref (r 13), .ref (r 14), .int fp, .int dn])), (r 0, .inr (0, [.ref t1, .int (nI (lk_feed u a1 a2 a3 a4 a5).1)])), (t1, .inl (kA 0, 4096, .inl ((lk_feed u a1 a2 a3 a4 a5).2)))] H := hP
  have hD : va_D A [(ou, .inl (kA 2, 1, .inr (.inl o))), (h0, .inr (11, [.ref (r 0), .ref (r 1), .ref (r 2), .ref (r 3), .ref (r 4), .ref (r 5), .ref (r 6), .ref (r 7), .ref (r 8), .ref (r 9), .ref (r 10), .ref (r 11), .ref (r 12), .ref (r 13), .ref (r 14), .int fp, .int dn])), (r 0, .inr (0, [.ref t1, .int (nI (lk_feed u a1 a2 a3 a4 a5).1)])), (t1, .inl (kA 0, 4096, .inl ((lk_feed u a1 a2 a3 a4 a5).2)))] := hD
  subst hw
  refine lv_i2l hx hb d_La_feed_14 rfl ?_
  refine lv_topl (fun x_14 ex_14 => ?_)
  replace ex_14 : x_14 = (nI (lk_feed u a1 a2 a3 a4 a5).1).toInt64 := ex_14.trans (rfl)
  subst ex_14
  refine xb_last hx hb hK hP hD hS 0 2 rfl rfl (by decide) (by decide) d_La_feed_15 (fun H locs hP hD hS => ?_)
  have hP : va_P D vC [(ou, .inl (kA 2, 1, .inr (.inl (vp_updL o 0 ((nI (lk_feed u a1 a2 a3 a4 a5).1).toInt64))))), (h0, .inr (11, [.ref (r 0), .ref (r 1), .ref (r 2), .ref (r 3), .ref (r 4), .ref (r 5), .ref (r 6), .ref (r 7), .ref (r 8), .ref (r 9), .ref (r 10), .ref (r 11), .ref (r 12), .ref (r 13), .ref (r 14), .int fp, .int dn])), (r 0, .inr (0, [.ref t1, .int (nI (lk_feed u a1 a2 a3 a4 a5).1)])), (t1, .inl (kA 0, 4096, .inl ((lk_feed u a1 a2 a3 a4 a5).2)))] H := hP
  have hD : va_D A [(ou, .inl (kA 2, 1, .inr (.inl (vp_updL o 0 ((nI (lk_feed u a1 a2 a3 a4 a5).1).toInt64))))), (h0, .inr (11, [.ref (r 0), .ref (r 1), .ref (r 2), .ref (r 3), .ref (r 4), .ref (r 5), .ref (r 6), .ref (r 7), .ref (r 8), .ref (r 9), .ref (r 10), .ref (r 11), .ref (r 12), .ref (r 13), .ref (r 14), .int fp, .int dn])), (r 0, .inr (0, [.ref t1, .int (nI (lk_feed u a1 a2 a3 a4 a5).1)])), (t1, .inl (kA 0, 4096, .inl ((lk_feed u a1 a2 a3 a4 a5).2)))] := hD
  refine lv_goto (tgt := 23) hx hb d_La_feed_16 (by decide) ?_
  refine lv_iconst (v := 0) hx hb d_La_feed_23 (by decide) ?_
  have hP : va_P D vC [(h0, .inr (11, [.ref (r 0), .ref (r 1), .ref (r 2), .ref (r 3), .ref (r 4), .ref (r 5), .ref (r 6), .ref (r 7), .ref (r 8), .ref (r 9), .ref (r 10), .ref (r 11), .ref (r 12), .ref (r 13), .ref (r 14), .int fp, .int dn])), (r 0, .inr (0, [.ref t1, .int (nI (lk_feed u a1 a2 a3 a4 a5).1)])), (t1, .inl (kA 0, 4096, .inl ((lk_feed u a1 a2 a3 a4 a5).2))), (ou, .inl (kA 2, 1, .inr (.inl (vp_updL o 0 ((nI (lk_feed u a1 a2 a3 a4 a5).1).toInt64)))))] H := hP.sub [1, 2, 3, 0] rfl
  have hD : va_D A [(h0, .inr (11, [.ref (r 0), .ref (r 1), .ref (r 2), .ref (r 3), .ref (r 4), .ref (r 5), .ref (r 6), .ref (r 7), .ref (r 8), .ref (r 9), .ref (r 10), .ref (r 11), .ref (r 12), .ref (r 13), .ref (r 14), .int fp, .int dn])), (r 0, .inr (0, [.ref t1, .int (nI (lk_feed u a1 a2 a3 a4 a5).1)])), (t1, .inl (kA 0, 4096, .inl ((lk_feed u a1 a2 a3 a4 a5).2))), (ou, .inl (kA 2, 1, .inr (.inl (vp_updL o 0 ((nI (lk_feed u a1 a2 a3 a4 a5).1).toInt64)))))] := hD.sub [1, 2, 3, 0] (by decide) rfl
  exact W.iret (v := 0) hx hb hr (fun t ht hW => ⟨⟨0, (), rfl, rfl, by rw [ht]; exact hP, va_K.moved hW.alike hK, hD⟩, hS.F ht⟩) hS.2.2 d_La_feed_24

set_option maxHeartbeats 4000000 in
set_option maxRecDepth 100000 in
/-- the law's size: refused -/
theorem n_La_size (l : Launch) (D : va_G) (kA : Nat → ClassId) (kS : Nat → Nat) (sz : Nat) (hfl : l.flags = flags0) (ou : Nat) (o : Nat → Int64) (h0 t1 t2 : Nat) (r : Nat → Nat) (fp dn : Int32) (u v : Nat × (Nat → Int32)) (x : Int32) (h1 : x < 0 ∨ ¬ x ≤ 1) : Met l y_La_size w_La_size { frames := 8, cells := 1, slots := 6, locals := 124 } (xPre D vC (tK kA) kS [.ref h0, .int x, .ref ou] ([oLk h0 r fp dn, (r 1, .inr (0, [.ref t1, .int (nI u.1)])), (r 2, .inr (0, [.ref t2, .int (nI v.1)]))] ++ [(ou, .inl (kA 2, 1, .inr (.inl o)))]) sz) (va_Qi (fun (x : Int32) (_ : Unit) => x = 1) (xB D vC (tK kA) (fun _ => [oLk h0 r fp dn, (r 1, .inr (0, [.ref t1, .int (nI u.1)])), (r 2, .inr (0, [.ref t2, .int (nI v.1)]))] ++ [(ou, .inl (kA 2, 1, .inr (.inl o)))]) (va_A ([oLk h0 r fp dn, (r 1, .inr (0, [.ref t1, .int (nI u.1)])), (r 2, .inr (0, [.ref t2, .int (nI v.1)]))] ++ [(ou, .inl (kA 2, 1, .inr (.inl o)))]) sz)) (va_A ([oLk h0 r fp dn, (r 1, .inr (0, [.ref t1, .int (nI u.1)])), (r 2, .inr (0, [.ref t2, .int (nI v.1)]))] ++ [(ou, .inl (kA 2, 1, .inr (.inl o)))]) sz)) 1 6 (va_A ([oLk h0 r fp dn, (r 1, .inr (0, [.ref t1, .int (nI u.1)])), (r 2, .inr (0, [.ref t2, .int (nI v.1)]))] ++ [(ou, .inl (kA 2, 1, .inr (.inl o)))]) sz) := by
  refine va_MetW (cc := b_La_size) (maxL := 4) (ret := (some .int)) (hh := [(0, 9, 12, 19)]) (by decide) rfl ?_
  intro p e s m args below meth c s₁ B hml hv
  obtain ⟨rfl, hsz, hP, hK, hD0, hN, hC⟩ := hv
  have hx := B.exec
  have hb := B.bytes
  have hr := B.returns
  have hts := atoms_spec (ws := w_La_size) B.pre
  have hg : ∀ w ∈ gW, w.before _ s = true := fun w h => hts w (List.mem_cons_of_mem _ h)
  have hown : s.vm.findClass R_La = some m.cls := findClass_of_methodNamed B.named
  have hlocks := B.notSynchronized
  have htab := xt_table B (hts _ List.mem_cons_self)
  subst hsz
  have hD := hD0.self (sz := s.heap.size)
  generalize hAe : va_A ([oLk h0 r fp dn, (r 1, .inr (0, [.ref t1, .int (nI u.1)])), (r 2, .inr (0, [.ref t2, .int (nI v.1)]))] ++ [(ou, .inl (kA 2, 1, .inr (.inl o)))]) s.heap.size = A at hD hC ⊢
  have hA : ∀ q : Nat, s.heap.size ≤ q → A q := fun q h => by rw [← hAe]; exact Or.inr h
  have hS : va_S A s.heap s.heap [] := va_S.rf
  have hP : va_P D vC [(h0, .inr (11, [.ref (r 0), .ref (r 1), .ref (r 2), .ref (r 3), .ref (r 4), .ref (r 5), .ref (r 6), .ref (r 7), .ref (r 8), .ref (r 9), .ref (r 10), .ref (r 11), .ref (r 12), .ref (r 13), .ref (r 14), .int fp, .int dn])), (r 1, .inr (0, [.ref t1, .int (nI u.1)])), (r 2, .inr (0, [.ref t2, .int (nI v.1)])), (ou, .inl (kA 2, 1, .inr (.inl o)))] s.heap := hP
  have hD : va_D A [(h0, .inr (11, [.ref (r 0), .ref (r 1), .ref (r 2), .ref (r 3), .ref (r 4), .ref (r 5), .ref (r 6), .ref (r 7), .ref (r 8), .ref (r 9), .ref (r 10), .ref (r 11), .ref (r 12), .ref (r 13), .ref (r 14), .int fp, .int dn])), (r 1, .inr (0, [.ref t1, .int (nI u.1)])), (r 2, .inr (0, [.ref t2, .int (nI v.1)])), (ou, .inl (kA 2, 1, .inr (.inl o)))] := hD
  have hl := lv_entry ([.ref h0, .int x, .ref ou]) (n := 4) (Nat.le_of_ble_eq_true rfl)
  rw [lg_entry_eq]
  generalize (lg_sl ([.ref h0, .int x, .ref ou]) ++ List.replicate (4 - (lg_sl ([.ref h0, .int x, .ref ou])).length) Slot.unset).toArray = ls at hl ⊢
  have hl : lv_has ls 4 [(0, .ref h0), (1, .int x), (2, .ref ou)] := hl
  refine lv_aload_n hx hb d_La_size_0 rfl (lv_at hl 2 rfl) ?_
  refine lv_iconst (v := 0) hx hb d_La_size_1 (by decide) ?_
  refine lv_aload_n hx hb d_La_size_2 rfl (lv_at hl 0 rfl) ?_
  refine lv_iload_n hx hb d_La_size_3 rfl (lv_at hl 1 rfl) ?_
  refine xc_t (wr := [(ou, .inl (kA 2, 1, .inr (.inl o)))]) (xt_runV (As := [.int x]) (rest := [.int 0, .ref ou]) ⟨hx, hb, hml, hown, hg⟩ (t_Lk_size l hfl D kA kS s.heap.size h0 t1 t2 r fp dn u v x h1) (cwV 1 hg (xg_V mw_1529 mw_1530 mw_1531 mw_1 mw_1532) rfl rfl rfl (by decide +kernel) ⟨Nat.le_of_ble_eq_true rfl, Nat.le_of_ble_eq_true rfl⟩) (xc_preV hK hN hC hP hD hS hA [0, 1, 2] (by decide) rfl 0 rfl rfl) rfl rfl hl.1 rfl (lv_room (Nat.le_of_ble_eq_true rfl)) d_La_size_4 ⟨Nat.le_of_ble_eq_true rfl, Nat.le_of_ble_eq_true rfl⟩) hP hD hS hA [0, 1, 2] [3] rfl rfl (by decide) (by decide) (xt_lead1 hown htab (by decide) (by decide) (by decide) (hg _ mw_1048) (hN.use nw_1055)) (fun u9 x9 H locs hw hP hD hS => ?_)
  have hP : va_P D vC [(ou, .inl (kA 2, 1, .inr (.inl o))), (h0, .inr (11, [.ref (r 0), .ref (r 1), .ref (r 2), .ref (r 3), .ref (r 4), .ref (r 5), .ref (r 6), .ref (r 7), .ref (r 8), .ref (r 9), .ref (r 10), .ref (r 11), .ref (r 12), .ref (r 13), .ref (r 14), .int fp, .int dn])), (r 1, .inr (0, [.ref t1, .int (nI u.1)])), (r 2, .inr (0, [.ref t2, .int (nI v.1)]))] H := hP
  have hD : va_D A [(ou, .inl (kA 2, 1, .inr (.inl o))), (h0, .inr (11, [.ref (r 0), .ref (r 1), .ref (r 2), .ref (r 3), .ref (r 4), .ref (r 5), .ref (r 6), .ref (r 7), .ref (r 8), .ref (r 9), .ref (r 10), .ref (r 11), .ref (r 12), .ref (r 13), .ref (r 14), .int fp, .int dn])), (r 1, .inr (0, [.ref t1, .int (nI u.1)])), (r 2, .inr (0, [.ref t2, .int (nI v.1)]))] := hD
  refine W.widen (k := 1) (n := 6) (Nat.le_of_ble_eq_true rfl) (Nat.le_of_ble_eq_true rfl) ?_
  refine lv_astore_n (lv' := [(3, .ref x9), (0, .ref h0), (1, .int x), (2, .ref ou)]) hx hb d_La_size_12 rfl hl (by decide) rfl (fun ls hl => ?_)
  refine lv_iconst (v := 1) hx hb d_La_size_13 (by decide) ?_
  have hP : va_P D vC [(h0, .inr (11, [.ref (r 0), .ref (r 1), .ref (r 2), .ref (r 3), .ref (r 4), .ref (r 5), .ref (r 6), .ref (r 7), .ref (r 8), .ref (r 9), .ref (r 10), .ref (r 11), .ref (r 12), .ref (r 13), .ref (r 14), .int fp, .int dn])), (r 1, .inr (0, [.ref t1, .int (nI u.1)])), (r 2, .inr (0, [.ref t2, .int (nI v.1)])), (ou, .inl (kA 2, 1, .inr (.inl o)))] H := hP.sub [1, 2, 3, 0] rfl
  have hD : va_D A [(h0, .inr (11, [.ref (r 0), .ref (r 1), .ref (r 2), .ref (r 3), .ref (r 4), .ref (r 5), .ref (r 6), .ref (r 7), .ref (r 8), .ref (r 9), .ref (r 10), .ref (r 11), .ref (r 12), .ref (r 13), .ref (r 14), .int fp, .int dn])), (r 1, .inr (0, [.ref t1, .int (nI u.1)])), (r 2, .inr (0, [.ref t2, .int (nI v.1)])), (ou, .inl (kA 2, 1, .inr (.inl o)))] := hD.sub [1, 2, 3, 0] (by decide) rfl
  exact W.iret (v := 1) hx hb hr (fun t ht hW => ⟨⟨1, (), rfl, rfl, by rw [ht]; exact hP, va_K.moved hW.alike hK, hD⟩, hS.F ht⟩) hS.2.2 d_La_size_14

set_option maxHeartbeats 4000000 in
set_option maxRecDepth 100000 in
/-- the law's size -/
theorem c_La_size (l : Launch) (D : va_G) (kA : Nat → ClassId) (kS : Nat → Nat) (sz : Nat) (ou : Nat) (o : Nat → Int64) (h0 t1 t2 : Nat) (r : Nat → Nat) (fp dn : Int32) (u v : Nat × (Nat → Int32)) (x : Int32) (h1 : ¬ x < 0) (h2 : x ≤ 1) : Met l y_La_size w_La_size { frames := 2, cells := 0, slots := 0, locals := 42 } (xPre D vC (tK kA) kS [.ref h0, .int x, .ref ou] ([oLk h0 r fp dn, (r 1, .inr (0, [.ref t1, .int (nI u.1)])), (r 2, .inr (0, [.ref t2, .int (nI v.1)]))] ++ [(ou, .inl (kA 2, 1, .inr (.inl o)))]) sz) (va_Qi (fun (x : Int32) (_ : Unit) => x = 0) (xB D vC (tK kA) (fun _ => [oLk h0 r fp dn, (r 1, .inr (0, [.ref t1, .int (nI u.1)])), (r 2, .inr (0, [.ref t2, .int (nI v.1)]))] ++ [(ou, .inl (kA 2, 1, .inr (.inl (vp_updL o 0 ((if x = 0 then nI u.1 else nI v.1).toInt64)))))]) (va_A ([oLk h0 r fp dn, (r 1, .inr (0, [.ref t1, .int (nI u.1)])), (r 2, .inr (0, [.ref t2, .int (nI v.1)]))] ++ [(ou, .inl (kA 2, 1, .inr (.inl o)))]) sz)) (va_A ([oLk h0 r fp dn, (r 1, .inr (0, [.ref t1, .int (nI u.1)])), (r 2, .inr (0, [.ref t2, .int (nI v.1)]))] ++ [(ou, .inl (kA 2, 1, .inr (.inl o)))]) sz)) 0 0 (va_A ([oLk h0 r fp dn, (r 1, .inr (0, [.ref t1, .int (nI u.1)])), (r 2, .inr (0, [.ref t2, .int (nI v.1)]))] ++ [(ou, .inl (kA 2, 1, .inr (.inl o)))]) sz) := by
  refine va_MetW (cc := b_La_size) (maxL := 4) (ret := (some .int)) (hh := [(0, 9, 12, 19)]) (by decide) rfl ?_
  intro p e s m args below meth c s₁ B hml hv
  obtain ⟨rfl, hsz, hP, hK, hD0, hN, hC⟩ := hv
  have hx := B.exec
  have hb := B.bytes
  have hr := B.returns
  have hts := atoms_spec (ws := w_La_size) B.pre
  have hg : ∀ w ∈ gW, w.before _ s = true := fun w h => hts w (List.mem_cons_of_mem _ h)
  have hown : s.vm.findClass R_La = some m.cls := findClass_of_methodNamed B.named
  have hlocks := B.notSynchronized
  have htab := xt_table B (hts _ List.mem_cons_self)
  subst hsz
  have hD := hD0.self (sz := s.heap.size)
  generalize hAe : va_A ([oLk h0 r fp dn, (r 1, .inr (0, [.ref t1, .int (nI u.1)])), (r 2, .inr (0, [.ref t2, .int (nI v.1)]))] ++ [(ou, .inl (kA 2, 1, .inr (.inl o)))]) s.heap.size = A at hD hC ⊢
  have hA : ∀ q : Nat, s.heap.size ≤ q → A q := fun q h => by rw [← hAe]; exact Or.inr h
  have hS : va_S A s.heap s.heap [] := va_S.rf
  have hP : va_P D vC [(h0, .inr (11, [.ref (r 0), .ref (r 1), .ref (r 2), .ref (r 3), .ref (r 4), .ref (r 5), .ref (r 6), .ref (r 7), .ref (r 8), .ref (r 9), .ref (r 10), .ref (r 11), .ref (r 12), .ref (r 13), .ref (r 14), .int fp, .int dn])), (r 1, .inr (0, [.ref t1, .int (nI u.1)])), (r 2, .inr (0, [.ref t2, .int (nI v.1)])), (ou, .inl (kA 2, 1, .inr (.inl o)))] s.heap := hP
  have hD : va_D A [(h0, .inr (11, [.ref (r 0), .ref (r 1), .ref (r 2), .ref (r 3), .ref (r 4), .ref (r 5), .ref (r 6), .ref (r 7), .ref (r 8), .ref (r 9), .ref (r 10), .ref (r 11), .ref (r 12), .ref (r 13), .ref (r 14), .int fp, .int dn])), (r 1, .inr (0, [.ref t1, .int (nI u.1)])), (r 2, .inr (0, [.ref t2, .int (nI v.1)])), (ou, .inl (kA 2, 1, .inr (.inl o)))] := hD
  have hl := lv_entry ([.ref h0, .int x, .ref ou]) (n := 4) (Nat.le_of_ble_eq_true rfl)
  rw [lg_entry_eq]
  generalize (lg_sl ([.ref h0, .int x, .ref ou]) ++ List.replicate (4 - (lg_sl ([.ref h0, .int x, .ref ou])).length) Slot.unset).toArray = ls at hl ⊢
  have hl : lv_has ls 4 [(0, .ref h0), (1, .int x), (2, .ref ou)] := hl
  refine lv_aload_n hx hb d_La_size_0 rfl (lv_at hl 2 rfl) ?_
  refine lv_iconst (v := nI 0) hx hb d_La_size_1 (by decide) ?_
  refine lv_aload_n hx hb d_La_size_2 rfl (lv_at hl 0 rfl) ?_
  refine lv_iload_n hx hb d_La_size_3 rfl (lv_at hl 1 rfl) ?_
  refine xc_pi (va_runV (As := [.int x]) (rest := [.int (nI 0), .ref ou]) ⟨hx, hb, hml, hown, hg⟩ (p_Lk_size l D kA kS s.heap.size h0 t1 t2 r fp dn u v x h1 h2) (cwV 1 hg (xg_V mw_1529 mw_1530 mw_1531 mw_1 mw_1532) rfl rfl rfl (by decide +kernel) ⟨Nat.le_of_ble_eq_true rfl, Nat.le_of_ble_eq_true rfl⟩) (xc_preV hK hN hC hP hD hS hA [0, 1, 2] (by decide) rfl 0 rfl rfl) rfl rfl hl.1 rfl (lv_room (Nat.le_of_ble_eq_true rfl)) d_La_size_4 ⟨Nat.le_of_ble_eq_true rfl, Nat.le_of_ble_eq_true rfl⟩) (fun r_4 hw => ?_)
  subst hw
  refine lv_i2l hx hb d_La_size_7 rfl ?_
  refine lv_topl (fun x_7 ex_7 => ?_)
  replace ex_7 : x_7 = (if x = 0 then nI u.1 else nI v.1).toInt64 := ex_7.trans (rfl)
  subst ex_7
  refine xb_last hx hb hK hP hD hS 3 2 rfl rfl (by decide) (by decide) d_La_size_8 (fun H locs hP hD hS => ?_)
  have hP : va_P D vC [(h0, .inr (11, [.ref (r 0), .ref (r 1), .ref (r 2), .ref (r 3), .ref (r 4), .ref (r 5), .ref (r 6), .ref (r 7), .ref (r 8), .ref (r 9), .ref (r 10), .ref (r 11), .ref (r 12), .ref (r 13), .ref (r 14), .int fp, .int dn])), (r 1, .inr (0, [.ref t1, .int (nI u.1)])), (r 2, .inr (0, [.ref t2, .int (nI v.1)])), (ou, .inl (kA 2, 1, .inr (.inl (vp_updL o 0 ((if x = 0 then nI u.1 else nI v.1).toInt64)))))] H := hP
  have hD : va_D A [(h0, .inr (11, [.ref (r 0), .ref (r 1), .ref (r 2), .ref (r 3), .ref (r 4), .ref (r 5), .ref (r 6), .ref (r 7), .ref (r 8), .ref (r 9), .ref (r 10), .ref (r 11), .ref (r 12), .ref (r 13), .ref (r 14), .int fp, .int dn])), (r 1, .inr (0, [.ref t1, .int (nI u.1)])), (r 2, .inr (0, [.ref t2, .int (nI v.1)])), (ou, .inl (kA 2, 1, .inr (.inl (vp_updL o 0 ((if x = 0 then nI u.1 else nI v.1).toInt64)))))] := hD
  refine lv_goto (tgt := 15) hx hb d_La_size_9 (by decide) ?_
  refine lv_iconst (v := 0) hx hb d_La_size_15 (by decide) ?_
  exact W.iret (v := 0) hx hb hr (fun t ht hW => ⟨⟨0, (), rfl, rfl, by rw [ht]; exact hP, va_K.moved hW.alike hK, hD⟩, hS.F ht⟩) hS.2.2 d_La_size_16

set_option maxHeartbeats 4000000 in
set_option maxRecDepth 100000 in
/-- the law's letter: refused -/
theorem n_La_letter (l : Launch) (D : va_G) (kA : Nat → ClassId) (kS : Nat → Nat) (sz : Nat) (hfl : l.flags = flags0) (ou : Nat) (o : Nat → Int64) (h0 t1 t2 : Nat) (r : Nat → Nat) (fp dn : Int32) (u v : Nat × (Nat → Int32)) (i x : Int32) (hu : u.1 ≤ 4096) (hv : v.1 ≤ 4096) (h1 : ¬ x < 0) (h2 : x ≤ 1) (heq : (if x = 0 then by_at u i else by_at v i) = -1) : Met l y_La_letter w_La_letter { frames := 8, cells := 1, slots := 6, locals := 126 } (xPre D vC (tK kA) kS [.ref h0, .int i, .int x, .ref ou] ([oLk h0 r fp dn, (r 1, .inr (0, [.ref t1, .int (nI u.1)])), (t1, .inl (kA 0, 4096, .inl u.2)), (r 2, .inr (0, [.ref t2, .int (nI v.1)])), (t2, .inl (kA 0, 4096, .inl v.2))] ++ [(ou, .inl (kA 2, 1, .inr (.inl o)))]) sz) (va_Qi (fun (x : Int32) (_ : Unit) => x = 1) (xB D vC (tK kA) (fun _ => [oLk h0 r fp dn, (r 1, .inr (0, [.ref t1, .int (nI u.1)])), (t1, .inl (kA 0, 4096, .inl u.2)), (r 2, .inr (0, [.ref t2, .int (nI v.1)])), (t2, .inl (kA 0, 4096, .inl v.2))] ++ [(ou, .inl (kA 2, 1, .inr (.inl o)))]) (va_A ([oLk h0 r fp dn, (r 1, .inr (0, [.ref t1, .int (nI u.1)])), (t1, .inl (kA 0, 4096, .inl u.2)), (r 2, .inr (0, [.ref t2, .int (nI v.1)])), (t2, .inl (kA 0, 4096, .inl v.2))] ++ [(ou, .inl (kA 2, 1, .inr (.inl o)))]) sz)) (va_A ([oLk h0 r fp dn, (r 1, .inr (0, [.ref t1, .int (nI u.1)])), (t1, .inl (kA 0, 4096, .inl u.2)), (r 2, .inr (0, [.ref t2, .int (nI v.1)])), (t2, .inl (kA 0, 4096, .inl v.2))] ++ [(ou, .inl (kA 2, 1, .inr (.inl o)))]) sz)) 1 6 (va_A ([oLk h0 r fp dn, (r 1, .inr (0, [.ref t1, .int (nI u.1)])), (t1, .inl (kA 0, 4096, .inl u.2)), (r 2, .inr (0, [.ref t2, .int (nI v.1)])), (t2, .inl (kA 0, 4096, .inl v.2))] ++ [(ou, .inl (kA 2, 1, .inr (.inl o)))]) sz) := by
  refine va_MetW (cc := b_La_letter) (maxL := 5) (ret := (some .int)) (hh := [(0, 10, 13, 25), (0, 10, 17, 19)]) (by decide) rfl ?_
  intro p e s m args below meth c s₁ B hml hv
  obtain ⟨rfl, hsz, hP, hK, hD0, hN, hC⟩ := hv
  have hx := B.exec
  have hb := B.bytes
  have hr := B.returns
  have hts := atoms_spec (ws := w_La_letter) B.pre
  have hg : ∀ w ∈ gW, w.before _ s = true := fun w h => hts w (List.mem_cons_of_mem _ h)
  have hown : s.vm.findClass R_La = some m.cls := findClass_of_methodNamed B.named
  have hlocks := B.notSynchronized
  have htab := xt_table B (hts _ List.mem_cons_self)
  subst hsz
  have hD := hD0.self (sz := s.heap.size)
  generalize hAe : va_A ([oLk h0 r fp dn, (r 1, .inr (0, [.ref t1, .int (nI u.1)])), (t1, .inl (kA 0, 4096, .inl u.2)), (r 2, .inr (0, [.ref t2, .int (nI v.1)])), (t2, .inl (kA 0, 4096, .inl v.2))] ++ [(ou, .inl (kA 2, 1, .inr (.inl o)))]) s.heap.size = A at hD hC ⊢
  have hA : ∀ q : Nat, s.heap.size ≤ q → A q := fun q h => by rw [← hAe]; exact Or.inr h
  have hS : va_S A s.heap s.heap [] := va_S.rf
  have hP : va_P D vC [(h0, .inr (11, [.ref (r 0), .ref (r 1), .ref (r 2), .ref (r 3), .ref (r 4), .ref (r 5), .ref (r 6), .ref (r 7), .ref (r 8), .ref (r 9), .ref (r 10), .ref (r 11), .ref (r 12), .ref (r 13), .ref (r 14), .int fp, .int dn])), (r 1, .inr (0, [.ref t1, .int (nI u.1)])), (t1, .inl (kA 0, 4096, .inl u.2)), (r 2, .inr (0, [.ref t2, .int (nI v.1)])), (t2, .inl (kA 0, 4096, .inl v.2)), (ou, .inl (kA 2, 1, .inr (.inl o)))] s.heap := hP
  have hD : va_D A [(h0, .inr (11, [.ref (r 0), .ref (r 1), .ref (r 2), .ref (r 3), .ref (r 4), .ref (r 5), .ref (r 6), .ref (r 7), .ref (r 8), .ref (r 9), .ref (r 10), .ref (r 11), .ref (r 12), .ref (r 13), .ref (r 14), .int fp, .int dn])), (r 1, .inr (0, [.ref t1, .int (nI u.1)])), (t1, .inl (kA 0, 4096, .inl u.2)), (r 2, .inr (0, [.ref t2, .int (nI v.1)])), (t2, .inl (kA 0, 4096, .inl v.2)), (ou, .inl (kA 2, 1, .inr (.inl o)))] := hD
  have hl := lv_entry ([.ref h0, .int i, .int x, .ref ou]) (n := 5) (Nat.le_of_ble_eq_true rfl)
  rw [lg_entry_eq]
  generalize (lg_sl ([.ref h0, .int i, .int x, .ref ou]) ++ List.replicate (5 - (lg_sl ([.ref h0, .int i, .int x, .ref ou])).length) Slot.unset).toArray = ls at hl ⊢
  have hl : lv_has ls 5 [(0, .ref h0), (1, .int i), (2, .int x), (3, .ref ou)] := hl
  refine lv_aload_n hx hb d_La_letter_0 rfl (lv_at hl 3 rfl) ?_
  refine lv_iconst (v := 0) hx hb d_La_letter_1 (by decide) ?_
  refine lv_aload_n hx hb d_La_letter_2 rfl (lv_at hl 0 rfl) ?_
  refine lv_iload_n hx hb d_La_letter_3 rfl (lv_at hl 1 rfl) ?_
  refine lv_iload_n hx hb d_La_letter_4 rfl (lv_at hl 2 rfl) ?_
  refine xc_t (wr := [(ou, .inl (kA 2, 1, .inr (.inl o)))]) (xt_runV (As := [.int i, .int x]) (rest := [.int 0, .ref ou]) ⟨hx, hb, hml, hown, hg⟩ (t_Lk_letter l hfl D kA kS s.heap.size h0 t1 t2 r fp dn u v i x hu hv h1 h2 heq) (cwV 2 hg (xg_V mw_1520 mw_1521 mw_1522 mw_1 mw_1523) rfl rfl rfl (by decide +kernel) ⟨Nat.le_of_ble_eq_true rfl, Nat.le_of_ble_eq_true rfl⟩) (xc_preV hK hN hC hP hD hS hA [0, 1, 2, 3, 4] (by decide) rfl 0 rfl rfl) rfl rfl hl.1 rfl (lv_room (Nat.le_of_ble_eq_true rfl)) d_La_letter_5 ⟨Nat.le_of_ble_eq_true rfl, Nat.le_of_ble_eq_true rfl⟩) hP hD hS hA [0, 1, 2, 3, 4] [5] rfl rfl (by decide) (by decide) (xt_lead2a hown htab (by decide) (by decide) (by decide) (hg _ mw_1072) (hN.use nw_1082)) (fun u9 x9 H locs hw hP hD hS => ?_)
  have hP : va_P D vC [(ou, .inl (kA 2, 1, .inr (.inl o))), (h0, .inr (11, [.ref (r 0), .ref (r 1), .ref (r 2), .ref (r 3), .ref (r 4), .ref (r 5), .ref (r 6), .ref (r 7), .ref (r 8), .ref (r 9), .ref (r 10), .ref (r 11), .ref (r 12), .ref (r 13), .ref (r 14), .int fp, .int dn])), (r 1, .inr (0, [.ref t1, .int (nI u.1)])), (t1, .inl (kA 0, 4096, .inl u.2)), (r 2, .inr (0, [.ref t2, .int (nI v.1)])), (t2, .inl (kA 0, 4096, .inl v.2))] H := hP
  have hD : va_D A [(ou, .inl (kA 2, 1, .inr (.inl o))), (h0, .inr (11, [.ref (r 0), .ref (r 1), .ref (r 2), .ref (r 3), .ref (r 4), .ref (r 5), .ref (r 6), .ref (r 7), .ref (r 8), .ref (r 9), .ref (r 10), .ref (r 11), .ref (r 12), .ref (r 13), .ref (r 14), .int fp, .int dn])), (r 1, .inr (0, [.ref t1, .int (nI u.1)])), (t1, .inl (kA 0, 4096, .inl u.2)), (r 2, .inr (0, [.ref t2, .int (nI v.1)])), (t2, .inl (kA 0, 4096, .inl v.2))] := hD
  refine W.widen (k := 1) (n := 6) (Nat.le_of_ble_eq_true rfl) (Nat.le_of_ble_eq_true rfl) ?_
  refine lv_astore (lv' := [(4, .ref x9), (0, .ref h0), (1, .int i), (2, .int x), (3, .ref ou)]) hx hb d_La_letter_13 hl (by decide) rfl (fun ls hl => ?_)
  refine lv_iconst (v := 1) hx hb d_La_letter_15 (by decide) ?_
  have hP : va_P D vC [(h0, .inr (11, [.ref (r 0), .ref (r 1), .ref (r 2), .ref (r 3), .ref (r 4), .ref (r 5), .ref (r 6), .ref (r 7), .ref (r 8), .ref (r 9), .ref (r 10), .ref (r 11), .ref (r 12), .ref (r 13), .ref (r 14), .int fp, .int dn])), (r 1, .inr (0, [.ref t1, .int (nI u.1)])), (t1, .inl (kA 0, 4096, .inl u.2)), (r 2, .inr (0, [.ref t2, .int (nI v.1)])), (t2, .inl (kA 0, 4096, .inl v.2)), (ou, .inl (kA 2, 1, .inr (.inl o)))] H := hP.sub [1, 2, 3, 4, 5, 0] rfl
  have hD : va_D A [(h0, .inr (11, [.ref (r 0), .ref (r 1), .ref (r 2), .ref (r 3), .ref (r 4), .ref (r 5), .ref (r 6), .ref (r 7), .ref (r 8), .ref (r 9), .ref (r 10), .ref (r 11), .ref (r 12), .ref (r 13), .ref (r 14), .int fp, .int dn])), (r 1, .inr (0, [.ref t1, .int (nI u.1)])), (t1, .inl (kA 0, 4096, .inl u.2)), (r 2, .inr (0, [.ref t2, .int (nI v.1)])), (t2, .inl (kA 0, 4096, .inl v.2)), (ou, .inl (kA 2, 1, .inr (.inl o)))] := hD.sub [1, 2, 3, 4, 5, 0] (by decide) rfl
  exact W.iret (v := 1) hx hb hr (fun t ht hW => ⟨⟨1, (), rfl, rfl, by rw [ht]; exact hP, va_K.moved hW.alike hK, hD⟩, hS.F ht⟩) hS.2.2 d_La_letter_16

set_option maxHeartbeats 4000000 in
set_option maxRecDepth 100000 in
/-- the law's power: refused -/
theorem n_La_power (l : Launch) (D : va_G) (kA : Nat → ClassId) (kS : Nat → Nat) (sz : Nat) (hfl : l.flags = flags0) (h0 b0 : Nat) (r : Nat → Nat) (fp dn ul x : Int32) (h1 : x < -1 ∨ ¬ x ≤ 1000) : Met l y_La_power w_La_power { frames := 7, cells := 1, slots := 6, locals := 103 } (xPre D vC (tK kA) kS [.ref h0, .int x] ([oLk h0 r fp dn, (r 13, .inr (9, [.ref b0, .int ul]))]) sz) (va_Qi (fun (x : Int32) (_ : Unit) => x = 1) (xB D vC (tK kA) (fun _ => [oLk h0 r fp dn, (r 13, .inr (9, [.ref b0, .int ul]))]) (va_A ([oLk h0 r fp dn, (r 13, .inr (9, [.ref b0, .int ul]))]) sz)) (va_A ([oLk h0 r fp dn, (r 13, .inr (9, [.ref b0, .int ul]))]) sz)) 1 6 (va_A ([oLk h0 r fp dn, (r 13, .inr (9, [.ref b0, .int ul]))]) sz) := by
  refine va_MetW (cc := b_La_power) (maxL := 3) (ret := (some .int)) (hh := [(0, 5, 8, 19)]) (by decide) rfl ?_
  intro p e s m args below meth c s₁ B hml hv
  obtain ⟨rfl, hsz, hP, hK, hD0, hN, hC⟩ := hv
  have hx := B.exec
  have hb := B.bytes
  have hr := B.returns
  have hts := atoms_spec (ws := w_La_power) B.pre
  have hg : ∀ w ∈ gW, w.before _ s = true := fun w h => hts w (List.mem_cons_of_mem _ h)
  have hown : s.vm.findClass R_La = some m.cls := findClass_of_methodNamed B.named
  have hlocks := B.notSynchronized
  have htab := xt_table B (hts _ List.mem_cons_self)
  subst hsz
  have hD := hD0.self (sz := s.heap.size)
  generalize hAe : va_A ([oLk h0 r fp dn, (r 13, .inr (9, [.ref b0, .int ul]))]) s.heap.size = A at hD hC ⊢
  have hA : ∀ q : Nat, s.heap.size ≤ q → A q := fun q h => by rw [← hAe]; exact Or.inr h
  have hS : va_S A s.heap s.heap [] := va_S.rf
  have hP : va_P D vC [(h0, .inr (11, [.ref (r 0), .ref (r 1), .ref (r 2), .ref (r 3), .ref (r 4), .ref (r 5), .ref (r 6), .ref (r 7), .ref (r 8), .ref (r 9), .ref (r 10), .ref (r 11), .ref (r 12), .ref (r 13), .ref (r 14), .int fp, .int dn])), (r 13, .inr (9, [.ref b0, .int ul]))] s.heap := hP
  have hD : va_D A [(h0, .inr (11, [.ref (r 0), .ref (r 1), .ref (r 2), .ref (r 3), .ref (r 4), .ref (r 5), .ref (r 6), .ref (r 7), .ref (r 8), .ref (r 9), .ref (r 10), .ref (r 11), .ref (r 12), .ref (r 13), .ref (r 14), .int fp, .int dn])), (r 13, .inr (9, [.ref b0, .int ul]))] := hD
  have hl := lv_entry ([.ref h0, .int x]) (n := 3) (Nat.le_of_ble_eq_true rfl)
  rw [lg_entry_eq]
  generalize (lg_sl ([.ref h0, .int x]) ++ List.replicate (3 - (lg_sl ([.ref h0, .int x])).length) Slot.unset).toArray = ls at hl ⊢
  have hl : lv_has ls 3 [(0, .ref h0), (1, .int x)] := hl
  refine lv_aload_n hx hb d_La_power_0 rfl (lv_at hl 0 rfl) ?_
  refine lv_iload_n hx hb d_La_power_1 rfl (lv_at hl 1 rfl) ?_
  refine xc_t (wr := []) (xt_runV (As := [.int x]) (rest := []) ⟨hx, hb, hml, hown, hg⟩ (t_Lk_power l hfl D kA kS s.heap.size h0 b0 r fp dn ul x h1) (cwV 1 hg (xg_V mw_1544 mw_1545 mw_1546 mw_1 mw_1547) rfl rfl rfl (by decide +kernel) ⟨Nat.le_of_ble_eq_true rfl, Nat.le_of_ble_eq_true rfl⟩) (xc_preV hK hN hC hP hD hS hA [0, 1] (by decide) rfl 0 rfl rfl) rfl rfl hl.1 rfl (lv_room (Nat.le_of_ble_eq_true rfl)) d_La_power_2 ⟨Nat.le_of_ble_eq_true rfl, Nat.le_of_ble_eq_true rfl⟩) hP hD hS hA [0, 1] [] rfl rfl (by decide) (by decide) (xt_lead1 hown htab (by decide) (by decide) (by decide) (hg _ mw_1048) (hN.use nw_1055)) (fun u9 x9 H locs hw hP hD hS => ?_)
  have hP : va_P D vC [(h0, .inr (11, [.ref (r 0), .ref (r 1), .ref (r 2), .ref (r 3), .ref (r 4), .ref (r 5), .ref (r 6), .ref (r 7), .ref (r 8), .ref (r 9), .ref (r 10), .ref (r 11), .ref (r 12), .ref (r 13), .ref (r 14), .int fp, .int dn])), (r 13, .inr (9, [.ref b0, .int ul]))] H := hP
  have hD : va_D A [(h0, .inr (11, [.ref (r 0), .ref (r 1), .ref (r 2), .ref (r 3), .ref (r 4), .ref (r 5), .ref (r 6), .ref (r 7), .ref (r 8), .ref (r 9), .ref (r 10), .ref (r 11), .ref (r 12), .ref (r 13), .ref (r 14), .int fp, .int dn])), (r 13, .inr (9, [.ref b0, .int ul]))] := hD
  refine W.widen (k := 1) (n := 6) (Nat.le_of_ble_eq_true rfl) (Nat.le_of_ble_eq_true rfl) ?_
  refine lv_astore_n (lv' := [(2, .ref x9), (0, .ref h0), (1, .int x)]) hx hb d_La_power_8 rfl hl (by decide) rfl (fun ls hl => ?_)
  refine lv_iconst (v := 1) hx hb d_La_power_9 (by decide) ?_
  exact W.iret (v := 1) hx hb hr (fun t ht hW => ⟨⟨1, (), rfl, rfl, by rw [ht]; exact hP, va_K.moved hW.alike hK, hD⟩, hS.F ht⟩) hS.2.2 d_La_power_10

set_option maxHeartbeats 4000000 in
set_option maxRecDepth 100000 in
/-- the law's start: refused -/
theorem n_La_start (l : Launch) (D : va_G) (kA : Nat → ClassId) (kS : Nat → Nat) (sz : Nat) (hfl : l.flags = flags0) (ou : Nat) (o : Nat → Int64) (h0 : Nat) (r : Nat → Nat) (fp : Int32) : Met l y_La_start w_La_start { frames := 7, cells := 1, slots := 6, locals := 103 } (xPre D vC (tK kA) kS [.ref h0, .ref ou] ([oLk h0 r fp 0] ++ [(ou, .inl (kA 2, 1, .inr (.inl o)))]) sz) (va_Qi (fun (x : Int32) (_ : Unit) => x = 1) (xB D vC (tK kA) (fun _ => [oLk h0 r fp 0] ++ [(ou, .inl (kA 2, 1, .inr (.inl o)))]) (va_A ([oLk h0 r fp 0] ++ [(ou, .inl (kA 2, 1, .inr (.inl o)))]) sz)) (va_A ([oLk h0 r fp 0] ++ [(ou, .inl (kA 2, 1, .inr (.inl o)))]) sz)) 1 6 (va_A ([oLk h0 r fp 0] ++ [(ou, .inl (kA 2, 1, .inr (.inl o)))]) sz) := by
  refine va_MetW (cc := b_La_start) (maxL := 3) (ret := (some .int)) (hh := [(0, 8, 11, 13)]) (by decide) rfl ?_
  intro p e s m args below meth c s₁ B hml hv
  obtain ⟨rfl, hsz, hP, hK, hD0, hN, hC⟩ := hv
  have hx := B.exec
  have hb := B.bytes
  have hr := B.returns
  have hts := atoms_spec (ws := w_La_start) B.pre
  have hg : ∀ w ∈ gW, w.before _ s = true := fun w h => hts w (List.mem_cons_of_mem _ h)
  have hown : s.vm.findClass R_La = some m.cls := findClass_of_methodNamed B.named
  have hlocks := B.notSynchronized
  have htab := xt_table B (hts _ List.mem_cons_self)
  subst hsz
  have hD := hD0.self (sz := s.heap.size)
  generalize hAe : va_A ([oLk h0 r fp 0] ++ [(ou, .inl (kA 2, 1, .inr (.inl o)))]) s.heap.size = A at hD hC ⊢
  have hA : ∀ q : Nat, s.heap.size ≤ q → A q := fun q h => by rw [← hAe]; exact Or.inr h
  have hS : va_S A s.heap s.heap [] := va_S.rf
  have hP : va_P D vC [(h0, .inr (11, [.ref (r 0), .ref (r 1), .ref (r 2), .ref (r 3), .ref (r 4), .ref (r 5), .ref (r 6), .ref (r 7), .ref (r 8), .ref (r 9), .ref (r 10), .ref (r 11), .ref (r 12), .ref (r 13), .ref (r 14), .int fp, .int 0])), (ou, .inl (kA 2, 1, .inr (.inl o)))] s.heap := hP
  have hD : va_D A [(h0, .inr (11, [.ref (r 0), .ref (r 1), .ref (r 2), .ref (r 3), .ref (r 4), .ref (r 5), .ref (r 6), .ref (r 7), .ref (r 8), .ref (r 9), .ref (r 10), .ref (r 11), .ref (r 12), .ref (r 13), .ref (r 14), .int fp, .int 0])), (ou, .inl (kA 2, 1, .inr (.inl o)))] := hD
  have hl := lv_entry ([.ref h0, .ref ou]) (n := 3) (Nat.le_of_ble_eq_true rfl)
  rw [lg_entry_eq]
  generalize (lg_sl ([.ref h0, .ref ou]) ++ List.replicate (3 - (lg_sl ([.ref h0, .ref ou])).length) Slot.unset).toArray = ls at hl ⊢
  have hl : lv_has ls 3 [(0, .ref h0), (1, .ref ou)] := hl
  refine lv_aload_n hx hb d_La_start_0 rfl (lv_at hl 1 rfl) ?_
  refine lv_iconst (v := 0) hx hb d_La_start_1 (by decide) ?_
  refine lv_aload_n hx hb d_La_start_2 rfl (lv_at hl 0 rfl) ?_
  refine xc_t (wr := [(ou, .inl (kA 2, 1, .inr (.inl o)))]) (xt_runV (As := []) (rest := [.int 0, .ref ou]) ⟨hx, hb, hml, hown, hg⟩ (t_Lk_start l hfl D kA kS s.heap.size h0 r fp) (cwV 0 hg (xg_V mw_1552 mw_1553 mw_1554 mw_1 mw_1555) rfl rfl rfl (by decide +kernel) ⟨Nat.le_of_ble_eq_true rfl, Nat.le_of_ble_eq_true rfl⟩) (xc_preV hK hN hC hP hD hS hA [0] (by decide) rfl 0 rfl rfl) rfl rfl hl.1 rfl (lv_room (Nat.le_of_ble_eq_true rfl)) d_La_start_3 ⟨Nat.le_of_ble_eq_true rfl, Nat.le_of_ble_eq_true rfl⟩) hP hD hS hA [0] [1] rfl rfl (by decide) (by decide) (xt_lead1 hown htab (by decide) (by decide) (by decide) (hg _ mw_969) (hN.use nw_976)) (fun u9 x9 H locs hw hP hD hS => ?_)
  have hP : va_P D vC [(ou, .inl (kA 2, 1, .inr (.inl o))), (h0, .inr (11, [.ref (r 0), .ref (r 1), .ref (r 2), .ref (r 3), .ref (r 4), .ref (r 5), .ref (r 6), .ref (r 7), .ref (r 8), .ref (r 9), .ref (r 10), .ref (r 11), .ref (r 12), .ref (r 13), .ref (r 14), .int fp, .int 0]))] H := hP
  have hD : va_D A [(ou, .inl (kA 2, 1, .inr (.inl o))), (h0, .inr (11, [.ref (r 0), .ref (r 1), .ref (r 2), .ref (r 3), .ref (r 4), .ref (r 5), .ref (r 6), .ref (r 7), .ref (r 8), .ref (r 9), .ref (r 10), .ref (r 11), .ref (r 12), .ref (r 13), .ref (r 14), .int fp, .int 0]))] := hD
  refine W.widen (k := 1) (n := 6) (Nat.le_of_ble_eq_true rfl) (Nat.le_of_ble_eq_true rfl) ?_
  refine lv_astore_n (lv' := [(2, .ref x9), (0, .ref h0), (1, .ref ou)]) hx hb d_La_start_11 rfl hl (by decide) rfl (fun ls hl => ?_)
  refine lv_iconst (v := 1) hx hb d_La_start_12 (by decide) ?_
  have hP : va_P D vC [(h0, .inr (11, [.ref (r 0), .ref (r 1), .ref (r 2), .ref (r 3), .ref (r 4), .ref (r 5), .ref (r 6), .ref (r 7), .ref (r 8), .ref (r 9), .ref (r 10), .ref (r 11), .ref (r 12), .ref (r 13), .ref (r 14), .int fp, .int 0])), (ou, .inl (kA 2, 1, .inr (.inl o)))] H := hP.sub [1, 0] rfl
  have hD : va_D A [(h0, .inr (11, [.ref (r 0), .ref (r 1), .ref (r 2), .ref (r 3), .ref (r 4), .ref (r 5), .ref (r 6), .ref (r 7), .ref (r 8), .ref (r 9), .ref (r 10), .ref (r 11), .ref (r 12), .ref (r 13), .ref (r 14), .int fp, .int 0])), (ou, .inl (kA 2, 1, .inr (.inl o)))] := hD.sub [1, 0] (by decide) rfl
  exact W.iret (v := 1) hx hb hr (fun t ht hW => ⟨⟨1, (), rfl, rfl, by rw [ht]; exact hP, va_K.moved hW.alike hK, hD⟩, hS.F ht⟩) hS.2.2 d_La_start_13

set_option maxHeartbeats 4000000 in
set_option maxRecDepth 100000 in
/-- the law's look: refused -/
theorem n_La_look (l : Launch) (D : va_G) (kA : Nat → ClassId) (kS : Nat → Nat) (sz : Nat) (hfl : l.flags = flags0) (ou : Nat) (o : Nat → Int64) (h0 : Nat) (r q : Nat → Nat) (fp : Int32) (z vs : Nat → Int32) (x y : Int32) (h1 : x < 0 ∨ ¬ x < 4) : Met l y_La_look w_La_look { frames := 8, cells := 1, slots := 6, locals := 126 } (xPre D vC (tK kA) kS [.ref h0, .int x, .int y, .ref ou] ([oLk h0 r fp 0, oSc (r 7) q z, (q 10, .inl (kA 1, 4, .inl vs))] ++ [(ou, .inl (kA 2, 1, .inr (.inl o)))]) sz) (va_Qi (fun (x : Int32) (_ : Unit) => x = 1) (xB D vC (tK kA) (fun _ => [oLk h0 r fp 0, oSc (r 7) q z, (q 10, .inl (kA 1, 4, .inl vs))] ++ [(ou, .inl (kA 2, 1, .inr (.inl o)))]) (va_A ([oLk h0 r fp 0, oSc (r 7) q z, (q 10, .inl (kA 1, 4, .inl vs))] ++ [(ou, .inl (kA 2, 1, .inr (.inl o)))]) sz)) (va_A ([oLk h0 r fp 0, oSc (r 7) q z, (q 10, .inl (kA 1, 4, .inl vs))] ++ [(ou, .inl (kA 2, 1, .inr (.inl o)))]) sz)) 1 6 (va_A ([oLk h0 r fp 0, oSc (r 7) q z, (q 10, .inl (kA 1, 4, .inl vs))] ++ [(ou, .inl (kA 2, 1, .inr (.inl o)))]) sz) := by
  refine va_MetW (cc := b_La_look) (maxL := 5) (ret := (some .int)) (hh := [(0, 10, 13, 25)]) (by decide) rfl ?_
  intro p e s m args below meth c s₁ B hml hv
  obtain ⟨rfl, hsz, hP, hK, hD0, hN, hC⟩ := hv
  have hx := B.exec
  have hb := B.bytes
  have hr := B.returns
  have hts := atoms_spec (ws := w_La_look) B.pre
  have hg : ∀ w ∈ gW, w.before _ s = true := fun w h => hts w (List.mem_cons_of_mem _ h)
  have hown : s.vm.findClass R_La = some m.cls := findClass_of_methodNamed B.named
  have hlocks := B.notSynchronized
  have htab := xt_table B (hts _ List.mem_cons_self)
  subst hsz
  have hD := hD0.self (sz := s.heap.size)
  generalize hAe : va_A ([oLk h0 r fp 0, oSc (r 7) q z, (q 10, .inl (kA 1, 4, .inl vs))] ++ [(ou, .inl (kA 2, 1, .inr (.inl o)))]) s.heap.size = A at hD hC ⊢
  have hA : ∀ q : Nat, s.heap.size ≤ q → A q := fun q h => by rw [← hAe]; exact Or.inr h
  have hS : va_S A s.heap s.heap [] := va_S.rf
  have hP : va_P D vC [(h0, .inr (11, [.ref (r 0), .ref (r 1), .ref (r 2), .ref (r 3), .ref (r 4), .ref (r 5), .ref (r 6), .ref (r 7), .ref (r 8), .ref (r 9), .ref (r 10), .ref (r 11), .ref (r 12), .ref (r 13), .ref (r 14), .int fp, .int 0])), (r 7, .inr (2, [.ref (q 0), .ref (q 1), .ref (q 2), .ref (q 3), .ref (q 4), .ref (q 5), .ref (q 6), .ref (q 7), .ref (q 8), .ref (q 9), .ref (q 10), .int (z 11), .ref (q 12), .ref (q 13), .int (z 14), .int (z 15), .int (z 16), .int (z 17)])), (q 10, .inl (kA 1, 4, .inl vs)), (ou, .inl (kA 2, 1, .inr (.inl o)))] s.heap := hP
  have hD : va_D A [(h0, .inr (11, [.ref (r 0), .ref (r 1), .ref (r 2), .ref (r 3), .ref (r 4), .ref (r 5), .ref (r 6), .ref (r 7), .ref (r 8), .ref (r 9), .ref (r 10), .ref (r 11), .ref (r 12), .ref (r 13), .ref (r 14), .int fp, .int 0])), (r 7, .inr (2, [.ref (q 0), .ref (q 1), .ref (q 2), .ref (q 3), .ref (q 4), .ref (q 5), .ref (q 6), .ref (q 7), .ref (q 8), .ref (q 9), .ref (q 10), .int (z 11), .ref (q 12), .ref (q 13), .int (z 14), .int (z 15), .int (z 16), .int (z 17)])), (q 10, .inl (kA 1, 4, .inl vs)), (ou, .inl (kA 2, 1, .inr (.inl o)))] := hD
  have hl := lv_entry ([.ref h0, .int x, .int y, .ref ou]) (n := 5) (Nat.le_of_ble_eq_true rfl)
  rw [lg_entry_eq]
  generalize (lg_sl ([.ref h0, .int x, .int y, .ref ou]) ++ List.replicate (5 - (lg_sl ([.ref h0, .int x, .int y, .ref ou])).length) Slot.unset).toArray = ls at hl ⊢
  have hl : lv_has ls 5 [(0, .ref h0), (1, .int x), (2, .int y), (3, .ref ou)] := hl
  refine lv_aload_n hx hb d_La_look_0 rfl (lv_at hl 3 rfl) ?_
  refine lv_iconst (v := 0) hx hb d_La_look_1 (by decide) ?_
  refine lv_aload_n hx hb d_La_look_2 rfl (lv_at hl 0 rfl) ?_
  refine lv_iload_n hx hb d_La_look_3 rfl (lv_at hl 1 rfl) ?_
  refine lv_iload_n hx hb d_La_look_4 rfl (lv_at hl 2 rfl) ?_
  refine xc_t (wr := [(ou, .inl (kA 2, 1, .inr (.inl o)))]) (xt_runV (As := [.int x, .int y]) (rest := [.int 0, .ref ou]) ⟨hx, hb, hml, hown, hg⟩ (t_Lk_look l hfl D kA kS s.heap.size h0 r q fp z vs x y h1) (cwV 2 hg (xg_V mw_1226 mw_1227 mw_1228 mw_1 mw_1229) rfl rfl rfl (by decide +kernel) ⟨Nat.le_of_ble_eq_true rfl, Nat.le_of_ble_eq_true rfl⟩) (xc_preV hK hN hC hP hD hS hA [0, 1, 2] (by decide) rfl 0 rfl rfl) rfl rfl hl.1 rfl (lv_room (Nat.le_of_ble_eq_true rfl)) d_La_look_5 ⟨Nat.le_of_ble_eq_true rfl, Nat.le_of_ble_eq_true rfl⟩) hP hD hS hA [0, 1, 2] [3] rfl rfl (by decide) (by decide) (xt_lead1 hown htab (by decide) (by decide) (by decide) (hg _ mw_1072) (hN.use nw_1082)) (fun u9 x9 H locs hw hP hD hS => ?_)
  have hP : va_P D vC [(ou, .inl (kA 2, 1, .inr (.inl o))), (h0, .inr (11, [.ref (r 0), .ref (r 1), .ref (r 2), .ref (r 3), .ref (r 4), .ref (r 5), .ref (r 6), .ref (r 7), .ref (r 8), .ref (r 9), .ref (r 10), .ref (r 11), .ref (r 12), .ref (r 13), .ref (r 14), .int fp, .int 0])), (r 7, .inr (2, [.ref (q 0), .ref (q 1), .ref (q 2), .ref (q 3), .ref (q 4), .ref (q 5), .ref (q 6), .ref (q 7), .ref (q 8), .ref (q 9), .ref (q 10), .int (z 11), .ref (q 12), .ref (q 13), .int (z 14), .int (z 15), .int (z 16), .int (z 17)])), (q 10, .inl (kA 1, 4, .inl vs))] H := hP
  have hD : va_D A [(ou, .inl (kA 2, 1, .inr (.inl o))), (h0, .inr (11, [.ref (r 0), .ref (r 1), .ref (r 2), .ref (r 3), .ref (r 4), .ref (r 5), .ref (r 6), .ref (r 7), .ref (r 8), .ref (r 9), .ref (r 10), .ref (r 11), .ref (r 12), .ref (r 13), .ref (r 14), .int fp, .int 0])), (r 7, .inr (2, [.ref (q 0), .ref (q 1), .ref (q 2), .ref (q 3), .ref (q 4), .ref (q 5), .ref (q 6), .ref (q 7), .ref (q 8), .ref (q 9), .ref (q 10), .int (z 11), .ref (q 12), .ref (q 13), .int (z 14), .int (z 15), .int (z 16), .int (z 17)])), (q 10, .inl (kA 1, 4, .inl vs))] := hD
  refine W.widen (k := 1) (n := 6) (Nat.le_of_ble_eq_true rfl) (Nat.le_of_ble_eq_true rfl) ?_
  refine lv_astore (lv' := [(4, .ref x9), (0, .ref h0), (1, .int x), (2, .int y), (3, .ref ou)]) hx hb d_La_look_13 hl (by decide) rfl (fun ls hl => ?_)
  refine lv_iconst (v := 1) hx hb d_La_look_15 (by decide) ?_
  have hP : va_P D vC [(h0, .inr (11, [.ref (r 0), .ref (r 1), .ref (r 2), .ref (r 3), .ref (r 4), .ref (r 5), .ref (r 6), .ref (r 7), .ref (r 8), .ref (r 9), .ref (r 10), .ref (r 11), .ref (r 12), .ref (r 13), .ref (r 14), .int fp, .int 0])), (r 7, .inr (2, [.ref (q 0), .ref (q 1), .ref (q 2), .ref (q 3), .ref (q 4), .ref (q 5), .ref (q 6), .ref (q 7), .ref (q 8), .ref (q 9), .ref (q 10), .int (z 11), .ref (q 12), .ref (q 13), .int (z 14), .int (z 15), .int (z 16), .int (z 17)])), (q 10, .inl (kA 1, 4, .inl vs)), (ou, .inl (kA 2, 1, .inr (.inl o)))] H := hP.sub [1, 2, 3, 0] rfl
  have hD : va_D A [(h0, .inr (11, [.ref (r 0), .ref (r 1), .ref (r 2), .ref (r 3), .ref (r 4), .ref (r 5), .ref (r 6), .ref (r 7), .ref (r 8), .ref (r 9), .ref (r 10), .ref (r 11), .ref (r 12), .ref (r 13), .ref (r 14), .int fp, .int 0])), (r 7, .inr (2, [.ref (q 0), .ref (q 1), .ref (q 2), .ref (q 3), .ref (q 4), .ref (q 5), .ref (q 6), .ref (q 7), .ref (q 8), .ref (q 9), .ref (q 10), .int (z 11), .ref (q 12), .ref (q 13), .int (z 14), .int (z 15), .int (z 16), .int (z 17)])), (q 10, .inl (kA 1, 4, .inl vs)), (ou, .inl (kA 2, 1, .inr (.inl o)))] := hD.sub [1, 2, 3, 0] (by decide) rfl
  exact W.iret (v := 1) hx hb hr (fun t ht hW => ⟨⟨1, (), rfl, rfl, by rw [ht]; exact hP, va_K.moved hW.alike hK, hD⟩, hS.F ht⟩) hS.2.2 d_La_look_16

set_option maxHeartbeats 4000000 in
set_option maxRecDepth 100000 in
/-- the law's look: refused -/
theorem n_La_look2 (l : Launch) (D : va_G) (kA : Nat → ClassId) (kS : Nat → Nat) (sz : Nat) (hfl : l.flags = flags0) (ou : Nat) (o : Nat → Int64) (h0 : Nat) (r q : Nat → Nat) (fp : Int32) (z vs : Nat → Int32) (k : Nat) (hk : k < 4) (y : Int32) (h1 : y < 0 ∨ ¬ y < vs k) : Met l y_La_look w_La_look { frames := 8, cells := 1, slots := 6, locals := 126 } (xPre D vC (tK kA) kS [.ref h0, .int (nI k), .int y, .ref ou] ([oLk h0 r fp 0, oSc (r 7) q z, (q 10, .inl (kA 1, 4, .inl vs))] ++ [(ou, .inl (kA 2, 1, .inr (.inl o)))]) sz) (va_Qi (fun (x : Int32) (_ : Unit) => x = 1) (xB D vC (tK kA) (fun _ => [oLk h0 r fp 0, oSc (r 7) q z, (q 10, .inl (kA 1, 4, .inl vs))] ++ [(ou, .inl (kA 2, 1, .inr (.inl o)))]) (va_A ([oLk h0 r fp 0, oSc (r 7) q z, (q 10, .inl (kA 1, 4, .inl vs))] ++ [(ou, .inl (kA 2, 1, .inr (.inl o)))]) sz)) (va_A ([oLk h0 r fp 0, oSc (r 7) q z, (q 10, .inl (kA 1, 4, .inl vs))] ++ [(ou, .inl (kA 2, 1, .inr (.inl o)))]) sz)) 1 6 (va_A ([oLk h0 r fp 0, oSc (r 7) q z, (q 10, .inl (kA 1, 4, .inl vs))] ++ [(ou, .inl (kA 2, 1, .inr (.inl o)))]) sz) := by
  refine va_MetW (cc := b_La_look) (maxL := 5) (ret := (some .int)) (hh := [(0, 10, 13, 25)]) (by decide) rfl ?_
  intro p e s m args below meth c s₁ B hml hv
  obtain ⟨rfl, hsz, hP, hK, hD0, hN, hC⟩ := hv
  have hx := B.exec
  have hb := B.bytes
  have hr := B.returns
  have hts := atoms_spec (ws := w_La_look) B.pre
  have hg : ∀ w ∈ gW, w.before _ s = true := fun w h => hts w (List.mem_cons_of_mem _ h)
  have hown : s.vm.findClass R_La = some m.cls := findClass_of_methodNamed B.named
  have hlocks := B.notSynchronized
  have htab := xt_table B (hts _ List.mem_cons_self)
  subst hsz
  have hD := hD0.self (sz := s.heap.size)
  generalize hAe : va_A ([oLk h0 r fp 0, oSc (r 7) q z, (q 10, .inl (kA 1, 4, .inl vs))] ++ [(ou, .inl (kA 2, 1, .inr (.inl o)))]) s.heap.size = A at hD hC ⊢
  have hA : ∀ q : Nat, s.heap.size ≤ q → A q := fun q h => by rw [← hAe]; exact Or.inr h
  have hS : va_S A s.heap s.heap [] := va_S.rf
  have hP : va_P D vC [(h0, .inr (11, [.ref (r 0), .ref (r 1), .ref (r 2), .ref (r 3), .ref (r 4), .ref (r 5), .ref (r 6), .ref (r 7), .ref (r 8), .ref (r 9), .ref (r 10), .ref (r 11), .ref (r 12), .ref (r 13), .ref (r 14), .int fp, .int 0])), (r 7, .inr (2, [.ref (q 0), .ref (q 1), .ref (q 2), .ref (q 3), .ref (q 4), .ref (q 5), .ref (q 6), .ref (q 7), .ref (q 8), .ref (q 9), .ref (q 10), .int (z 11), .ref (q 12), .ref (q 13), .int (z 14), .int (z 15), .int (z 16), .int (z 17)])), (q 10, .inl (kA 1, 4, .inl vs)), (ou, .inl (kA 2, 1, .inr (.inl o)))] s.heap := hP
  have hD : va_D A [(h0, .inr (11, [.ref (r 0), .ref (r 1), .ref (r 2), .ref (r 3), .ref (r 4), .ref (r 5), .ref (r 6), .ref (r 7), .ref (r 8), .ref (r 9), .ref (r 10), .ref (r 11), .ref (r 12), .ref (r 13), .ref (r 14), .int fp, .int 0])), (r 7, .inr (2, [.ref (q 0), .ref (q 1), .ref (q 2), .ref (q 3), .ref (q 4), .ref (q 5), .ref (q 6), .ref (q 7), .ref (q 8), .ref (q 9), .ref (q 10), .int (z 11), .ref (q 12), .ref (q 13), .int (z 14), .int (z 15), .int (z 16), .int (z 17)])), (q 10, .inl (kA 1, 4, .inl vs)), (ou, .inl (kA 2, 1, .inr (.inl o)))] := hD
  have hl := lv_entry ([.ref h0, .int (nI k), .int y, .ref ou]) (n := 5) (Nat.le_of_ble_eq_true rfl)
  rw [lg_entry_eq]
  generalize (lg_sl ([.ref h0, .int (nI k), .int y, .ref ou]) ++ List.replicate (5 - (lg_sl ([.ref h0, .int (nI k), .int y, .ref ou])).length) Slot.unset).toArray = ls at hl ⊢
  have hl : lv_has ls 5 [(0, .ref h0), (1, .int (nI k)), (2, .int y), (3, .ref ou)] := hl
  refine lv_aload_n hx hb d_La_look_0 rfl (lv_at hl 3 rfl) ?_
  refine lv_iconst (v := 0) hx hb d_La_look_1 (by decide) ?_
  refine lv_aload_n hx hb d_La_look_2 rfl (lv_at hl 0 rfl) ?_
  refine lv_iload_n hx hb d_La_look_3 rfl (lv_at hl 1 rfl) ?_
  refine lv_iload_n hx hb d_La_look_4 rfl (lv_at hl 2 rfl) ?_
  refine xc_t (wr := [(ou, .inl (kA 2, 1, .inr (.inl o)))]) (xt_runV (As := [.int (nI k), .int y]) (rest := [.int 0, .ref ou]) ⟨hx, hb, hml, hown, hg⟩ (t_Lk_look2 l hfl D kA kS s.heap.size h0 r q fp z vs k hk y h1) (cwV 2 hg (xg_V mw_1226 mw_1227 mw_1228 mw_1 mw_1229) rfl rfl rfl (by decide +kernel) ⟨Nat.le_of_ble_eq_true rfl, Nat.le_of_ble_eq_true rfl⟩) (xc_preV hK hN hC hP hD hS hA [0, 1, 2] (by decide) rfl 0 rfl rfl) rfl rfl hl.1 rfl (lv_room (Nat.le_of_ble_eq_true rfl)) d_La_look_5 ⟨Nat.le_of_ble_eq_true rfl, Nat.le_of_ble_eq_true rfl⟩) hP hD hS hA [0, 1, 2] [3] rfl rfl (by decide) (by decide) (xt_lead1 hown htab (by decide) (by decide) (by decide) (hg _ mw_1072) (hN.use nw_1082)) (fun u9 x9 H locs hw hP hD hS => ?_)
  have hP : va_P D vC [(ou, .inl (kA 2, 1, .inr (.inl o))), (h0, .inr (11, [.ref (r 0), .ref (r 1), .ref (r 2), .ref (r 3), .ref (r 4), .ref (r 5), .ref (r 6), .ref (r 7), .ref (r 8), .ref (r 9), .ref (r 10), .ref (r 11), .ref (r 12), .ref (r 13), .ref (r 14), .int fp, .int 0])), (r 7, .inr (2, [.ref (q 0), .ref (q 1), .ref (q 2), .ref (q 3), .ref (q 4), .ref (q 5), .ref (q 6), .ref (q 7), .ref (q 8), .ref (q 9), .ref (q 10), .int (z 11), .ref (q 12), .ref (q 13), .int (z 14), .int (z 15), .int (z 16), .int (z 17)])), (q 10, .inl (kA 1, 4, .inl vs))] H := hP
  have hD : va_D A [(ou, .inl (kA 2, 1, .inr (.inl o))), (h0, .inr (11, [.ref (r 0), .ref (r 1), .ref (r 2), .ref (r 3), .ref (r 4), .ref (r 5), .ref (r 6), .ref (r 7), .ref (r 8), .ref (r 9), .ref (r 10), .ref (r 11), .ref (r 12), .ref (r 13), .ref (r 14), .int fp, .int 0])), (r 7, .inr (2, [.ref (q 0), .ref (q 1), .ref (q 2), .ref (q 3), .ref (q 4), .ref (q 5), .ref (q 6), .ref (q 7), .ref (q 8), .ref (q 9), .ref (q 10), .int (z 11), .ref (q 12), .ref (q 13), .int (z 14), .int (z 15), .int (z 16), .int (z 17)])), (q 10, .inl (kA 1, 4, .inl vs))] := hD
  refine W.widen (k := 1) (n := 6) (Nat.le_of_ble_eq_true rfl) (Nat.le_of_ble_eq_true rfl) ?_
  refine lv_astore (lv' := [(4, .ref x9), (0, .ref h0), (1, .int (nI k)), (2, .int y), (3, .ref ou)]) hx hb d_La_look_13 hl (by decide) rfl (fun ls hl => ?_)
  refine lv_iconst (v := 1) hx hb d_La_look_15 (by decide) ?_
  have hP : va_P D vC [(h0, .inr (11, [.ref (r 0), .ref (r 1), .ref (r 2), .ref (r 3), .ref (r 4), .ref (r 5), .ref (r 6), .ref (r 7), .ref (r 8), .ref (r 9), .ref (r 10), .ref (r 11), .ref (r 12), .ref (r 13), .ref (r 14), .int fp, .int 0])), (r 7, .inr (2, [.ref (q 0), .ref (q 1), .ref (q 2), .ref (q 3), .ref (q 4), .ref (q 5), .ref (q 6), .ref (q 7), .ref (q 8), .ref (q 9), .ref (q 10), .int (z 11), .ref (q 12), .ref (q 13), .int (z 14), .int (z 15), .int (z 16), .int (z 17)])), (q 10, .inl (kA 1, 4, .inl vs)), (ou, .inl (kA 2, 1, .inr (.inl o)))] H := hP.sub [1, 2, 3, 0] rfl
  have hD : va_D A [(h0, .inr (11, [.ref (r 0), .ref (r 1), .ref (r 2), .ref (r 3), .ref (r 4), .ref (r 5), .ref (r 6), .ref (r 7), .ref (r 8), .ref (r 9), .ref (r 10), .ref (r 11), .ref (r 12), .ref (r 13), .ref (r 14), .int fp, .int 0])), (r 7, .inr (2, [.ref (q 0), .ref (q 1), .ref (q 2), .ref (q 3), .ref (q 4), .ref (q 5), .ref (q 6), .ref (q 7), .ref (q 8), .ref (q 9), .ref (q 10), .int (z 11), .ref (q 12), .ref (q 13), .int (z 14), .int (z 15), .int (z 16), .int (z 17)])), (q 10, .inl (kA 1, 4, .inl vs)), (ou, .inl (kA 2, 1, .inr (.inl o)))] := hD.sub [1, 2, 3, 0] (by decide) rfl
  exact W.iret (v := 1) hx hb hr (fun t ht hW => ⟨⟨1, (), rfl, rfl, by rw [ht]; exact hP, va_K.moved hW.alike hK, hD⟩, hS.F ht⟩) hS.2.2 d_La_look_16

set_option maxHeartbeats 4000000 in
set_option maxRecDepth 100000 in
/-- the law's load: refused -/
theorem n_La_load (l : Launch) (D : va_G) (kA : Nat → ClassId) (kS : Nat → Nat) (sz : Nat) (hfl : l.flags = flags0) (ou : Nat) (o : Nat → Int64) (h0 : Nat) (r q : Nat → Nat) (fp : Int32) (z vs : Nat → Int32) (x y : Int32) (h1 : x < 0 ∨ ¬ x < 4) : Met l y_La_load w_La_load { frames := 8, cells := 1, slots := 6, locals := 128 } (xPre D vC (tK kA) kS [.ref h0, .int x, .int y, .ref ou] ([oLk h0 r fp 0, oSc (r 7) q z, (q 10, .inl (kA 1, 4, .inl vs))] ++ [(ou, .inl (kA 2, 1, .inr (.inl o)))]) sz) (va_Qi (fun (x : Int32) (_ : Unit) => x = 1) (xB D vC (tK kA) (fun _ => [oLk h0 r fp 0, oSc (r 7) q z, (q 10, .inl (kA 1, 4, .inl vs))] ++ [(ou, .inl (kA 2, 1, .inr (.inl o)))]) (va_A ([oLk h0 r fp 0, oSc (r 7) q z, (q 10, .inl (kA 1, 4, .inl vs))] ++ [(ou, .inl (kA 2, 1, .inr (.inl o)))]) sz)) (va_A ([oLk h0 r fp 0, oSc (r 7) q z, (q 10, .inl (kA 1, 4, .inl vs))] ++ [(ou, .inl (kA 2, 1, .inr (.inl o)))]) sz)) 1 6 (va_A ([oLk h0 r fp 0, oSc (r 7) q z, (q 10, .inl (kA 1, 4, .inl vs))] ++ [(ou, .inl (kA 2, 1, .inr (.inl o)))]) sz) := by
  refine va_MetW (cc := b_La_load) (maxL := 5) (ret := (some .int)) (hh := [(0, 10, 13, 25)]) (by decide) rfl ?_
  intro p e s m args below meth c s₁ B hml hv
  obtain ⟨rfl, hsz, hP, hK, hD0, hN, hC⟩ := hv
  have hx := B.exec
  have hb := B.bytes
  have hr := B.returns
  have hts := atoms_spec (ws := w_La_load) B.pre
  have hg : ∀ w ∈ gW, w.before _ s = true := fun w h => hts w (List.mem_cons_of_mem _ h)
  have hown : s.vm.findClass R_La = some m.cls := findClass_of_methodNamed B.named
  have hlocks := B.notSynchronized
  have htab := xt_table B (hts _ List.mem_cons_self)
  subst hsz
  have hD := hD0.self (sz := s.heap.size)
  generalize hAe : va_A ([oLk h0 r fp 0, oSc (r 7) q z, (q 10, .inl (kA 1, 4, .inl vs))] ++ [(ou, .inl (kA 2, 1, .inr (.inl o)))]) s.heap.size = A at hD hC ⊢
  have hA : ∀ q : Nat, s.heap.size ≤ q → A q := fun q h => by rw [← hAe]; exact Or.inr h
  have hS : va_S A s.heap s.heap [] := va_S.rf
  have hP : va_P D vC [(h0, .inr (11, [.ref (r 0), .ref (r 1), .ref (r 2), .ref (r 3), .ref (r 4), .ref (r 5), .ref (r 6), .ref (r 7), .ref (r 8), .ref (r 9), .ref (r 10), .ref (r 11), .ref (r 12), .ref (r 13), .ref (r 14), .int fp, .int 0])), (r 7, .inr (2, [.ref (q 0), .ref (q 1), .ref (q 2), .ref (q 3), .ref (q 4), .ref (q 5), .ref (q 6), .ref (q 7), .ref (q 8), .ref (q 9), .ref (q 10), .int (z 11), .ref (q 12), .ref (q 13), .int (z 14), .int (z 15), .int (z 16), .int (z 17)])), (q 10, .inl (kA 1, 4, .inl vs)), (ou, .inl (kA 2, 1, .inr (.inl o)))] s.heap := hP
  have hD : va_D A [(h0, .inr (11, [.ref (r 0), .ref (r 1), .ref (r 2), .ref (r 3), .ref (r 4), .ref (r 5), .ref (r 6), .ref (r 7), .ref (r 8), .ref (r 9), .ref (r 10), .ref (r 11), .ref (r 12), .ref (r 13), .ref (r 14), .int fp, .int 0])), (r 7, .inr (2, [.ref (q 0), .ref (q 1), .ref (q 2), .ref (q 3), .ref (q 4), .ref (q 5), .ref (q 6), .ref (q 7), .ref (q 8), .ref (q 9), .ref (q 10), .int (z 11), .ref (q 12), .ref (q 13), .int (z 14), .int (z 15), .int (z 16), .int (z 17)])), (q 10, .inl (kA 1, 4, .inl vs)), (ou, .inl (kA 2, 1, .inr (.inl o)))] := hD
  have hl := lv_entry ([.ref h0, .int x, .int y, .ref ou]) (n := 5) (Nat.le_of_ble_eq_true rfl)
  rw [lg_entry_eq]
  generalize (lg_sl ([.ref h0, .int x, .int y, .ref ou]) ++ List.replicate (5 - (lg_sl ([.ref h0, .int x, .int y, .ref ou])).length) Slot.unset).toArray = ls at hl ⊢
  have hl : lv_has ls 5 [(0, .ref h0), (1, .int x), (2, .int y), (3, .ref ou)] := hl
  refine lv_aload_n hx hb d_La_load_0 rfl (lv_at hl 3 rfl) ?_
  refine lv_iconst (v := 0) hx hb d_La_load_1 (by decide) ?_
  refine lv_aload_n hx hb d_La_load_2 rfl (lv_at hl 0 rfl) ?_
  refine lv_iload_n hx hb d_La_load_3 rfl (lv_at hl 1 rfl) ?_
  refine lv_iload_n hx hb d_La_load_4 rfl (lv_at hl 2 rfl) ?_
  refine xc_t (wr := [(ou, .inl (kA 2, 1, .inr (.inl o)))]) (xt_runV (As := [.int x, .int y]) (rest := [.int 0, .ref ou]) ⟨hx, hb, hml, hown, hg⟩ (t_Lk_load l hfl D kA kS s.heap.size h0 r q fp z vs x y h1) (cwV 2 hg (xg_V mw_1311 mw_1312 mw_1313 mw_1 mw_1314) rfl rfl rfl (by decide +kernel) ⟨Nat.le_of_ble_eq_true rfl, Nat.le_of_ble_eq_true rfl⟩) (xc_preV hK hN hC hP hD hS hA [0, 1, 2] (by decide) rfl 0 rfl rfl) rfl rfl hl.1 rfl (lv_room (Nat.le_of_ble_eq_true rfl)) d_La_load_5 ⟨Nat.le_of_ble_eq_true rfl, Nat.le_of_ble_eq_true rfl⟩) hP hD hS hA [0, 1, 2] [3] rfl rfl (by decide) (by decide) (xt_lead1 hown htab (by decide) (by decide) (by decide) (hg _ mw_1072) (hN.use nw_1082)) (fun u9 x9 H locs hw hP hD hS => ?_)
  have hP : va_P D vC [(ou, .inl (kA 2, 1, .inr (.inl o))), (h0, .inr (11, [.ref (r 0), .ref (r 1), .ref (r 2), .ref (r 3), .ref (r 4), .ref (r 5), .ref (r 6), .ref (r 7), .ref (r 8), .ref (r 9), .ref (r 10), .ref (r 11), .ref (r 12), .ref (r 13), .ref (r 14), .int fp, .int 0])), (r 7, .inr (2, [.ref (q 0), .ref (q 1), .ref (q 2), .ref (q 3), .ref (q 4), .ref (q 5), .ref (q 6), .ref (q 7), .ref (q 8), .ref (q 9), .ref (q 10), .int (z 11), .ref (q 12), .ref (q 13), .int (z 14), .int (z 15), .int (z 16), .int (z 17)])), (q 10, .inl (kA 1, 4, .inl vs))] H := hP
  have hD : va_D A [(ou, .inl (kA 2, 1, .inr (.inl o))), (h0, .inr (11, [.ref (r 0), .ref (r 1), .ref (r 2), .ref (r 3), .ref (r 4), .ref (r 5), .ref (r 6), .ref (r 7), .ref (r 8), .ref (r 9), .ref (r 10), .ref (r 11), .ref (r 12), .ref (r 13), .ref (r 14), .int fp, .int 0])), (r 7, .inr (2, [.ref (q 0), .ref (q 1), .ref (q 2), .ref (q 3), .ref (q 4), .ref (q 5), .ref (q 6), .ref (q 7), .ref (q 8), .ref (q 9), .ref (q 10), .int (z 11), .ref (q 12), .ref (q 13), .int (z 14), .int (z 15), .int (z 16), .int (z 17)])), (q 10, .inl (kA 1, 4, .inl vs))] := hD
  refine W.widen (k := 1) (n := 6) (Nat.le_of_ble_eq_true rfl) (Nat.le_of_ble_eq_true rfl) ?_
  refine lv_astore (lv' := [(4, .ref x9), (0, .ref h0), (1, .int x), (2, .int y), (3, .ref ou)]) hx hb d_La_load_13 hl (by decide) rfl (fun ls hl => ?_)
  refine lv_iconst (v := 1) hx hb d_La_load_15 (by decide) ?_
  have hP : va_P D vC [(h0, .inr (11, [.ref (r 0), .ref (r 1), .ref (r 2), .ref (r 3), .ref (r 4), .ref (r 5), .ref (r 6), .ref (r 7), .ref (r 8), .ref (r 9), .ref (r 10), .ref (r 11), .ref (r 12), .ref (r 13), .ref (r 14), .int fp, .int 0])), (r 7, .inr (2, [.ref (q 0), .ref (q 1), .ref (q 2), .ref (q 3), .ref (q 4), .ref (q 5), .ref (q 6), .ref (q 7), .ref (q 8), .ref (q 9), .ref (q 10), .int (z 11), .ref (q 12), .ref (q 13), .int (z 14), .int (z 15), .int (z 16), .int (z 17)])), (q 10, .inl (kA 1, 4, .inl vs)), (ou, .inl (kA 2, 1, .inr (.inl o)))] H := hP.sub [1, 2, 3, 0] rfl
  have hD : va_D A [(h0, .inr (11, [.ref (r 0), .ref (r 1), .ref (r 2), .ref (r 3), .ref (r 4), .ref (r 5), .ref (r 6), .ref (r 7), .ref (r 8), .ref (r 9), .ref (r 10), .ref (r 11), .ref (r 12), .ref (r 13), .ref (r 14), .int fp, .int 0])), (r 7, .inr (2, [.ref (q 0), .ref (q 1), .ref (q 2), .ref (q 3), .ref (q 4), .ref (q 5), .ref (q 6), .ref (q 7), .ref (q 8), .ref (q 9), .ref (q 10), .int (z 11), .ref (q 12), .ref (q 13), .int (z 14), .int (z 15), .int (z 16), .int (z 17)])), (q 10, .inl (kA 1, 4, .inl vs)), (ou, .inl (kA 2, 1, .inr (.inl o)))] := hD.sub [1, 2, 3, 0] (by decide) rfl
  exact W.iret (v := 1) hx hb hr (fun t ht hW => ⟨⟨1, (), rfl, rfl, by rw [ht]; exact hP, va_K.moved hW.alike hK, hD⟩, hS.F ht⟩) hS.2.2 d_La_load_16

set_option maxHeartbeats 4000000 in
set_option maxRecDepth 100000 in
/-- the law's load: refused -/
theorem n_La_load2 (l : Launch) (D : va_G) (kA : Nat → ClassId) (kS : Nat → Nat) (sz : Nat) (hfl : l.flags = flags0) (ou : Nat) (o : Nat → Int64) (h0 : Nat) (r q : Nat → Nat) (fp : Int32) (z vs : Nat → Int32) (k : Nat) (hk : k < 4) (y : Int32) (h1 : y < 0 ∨ ¬ y < vs k) : Met l y_La_load w_La_load { frames := 8, cells := 1, slots := 6, locals := 128 } (xPre D vC (tK kA) kS [.ref h0, .int (nI k), .int y, .ref ou] ([oLk h0 r fp 0, oSc (r 7) q z, (q 10, .inl (kA 1, 4, .inl vs))] ++ [(ou, .inl (kA 2, 1, .inr (.inl o)))]) sz) (va_Qi (fun (x : Int32) (_ : Unit) => x = 1) (xB D vC (tK kA) (fun _ => [oLk h0 r fp 0, oSc (r 7) q z, (q 10, .inl (kA 1, 4, .inl vs))] ++ [(ou, .inl (kA 2, 1, .inr (.inl o)))]) (va_A ([oLk h0 r fp 0, oSc (r 7) q z, (q 10, .inl (kA 1, 4, .inl vs))] ++ [(ou, .inl (kA 2, 1, .inr (.inl o)))]) sz)) (va_A ([oLk h0 r fp 0, oSc (r 7) q z, (q 10, .inl (kA 1, 4, .inl vs))] ++ [(ou, .inl (kA 2, 1, .inr (.inl o)))]) sz)) 1 6 (va_A ([oLk h0 r fp 0, oSc (r 7) q z, (q 10, .inl (kA 1, 4, .inl vs))] ++ [(ou, .inl (kA 2, 1, .inr (.inl o)))]) sz) := by
  refine va_MetW (cc := b_La_load) (maxL := 5) (ret := (some .int)) (hh := [(0, 10, 13, 25)]) (by decide) rfl ?_
  intro p e s m args below meth c s₁ B hml hv
  obtain ⟨rfl, hsz, hP, hK, hD0, hN, hC⟩ := hv
  have hx := B.exec
  have hb := B.bytes
  have hr := B.returns
  have hts := atoms_spec (ws := w_La_load) B.pre
  have hg : ∀ w ∈ gW, w.before _ s = true := fun w h => hts w (List.mem_cons_of_mem _ h)
  have hown : s.vm.findClass R_La = some m.cls := findClass_of_methodNamed B.named
  have hlocks := B.notSynchronized
  have htab := xt_table B (hts _ List.mem_cons_self)
  subst hsz
  have hD := hD0.self (sz := s.heap.size)
  generalize hAe : va_A ([oLk h0 r fp 0, oSc (r 7) q z, (q 10, .inl (kA 1, 4, .inl vs))] ++ [(ou, .inl (kA 2, 1, .inr (.inl o)))]) s.heap.size = A at hD hC ⊢
  have hA : ∀ q : Nat, s.heap.size ≤ q → A q := fun q h => by rw [← hAe]; exact Or.inr h
  have hS : va_S A s.heap s.heap [] := va_S.rf
  have hP : va_P D vC [(h0, .inr (11, [.ref (r 0), .ref (r 1), .ref (r 2), .ref (r 3), .ref (r 4), .ref (r 5), .ref (r 6), .ref (r 7), .ref (r 8), .ref (r 9), .ref (r 10), .ref (r 11), .ref (r 12), .ref (r 13), .ref (r 14), .int fp, .int 0])), (r 7, .inr (2, [.ref (q 0), .ref (q 1), .ref (q 2), .ref (q 3), .ref (q 4), .ref (q 5), .ref (q 6), .ref (q 7), .ref (q 8), .ref (q 9), .ref (q 10), .int (z 11), .ref (q 12), .ref (q 13), .int (z 14), .int (z 15), .int (z 16), .int (z 17)])), (q 10, .inl (kA 1, 4, .inl vs)), (ou, .inl (kA 2, 1, .inr (.inl o)))] s.heap := hP
  have hD : va_D A [(h0, .inr (11, [.ref (r 0), .ref (r 1), .ref (r 2), .ref (r 3), .ref (r 4), .ref (r 5), .ref (r 6), .ref (r 7), .ref (r 8), .ref (r 9), .ref (r 10), .ref (r 11), .ref (r 12), .ref (r 13), .ref (r 14), .int fp, .int 0])), (r 7, .inr (2, [.ref (q 0), .ref (q 1), .ref (q 2), .ref (q 3), .ref (q 4), .ref (q 5), .ref (q 6), .ref (q 7), .ref (q 8), .ref (q 9), .ref (q 10), .int (z 11), .ref (q 12), .ref (q 13), .int (z 14), .int (z 15), .int (z 16), .int (z 17)])), (q 10, .inl (kA 1, 4, .inl vs)), (ou, .inl (kA 2, 1, .inr (.inl o)))] := hD
  have hl := lv_entry ([.ref h0, .int (nI k), .int y, .ref ou]) (n := 5) (Nat.le_of_ble_eq_true rfl)
  rw [lg_entry_eq]
  generalize (lg_sl ([.ref h0, .int (nI k), .int y, .ref ou]) ++ List.replicate (5 - (lg_sl ([.ref h0, .int (nI k), .int y, .ref ou])).length) Slot.unset).toArray = ls at hl ⊢
  have hl : lv_has ls 5 [(0, .ref h0), (1, .int (nI k)), (2, .int y), (3, .ref ou)] := hl
  refine lv_aload_n hx hb d_La_load_0 rfl (lv_at hl 3 rfl) ?_
  refine lv_iconst (v := 0) hx hb d_La_load_1 (by decide) ?_
  refine lv_aload_n hx hb d_La_load_2 rfl (lv_at hl 0 rfl) ?_
  refine lv_iload_n hx hb d_La_load_3 rfl (lv_at hl 1 rfl) ?_
  refine lv_iload_n hx hb d_La_load_4 rfl (lv_at hl 2 rfl) ?_
  refine xc_t (wr := [(ou, .inl (kA 2, 1, .inr (.inl o)))]) (xt_runV (As := [.int (nI k), .int y]) (rest := [.int 0, .ref ou]) ⟨hx, hb, hml, hown, hg⟩ (t_Lk_load2 l hfl D kA kS s.heap.size h0 r q fp z vs k hk y h1) (cwV 2 hg (xg_V mw_1311 mw_1312 mw_1313 mw_1 mw_1314) rfl rfl rfl (by decide +kernel) ⟨Nat.le_of_ble_eq_true rfl, Nat.le_of_ble_eq_true rfl⟩) (xc_preV hK hN hC hP hD hS hA [0, 1, 2] (by decide) rfl 0 rfl rfl) rfl rfl hl.1 rfl (lv_room (Nat.le_of_ble_eq_true rfl)) d_La_load_5 ⟨Nat.le_of_ble_eq_true rfl, Nat.le_of_ble_eq_true rfl⟩) hP hD hS hA [0, 1, 2] [3] rfl rfl (by decide) (by decide) (xt_lead1 hown htab (by decide) (by decide) (by decide) (hg _ mw_1072) (hN.use nw_1082)) (fun u9 x9 H locs hw hP hD hS => ?_)
  have hP : va_P D vC [(ou, .inl (kA 2, 1, .inr (.inl o))), (h0, .inr (11, [.ref (r 0), .ref (r 1), .ref (r 2), .ref (r 3), .ref (r 4), .ref (r 5), .ref (r 6), .ref (r 7), .ref (r 8), .ref (r 9), .ref (r 10), .ref (r 11), .ref (r 12), .ref (r 13), .ref (r 14), .int fp, .int 0])), (r 7, .inr (2, [.ref (q 0), .ref (q 1), .ref (q 2), .ref (q 3), .ref (q 4), .ref (q 5), .ref (q 6), .ref (q 7), .ref (q 8), .ref (q 9), .ref (q 10), .int (z 11), .ref (q 12), .ref (q 13), .int (z 14), .int (z 15), .int (z 16), .int (z 17)])), (q 10, .inl (kA 1, 4, .inl vs))] H := hP
  have hD : va_D A [(ou, .inl (kA 2, 1, .inr (.inl o))), (h0, .inr (11, [.ref (r 0), .ref (r 1), .ref (r 2), .ref (r 3), .ref (r 4), .ref (r 5), .ref (r 6), .ref (r 7), .ref (r 8), .ref (r 9), .ref (r 10), .ref (r 11), .ref (r 12), .ref (r 13), .ref (r 14), .int fp, .int 0])), (r 7, .inr (2, [.ref (q 0), .ref (q 1), .ref (q 2), .ref (q 3), .ref (q 4), .ref (q 5), .ref (q 6), .ref (q 7), .ref (q 8), .ref (q 9), .ref (q 10), .int (z 11), .ref (q 12), .ref (q 13), .int (z 14), .int (z 15), .int (z 16), .int (z 17)])), (q 10, .inl (kA 1, 4, .inl vs))] := hD
  refine W.widen (k := 1) (n := 6) (Nat.le_of_ble_eq_true rfl) (Nat.le_of_ble_eq_true rfl) ?_
  refine lv_astore (lv' := [(4, .ref x9), (0, .ref h0), (1, .int (nI k)), (2, .int y), (3, .ref ou)]) hx hb d_La_load_13 hl (by decide) rfl (fun ls hl => ?_)
  refine lv_iconst (v := 1) hx hb d_La_load_15 (by decide) ?_
  have hP : va_P D vC [(h0, .inr (11, [.ref (r 0), .ref (r 1), .ref (r 2), .ref (r 3), .ref (r 4), .ref (r 5), .ref (r 6), .ref (r 7), .ref (r 8), .ref (r 9), .ref (r 10), .ref (r 11), .ref (r 12), .ref (r 13), .ref (r 14), .int fp, .int 0])), (r 7, .inr (2, [.ref (q 0), .ref (q 1), .ref (q 2), .ref (q 3), .ref (q 4), .ref (q 5), .ref (q 6), .ref (q 7), .ref (q 8), .ref (q 9), .ref (q 10), .int (z 11), .ref (q 12), .ref (q 13), .int (z 14), .int (z 15), .int (z 16), .int (z 17)])), (q 10, .inl (kA 1, 4, .inl vs)), (ou, .inl (kA 2, 1, .inr (.inl o)))] H := hP.sub [1, 2, 3, 0] rfl
  have hD : va_D A [(h0, .inr (11, [.ref (r 0), .ref (r 1), .ref (r 2), .ref (r 3), .ref (r 4), .ref (r 5), .ref (r 6), .ref (r 7), .ref (r 8), .ref (r 9), .ref (r 10), .ref (r 11), .ref (r 12), .ref (r 13), .ref (r 14), .int fp, .int 0])), (r 7, .inr (2, [.ref (q 0), .ref (q 1), .ref (q 2), .ref (q 3), .ref (q 4), .ref (q 5), .ref (q 6), .ref (q 7), .ref (q 8), .ref (q 9), .ref (q 10), .int (z 11), .ref (q 12), .ref (q 13), .int (z 14), .int (z 15), .int (z 16), .int (z 17)])), (q 10, .inl (kA 1, 4, .inl vs)), (ou, .inl (kA 2, 1, .inr (.inl o)))] := hD.sub [1, 2, 3, 0] (by decide) rfl
  exact W.iret (v := 1) hx hb hr (fun t ht hW => ⟨⟨1, (), rfl, rfl, by rw [ht]; exact hP, va_K.moved hW.alike hK, hD⟩, hS.F ht⟩) hS.2.2 d_La_load_16

set_option maxHeartbeats 4000000 in
set_option maxRecDepth 100000 in
/-- the law's print: refused -/
theorem n_La_print (l : Launch) (D : va_G) (kA : Nat → ClassId) (kS : Nat → Nat) (sz : Nat) (hfl : l.flags = flags0) (ou : Nat) (o : Nat → Int64) (h0 : Nat) (r q : Nat → Nat) (fp : Int32) (z vs : Nat → Int32) (x y : Int32) (h1 : x < 0 ∨ ¬ x < 4) : Met l y_La_print w_La_print { frames := 8, cells := 1, slots := 6, locals := 126 } (xPre D vC (tK kA) kS [.ref h0, .int x, .int y, .ref ou] ([oLk h0 r fp 0, oSc (r 7) q z, (q 10, .inl (kA 1, 4, .inl vs))] ++ [(ou, .inl (kA 2, 1, .inr (.inl o)))]) sz) (va_Qi (fun (x : Int32) (_ : Unit) => x = 1) (xB D vC (tK kA) (fun _ => [oLk h0 r fp 0, oSc (r 7) q z, (q 10, .inl (kA 1, 4, .inl vs))] ++ [(ou, .inl (kA 2, 1, .inr (.inl o)))]) (va_A ([oLk h0 r fp 0, oSc (r 7) q z, (q 10, .inl (kA 1, 4, .inl vs))] ++ [(ou, .inl (kA 2, 1, .inr (.inl o)))]) sz)) (va_A ([oLk h0 r fp 0, oSc (r 7) q z, (q 10, .inl (kA 1, 4, .inl vs))] ++ [(ou, .inl (kA 2, 1, .inr (.inl o)))]) sz)) 1 6 (va_A ([oLk h0 r fp 0, oSc (r 7) q z, (q 10, .inl (kA 1, 4, .inl vs))] ++ [(ou, .inl (kA 2, 1, .inr (.inl o)))]) sz) := by
  refine va_MetW (cc := b_La_print) (maxL := 5) (ret := (some .int)) (hh := [(0, 9, 12, 25)]) (by decide) rfl ?_
  intro p e s m args below meth c s₁ B hml hv
  obtain ⟨rfl, hsz, hP, hK, hD0, hN, hC⟩ := hv
  have hx := B.exec
  have hb := B.bytes
  have hr := B.returns
  have hts := atoms_spec (ws := w_La_print) B.pre
  have hg : ∀ w ∈ gW, w.before _ s = true := fun w h => hts w (List.mem_cons_of_mem _ h)
  have hown : s.vm.findClass R_La = some m.cls := findClass_of_methodNamed B.named
  have hlocks := B.notSynchronized
  have htab := xt_table B (hts _ List.mem_cons_self)
  subst hsz
  have hD := hD0.self (sz := s.heap.size)
  generalize hAe : va_A ([oLk h0 r fp 0, oSc (r 7) q z, (q 10, .inl (kA 1, 4, .inl vs))] ++ [(ou, .inl (kA 2, 1, .inr (.inl o)))]) s.heap.size = A at hD hC ⊢
  have hA : ∀ q : Nat, s.heap.size ≤ q → A q := fun q h => by rw [← hAe]; exact Or.inr h
  have hS : va_S A s.heap s.heap [] := va_S.rf
  have hP : va_P D vC [(h0, .inr (11, [.ref (r 0), .ref (r 1), .ref (r 2), .ref (r 3), .ref (r 4), .ref (r 5), .ref (r 6), .ref (r 7), .ref (r 8), .ref (r 9), .ref (r 10), .ref (r 11), .ref (r 12), .ref (r 13), .ref (r 14), .int fp, .int 0])), (r 7, .inr (2, [.ref (q 0), .ref (q 1), .ref (q 2), .ref (q 3), .ref (q 4), .ref (q 5), .ref (q 6), .ref (q 7), .ref (q 8), .ref (q 9), .ref (q 10), .int (z 11), .ref (q 12), .ref (q 13), .int (z 14), .int (z 15), .int (z 16), .int (z 17)])), (q 10, .inl (kA 1, 4, .inl vs)), (ou, .inl (kA 2, 1, .inr (.inl o)))] s.heap := hP
  have hD : va_D A [(h0, .inr (11, [.ref (r 0), .ref (r 1), .ref (r 2), .ref (r 3), .ref (r 4), .ref (r 5), .ref (r 6), .ref (r 7), .ref (r 8), .ref (r 9), .ref (r 10), .ref (r 11), .ref (r 12), .ref (r 13), .ref (r 14), .int fp, .int 0])), (r 7, .inr (2, [.ref (q 0), .ref (q 1), .ref (q 2), .ref (q 3), .ref (q 4), .ref (q 5), .ref (q 6), .ref (q 7), .ref (q 8), .ref (q 9), .ref (q 10), .int (z 11), .ref (q 12), .ref (q 13), .int (z 14), .int (z 15), .int (z 16), .int (z 17)])), (q 10, .inl (kA 1, 4, .inl vs)), (ou, .inl (kA 2, 1, .inr (.inl o)))] := hD
  have hl := lv_entry ([.ref h0, .int x, .int y, .ref ou]) (n := 5) (Nat.le_of_ble_eq_true rfl)
  rw [lg_entry_eq]
  generalize (lg_sl ([.ref h0, .int x, .int y, .ref ou]) ++ List.replicate (5 - (lg_sl ([.ref h0, .int x, .int y, .ref ou])).length) Slot.unset).toArray = ls at hl ⊢
  have hl : lv_has ls 5 [(0, .ref h0), (1, .int x), (2, .int y), (3, .ref ou)] := hl
  refine lv_aload_n hx hb d_La_print_0 rfl (lv_at hl 3 rfl) ?_
  refine lv_iconst (v := 0) hx hb d_La_print_1 (by decide) ?_
  refine lv_aload_n hx hb d_La_print_2 rfl (lv_at hl 0 rfl) ?_
  refine lv_iload_n hx hb d_La_print_3 rfl (lv_at hl 1 rfl) ?_
  refine lv_iload_n hx hb d_La_print_4 rfl (lv_at hl 2 rfl) ?_
  refine xc_t (wr := [(ou, .inl (kA 2, 1, .inr (.inl o)))]) (xt_runV (As := [.int x, .int y]) (rest := [.int 0, .ref ou]) ⟨hx, hb, hml, hown, hg⟩ (t_Lk_print l hfl D kA kS s.heap.size h0 r q fp z vs x y h1) (cwV 2 hg (xg_V mw_1508 mw_1509 mw_1510 mw_1 mw_1511) rfl rfl rfl (by decide +kernel) ⟨Nat.le_of_ble_eq_true rfl, Nat.le_of_ble_eq_true rfl⟩) (xc_preV hK hN hC hP hD hS hA [0, 1, 2] (by decide) rfl 0 rfl rfl) rfl rfl hl.1 rfl (lv_room (Nat.le_of_ble_eq_true rfl)) d_La_print_5 ⟨Nat.le_of_ble_eq_true rfl, Nat.le_of_ble_eq_true rfl⟩) hP hD hS hA [0, 1, 2] [3] rfl rfl (by decide) (by decide) (xt_lead1 hown htab (by decide) (by decide) (by decide) (hg _ mw_1072) (hN.use nw_1082)) (fun u9 x9 H locs hw hP hD hS => ?_)
  have hP : va_P D vC [(ou, .inl (kA 2, 1, .inr (.inl o))), (h0, .inr (11, [.ref (r 0), .ref (r 1), .ref (r 2), .ref (r 3), .ref (r 4), .ref (r 5), .ref (r 6), .ref (r 7), .ref (r 8), .ref (r 9), .ref (r 10), .ref (r 11), .ref (r 12), .ref (r 13), .ref (r 14), .int fp, .int 0])), (r 7, .inr (2, [.ref (q 0), .ref (q 1), .ref (q 2), .ref (q 3), .ref (q 4), .ref (q 5), .ref (q 6), .ref (q 7), .ref (q 8), .ref (q 9), .ref (q 10), .int (z 11), .ref (q 12), .ref (q 13), .int (z 14), .int (z 15), .int (z 16), .int (z 17)])), (q 10, .inl (kA 1, 4, .inl vs))] H := hP
  have hD : va_D A [(ou, .inl (kA 2, 1, .inr (.inl o))), (h0, .inr (11, [.ref (r 0), .ref (r 1), .ref (r 2), .ref (r 3), .ref (r 4), .ref (r 5), .ref (r 6), .ref (r 7), .ref (r 8), .ref (r 9), .ref (r 10), .ref (r 11), .ref (r 12), .ref (r 13), .ref (r 14), .int fp, .int 0])), (r 7, .inr (2, [.ref (q 0), .ref (q 1), .ref (q 2), .ref (q 3), .ref (q 4), .ref (q 5), .ref (q 6), .ref (q 7), .ref (q 8), .ref (q 9), .ref (q 10), .int (z 11), .ref (q 12), .ref (q 13), .int (z 14), .int (z 15), .int (z 16), .int (z 17)])), (q 10, .inl (kA 1, 4, .inl vs))] := hD
  refine W.widen (k := 1) (n := 6) (Nat.le_of_ble_eq_true rfl) (Nat.le_of_ble_eq_true rfl) ?_
  refine lv_astore (lv' := [(4, .ref x9), (0, .ref h0), (1, .int x), (2, .int y), (3, .ref ou)]) hx hb d_La_print_12 hl (by decide) rfl (fun ls hl => ?_)
  refine lv_iconst (v := 1) hx hb d_La_print_14 (by decide) ?_
  have hP : va_P D vC [(h0, .inr (11, [.ref (r 0), .ref (r 1), .ref (r 2), .ref (r 3), .ref (r 4), .ref (r 5), .ref (r 6), .ref (r 7), .ref (r 8), .ref (r 9), .ref (r 10), .ref (r 11), .ref (r 12), .ref (r 13), .ref (r 14), .int fp, .int 0])), (r 7, .inr (2, [.ref (q 0), .ref (q 1), .ref (q 2), .ref (q 3), .ref (q 4), .ref (q 5), .ref (q 6), .ref (q 7), .ref (q 8), .ref (q 9), .ref (q 10), .int (z 11), .ref (q 12), .ref (q 13), .int (z 14), .int (z 15), .int (z 16), .int (z 17)])), (q 10, .inl (kA 1, 4, .inl vs)), (ou, .inl (kA 2, 1, .inr (.inl o)))] H := hP.sub [1, 2, 3, 0] rfl
  have hD : va_D A [(h0, .inr (11, [.ref (r 0), .ref (r 1), .ref (r 2), .ref (r 3), .ref (r 4), .ref (r 5), .ref (r 6), .ref (r 7), .ref (r 8), .ref (r 9), .ref (r 10), .ref (r 11), .ref (r 12), .ref (r 13), .ref (r 14), .int fp, .int 0])), (r 7, .inr (2, [.ref (q 0), .ref (q 1), .ref (q 2), .ref (q 3), .ref (q 4), .ref (q 5), .ref (q 6), .ref (q 7), .ref (q 8), .ref (q 9), .ref (q 10), .int (z 11), .ref (q 12), .ref (q 13), .int (z 14), .int (z 15), .int (z 16), .int (z 17)])), (q 10, .inl (kA 1, 4, .inl vs)), (ou, .inl (kA 2, 1, .inr (.inl o)))] := hD.sub [1, 2, 3, 0] (by decide) rfl
  exact W.iret (v := 1) hx hb hr (fun t ht hW => ⟨⟨1, (), rfl, rfl, by rw [ht]; exact hP, va_K.moved hW.alike hK, hD⟩, hS.F ht⟩) hS.2.2 d_La_print_15

set_option maxHeartbeats 4000000 in
set_option maxRecDepth 100000 in
/-- the law's print: refused -/
theorem n_La_print2 (l : Launch) (D : va_G) (kA : Nat → ClassId) (kS : Nat → Nat) (sz : Nat) (hfl : l.flags = flags0) (ou : Nat) (o : Nat → Int64) (h0 : Nat) (r q : Nat → Nat) (fp : Int32) (z vs : Nat → Int32) (k : Nat) (hk : k < 4) (y : Int32) (h1 : y < 0 ∨ ¬ y < vs k) : Met l y_La_print w_La_print { frames := 8, cells := 1, slots := 6, locals := 126 } (xPre D vC (tK kA) kS [.ref h0, .int (nI k), .int y, .ref ou] ([oLk h0 r fp 0, oSc (r 7) q z, (q 10, .inl (kA 1, 4, .inl vs))] ++ [(ou, .inl (kA 2, 1, .inr (.inl o)))]) sz) (va_Qi (fun (x : Int32) (_ : Unit) => x = 1) (xB D vC (tK kA) (fun _ => [oLk h0 r fp 0, oSc (r 7) q z, (q 10, .inl (kA 1, 4, .inl vs))] ++ [(ou, .inl (kA 2, 1, .inr (.inl o)))]) (va_A ([oLk h0 r fp 0, oSc (r 7) q z, (q 10, .inl (kA 1, 4, .inl vs))] ++ [(ou, .inl (kA 2, 1, .inr (.inl o)))]) sz)) (va_A ([oLk h0 r fp 0, oSc (r 7) q z, (q 10, .inl (kA 1, 4, .inl vs))] ++ [(ou, .inl (kA 2, 1, .inr (.inl o)))]) sz)) 1 6 (va_A ([oLk h0 r fp 0, oSc (r 7) q z, (q 10, .inl (kA 1, 4, .inl vs))] ++ [(ou, .inl (kA 2, 1, .inr (.inl o)))]) sz) := by
  refine va_MetW (cc := b_La_print) (maxL := 5) (ret := (some .int)) (hh := [(0, 9, 12, 25)]) (by decide) rfl ?_
  intro p e s m args below meth c s₁ B hml hv
  obtain ⟨rfl, hsz, hP, hK, hD0, hN, hC⟩ := hv
  have hx := B.exec
  have hb := B.bytes
  have hr := B.returns
  have hts := atoms_spec (ws := w_La_print) B.pre
  have hg : ∀ w ∈ gW, w.before _ s = true := fun w h => hts w (List.mem_cons_of_mem _ h)
  have hown : s.vm.findClass R_La = some m.cls := findClass_of_methodNamed B.named
  have hlocks := B.notSynchronized
  have htab := xt_table B (hts _ List.mem_cons_self)
  subst hsz
  have hD := hD0.self (sz := s.heap.size)
  generalize hAe : va_A ([oLk h0 r fp 0, oSc (r 7) q z, (q 10, .inl (kA 1, 4, .inl vs))] ++ [(ou, .inl (kA 2, 1, .inr (.inl o)))]) s.heap.size = A at hD hC ⊢
  have hA : ∀ q : Nat, s.heap.size ≤ q → A q := fun q h => by rw [← hAe]; exact Or.inr h
  have hS : va_S A s.heap s.heap [] := va_S.rf
  have hP : va_P D vC [(h0, .inr (11, [.ref (r 0), .ref (r 1), .ref (r 2), .ref (r 3), .ref (r 4), .ref (r 5), .ref (r 6), .ref (r 7), .ref (r 8), .ref (r 9), .ref (r 10), .ref (r 11), .ref (r 12), .ref (r 13), .ref (r 14), .int fp, .int 0])), (r 7, .inr (2, [.ref (q 0), .ref (q 1), .ref (q 2), .ref (q 3), .ref (q 4), .ref (q 5), .ref (q 6), .ref (q 7), .ref (q 8), .ref (q 9), .ref (q 10), .int (z 11), .ref (q 12), .ref (q 13), .int (z 14), .int (z 15), .int (z 16), .int (z 17)])), (q 10, .inl (kA 1, 4, .inl vs)), (ou, .inl (kA 2, 1, .inr (.inl o)))] s.heap := hP
  have hD : va_D A [(h0, .inr (11, [.ref (r 0), .ref (r 1), .ref (r 2), .ref (r 3), .ref (r 4), .ref (r 5), .ref (r 6), .ref (r 7), .ref (r 8), .ref (r 9), .ref (r 10), .ref (r 11), .ref (r 12), .ref (r 13), .ref (r 14), .int fp, .int 0])), (r 7, .inr (2, [.ref (q 0), .ref (q 1), .ref (q 2), .ref (q 3), .ref (q 4), .ref (q 5), .ref (q 6), .ref (q 7), .ref (q 8), .ref (q 9), .ref (q 10), .int (z 11), .ref (q 12), .ref (q 13), .int (z 14), .int (z 15), .int (z 16), .int (z 17)])), (q 10, .inl (kA 1, 4, .inl vs)), (ou, .inl (kA 2, 1, .inr (.inl o)))] := hD
  have hl := lv_entry ([.ref h0, .int (nI k), .int y, .ref ou]) (n := 5) (Nat.le_of_ble_eq_true rfl)
  rw [lg_entry_eq]
  generalize (lg_sl ([.ref h0, .int (nI k), .int y, .ref ou]) ++ List.replicate (5 - (lg_sl ([.ref h0, .int (nI k), .int y, .ref ou])).length) Slot.unset).toArray = ls at hl ⊢
  have hl : lv_has ls 5 [(0, .ref h0), (1, .int (nI k)), (2, .int y), (3, .ref ou)] := hl
  refine lv_aload_n hx hb d_La_print_0 rfl (lv_at hl 3 rfl) ?_
  refine lv_iconst (v := 0) hx hb d_La_print_1 (by decide) ?_
  refine lv_aload_n hx hb d_La_print_2 rfl (lv_at hl 0 rfl) ?_
  refine lv_iload_n hx hb d_La_print_3 rfl (lv_at hl 1 rfl) ?_
  refine lv_iload_n hx hb d_La_print_4 rfl (lv_at hl 2 rfl) ?_
  refine xc_t (wr := [(ou, .inl (kA 2, 1, .inr (.inl o)))]) (xt_runV (As := [.int (nI k), .int y]) (rest := [.int 0, .ref ou]) ⟨hx, hb, hml, hown, hg⟩ (t_Lk_print2 l hfl D kA kS s.heap.size h0 r q fp z vs k hk y h1) (cwV 2 hg (xg_V mw_1508 mw_1509 mw_1510 mw_1 mw_1511) rfl rfl rfl (by decide +kernel) ⟨Nat.le_of_ble_eq_true rfl, Nat.le_of_ble_eq_true rfl⟩) (xc_preV hK hN hC hP hD hS hA [0, 1, 2] (by decide) rfl 0 rfl rfl) rfl rfl hl.1 rfl (lv_room (Nat.le_of_ble_eq_true rfl)) d_La_print_5 ⟨Nat.le_of_ble_eq_true rfl, Nat.le_of_ble_eq_true rfl⟩) hP hD hS hA [0, 1, 2] [3] rfl rfl (by decide) (by decide) (xt_lead1 hown htab (by decide) (by decide) (by decide) (hg _ mw_1072) (hN.use nw_1082)) (fun u9 x9 H locs hw hP hD hS => ?_)
  have hP : va_P D vC [(ou, .inl (kA 2, 1, .inr (.inl o))), (h0, .inr (11, [.ref (r 0), .ref (r 1), .ref (r 2), .ref (r 3), .ref (r 4), .ref (r 5), .ref (r 6), .ref (r 7), .ref (r 8), .ref (r 9), .ref (r 10), .ref (r 11), .ref (r 12), .ref (r 13), .ref (r 14), .int fp, .int 0])), (r 7, .inr (2, [.ref (q 0), .ref (q 1), .ref (q 2), .ref (q 3), .ref (q 4), .ref (q 5), .ref (q 6), .ref (q 7), .ref (q 8), .ref (q 9), .ref (q 10), .int (z 11), .ref (q 12), .ref (q 13), .int (z 14), .int (z 15), .int (z 16), .int (z 17)])), (q 10, .inl (kA 1, 4, .inl vs))] H := hP
  have hD : va_D A [(ou, .inl (kA 2, 1, .inr (.inl o))), (h0, .inr (11, [.ref (r 0), .ref (r 1), .ref (r 2), .ref (r 3), .ref (r 4), .ref (r 5), .ref (r 6), .ref (r 7), .ref (r 8), .ref (r 9), .ref (r 10), .ref (r 11), .ref (r 12), .ref (r 13), .ref (r 14), .int fp, .int 0])), (r 7, .inr (2, [.ref (q 0), .ref (q 1), .ref (q 2), .ref (q 3), .ref (q 4), .ref (q 5), .ref (q 6), .ref (q 7), .ref (q 8), .ref (q 9), .ref (q 10), .int (z 11), .ref (q 12), .ref (q 13), .int (z 14), .int (z 15), .int (z 16), .int (z 17)])), (q 10, .inl (kA 1, 4, .inl vs))] := hD
  refine W.widen (k := 1) (n := 6) (Nat.le_of_ble_eq_true rfl) (Nat.le_of_ble_eq_true rfl) ?_
  refine lv_astore (lv' := [(4, .ref x9), (0, .ref h0), (1, .int (nI k)), (2, .int y), (3, .ref ou)]) hx hb d_La_print_12 hl (by decide) rfl (fun ls hl => ?_)
  refine lv_iconst (v := 1) hx hb d_La_print_14 (by decide) ?_
  have hP : va_P D vC [(h0, .inr (11, [.ref (r 0), .ref (r 1), .ref (r 2), .ref (r 3), .ref (r 4), .ref (r 5), .ref (r 6), .ref (r 7), .ref (r 8), .ref (r 9), .ref (r 10), .ref (r 11), .ref (r 12), .ref (r 13), .ref (r 14), .int fp, .int 0])), (r 7, .inr (2, [.ref (q 0), .ref (q 1), .ref (q 2), .ref (q 3), .ref (q 4), .ref (q 5), .ref (q 6), .ref (q 7), .ref (q 8), .ref (q 9), .ref (q 10), .int (z 11), .ref (q 12), .ref (q 13), .int (z 14), .int (z 15), .int (z 16), .int (z 17)])), (q 10, .inl (kA 1, 4, .inl vs)), (ou, .inl (kA 2, 1, .inr (.inl o)))] H := hP.sub [1, 2, 3, 0] rfl
  have hD : va_D A [(h0, .inr (11, [.ref (r 0), .ref (r 1), .ref (r 2), .ref (r 3), .ref (r 4), .ref (r 5), .ref (r 6), .ref (r 7), .ref (r 8), .ref (r 9), .ref (r 10), .ref (r 11), .ref (r 12), .ref (r 13), .ref (r 14), .int fp, .int 0])), (r 7, .inr (2, [.ref (q 0), .ref (q 1), .ref (q 2), .ref (q 3), .ref (q 4), .ref (q 5), .ref (q 6), .ref (q 7), .ref (q 8), .ref (q 9), .ref (q 10), .int (z 11), .ref (q 12), .ref (q 13), .int (z 14), .int (z 15), .int (z 16), .int (z 17)])), (q 10, .inl (kA 1, 4, .inl vs)), (ou, .inl (kA 2, 1, .inr (.inl o)))] := hD.sub [1, 2, 3, 0] (by decide) rfl
  exact W.iret (v := 1) hx hb hr (fun t ht hW => ⟨⟨1, (), rfl, rfl, by rw [ht]; exact hP, va_K.moved hW.alike hK, hD⟩, hS.F ht⟩) hS.2.2 d_La_print_15

set_option maxHeartbeats 4000000 in
set_option maxRecDepth 100000 in
/-- the law's read: refused -/
theorem n_La_read (l : Launch) (D : va_G) (kA : Nat → ClassId) (kS : Nat → Nat) (sz : Nat) (hfl : l.flags = flags0) (ou : Nat) (o : Nat → Int64) (h0 : Nat) (r q : Nat → Nat) (fp : Int32) (z vs : Nat → Int32) (x y i : Int32) (h1 : x < 0 ∨ ¬ x < 4) : Met l y_La_read w_La_read { frames := 8, cells := 1, slots := 6, locals := 130 } (xPre D vC (tK kA) kS [.ref h0, .int x, .int y, .int i, .ref ou] ([oLk h0 r fp 0, oSc (r 7) q z, (q 10, .inl (kA 1, 4, .inl vs))] ++ [(ou, .inl (kA 2, 1, .inr (.inl o)))]) sz) (va_Qi (fun (x : Int32) (_ : Unit) => x = 1) (xB D vC (tK kA) (fun _ => [oLk h0 r fp 0, oSc (r 7) q z, (q 10, .inl (kA 1, 4, .inl vs))] ++ [(ou, .inl (kA 2, 1, .inr (.inl o)))]) (va_A ([oLk h0 r fp 0, oSc (r 7) q z, (q 10, .inl (kA 1, 4, .inl vs))] ++ [(ou, .inl (kA 2, 1, .inr (.inl o)))]) sz)) (va_A ([oLk h0 r fp 0, oSc (r 7) q z, (q 10, .inl (kA 1, 4, .inl vs))] ++ [(ou, .inl (kA 2, 1, .inr (.inl o)))]) sz)) 1 6 (va_A ([oLk h0 r fp 0, oSc (r 7) q z, (q 10, .inl (kA 1, 4, .inl vs))] ++ [(ou, .inl (kA 2, 1, .inr (.inl o)))]) sz) := by
  refine va_MetW (cc := b_La_read) (maxL := 6) (ret := (some .int)) (hh := [(0, 12, 15, 25)]) (by decide) rfl ?_
  intro p e s m args below meth c s₁ B hml hv
  obtain ⟨rfl, hsz, hP, hK, hD0, hN, hC⟩ := hv
  have hx := B.exec
  have hb := B.bytes
  have hr := B.returns
  have hts := atoms_spec (ws := w_La_read) B.pre
  have hg : ∀ w ∈ gW, w.before _ s = true := fun w h => hts w (List.mem_cons_of_mem _ h)
  have hown : s.vm.findClass R_La = some m.cls := findClass_of_methodNamed B.named
  have hlocks := B.notSynchronized
  have htab := xt_table B (hts _ List.mem_cons_self)
  subst hsz
  have hD := hD0.self (sz := s.heap.size)
  generalize hAe : va_A ([oLk h0 r fp 0, oSc (r 7) q z, (q 10, .inl (kA 1, 4, .inl vs))] ++ [(ou, .inl (kA 2, 1, .inr (.inl o)))]) s.heap.size = A at hD hC ⊢
  have hA : ∀ q : Nat, s.heap.size ≤ q → A q := fun q h => by rw [← hAe]; exact Or.inr h
  have hS : va_S A s.heap s.heap [] := va_S.rf
  have hP : va_P D vC [(h0, .inr (11, [.ref (r 0), .ref (r 1), .ref (r 2), .ref (r 3), .ref (r 4), .ref (r 5), .ref (r 6), .ref (r 7), .ref (r 8), .ref (r 9), .ref (r 10), .ref (r 11), .ref (r 12), .ref (r 13), .ref (r 14), .int fp, .int 0])), (r 7, .inr (2, [.ref (q 0), .ref (q 1), .ref (q 2), .ref (q 3), .ref (q 4), .ref (q 5), .ref (q 6), .ref (q 7), .ref (q 8), .ref (q 9), .ref (q 10), .int (z 11), .ref (q 12), .ref (q 13), .int (z 14), .int (z 15), .int (z 16), .int (z 17)])), (q 10, .inl (kA 1, 4, .inl vs)), (ou, .inl (kA 2, 1, .inr (.inl o)))] s.heap := hP
  have hD : va_D A [(h0, .inr (11, [.ref (r 0), .ref (r 1), .ref (r 2), .ref (r 3), .ref (r 4), .ref (r 5), .ref (r 6), .ref (r 7), .ref (r 8), .ref (r 9), .ref (r 10), .ref (r 11), .ref (r 12), .ref (r 13), .ref (r 14), .int fp, .int 0])), (r 7, .inr (2, [.ref (q 0), .ref (q 1), .ref (q 2), .ref (q 3), .ref (q 4), .ref (q 5), .ref (q 6), .ref (q 7), .ref (q 8), .ref (q 9), .ref (q 10), .int (z 11), .ref (q 12), .ref (q 13), .int (z 14), .int (z 15), .int (z 16), .int (z 17)])), (q 10, .inl (kA 1, 4, .inl vs)), (ou, .inl (kA 2, 1, .inr (.inl o)))] := hD
  have hl := lv_entry ([.ref h0, .int x, .int y, .int i, .ref ou]) (n := 6) (Nat.le_of_ble_eq_true rfl)
  rw [lg_entry_eq]
  generalize (lg_sl ([.ref h0, .int x, .int y, .int i, .ref ou]) ++ List.replicate (6 - (lg_sl ([.ref h0, .int x, .int y, .int i, .ref ou])).length) Slot.unset).toArray = ls at hl ⊢
  have hl : lv_has ls 6 [(0, .ref h0), (1, .int x), (2, .int y), (3, .int i), (4, .ref ou)] := hl
  refine lv_aload hx hb d_La_read_0 (lv_at hl 4 rfl) ?_
  refine lv_iconst (v := 0) hx hb d_La_read_2 (by decide) ?_
  refine lv_aload_n hx hb d_La_read_3 rfl (lv_at hl 0 rfl) ?_
  refine lv_iload_n hx hb d_La_read_4 rfl (lv_at hl 1 rfl) ?_
  refine lv_iload_n hx hb d_La_read_5 rfl (lv_at hl 2 rfl) ?_
  refine lv_iload_n hx hb d_La_read_6 rfl (lv_at hl 3 rfl) ?_
  refine xc_t (wr := [(ou, .inl (kA 2, 1, .inr (.inl o)))]) (xt_runV (As := [.int x, .int y, .int i]) (rest := [.int 0, .ref ou]) ⟨hx, hb, hml, hown, hg⟩ (t_Lk_read l hfl D kA kS s.heap.size h0 r q fp z vs x y i h1) (cwV 3 hg (xg_V mw_1324 mw_1325 mw_1326 mw_1 mw_1327) rfl rfl rfl (by decide +kernel) ⟨Nat.le_of_ble_eq_true rfl, Nat.le_of_ble_eq_true rfl⟩) (xc_preV hK hN hC hP hD hS hA [0, 1, 2] (by decide) rfl 0 rfl rfl) rfl rfl hl.1 rfl (lv_room (Nat.le_of_ble_eq_true rfl)) d_La_read_7 ⟨Nat.le_of_ble_eq_true rfl, Nat.le_of_ble_eq_true rfl⟩) hP hD hS hA [0, 1, 2] [3] rfl rfl (by decide) (by decide) (xt_lead1 hown htab (by decide) (by decide) (by decide) (hg _ mw_1072) (hN.use nw_1082)) (fun u9 x9 H locs hw hP hD hS => ?_)
  have hP : va_P D vC [(ou, .inl (kA 2, 1, .inr (.inl o))), (h0, .inr (11, [.ref (r 0), .ref (r 1), .ref (r 2), .ref (r 3), .ref (r 4), .ref (r 5), .ref (r 6), .ref (r 7), .ref (r 8), .ref (r 9), .ref (r 10), .ref (r 11), .ref (r 12), .ref (r 13), .ref (r 14), .int fp, .int 0])), (r 7, .inr (2, [.ref (q 0), .ref (q 1), .ref (q 2), .ref (q 3), .ref (q 4), .ref (q 5), .ref (q 6), .ref (q 7), .ref (q 8), .ref (q 9), .ref (q 10), .int (z 11), .ref (q 12), .ref (q 13), .int (z 14), .int (z 15), .int (z 16), .int (z 17)])), (q 10, .inl (kA 1, 4, .inl vs))] H := hP
  have hD : va_D A [(ou, .inl (kA 2, 1, .inr (.inl o))), (h0, .inr (11, [.ref (r 0), .ref (r 1), .ref (r 2), .ref (r 3), .ref (r 4), .ref (r 5), .ref (r 6), .ref (r 7), .ref (r 8), .ref (r 9), .ref (r 10), .ref (r 11), .ref (r 12), .ref (r 13), .ref (r 14), .int fp, .int 0])), (r 7, .inr (2, [.ref (q 0), .ref (q 1), .ref (q 2), .ref (q 3), .ref (q 4), .ref (q 5), .ref (q 6), .ref (q 7), .ref (q 8), .ref (q 9), .ref (q 10), .int (z 11), .ref (q 12), .ref (q 13), .int (z 14), .int (z 15), .int (z 16), .int (z 17)])), (q 10, .inl (kA 1, 4, .inl vs))] := hD
  refine W.widen (k := 1) (n := 6) (Nat.le_of_ble_eq_true rfl) (Nat.le_of_ble_eq_true rfl) ?_
  refine lv_astore (lv' := [(5, .ref x9), (0, .ref h0), (1, .int x), (2, .int y), (3, .int i), (4, .ref ou)]) hx hb d_La_read_15 hl (by decide) rfl (fun ls hl => ?_)
  refine lv_iconst (v := 1) hx hb d_La_read_17 (by decide) ?_
  have hP : va_P D vC [(h0, .inr (11, [.ref (r 0), .ref (r 1), .ref (r 2), .ref (r 3), .ref (r 4), .ref (r 5), .ref (r 6), .ref (r 7), .ref (r 8), .ref (r 9), .ref (r 10), .ref (r 11), .ref (r 12), .ref (r 13), .ref (r 14), .int fp, .int 0])), (r 7, .inr (2, [.ref (q 0), .ref (q 1), .ref (q 2), .ref (q 3), .ref (q 4), .ref (q 5), .ref (q 6), .ref (q 7), .ref (q 8), .ref (q 9), .ref (q 10), .int (z 11), .ref (q 12), .ref (q 13), .int (z 14), .int (z 15), .int (z 16), .int (z 17)])), (q 10, .inl (kA 1, 4, .inl vs)), (ou, .inl (kA 2, 1, .inr (.inl o)))] H := hP.sub [1, 2, 3, 0] rfl
  have hD : va_D A [(h0, .inr (11, [.ref (r 0), .ref (r 1), .ref (r 2), .ref (r 3), .ref (r 4), .ref (r 5), .ref (r 6), .ref (r 7), .ref (r 8), .ref (r 9), .ref (r 10), .ref (r 11), .ref (r 12), .ref (r 13), .ref (r 14), .int fp, .int 0])), (r 7, .inr (2, [.ref (q 0), .ref (q 1), .ref (q 2), .ref (q 3), .ref (q 4), .ref (q 5), .ref (q 6), .ref (q 7), .ref (q 8), .ref (q 9), .ref (q 10), .int (z 11), .ref (q 12), .ref (q 13), .int (z 14), .int (z 15), .int (z 16), .int (z 17)])), (q 10, .inl (kA 1, 4, .inl vs)), (ou, .inl (kA 2, 1, .inr (.inl o)))] := hD.sub [1, 2, 3, 0] (by decide) rfl
  exact W.iret (v := 1) hx hb hr (fun t ht hW => ⟨⟨1, (), rfl, rfl, by rw [ht]; exact hP, va_K.moved hW.alike hK, hD⟩, hS.F ht⟩) hS.2.2 d_La_read_18

set_option maxHeartbeats 4000000 in
set_option maxRecDepth 100000 in
/-- the law's read: refused -/
theorem n_La_read2 (l : Launch) (D : va_G) (kA : Nat → ClassId) (kS : Nat → Nat) (sz : Nat) (hfl : l.flags = flags0) (ou : Nat) (o : Nat → Int64) (h0 : Nat) (r q : Nat → Nat) (fp : Int32) (z vs : Nat → Int32) (k : Nat) (hk : k < 4) (y i : Int32) (h1 : y < 0 ∨ ¬ y < vs k) : Met l y_La_read w_La_read { frames := 8, cells := 1, slots := 6, locals := 130 } (xPre D vC (tK kA) kS [.ref h0, .int (nI k), .int y, .int i, .ref ou] ([oLk h0 r fp 0, oSc (r 7) q z, (q 10, .inl (kA 1, 4, .inl vs))] ++ [(ou, .inl (kA 2, 1, .inr (.inl o)))]) sz) (va_Qi (fun (x : Int32) (_ : Unit) => x = 1) (xB D vC (tK kA) (fun _ => [oLk h0 r fp 0, oSc (r 7) q z, (q 10, .inl (kA 1, 4, .inl vs))] ++ [(ou, .inl (kA 2, 1, .inr (.inl o)))]) (va_A ([oLk h0 r fp 0, oSc (r 7) q z, (q 10, .inl (kA 1, 4, .inl vs))] ++ [(ou, .inl (kA 2, 1, .inr (.inl o)))]) sz)) (va_A ([oLk h0 r fp 0, oSc (r 7) q z, (q 10, .inl (kA 1, 4, .inl vs))] ++ [(ou, .inl (kA 2, 1, .inr (.inl o)))]) sz)) 1 6 (va_A ([oLk h0 r fp 0, oSc (r 7) q z, (q 10, .inl (kA 1, 4, .inl vs))] ++ [(ou, .inl (kA 2, 1, .inr (.inl o)))]) sz) := by
  refine va_MetW (cc := b_La_read) (maxL := 6) (ret := (some .int)) (hh := [(0, 12, 15, 25)]) (by decide) rfl ?_
  intro p e s m args below meth c s₁ B hml hv
  obtain ⟨rfl, hsz, hP, hK, hD0, hN, hC⟩ := hv
  have hx := B.exec
  have hb := B.bytes
  have hr := B.returns
  have hts := atoms_spec (ws := w_La_read) B.pre
  have hg : ∀ w ∈ gW, w.before _ s = true := fun w h => hts w (List.mem_cons_of_mem _ h)
  have hown : s.vm.findClass R_La = some m.cls := findClass_of_methodNamed B.named
  have hlocks := B.notSynchronized
  have htab := xt_table B (hts _ List.mem_cons_self)
  subst hsz
  have hD := hD0.self (sz := s.heap.size)
  generalize hAe : va_A ([oLk h0 r fp 0, oSc (r 7) q z, (q 10, .inl (kA 1, 4, .inl vs))] ++ [(ou, .inl (kA 2, 1, .inr (.inl o)))]) s.heap.size = A at hD hC ⊢
  have hA : ∀ q : Nat, s.heap.size ≤ q → A q := fun q h => by rw [← hAe]; exact Or.inr h
  have hS : va_S A s.heap s.heap [] := va_S.rf
  have hP : va_P D vC [(h0, .inr (11, [.ref (r 0), .ref (r 1), .ref (r 2), .ref (r 3), .ref (r 4), .ref (r 5), .ref (r 6), .ref (r 7), .ref (r 8), .ref (r 9), .ref (r 10), .ref (r 11), .ref (r 12), .ref (r 13), .ref (r 14), .int fp, .int 0])), (r 7, .inr (2, [.ref (q 0), .ref (q 1), .ref (q 2), .ref (q 3), .ref (q 4), .ref (q 5), .ref (q 6), .ref (q 7), .ref (q 8), .ref (q 9), .ref (q 10), .int (z 11), .ref (q 12), .ref (q 13), .int (z 14), .int (z 15), .int (z 16), .int (z 17)])), (q 10, .inl (kA 1, 4, .inl vs)), (ou, .inl (kA 2, 1, .inr (.inl o)))] s.heap := hP
  have hD : va_D A [(h0, .inr (11, [.ref (r 0), .ref (r 1), .ref (r 2), .ref (r 3), .ref (r 4), .ref (r 5), .ref (r 6), .ref (r 7), .ref (r 8), .ref (r 9), .ref (r 10), .ref (r 11), .ref (r 12), .ref (r 13), .ref (r 14), .int fp, .int 0])), (r 7, .inr (2, [.ref (q 0), .ref (q 1), .ref (q 2), .ref (q 3), .ref (q 4), .ref (q 5), .ref (q 6), .ref (q 7), .ref (q 8), .ref (q 9), .ref (q 10), .int (z 11), .ref (q 12), .ref (q 13), .int (z 14), .int (z 15), .int (z 16), .int (z 17)])), (q 10, .inl (kA 1, 4, .inl vs)), (ou, .inl (kA 2, 1, .inr (.inl o)))] := hD
  have hl := lv_entry ([.ref h0, .int (nI k), .int y, .int i, .ref ou]) (n := 6) (Nat.le_of_ble_eq_true rfl)
  rw [lg_entry_eq]
  generalize (lg_sl ([.ref h0, .int (nI k), .int y, .int i, .ref ou]) ++ List.replicate (6 - (lg_sl ([.ref h0, .int (nI k), .int y, .int i, .ref ou])).length) Slot.unset).toArray = ls at hl ⊢
  have hl : lv_has ls 6 [(0, .ref h0), (1, .int (nI k)), (2, .int y), (3, .int i), (4, .ref ou)] := hl
  refine lv_aload hx hb d_La_read_0 (lv_at hl 4 rfl) ?_
  refine lv_iconst (v := 0) hx hb d_La_read_2 (by decide) ?_
  refine lv_aload_n hx hb d_La_read_3 rfl (lv_at hl 0 rfl) ?_
  refine lv_iload_n hx hb d_La_read_4 rfl (lv_at hl 1 rfl) ?_
  refine lv_iload_n hx hb d_La_read_5 rfl (lv_at hl 2 rfl) ?_
  refine lv_iload_n hx hb d_La_read_6 rfl (lv_at hl 3 rfl) ?_
  refine xc_t (wr := [(ou, .inl (kA 2, 1, .inr (.inl o)))]) (xt_runV (As := [.int (nI k), .int y, .int i]) (rest := [.int 0, .ref ou]) ⟨hx, hb, hml, hown, hg⟩ (t_Lk_read2 l hfl D kA kS s.heap.size h0 r q fp z vs k hk y i h1) (cwV 3 hg (xg_V mw_1324 mw_1325 mw_1326 mw_1 mw_1327) rfl rfl rfl (by decide +kernel) ⟨Nat.le_of_ble_eq_true rfl, Nat.le_of_ble_eq_true rfl⟩) (xc_preV hK hN hC hP hD hS hA [0, 1, 2] (by decide) rfl 0 rfl rfl) rfl rfl hl.1 rfl (lv_room (Nat.le_of_ble_eq_true rfl)) d_La_read_7 ⟨Nat.le_of_ble_eq_true rfl, Nat.le_of_ble_eq_true rfl⟩) hP hD hS hA [0, 1, 2] [3] rfl rfl (by decide) (by decide) (xt_lead1 hown htab (by decide) (by decide) (by decide) (hg _ mw_1072) (hN.use nw_1082)) (fun u9 x9 H locs hw hP hD hS => ?_)
  have hP : va_P D vC [(ou, .inl (kA 2, 1, .inr (.inl o))), (h0, .inr (11, [.ref (r 0), .ref (r 1), .ref (r 2), .ref (r 3), .ref (r 4), .ref (r 5), .ref (r 6), .ref (r 7), .ref (r 8), .ref (r 9), .ref (r 10), .ref (r 11), .ref (r 12), .ref (r 13), .ref (r 14), .int fp, .int 0])), (r 7, .inr (2, [.ref (q 0), .ref (q 1), .ref (q 2), .ref (q 3), .ref (q 4), .ref (q 5), .ref (q 6), .ref (q 7), .ref (q 8), .ref (q 9), .ref (q 10), .int (z 11), .ref (q 12), .ref (q 13), .int (z 14), .int (z 15), .int (z 16), .int (z 17)])), (q 10, .inl (kA 1, 4, .inl vs))] H := hP
  have hD : va_D A [(ou, .inl (kA 2, 1, .inr (.inl o))), (h0, .inr (11, [.ref (r 0), .ref (r 1), .ref (r 2), .ref (r 3), .ref (r 4), .ref (r 5), .ref (r 6), .ref (r 7), .ref (r 8), .ref (r 9), .ref (r 10), .ref (r 11), .ref (r 12), .ref (r 13), .ref (r 14), .int fp, .int 0])), (r 7, .inr (2, [.ref (q 0), .ref (q 1), .ref (q 2), .ref (q 3), .ref (q 4), .ref (q 5), .ref (q 6), .ref (q 7), .ref (q 8), .ref (q 9), .ref (q 10), .int (z 11), .ref (q 12), .ref (q 13), .int (z 14), .int (z 15), .int (z 16), .int (z 17)])), (q 10, .inl (kA 1, 4, .inl vs))] := hD
  refine W.widen (k := 1) (n := 6) (Nat.le_of_ble_eq_true rfl) (Nat.le_of_ble_eq_true rfl) ?_
  refine lv_astore (lv' := [(5, .ref x9), (0, .ref h0), (1, .int (nI k)), (2, .int y), (3, .int i), (4, .ref ou)]) hx hb d_La_read_15 hl (by decide) rfl (fun ls hl => ?_)
  refine lv_iconst (v := 1) hx hb d_La_read_17 (by decide) ?_
  have hP : va_P D vC [(h0, .inr (11, [.ref (r 0), .ref (r 1), .ref (r 2), .ref (r 3), .ref (r 4), .ref (r 5), .ref (r 6), .ref (r 7), .ref (r 8), .ref (r 9), .ref (r 10), .ref (r 11), .ref (r 12), .ref (r 13), .ref (r 14), .int fp, .int 0])), (r 7, .inr (2, [.ref (q 0), .ref (q 1), .ref (q 2), .ref (q 3), .ref (q 4), .ref (q 5), .ref (q 6), .ref (q 7), .ref (q 8), .ref (q 9), .ref (q 10), .int (z 11), .ref (q 12), .ref (q 13), .int (z 14), .int (z 15), .int (z 16), .int (z 17)])), (q 10, .inl (kA 1, 4, .inl vs)), (ou, .inl (kA 2, 1, .inr (.inl o)))] H := hP.sub [1, 2, 3, 0] rfl
  have hD : va_D A [(h0, .inr (11, [.ref (r 0), .ref (r 1), .ref (r 2), .ref (r 3), .ref (r 4), .ref (r 5), .ref (r 6), .ref (r 7), .ref (r 8), .ref (r 9), .ref (r 10), .ref (r 11), .ref (r 12), .ref (r 13), .ref (r 14), .int fp, .int 0])), (r 7, .inr (2, [.ref (q 0), .ref (q 1), .ref (q 2), .ref (q 3), .ref (q 4), .ref (q 5), .ref (q 6), .ref (q 7), .ref (q 8), .ref (q 9), .ref (q 10), .int (z 11), .ref (q 12), .ref (q 13), .int (z 14), .int (z 15), .int (z 16), .int (z 17)])), (q 10, .inl (kA 1, 4, .inl vs)), (ou, .inl (kA 2, 1, .inr (.inl o)))] := hD.sub [1, 2, 3, 0] (by decide) rfl
  exact W.iret (v := 1) hx hb hr (fun t ht hW => ⟨⟨1, (), rfl, rfl, by rw [ht]; exact hP, va_K.moved hW.alike hK, hD⟩, hS.F ht⟩) hS.2.2 d_La_read_18

set_option maxHeartbeats 4000000 in
set_option maxRecDepth 100000 in
/-- the law's register: refused -/
theorem n_La_register (l : Launch) (D : va_G) (kA : Nat → ClassId) (kS : Nat → Nat) (sz : Nat) (hfl : l.flags = flags0) (ou : Nat) (o : Nat → Int64) (h0 : Nat) (r : Nat → Nat) (fp dn x : Int32) (h1 : x < 0 ∨ ¬ x < 4) : Met l y_La_register w_La_register { frames := 8, cells := 1, slots := 6, locals := 125 } (xPre D vC (tK kA) kS [.ref h0, .int x, .ref ou] ([oLk h0 r fp dn] ++ [(ou, .inl (kA 2, 1, .inr (.inl o)))]) sz) (va_Qi (fun (x : Int32) (_ : Unit) => x = 1) (xB D vC (tK kA) (fun _ => [oLk h0 r fp dn] ++ [(ou, .inl (kA 2, 1, .inr (.inl o)))]) (va_A ([oLk h0 r fp dn] ++ [(ou, .inl (kA 2, 1, .inr (.inl o)))]) sz)) (va_A ([oLk h0 r fp dn] ++ [(ou, .inl (kA 2, 1, .inr (.inl o)))]) sz)) 1 6 (va_A ([oLk h0 r fp dn] ++ [(ou, .inl (kA 2, 1, .inr (.inl o)))]) sz) := by
  refine va_MetW (cc := b_La_register) (maxL := 4) (ret := (some .int)) (hh := [(0, 9, 12, 25)]) (by decide) rfl ?_
  intro p e s m args below meth c s₁ B hml hv
  obtain ⟨rfl, hsz, hP, hK, hD0, hN, hC⟩ := hv
  have hx := B.exec
  have hb := B.bytes
  have hr := B.returns
  have hts := atoms_spec (ws := w_La_register) B.pre
  have hg : ∀ w ∈ gW, w.before _ s = true := fun w h => hts w (List.mem_cons_of_mem _ h)
  have hown : s.vm.findClass R_La = some m.cls := findClass_of_methodNamed B.named
  have hlocks := B.notSynchronized
  have htab := xt_table B (hts _ List.mem_cons_self)
  subst hsz
  have hD := hD0.self (sz := s.heap.size)
  generalize hAe : va_A ([oLk h0 r fp dn] ++ [(ou, .inl (kA 2, 1, .inr (.inl o)))]) s.heap.size = A at hD hC ⊢
  have hA : ∀ q : Nat, s.heap.size ≤ q → A q := fun q h => by rw [← hAe]; exact Or.inr h
  have hS : va_S A s.heap s.heap [] := va_S.rf
  have hP : va_P D vC [(h0, .inr (11, [.ref (r 0), .ref (r 1), .ref (r 2), .ref (r 3), .ref (r 4), .ref (r 5), .ref (r 6), .ref (r 7), .ref (r 8), .ref (r 9), .ref (r 10), .ref (r 11), .ref (r 12), .ref (r 13), .ref (r 14), .int fp, .int dn])), (ou, .inl (kA 2, 1, .inr (.inl o)))] s.heap := hP
  have hD : va_D A [(h0, .inr (11, [.ref (r 0), .ref (r 1), .ref (r 2), .ref (r 3), .ref (r 4), .ref (r 5), .ref (r 6), .ref (r 7), .ref (r 8), .ref (r 9), .ref (r 10), .ref (r 11), .ref (r 12), .ref (r 13), .ref (r 14), .int fp, .int dn])), (ou, .inl (kA 2, 1, .inr (.inl o)))] := hD
  have hl := lv_entry ([.ref h0, .int x, .ref ou]) (n := 4) (Nat.le_of_ble_eq_true rfl)
  rw [lg_entry_eq]
  generalize (lg_sl ([.ref h0, .int x, .ref ou]) ++ List.replicate (4 - (lg_sl ([.ref h0, .int x, .ref ou])).length) Slot.unset).toArray = ls at hl ⊢
  have hl : lv_has ls 4 [(0, .ref h0), (1, .int x), (2, .ref ou)] := hl
  refine lv_aload_n hx hb d_La_register_0 rfl (lv_at hl 2 rfl) ?_
  refine lv_iconst (v := 0) hx hb d_La_register_1 (by decide) ?_
  refine lv_aload_n hx hb d_La_register_2 rfl (lv_at hl 0 rfl) ?_
  refine lv_iload_n hx hb d_La_register_3 rfl (lv_at hl 1 rfl) ?_
  refine xc_t (wr := [(ou, .inl (kA 2, 1, .inr (.inl o)))]) (xt_runV (As := [.int x]) (rest := [.int 0, .ref ou]) ⟨hx, hb, hml, hown, hg⟩ (t_Lk_register l hfl D kA kS s.heap.size h0 r fp dn x h1) (cwV 1 hg (xg_V mw_1073 mw_1074 mw_1075 mw_1 mw_1076) rfl rfl rfl (by decide +kernel) ⟨Nat.le_of_ble_eq_true rfl, Nat.le_of_ble_eq_true rfl⟩) (xc_preV hK hN hC hP hD hS hA [0] (by decide) rfl 0 rfl rfl) rfl rfl hl.1 rfl (lv_room (Nat.le_of_ble_eq_true rfl)) d_La_register_4 ⟨Nat.le_of_ble_eq_true rfl, Nat.le_of_ble_eq_true rfl⟩) hP hD hS hA [0] [1] rfl rfl (by decide) (by decide) (xt_lead1 hown htab (by decide) (by decide) (by decide) (hg _ mw_1072) (hN.use nw_1082)) (fun u9 x9 H locs hw hP hD hS => ?_)
  have hP : va_P D vC [(ou, .inl (kA 2, 1, .inr (.inl o))), (h0, .inr (11, [.ref (r 0), .ref (r 1), .ref (r 2), .ref (r 3), .ref (r 4), .ref (r 5), .ref (r 6), .ref (r 7), .ref (r 8), .ref (r 9), .ref (r 10), .ref (r 11), .ref (r 12), .ref (r 13), .ref (r 14), .int fp, .int dn]))] H := hP
  have hD : va_D A [(ou, .inl (kA 2, 1, .inr (.inl o))), (h0, .inr (11, [.ref (r 0), .ref (r 1), .ref (r 2), .ref (r 3), .ref (r 4), .ref (r 5), .ref (r 6), .ref (r 7), .ref (r 8), .ref (r 9), .ref (r 10), .ref (r 11), .ref (r 12), .ref (r 13), .ref (r 14), .int fp, .int dn]))] := hD
  refine W.widen (k := 1) (n := 6) (Nat.le_of_ble_eq_true rfl) (Nat.le_of_ble_eq_true rfl) ?_
  refine lv_astore_n (lv' := [(3, .ref x9), (0, .ref h0), (1, .int x), (2, .ref ou)]) hx hb d_La_register_12 rfl hl (by decide) rfl (fun ls hl => ?_)
  refine lv_iconst (v := 1) hx hb d_La_register_13 (by decide) ?_
  have hP : va_P D vC [(h0, .inr (11, [.ref (r 0), .ref (r 1), .ref (r 2), .ref (r 3), .ref (r 4), .ref (r 5), .ref (r 6), .ref (r 7), .ref (r 8), .ref (r 9), .ref (r 10), .ref (r 11), .ref (r 12), .ref (r 13), .ref (r 14), .int fp, .int dn])), (ou, .inl (kA 2, 1, .inr (.inl o)))] H := hP.sub [1, 0] rfl
  have hD : va_D A [(h0, .inr (11, [.ref (r 0), .ref (r 1), .ref (r 2), .ref (r 3), .ref (r 4), .ref (r 5), .ref (r 6), .ref (r 7), .ref (r 8), .ref (r 9), .ref (r 10), .ref (r 11), .ref (r 12), .ref (r 13), .ref (r 14), .int fp, .int dn])), (ou, .inl (kA 2, 1, .inr (.inl o)))] := hD.sub [1, 0] (by decide) rfl
  exact W.iret (v := 1) hx hb hr (fun t ht hW => ⟨⟨1, (), rfl, rfl, by rw [ht]; exact hP, va_K.moved hW.alike hK, hD⟩, hS.F ht⟩) hS.2.2 d_La_register_14

set_option maxHeartbeats 4000000 in
set_option maxRecDepth 100000 in
/-- the law's copy: refused -/
theorem n_La_copy (l : Launch) (D : va_G) (kA : Nat → ClassId) (kS : Nat → Nat) (sz : Nat) (hfl : l.flags = flags0) (ou : Nat) (o : Nat → Int64) (h0 : Nat) (r q : Nat → Nat) (fp : Int32) (z vs : Nat → Int32) (x y v : Int32) (h1 : x < 0 ∨ ¬ x < 4) : Met l y_La_copy w_La_copy { frames := 8, cells := 1, slots := 6, locals := 129 } (xPre D vC (tK kA) kS [.ref h0, .int x, .int y, .int v, .ref ou] ([oLk h0 r fp 0, oSc (r 7) q z, (q 10, .inl (kA 1, 4, .inl vs))] ++ [(ou, .inl (kA 2, 1, .inr (.inl o)))]) sz) (va_Qi (fun (x : Int32) (_ : Unit) => x = 1) (xB D vC (tK kA) (fun _ => [oLk h0 r fp 0, oSc (r 7) q z, (q 10, .inl (kA 1, 4, .inl vs))] ++ [(ou, .inl (kA 2, 1, .inr (.inl o)))]) (va_A ([oLk h0 r fp 0, oSc (r 7) q z, (q 10, .inl (kA 1, 4, .inl vs))] ++ [(ou, .inl (kA 2, 1, .inr (.inl o)))]) sz)) (va_A ([oLk h0 r fp 0, oSc (r 7) q z, (q 10, .inl (kA 1, 4, .inl vs))] ++ [(ou, .inl (kA 2, 1, .inr (.inl o)))]) sz)) 1 6 (va_A ([oLk h0 r fp 0, oSc (r 7) q z, (q 10, .inl (kA 1, 4, .inl vs))] ++ [(ou, .inl (kA 2, 1, .inr (.inl o)))]) sz) := by
  refine va_MetW (cc := b_La_copy) (maxL := 6) (ret := (some .int)) (hh := [(0, 12, 15, 25)]) (by decide) rfl ?_
  intro p e s m args below meth c s₁ B hml hv
  obtain ⟨rfl, hsz, hP, hK, hD0, hN, hC⟩ := hv
  have hx := B.exec
  have hb := B.bytes
  have hr := B.returns
  have hts := atoms_spec (ws := w_La_copy) B.pre
  have hg : ∀ w ∈ gW, w.before _ s = true := fun w h => hts w (List.mem_cons_of_mem _ h)
  have hown : s.vm.findClass R_La = some m.cls := findClass_of_methodNamed B.named
  have hlocks := B.notSynchronized
  have htab := xt_table B (hts _ List.mem_cons_self)
  subst hsz
  have hD := hD0.self (sz := s.heap.size)
  generalize hAe : va_A ([oLk h0 r fp 0, oSc (r 7) q z, (q 10, .inl (kA 1, 4, .inl vs))] ++ [(ou, .inl (kA 2, 1, .inr (.inl o)))]) s.heap.size = A at hD hC ⊢
  have hA : ∀ q : Nat, s.heap.size ≤ q → A q := fun q h => by rw [← hAe]; exact Or.inr h
  have hS : va_S A s.heap s.heap [] := va_S.rf
  have hP : va_P D vC [(h0, .inr (11, [.ref (r 0), .ref (r 1), .ref (r 2), .ref (r 3), .ref (r 4), .ref (r 5), .ref (r 6), .ref (r 7), .ref (r 8), .ref (r 9), .ref (r 10), .ref (r 11), .ref (r 12), .ref (r 13), .ref (r 14), .int fp, .int 0])), (r 7, .inr (2, [.ref (q 0), .ref (q 1), .ref (q 2), .ref (q 3), .ref (q 4), .ref (q 5), .ref (q 6), .ref (q 7), .ref (q 8), .ref (q 9), .ref (q 10), .int (z 11), .ref (q 12), .ref (q 13), .int (z 14), .int (z 15), .int (z 16), .int (z 17)])), (q 10, .inl (kA 1, 4, .inl vs)), (ou, .inl (kA 2, 1, .inr (.inl o)))] s.heap := hP
  have hD : va_D A [(h0, .inr (11, [.ref (r 0), .ref (r 1), .ref (r 2), .ref (r 3), .ref (r 4), .ref (r 5), .ref (r 6), .ref (r 7), .ref (r 8), .ref (r 9), .ref (r 10), .ref (r 11), .ref (r 12), .ref (r 13), .ref (r 14), .int fp, .int 0])), (r 7, .inr (2, [.ref (q 0), .ref (q 1), .ref (q 2), .ref (q 3), .ref (q 4), .ref (q 5), .ref (q 6), .ref (q 7), .ref (q 8), .ref (q 9), .ref (q 10), .int (z 11), .ref (q 12), .ref (q 13), .int (z 14), .int (z 15), .int (z 16), .int (z 17)])), (q 10, .inl (kA 1, 4, .inl vs)), (ou, .inl (kA 2, 1, .inr (.inl o)))] := hD
  have hl := lv_entry ([.ref h0, .int x, .int y, .int v, .ref ou]) (n := 6) (Nat.le_of_ble_eq_true rfl)
  rw [lg_entry_eq]
  generalize (lg_sl ([.ref h0, .int x, .int y, .int v, .ref ou]) ++ List.replicate (6 - (lg_sl ([.ref h0, .int x, .int y, .int v, .ref ou])).length) Slot.unset).toArray = ls at hl ⊢
  have hl : lv_has ls 6 [(0, .ref h0), (1, .int x), (2, .int y), (3, .int v), (4, .ref ou)] := hl
  refine lv_aload hx hb d_La_copy_0 (lv_at hl 4 rfl) ?_
  refine lv_iconst (v := 0) hx hb d_La_copy_2 (by decide) ?_
  refine lv_aload_n hx hb d_La_copy_3 rfl (lv_at hl 0 rfl) ?_
  refine lv_iload_n hx hb d_La_copy_4 rfl (lv_at hl 1 rfl) ?_
  refine lv_iload_n hx hb d_La_copy_5 rfl (lv_at hl 2 rfl) ?_
  refine lv_iload_n hx hb d_La_copy_6 rfl (lv_at hl 3 rfl) ?_
  refine xc_t (wr := [(ou, .inl (kA 2, 1, .inr (.inl o)))]) (xt_runV (As := [.int x, .int y, .int v]) (rest := [.int 0, .ref ou]) ⟨hx, hb, hml, hown, hg⟩ (t_Lk_copy l hfl D kA kS s.heap.size h0 r q fp z vs x y v h1) (cwV 3 hg (xg_V mw_1411 mw_1412 mw_1413 mw_1 mw_1414) rfl rfl rfl (by decide +kernel) ⟨Nat.le_of_ble_eq_true rfl, Nat.le_of_ble_eq_true rfl⟩) (xc_preV hK hN hC hP hD hS hA [0, 1, 2] (by decide) rfl 0 rfl rfl) rfl rfl hl.1 rfl (lv_room (Nat.le_of_ble_eq_true rfl)) d_La_copy_7 ⟨Nat.le_of_ble_eq_true rfl, Nat.le_of_ble_eq_true rfl⟩) hP hD hS hA [0, 1, 2] [3] rfl rfl (by decide) (by decide) (xt_lead1 hown htab (by decide) (by decide) (by decide) (hg _ mw_1072) (hN.use nw_1082)) (fun u9 x9 H locs hw hP hD hS => ?_)
  have hP : va_P D vC [(ou, .inl (kA 2, 1, .inr (.inl o))), (h0, .inr (11, [.ref (r 0), .ref (r 1), .ref (r 2), .ref (r 3), .ref (r 4), .ref (r 5), .ref (r 6), .ref (r 7), .ref (r 8), .ref (r 9), .ref (r 10), .ref (r 11), .ref (r 12), .ref (r 13), .ref (r 14), .int fp, .int 0])), (r 7, .inr (2, [.ref (q 0), .ref (q 1), .ref (q 2), .ref (q 3), .ref (q 4), .ref (q 5), .ref (q 6), .ref (q 7), .ref (q 8), .ref (q 9), .ref (q 10), .int (z 11), .ref (q 12), .ref (q 13), .int (z 14), .int (z 15), .int (z 16), .int (z 17)])), (q 10, .inl (kA 1, 4, .inl vs))] H := hP
  have hD : va_D A [(ou, .inl (kA 2, 1, .inr (.inl o))), (h0, .inr (11, [.ref (r 0), .ref (r 1), .ref (r 2), .ref (r 3), .ref (r 4), .ref (r 5), .ref (r 6), .ref (r 7), .ref (r 8), .ref (r 9), .ref (r 10), .ref (r 11), .ref (r 12), .ref (r 13), .ref (r 14), .int fp, .int 0])), (r 7, .inr (2, [.ref (q 0), .ref (q 1), .ref (q 2), .ref (q 3), .ref (q 4), .ref (q 5), .ref (q 6), .ref (q 7), .ref (q 8), .ref (q 9), .ref (q 10), .int (z 11), .ref (q 12), .ref (q 13), .int (z 14), .int (z 15), .int (z 16), .int (z 17)])), (q 10, .inl (kA 1, 4, .inl vs))] := hD
  refine W.widen (k := 1) (n := 6) (Nat.le_of_ble_eq_true rfl) (Nat.le_of_ble_eq_true rfl) ?_
  refine lv_astore (lv' := [(5, .ref x9), (0, .ref h0), (1, .int x), (2, .int y), (3, .int v), (4, .ref ou)]) hx hb d_La_copy_15 hl (by decide) rfl (fun ls hl => ?_)
  refine lv_iconst (v := 1) hx hb d_La_copy_17 (by decide) ?_
  have hP : va_P D vC [(h0, .inr (11, [.ref (r 0), .ref (r 1), .ref (r 2), .ref (r 3), .ref (r 4), .ref (r 5), .ref (r 6), .ref (r 7), .ref (r 8), .ref (r 9), .ref (r 10), .ref (r 11), .ref (r 12), .ref (r 13), .ref (r 14), .int fp, .int 0])), (r 7, .inr (2, [.ref (q 0), .ref (q 1), .ref (q 2), .ref (q 3), .ref (q 4), .ref (q 5), .ref (q 6), .ref (q 7), .ref (q 8), .ref (q 9), .ref (q 10), .int (z 11), .ref (q 12), .ref (q 13), .int (z 14), .int (z 15), .int (z 16), .int (z 17)])), (q 10, .inl (kA 1, 4, .inl vs)), (ou, .inl (kA 2, 1, .inr (.inl o)))] H := hP.sub [1, 2, 3, 0] rfl
  have hD : va_D A [(h0, .inr (11, [.ref (r 0), .ref (r 1), .ref (r 2), .ref (r 3), .ref (r 4), .ref (r 5), .ref (r 6), .ref (r 7), .ref (r 8), .ref (r 9), .ref (r 10), .ref (r 11), .ref (r 12), .ref (r 13), .ref (r 14), .int fp, .int 0])), (r 7, .inr (2, [.ref (q 0), .ref (q 1), .ref (q 2), .ref (q 3), .ref (q 4), .ref (q 5), .ref (q 6), .ref (q 7), .ref (q 8), .ref (q 9), .ref (q 10), .int (z 11), .ref (q 12), .ref (q 13), .int (z 14), .int (z 15), .int (z 16), .int (z 17)])), (q 10, .inl (kA 1, 4, .inl vs)), (ou, .inl (kA 2, 1, .inr (.inl o)))] := hD.sub [1, 2, 3, 0] (by decide) rfl
  exact W.iret (v := 1) hx hb hr (fun t ht hW => ⟨⟨1, (), rfl, rfl, by rw [ht]; exact hP, va_K.moved hW.alike hK, hD⟩, hS.F ht⟩) hS.2.2 d_La_copy_18

set_option maxHeartbeats 4000000 in
set_option maxRecDepth 100000 in
/-- the law's copy: refused -/
theorem n_La_copy2 (l : Launch) (D : va_G) (kA : Nat → ClassId) (kS : Nat → Nat) (sz : Nat) (hfl : l.flags = flags0) (ou : Nat) (o : Nat → Int64) (h0 : Nat) (r q : Nat → Nat) (fp : Int32) (z vs : Nat → Int32) (x y v : Int32) (hx1 : ¬ x < 0) (hx2 : x < 4) (h1 : y < 0 ∨ ¬ y < 4) : Met l y_La_copy w_La_copy { frames := 8, cells := 1, slots := 6, locals := 129 } (xPre D vC (tK kA) kS [.ref h0, .int x, .int y, .int v, .ref ou] ([oLk h0 r fp 0, oSc (r 7) q z, (q 10, .inl (kA 1, 4, .inl vs))] ++ [(ou, .inl (kA 2, 1, .inr (.inl o)))]) sz) (va_Qi (fun (x : Int32) (_ : Unit) => x = 1) (xB D vC (tK kA) (fun _ => [oLk h0 r fp 0, oSc (r 7) q z, (q 10, .inl (kA 1, 4, .inl vs))] ++ [(ou, .inl (kA 2, 1, .inr (.inl o)))]) (va_A ([oLk h0 r fp 0, oSc (r 7) q z, (q 10, .inl (kA 1, 4, .inl vs))] ++ [(ou, .inl (kA 2, 1, .inr (.inl o)))]) sz)) (va_A ([oLk h0 r fp 0, oSc (r 7) q z, (q 10, .inl (kA 1, 4, .inl vs))] ++ [(ou, .inl (kA 2, 1, .inr (.inl o)))]) sz)) 1 6 (va_A ([oLk h0 r fp 0, oSc (r 7) q z, (q 10, .inl (kA 1, 4, .inl vs))] ++ [(ou, .inl (kA 2, 1, .inr (.inl o)))]) sz) := by
  refine va_MetW (cc := b_La_copy) (maxL := 6) (ret := (some .int)) (hh := [(0, 12, 15, 25)]) (by decide) rfl ?_
  intro p e s m args below meth c s₁ B hml hv
  obtain ⟨rfl, hsz, hP, hK, hD0, hN, hC⟩ := hv
  have hx := B.exec
  have hb := B.bytes
  have hr := B.returns
  have hts := atoms_spec (ws := w_La_copy) B.pre
  have hg : ∀ w ∈ gW, w.before _ s = true := fun w h => hts w (List.mem_cons_of_mem _ h)
  have hown : s.vm.findClass R_La = some m.cls := findClass_of_methodNamed B.named
  have hlocks := B.notSynchronized
  have htab := xt_table B (hts _ List.mem_cons_self)
  subst hsz
  have hD := hD0.self (sz := s.heap.size)
  generalize hAe : va_A ([oLk h0 r fp 0, oSc (r 7) q z, (q 10, .inl (kA 1, 4, .inl vs))] ++ [(ou, .inl (kA 2, 1, .inr (.inl o)))]) s.heap.size = A at hD hC ⊢
  have hA : ∀ q : Nat, s.heap.size ≤ q → A q := fun q h => by rw [← hAe]; exact Or.inr h
  have hS : va_S A s.heap s.heap [] := va_S.rf
  have hP : va_P D vC [(h0, .inr (11, [.ref (r 0), .ref (r 1), .ref (r 2), .ref (r 3), .ref (r 4), .ref (r 5), .ref (r 6), .ref (r 7), .ref (r 8), .ref (r 9), .ref (r 10), .ref (r 11), .ref (r 12), .ref (r 13), .ref (r 14), .int fp, .int 0])), (r 7, .inr (2, [.ref (q 0), .ref (q 1), .ref (q 2), .ref (q 3), .ref (q 4), .ref (q 5), .ref (q 6), .ref (q 7), .ref (q 8), .ref (q 9), .ref (q 10), .int (z 11), .ref (q 12), .ref (q 13), .int (z 14), .int (z 15), .int (z 16), .int (z 17)])), (q 10, .inl (kA 1, 4, .inl vs)), (ou, .inl (kA 2, 1, .inr (.inl o)))] s.heap := hP
  have hD : va_D A [(h0, .inr (11, [.ref (r 0), .ref (r 1), .ref (r 2), .ref (r 3), .ref (r 4), .ref (r 5), .ref (r 6), .ref (r 7), .ref (r 8), .ref (r 9), .ref (r 10), .ref (r 11), .ref (r 12), .ref (r 13), .ref (r 14), .int fp, .int 0])), (r 7, .inr (2, [.ref (q 0), .ref (q 1), .ref (q 2), .ref (q 3), .ref (q 4), .ref (q 5), .ref (q 6), .ref (q 7), .ref (q 8), .ref (q 9), .ref (q 10), .int (z 11), .ref (q 12), .ref (q 13), .int (z 14), .int (z 15), .int (z 16), .int (z 17)])), (q 10, .inl (kA 1, 4, .inl vs)), (ou, .inl (kA 2, 1, .inr (.inl o)))] := hD
  have hl := lv_entry ([.ref h0, .int x, .int y, .int v, .ref ou]) (n := 6) (Nat.le_of_ble_eq_true rfl)
  rw [lg_entry_eq]
  generalize (lg_sl ([.ref h0, .int x, .int y, .int v, .ref ou]) ++ List.replicate (6 - (lg_sl ([.ref h0, .int x, .int y, .int v, .ref ou])).length) Slot.unset).toArray = ls at hl ⊢
  have hl : lv_has ls 6 [(0, .ref h0), (1, .int x), (2, .int y), (3, .int v), (4, .ref ou)] := hl
  refine lv_aload hx hb d_La_copy_0 (lv_at hl 4 rfl) ?_
  refine lv_iconst (v := 0) hx hb d_La_copy_2 (by decide) ?_
  refine lv_aload_n hx hb d_La_copy_3 rfl (lv_at hl 0 rfl) ?_
  refine lv_iload_n hx hb d_La_copy_4 rfl (lv_at hl 1 rfl) ?_
  refine lv_iload_n hx hb d_La_copy_5 rfl (lv_at hl 2 rfl) ?_
  refine lv_iload_n hx hb d_La_copy_6 rfl (lv_at hl 3 rfl) ?_
  refine xc_t (wr := [(ou, .inl (kA 2, 1, .inr (.inl o)))]) (xt_runV (As := [.int x, .int y, .int v]) (rest := [.int 0, .ref ou]) ⟨hx, hb, hml, hown, hg⟩ (t_Lk_copy2 l hfl D kA kS s.heap.size h0 r q fp z vs x y v hx1 hx2 h1) (cwV 3 hg (xg_V mw_1411 mw_1412 mw_1413 mw_1 mw_1414) rfl rfl rfl (by decide +kernel) ⟨Nat.le_of_ble_eq_true rfl, Nat.le_of_ble_eq_true rfl⟩) (xc_preV hK hN hC hP hD hS hA [0, 1, 2] (by decide) rfl 0 rfl rfl) rfl rfl hl.1 rfl (lv_room (Nat.le_of_ble_eq_true rfl)) d_La_copy_7 ⟨Nat.le_of_ble_eq_true rfl, Nat.le_of_ble_eq_true rfl⟩) hP hD hS hA [0, 1, 2] [3] rfl rfl (by decide) (by decide) (xt_lead1 hown htab (by decide) (by decide) (by decide) (hg _ mw_1072) (hN.use nw_1082)) (fun u9 x9 H locs hw hP hD hS => ?_)
  have hP : va_P D vC [(ou, .inl (kA 2, 1, .inr (.inl o))), (h0, .inr (11, [.ref (r 0), .ref (r 1), .ref (r 2), .ref (r 3), .ref (r 4), .ref (r 5), .ref (r 6), .ref (r 7), .ref (r 8), .ref (r 9), .ref (r 10), .ref (r 11), .ref (r 12), .ref (r 13), .ref (r 14), .int fp, .int 0])), (r 7, .inr (2, [.ref (q 0), .ref (q 1), .ref (q 2), .ref (q 3), .ref (q 4), .ref (q 5), .ref (q 6), .ref (q 7), .ref (q 8), .ref (q 9), .ref (q 10), .int (z 11), .ref (q 12), .ref (q 13), .int (z 14), .int (z 15), .int (z 16), .int (z 17)])), (q 10, .inl (kA 1, 4, .inl vs))] H := hP
  have hD : va_D A [(ou, .inl (kA 2, 1, .inr (.inl o))), (h0, .inr (11, [.ref (r 0), .ref (r 1), .ref (r 2), .ref (r 3), .ref (r 4), .ref (r 5), .ref (r 6), .ref (r 7), .ref (r 8), .ref (r 9), .ref (r 10), .ref (r 11), .ref (r 12), .ref (r 13), .ref (r 14), .int fp, .int 0])), (r 7, .inr (2, [.ref (q 0), .ref (q 1), .ref (q 2), .ref (q 3), .ref (q 4), .ref (q 5), .ref (q 6), .ref (q 7), .ref (q 8), .ref (q 9), .ref (q 10), .int (z 11), .ref (q 12), .ref (q 13), .int (z 14), .int (z 15), .int (z 16), .int (z 17)])), (q 10, .inl (kA 1, 4, .inl vs))] := hD
  refine W.widen (k := 1) (n := 6) (Nat.le_of_ble_eq_true rfl) (Nat.le_of_ble_eq_true rfl) ?_
  refine lv_astore (lv' := [(5, .ref x9), (0, .ref h0), (1, .int x), (2, .int y), (3, .int v), (4, .ref ou)]) hx hb d_La_copy_15 hl (by decide) rfl (fun ls hl => ?_)
  refine lv_iconst (v := 1) hx hb d_La_copy_17 (by decide) ?_
  have hP : va_P D vC [(h0, .inr (11, [.ref (r 0), .ref (r 1), .ref (r 2), .ref (r 3), .ref (r 4), .ref (r 5), .ref (r 6), .ref (r 7), .ref (r 8), .ref (r 9), .ref (r 10), .ref (r 11), .ref (r 12), .ref (r 13), .ref (r 14), .int fp, .int 0])), (r 7, .inr (2, [.ref (q 0), .ref (q 1), .ref (q 2), .ref (q 3), .ref (q 4), .ref (q 5), .ref (q 6), .ref (q 7), .ref (q 8), .ref (q 9), .ref (q 10), .int (z 11), .ref (q 12), .ref (q 13), .int (z 14), .int (z 15), .int (z 16), .int (z 17)])), (q 10, .inl (kA 1, 4, .inl vs)), (ou, .inl (kA 2, 1, .inr (.inl o)))] H := hP.sub [1, 2, 3, 0] rfl
  have hD : va_D A [(h0, .inr (11, [.ref (r 0), .ref (r 1), .ref (r 2), .ref (r 3), .ref (r 4), .ref (r 5), .ref (r 6), .ref (r 7), .ref (r 8), .ref (r 9), .ref (r 10), .ref (r 11), .ref (r 12), .ref (r 13), .ref (r 14), .int fp, .int 0])), (r 7, .inr (2, [.ref (q 0), .ref (q 1), .ref (q 2), .ref (q 3), .ref (q 4), .ref (q 5), .ref (q 6), .ref (q 7), .ref (q 8), .ref (q 9), .ref (q 10), .int (z 11), .ref (q 12), .ref (q 13), .int (z 14), .int (z 15), .int (z 16), .int (z 17)])), (q 10, .inl (kA 1, 4, .inl vs)), (ou, .inl (kA 2, 1, .inr (.inl o)))] := hD.sub [1, 2, 3, 0] (by decide) rfl
  exact W.iret (v := 1) hx hb hr (fun t ht hW => ⟨⟨1, (), rfl, rfl, by rw [ht]; exact hP, va_K.moved hW.alike hK, hD⟩, hS.F ht⟩) hS.2.2 d_La_copy_18

set_option maxHeartbeats 4000000 in
set_option maxRecDepth 100000 in
/-- the law's copy: refused -/
theorem n_La_copy3 (l : Launch) (D : va_G) (kA : Nat → ClassId) (kS : Nat → Nat) (sz : Nat) (hfl : l.flags = flags0) (ou : Nat) (o : Nat → Int64) (h0 : Nat) (r q : Nat → Nat) (fp : Int32) (z vs : Nat → Int32) (x v : Int32) (hx1 : ¬ x < 0) (hx2 : x < 4) (k : Nat) (hk : k < 4) (h1 : v < 0 ∨ ¬ v < vs k) : Met l y_La_copy w_La_copy { frames := 8, cells := 1, slots := 6, locals := 129 } (xPre D vC (tK kA) kS [.ref h0, .int x, .int (nI k), .int v, .ref ou] ([oLk h0 r fp 0, oSc (r 7) q z, (q 10, .inl (kA 1, 4, .inl vs))] ++ [(ou, .inl (kA 2, 1, .inr (.inl o)))]) sz) (va_Qi (fun (x : Int32) (_ : Unit) => x = 1) (xB D vC (tK kA) (fun _ => [oLk h0 r fp 0, oSc (r 7) q z, (q 10, .inl (kA 1, 4, .inl vs))] ++ [(ou, .inl (kA 2, 1, .inr (.inl o)))]) (va_A ([oLk h0 r fp 0, oSc (r 7) q z, (q 10, .inl (kA 1, 4, .inl vs))] ++ [(ou, .inl (kA 2, 1, .inr (.inl o)))]) sz)) (va_A ([oLk h0 r fp 0, oSc (r 7) q z, (q 10, .inl (kA 1, 4, .inl vs))] ++ [(ou, .inl (kA 2, 1, .inr (.inl o)))]) sz)) 1 6 (va_A ([oLk h0 r fp 0, oSc (r 7) q z, (q 10, .inl (kA 1, 4, .inl vs))] ++ [(ou, .inl (kA 2, 1, .inr (.inl o)))]) sz) := by
  refine va_MetW (cc := b_La_copy) (maxL := 6) (ret := (some .int)) (hh := [(0, 12, 15, 25)]) (by decide) rfl ?_
  intro p e s m args below meth c s₁ B hml hv
  obtain ⟨rfl, hsz, hP, hK, hD0, hN, hC⟩ := hv
  have hx := B.exec
  have hb := B.bytes
  have hr := B.returns
  have hts := atoms_spec (ws := w_La_copy) B.pre
  have hg : ∀ w ∈ gW, w.before _ s = true := fun w h => hts w (List.mem_cons_of_mem _ h)
  have hown : s.vm.findClass R_La = some m.cls := findClass_of_methodNamed B.named
  have hlocks := B.notSynchronized
  have htab := xt_table B (hts _ List.mem_cons_self)
  subst hsz
  have hD := hD0.self (sz := s.heap.size)
  generalize hAe : va_A ([oLk h0 r fp 0, oSc (r 7) q z, (q 10, .inl (kA 1, 4, .inl vs))] ++ [(ou, .inl (kA 2, 1, .inr (.inl o)))]) s.heap.size = A at hD hC ⊢
  have hA : ∀ q : Nat, s.heap.size ≤ q → A q := fun q h => by rw [← hAe]; exact Or.inr h
  have hS : va_S A s.heap s.heap [] := va_S.rf
  have hP : va_P D vC [(h0, .inr (11, [.ref (r 0), .ref (r 1), .ref (r 2), .ref (r 3), .ref (r 4), .ref (r 5), .ref (r 6), .ref (r 7), .ref (r 8), .ref (r 9), .ref (r 10), .ref (r 11), .ref (r 12), .ref (r 13), .ref (r 14), .int fp, .int 0])), (r 7, .inr (2, [.ref (q 0), .ref (q 1), .ref (q 2), .ref (q 3), .ref (q 4), .ref (q 5), .ref (q 6), .ref (q 7), .ref (q 8), .ref (q 9), .ref (q 10), .int (z 11), .ref (q 12), .ref (q 13), .int (z 14), .int (z 15), .int (z 16), .int (z 17)])), (q 10, .inl (kA 1, 4, .inl vs)), (ou, .inl (kA 2, 1, .inr (.inl o)))] s.heap := hP
  have hD : va_D A [(h0, .inr (11, [.ref (r 0), .ref (r 1), .ref (r 2), .ref (r 3), .ref (r 4), .ref (r 5), .ref (r 6), .ref (r 7), .ref (r 8), .ref (r 9), .ref (r 10), .ref (r 11), .ref (r 12), .ref (r 13), .ref (r 14), .int fp, .int 0])), (r 7, .inr (2, [.ref (q 0), .ref (q 1), .ref (q 2), .ref (q 3), .ref (q 4), .ref (q 5), .ref (q 6), .ref (q 7), .ref (q 8), .ref (q 9), .ref (q 10), .int (z 11), .ref (q 12), .ref (q 13), .int (z 14), .int (z 15), .int (z 16), .int (z 17)])), (q 10, .inl (kA 1, 4, .inl vs)), (ou, .inl (kA 2, 1, .inr (.inl o)))] := hD
  have hl := lv_entry ([.ref h0, .int x, .int (nI k), .int v, .ref ou]) (n := 6) (Nat.le_of_ble_eq_true rfl)
  rw [lg_entry_eq]
  generalize (lg_sl ([.ref h0, .int x, .int (nI k), .int v, .ref ou]) ++ List.replicate (6 - (lg_sl ([.ref h0, .int x, .int (nI k), .int v, .ref ou])).length) Slot.unset).toArray = ls at hl ⊢
  have hl : lv_has ls 6 [(0, .ref h0), (1, .int x), (2, .int (nI k)), (3, .int v), (4, .ref ou)] := hl
  refine lv_aload hx hb d_La_copy_0 (lv_at hl 4 rfl) ?_
  refine lv_iconst (v := 0) hx hb d_La_copy_2 (by decide) ?_
  refine lv_aload_n hx hb d_La_copy_3 rfl (lv_at hl 0 rfl) ?_
  refine lv_iload_n hx hb d_La_copy_4 rfl (lv_at hl 1 rfl) ?_
  refine lv_iload_n hx hb d_La_copy_5 rfl (lv_at hl 2 rfl) ?_
  refine lv_iload_n hx hb d_La_copy_6 rfl (lv_at hl 3 rfl) ?_
  refine xc_t (wr := [(ou, .inl (kA 2, 1, .inr (.inl o)))]) (xt_runV (As := [.int x, .int (nI k), .int v]) (rest := [.int 0, .ref ou]) ⟨hx, hb, hml, hown, hg⟩ (t_Lk_copy3 l hfl D kA kS s.heap.size h0 r q fp z vs x v hx1 hx2 k hk h1) (cwV 3 hg (xg_V mw_1411 mw_1412 mw_1413 mw_1 mw_1414) rfl rfl rfl (by decide +kernel) ⟨Nat.le_of_ble_eq_true rfl, Nat.le_of_ble_eq_true rfl⟩) (xc_preV hK hN hC hP hD hS hA [0, 1, 2] (by decide) rfl 0 rfl rfl) rfl rfl hl.1 rfl (lv_room (Nat.le_of_ble_eq_true rfl)) d_La_copy_7 ⟨Nat.le_of_ble_eq_true rfl, Nat.le_of_ble_eq_true rfl⟩) hP hD hS hA [0, 1, 2] [3] rfl rfl (by decide) (by decide) (xt_lead1 hown htab (by decide) (by decide) (by decide) (hg _ mw_1072) (hN.use nw_1082)) (fun u9 x9 H locs hw hP hD hS => ?_)
  have hP : va_P D vC [(ou, .inl (kA 2, 1, .inr (.inl o))), (h0, .inr (11, [.ref (r 0), .ref (r 1), .ref (r 2), .ref (r 3), .ref (r 4), .ref (r 5), .ref (r 6), .ref (r 7), .ref (r 8), .ref (r 9), .ref (r 10), .ref (r 11), .ref (r 12), .ref (r 13), .ref (r 14), .int fp, .int 0])), (r 7, .inr (2, [.ref (q 0), .ref (q 1), .ref (q 2), .ref (q 3), .ref (q 4), .ref (q 5), .ref (q 6), .ref (q 7), .ref (q 8), .ref (q 9), .ref (q 10), .int (z 11), .ref (q 12), .ref (q 13), .int (z 14), .int (z 15), .int (z 16), .int (z 17)])), (q 10, .inl (kA 1, 4, .inl vs))] H := hP
  have hD : va_D A [(ou, .inl (kA 2, 1, .inr (.inl o))), (h0, .inr (11, [.ref (r 0), .ref (r 1), .ref (r 2), .ref (r 3), .ref (r 4), .ref (r 5), .ref (r 6), .ref (r 7), .ref (r 8), .ref (r 9), .ref (r 10), .ref (r 11), .ref (r 12), .ref (r 13), .ref (r 14), .int fp, .int 0])), (r 7, .inr (2, [.ref (q 0), .ref (q 1), .ref (q 2), .ref (q 3), .ref (q 4), .ref (q 5), .ref (q 6), .ref (q 7), .ref (q 8), .ref (q 9), .ref (q 10), .int (z 11), .ref (q 12), .ref (q 13), .int (z 14), .int (z 15), .int (z 16), .int (z 17)])), (q 10, .inl (kA 1, 4, .inl vs))] := hD
  refine W.widen (k := 1) (n := 6) (Nat.le_of_ble_eq_true rfl) (Nat.le_of_ble_eq_true rfl) ?_
  refine lv_astore (lv' := [(5, .ref x9), (0, .ref h0), (1, .int x), (2, .int (nI k)), (3, .int v), (4, .ref ou)]) hx hb d_La_copy_15 hl (by decide) rfl (fun ls hl => ?_)
  refine lv_iconst (v := 1) hx hb d_La_copy_17 (by decide) ?_
  have hP : va_P D vC [(h0, .inr (11, [.ref (r 0), .ref (r 1), .ref (r 2), .ref (r 3), .ref (r 4), .ref (r 5), .ref (r 6), .ref (r 7), .ref (r 8), .ref (r 9), .ref (r 10), .ref (r 11), .ref (r 12), .ref (r 13), .ref (r 14), .int fp, .int 0])), (r 7, .inr (2, [.ref (q 0), .ref (q 1), .ref (q 2), .ref (q 3), .ref (q 4), .ref (q 5), .ref (q 6), .ref (q 7), .ref (q 8), .ref (q 9), .ref (q 10), .int (z 11), .ref (q 12), .ref (q 13), .int (z 14), .int (z 15), .int (z 16), .int (z 17)])), (q 10, .inl (kA 1, 4, .inl vs)), (ou, .inl (kA 2, 1, .inr (.inl o)))] H := hP.sub [1, 2, 3, 0] rfl
  have hD : va_D A [(h0, .inr (11, [.ref (r 0), .ref (r 1), .ref (r 2), .ref (r 3), .ref (r 4), .ref (r 5), .ref (r 6), .ref (r 7), .ref (r 8), .ref (r 9), .ref (r 10), .ref (r 11), .ref (r 12), .ref (r 13), .ref (r 14), .int fp, .int 0])), (r 7, .inr (2, [.ref (q 0), .ref (q 1), .ref (q 2), .ref (q 3), .ref (q 4), .ref (q 5), .ref (q 6), .ref (q 7), .ref (q 8), .ref (q 9), .ref (q 10), .int (z 11), .ref (q 12), .ref (q 13), .int (z 14), .int (z 15), .int (z 16), .int (z 17)])), (q 10, .inl (kA 1, 4, .inl vs)), (ou, .inl (kA 2, 1, .inr (.inl o)))] := hD.sub [1, 2, 3, 0] (by decide) rfl
  exact W.iret (v := 1) hx hb hr (fun t ht hW => ⟨⟨1, (), rfl, rfl, by rw [ht]; exact hP, va_K.moved hW.alike hK, hD⟩, hS.F ht⟩) hS.2.2 d_La_copy_18

set_option maxHeartbeats 4000000 in
set_option maxRecDepth 100000 in
/-- the law's fits: refused -/
theorem n_La_fits (l : Launch) (D : va_G) (kA : Nat → ClassId) (kS : Nat → Nat) (sz : Nat) (hfl : l.flags = flags0) (ou : Nat) (o : Nat → Int64) (h0 : Nat) (r q : Nat → Nat) (fp : Int32) (z vs : Nat → Int32) (x v y t : Int32) (h1 : x < 0 ∨ ¬ x < 4) : Met l y_La_fits w_La_fits { frames := 8, cells := 1, slots := 6, locals := 128 } (xPre D vC (tK kA) kS [.ref h0, .int x, .int v, .int y, .int t, .ref ou] ([oLk h0 r fp 0, oSc (r 7) q z, (q 10, .inl (kA 1, 4, .inl vs))] ++ [(ou, .inl (kA 2, 1, .inr (.inl o)))]) sz) (va_Qi (fun (x : Int32) (_ : Unit) => x = 1) (xB D vC (tK kA) (fun _ => [oLk h0 r fp 0, oSc (r 7) q z, (q 10, .inl (kA 1, 4, .inl vs))] ++ [(ou, .inl (kA 2, 1, .inr (.inl o)))]) (va_A ([oLk h0 r fp 0, oSc (r 7) q z, (q 10, .inl (kA 1, 4, .inl vs))] ++ [(ou, .inl (kA 2, 1, .inr (.inl o)))]) sz)) (va_A ([oLk h0 r fp 0, oSc (r 7) q z, (q 10, .inl (kA 1, 4, .inl vs))] ++ [(ou, .inl (kA 2, 1, .inr (.inl o)))]) sz)) 1 6 (va_A ([oLk h0 r fp 0, oSc (r 7) q z, (q 10, .inl (kA 1, 4, .inl vs))] ++ [(ou, .inl (kA 2, 1, .inr (.inl o)))]) sz) := by
  refine va_MetW (cc := b_La_fits) (maxL := 7) (ret := (some .int)) (hh := [(0, 21, 24, 25)]) (by decide) rfl ?_
  intro p e s m args below meth c s₁ B hml hv
  obtain ⟨rfl, hsz, hP, hK, hD0, hN, hC⟩ := hv
  have hx := B.exec
  have hb := B.bytes
  have hr := B.returns
  have hts := atoms_spec (ws := w_La_fits) B.pre
  have hg : ∀ w ∈ gW, w.before _ s = true := fun w h => hts w (List.mem_cons_of_mem _ h)
  have hown : s.vm.findClass R_La = some m.cls := findClass_of_methodNamed B.named
  have hlocks := B.notSynchronized
  have htab := xt_table B (hts _ List.mem_cons_self)
  subst hsz
  have hD := hD0.self (sz := s.heap.size)
  generalize hAe : va_A ([oLk h0 r fp 0, oSc (r 7) q z, (q 10, .inl (kA 1, 4, .inl vs))] ++ [(ou, .inl (kA 2, 1, .inr (.inl o)))]) s.heap.size = A at hD hC ⊢
  have hA : ∀ q : Nat, s.heap.size ≤ q → A q := fun q h => by rw [← hAe]; exact Or.inr h
  have hS : va_S A s.heap s.heap [] := va_S.rf
  have hP : va_P D vC [(h0, .inr (11, [.ref (r 0), .ref (r 1), .ref (r 2), .ref (r 3), .ref (r 4), .ref (r 5), .ref (r 6), .ref (r 7), .ref (r 8), .ref (r 9), .ref (r 10), .ref (r 11), .ref (r 12), .ref (r 13), .ref (r 14), .int fp, .int 0])), (r 7, .inr (2, [.ref (q 0), .ref (q 1), .ref (q 2), .ref (q 3), .ref (q 4), .ref (q 5), .ref (q 6), .ref (q 7), .ref (q 8), .ref (q 9), .ref (q 10), .int (z 11), .ref (q 12), .ref (q 13), .int (z 14), .int (z 15), .int (z 16), .int (z 17)])), (q 10, .inl (kA 1, 4, .inl vs)), (ou, .inl (kA 2, 1, .inr (.inl o)))] s.heap := hP
  have hD : va_D A [(h0, .inr (11, [.ref (r 0), .ref (r 1), .ref (r 2), .ref (r 3), .ref (r 4), .ref (r 5), .ref (r 6), .ref (r 7), .ref (r 8), .ref (r 9), .ref (r 10), .ref (r 11), .ref (r 12), .ref (r 13), .ref (r 14), .int fp, .int 0])), (r 7, .inr (2, [.ref (q 0), .ref (q 1), .ref (q 2), .ref (q 3), .ref (q 4), .ref (q 5), .ref (q 6), .ref (q 7), .ref (q 8), .ref (q 9), .ref (q 10), .int (z 11), .ref (q 12), .ref (q 13), .int (z 14), .int (z 15), .int (z 16), .int (z 17)])), (q 10, .inl (kA 1, 4, .inl vs)), (ou, .inl (kA 2, 1, .inr (.inl o)))] := hD
  have hl := lv_entry ([.ref h0, .int x, .int v, .int y, .int t, .ref ou]) (n := 7) (Nat.le_of_ble_eq_true rfl)
  rw [lg_entry_eq]
  generalize (lg_sl ([.ref h0, .int x, .int v, .int y, .int t, .ref ou]) ++ List.replicate (7 - (lg_sl ([.ref h0, .int x, .int v, .int y, .int t, .ref ou])).length) Slot.unset).toArray = ls at hl ⊢
  have hl : lv_has ls 7 [(0, .ref h0), (1, .int x), (2, .int v), (3, .int y), (4, .int t), (5, .ref ou)] := hl
  refine lv_aload hx hb d_La_fits_0 (lv_at hl 5 rfl) ?_
  refine lv_iconst (v := 0) hx hb d_La_fits_2 (by decide) ?_
  refine lv_aload_n hx hb d_La_fits_3 rfl (lv_at hl 0 rfl) ?_
  refine lv_iload_n hx hb d_La_fits_4 rfl (lv_at hl 1 rfl) ?_
  refine lv_iload_n hx hb d_La_fits_5 rfl (lv_at hl 2 rfl) ?_
  refine lv_iload_n hx hb d_La_fits_6 rfl (lv_at hl 3 rfl) ?_
  refine lv_iload hx hb d_La_fits_7 (lv_at hl 4 rfl) ?_
  refine xc_t (wr := [(ou, .inl (kA 2, 1, .inr (.inl o)))]) (xt_runV (As := [.int x, .int v, .int y, .int t]) (rest := [.int 0, .ref ou]) ⟨hx, hb, hml, hown, hg⟩ (t_Lk_fits l hfl D kA kS s.heap.size h0 r q fp z vs x v y t h1) (cwV 4 hg (xg_V mw_1486 mw_1487 mw_1488 mw_1 mw_1489) rfl rfl rfl (by decide +kernel) ⟨Nat.le_of_ble_eq_true rfl, Nat.le_of_ble_eq_true rfl⟩) (xc_preV hK hN hC hP hD hS hA [0, 1, 2] (by decide) rfl 0 rfl rfl) rfl rfl hl.1 rfl (lv_room (Nat.le_of_ble_eq_true rfl)) d_La_fits_9 ⟨Nat.le_of_ble_eq_true rfl, Nat.le_of_ble_eq_true rfl⟩) hP hD hS hA [0, 1, 2] [3] rfl rfl (by decide) (by decide) (xt_lead1 hown htab (by decide) (by decide) (by decide) (hg _ mw_1072) (hN.use nw_1082)) (fun u9 x9 H locs hw hP hD hS => ?_)
  have hP : va_P D vC [(ou, .inl (kA 2, 1, .inr (.inl o))), (h0, .inr (11, [.ref (r 0), .ref (r 1), .ref (r 2), .ref (r 3), .ref (r 4), .ref (r 5), .ref (r 6), .ref (r 7), .ref (r 8), .ref (r 9), .ref (r 10), .ref (r 11), .ref (r 12), .ref (r 13), .ref (r 14), .int fp, .int 0])), (r 7, .inr (2, [.ref (q 0), .ref (q 1), .ref (q 2), .ref (q 3), .ref (q 4), .ref (q 5), .ref (q 6), .ref (q 7), .ref (q 8), .ref (q 9), .ref (q 10), .int (z 11), .ref (q 12), .ref (q 13), .int (z 14), .int (z 15), .int (z 16), .int (z 17)])), (q 10, .inl (kA 1, 4, .inl vs))] H := hP
  have hD : va_D A [(ou, .inl (kA 2, 1, .inr (.inl o))), (h0, .inr (11, [.ref (r 0), .ref (r 1), .ref (r 2), .ref (r 3), .ref (r 4), .ref (r 5), .ref (r 6), .ref (r 7), .ref (r 8), .ref (r 9), .ref (r 10), .ref (r 11), .ref (r 12), .ref (r 13), .ref (r 14), .int fp, .int 0])), (r 7, .inr (2, [.ref (q 0), .ref (q 1), .ref (q 2), .ref (q 3), .ref (q 4), .ref (q 5), .ref (q 6), .ref (q 7), .ref (q 8), .ref (q 9), .ref (q 10), .int (z 11), .ref (q 12), .ref (q 13), .int (z 14), .int (z 15), .int (z 16), .int (z 17)])), (q 10, .inl (kA 1, 4, .inl vs))] := hD
  refine W.widen (k := 1) (n := 6) (Nat.le_of_ble_eq_true rfl) (Nat.le_of_ble_eq_true rfl) ?_
  refine lv_astore (lv' := [(6, .ref x9), (0, .ref h0), (1, .int x), (2, .int v), (3, .int y), (4, .int t), (5, .ref ou)]) hx hb d_La_fits_24 hl (by decide) rfl (fun ls hl => ?_)
  refine lv_iconst (v := 1) hx hb d_La_fits_26 (by decide) ?_
  have hP : va_P D vC [(h0, .inr (11, [.ref (r 0), .ref (r 1), .ref (r 2), .ref (r 3), .ref (r 4), .ref (r 5), .ref (r 6), .ref (r 7), .ref (r 8), .ref (r 9), .ref (r 10), .ref (r 11), .ref (r 12), .ref (r 13), .ref (r 14), .int fp, .int 0])), (r 7, .inr (2, [.ref (q 0), .ref (q 1), .ref (q 2), .ref (q 3), .ref (q 4), .ref (q 5), .ref (q 6), .ref (q 7), .ref (q 8), .ref (q 9), .ref (q 10), .int (z 11), .ref (q 12), .ref (q 13), .int (z 14), .int (z 15), .int (z 16), .int (z 17)])), (q 10, .inl (kA 1, 4, .inl vs)), (ou, .inl (kA 2, 1, .inr (.inl o)))] H := hP.sub [1, 2, 3, 0] rfl
  have hD : va_D A [(h0, .inr (11, [.ref (r 0), .ref (r 1), .ref (r 2), .ref (r 3), .ref (r 4), .ref (r 5), .ref (r 6), .ref (r 7), .ref (r 8), .ref (r 9), .ref (r 10), .ref (r 11), .ref (r 12), .ref (r 13), .ref (r 14), .int fp, .int 0])), (r 7, .inr (2, [.ref (q 0), .ref (q 1), .ref (q 2), .ref (q 3), .ref (q 4), .ref (q 5), .ref (q 6), .ref (q 7), .ref (q 8), .ref (q 9), .ref (q 10), .int (z 11), .ref (q 12), .ref (q 13), .int (z 14), .int (z 15), .int (z 16), .int (z 17)])), (q 10, .inl (kA 1, 4, .inl vs)), (ou, .inl (kA 2, 1, .inr (.inl o)))] := hD.sub [1, 2, 3, 0] (by decide) rfl
  exact W.iret (v := 1) hx hb hr (fun t ht hW => ⟨⟨1, (), rfl, rfl, by rw [ht]; exact hP, va_K.moved hW.alike hK, hD⟩, hS.F ht⟩) hS.2.2 d_La_fits_27

set_option maxHeartbeats 4000000 in
set_option maxRecDepth 100000 in
/-- the law's fits: refused -/
theorem n_La_fits2 (l : Launch) (D : va_G) (kA : Nat → ClassId) (kS : Nat → Nat) (sz : Nat) (hfl : l.flags = flags0) (ou : Nat) (o : Nat → Int64) (h0 : Nat) (r q : Nat → Nat) (fp : Int32) (z vs : Nat → Int32) (x v y t : Int32) (hx1 : ¬ x < 0) (hx2 : x < 4) (h1 : y < 0 ∨ ¬ y < 4) : Met l y_La_fits w_La_fits { frames := 8, cells := 1, slots := 6, locals := 128 } (xPre D vC (tK kA) kS [.ref h0, .int x, .int v, .int y, .int t, .ref ou] ([oLk h0 r fp 0, oSc (r 7) q z, (q 10, .inl (kA 1, 4, .inl vs))] ++ [(ou, .inl (kA 2, 1, .inr (.inl o)))]) sz) (va_Qi (fun (x : Int32) (_ : Unit) => x = 1) (xB D vC (tK kA) (fun _ => [oLk h0 r fp 0, oSc (r 7) q z, (q 10, .inl (kA 1, 4, .inl vs))] ++ [(ou, .inl (kA 2, 1, .inr (.inl o)))]) (va_A ([oLk h0 r fp 0, oSc (r 7) q z, (q 10, .inl (kA 1, 4, .inl vs))] ++ [(ou, .inl (kA 2, 1, .inr (.inl o)))]) sz)) (va_A ([oLk h0 r fp 0, oSc (r 7) q z, (q 10, .inl (kA 1, 4, .inl vs))] ++ [(ou, .inl (kA 2, 1, .inr (.inl o)))]) sz)) 1 6 (va_A ([oLk h0 r fp 0, oSc (r 7) q z, (q 10, .inl (kA 1, 4, .inl vs))] ++ [(ou, .inl (kA 2, 1, .inr (.inl o)))]) sz) := by
  refine va_MetW (cc := b_La_fits) (maxL := 7) (ret := (some .int)) (hh := [(0, 21, 24, 25)]) (by decide) rfl ?_
  intro p e s m args below meth c s₁ B hml hv
  obtain ⟨rfl, hsz, hP, hK, hD0, hN, hC⟩ := hv
  have hx := B.exec
  have hb := B.bytes
  have hr := B.returns
  have hts := atoms_spec (ws := w_La_fits) B.pre
  have hg : ∀ w ∈ gW, w.before _ s = true := fun w h => hts w (List.mem_cons_of_mem _ h)
  have hown : s.vm.findClass R_La = some m.cls := findClass_of_methodNamed B.named
  have hlocks := B.notSynchronized
  have htab := xt_table B (hts _ List.mem_cons_self)
  subst hsz
  have hD := hD0.self (sz := s.heap.size)
  generalize hAe : va_A ([oLk h0 r fp 0, oSc (r 7) q z, (q 10, .inl (kA 1, 4, .inl vs))] ++ [(ou, .inl (kA 2, 1, .inr (.inl o)))]) s.heap.size = A at hD hC ⊢
  have hA : ∀ q : Nat, s.heap.size ≤ q → A q := fun q h => by rw [← hAe]; exact Or.inr h
  have hS : va_S A s.heap s.heap [] := va_S.rf
  have hP : va_P D vC [(h0, .inr (11, [.ref (r 0), .ref (r 1), .ref (r 2), .ref (r 3), .ref (r 4), .ref (r 5), .ref (r 6), .ref (r 7), .ref (r 8), .ref (r 9), .ref (r 10), .ref (r 11), .ref (r 12), .ref (r 13), .ref (r 14), .int fp, .int 0])), (r 7, .inr (2, [.ref (q 0), .ref (q 1), .ref (q 2), .ref (q 3), .ref (q 4), .ref (q 5), .ref (q 6), .ref (q 7), .ref (q 8), .ref (q 9), .ref (q 10), .int (z 11), .ref (q 12), .ref (q 13), .int (z 14), .int (z 15), .int (z 16), .int (z 17)])), (q 10, .inl (kA 1, 4, .inl vs)), (ou, .inl (kA 2, 1, .inr (.inl o)))] s.heap := hP
  have hD : va_D A [(h0, .inr (11, [.ref (r 0), .ref (r 1), .ref (r 2), .ref (r 3), .ref (r 4), .ref (r 5), .ref (r 6), .ref (r 7), .ref (r 8), .ref (r 9), .ref (r 10), .ref (r 11), .ref (r 12), .ref (r 13), .ref (r 14), .int fp, .int 0])), (r 7, .inr (2, [.ref (q 0), .ref (q 1), .ref (q 2), .ref (q 3), .ref (q 4), .ref (q 5), .ref (q 6), .ref (q 7), .ref (q 8), .ref (q 9), .ref (q 10), .int (z 11), .ref (q 12), .ref (q 13), .int (z 14), .int (z 15), .int (z 16), .int (z 17)])), (q 10, .inl (kA 1, 4, .inl vs)), (ou, .inl (kA 2, 1, .inr (.inl o)))] := hD
  have hl := lv_entry ([.ref h0, .int x, .int v, .int y, .int t, .ref ou]) (n := 7) (Nat.le_of_ble_eq_true rfl)
  rw [lg_entry_eq]
  generalize (lg_sl ([.ref h0, .int x, .int v, .int y, .int t, .ref ou]) ++ List.replicate (7 - (lg_sl ([.ref h0, .int x, .int v, .int y, .int t, .ref ou])).length) Slot.unset).toArray = ls at hl ⊢
  have hl : lv_has ls 7 [(0, .ref h0), (1, .int x), (2, .int v), (3, .int y), (4, .int t), (5, .ref ou)] := hl
  refine lv_aload hx hb d_La_fits_0 (lv_at hl 5 rfl) ?_
  refine lv_iconst (v := 0) hx hb d_La_fits_2 (by decide) ?_
  refine lv_aload_n hx hb d_La_fits_3 rfl (lv_at hl 0 rfl) ?_
  refine lv_iload_n hx hb d_La_fits_4 rfl (lv_at hl 1 rfl) ?_
  refine lv_iload_n hx hb d_La_fits_5 rfl (lv_at hl 2 rfl) ?_
  refine lv_iload_n hx hb d_La_fits_6 rfl (lv_at hl 3 rfl) ?_
  refine lv_iload hx hb d_La_fits_7 (lv_at hl 4 rfl) ?_
  refine xc_t (wr := [(ou, .inl (kA 2, 1, .inr (.inl o)))]) (xt_runV (As := [.int x, .int v, .int y, .int t]) (rest := [.int 0, .ref ou]) ⟨hx, hb, hml, hown, hg⟩ (t_Lk_fits2 l hfl D kA kS s.heap.size h0 r q fp z vs x v y t hx1 hx2 h1) (cwV 4 hg (xg_V mw_1486 mw_1487 mw_1488 mw_1 mw_1489) rfl rfl rfl (by decide +kernel) ⟨Nat.le_of_ble_eq_true rfl, Nat.le_of_ble_eq_true rfl⟩) (xc_preV hK hN hC hP hD hS hA [0, 1, 2] (by decide) rfl 0 rfl rfl) rfl rfl hl.1 rfl (lv_room (Nat.le_of_ble_eq_true rfl)) d_La_fits_9 ⟨Nat.le_of_ble_eq_true rfl, Nat.le_of_ble_eq_true rfl⟩) hP hD hS hA [0, 1, 2] [3] rfl rfl (by decide) (by decide) (xt_lead1 hown htab (by decide) (by decide) (by decide) (hg _ mw_1072) (hN.use nw_1082)) (fun u9 x9 H locs hw hP hD hS => ?_)
  have hP : va_P D vC [(ou, .inl (kA 2, 1, .inr (.inl o))), (h0, .inr (11, [.ref (r 0), .ref (r 1), .ref (r 2), .ref (r 3), .ref (r 4), .ref (r 5), .ref (r 6), .ref (r 7), .ref (r 8), .ref (r 9), .ref (r 10), .ref (r 11), .ref (r 12), .ref (r 13), .ref (r 14), .int fp, .int 0])), (r 7, .inr (2, [.ref (q 0), .ref (q 1), .ref (q 2), .ref (q 3), .ref (q 4), .ref (q 5), .ref (q 6), .ref (q 7), .ref (q 8), .ref (q 9), .ref (q 10), .int (z 11), .ref (q 12), .ref (q 13), .int (z 14), .int (z 15), .int (z 16), .int (z 17)])), (q 10, .inl (kA 1, 4, .inl vs))] H := hP
  have hD : va_D A [(ou, .inl (kA 2, 1, .inr (.inl o))), (h0, .inr (11, [.ref (r 0), .ref (r 1), .ref (r 2), .ref (r 3), .ref (r 4), .ref (r 5), .ref (r 6), .ref (r 7), .ref (r 8), .ref (r 9), .ref (r 10), .ref (r 11), .ref (r 12), .ref (r 13), .ref (r 14), .int fp, .int 0])), (r 7, .inr (2, [.ref (q 0), .ref (q 1), .ref (q 2), .ref (q 3), .ref (q 4), .ref (q 5), .ref (q 6), .ref (q 7), .ref (q 8), .ref (q 9), .ref (q 10), .int (z 11), .ref (q 12), .ref (q 13), .int (z 14), .int (z 15), .int (z 16), .int (z 17)])), (q 10, .inl (kA 1, 4, .inl vs))] := hD
  refine W.widen (k := 1) (n := 6) (Nat.le_of_ble_eq_true rfl) (Nat.le_of_ble_eq_true rfl) ?_
  refine lv_astore (lv' := [(6, .ref x9), (0, .ref h0), (1, .int x), (2, .int v), (3, .int y), (4, .int t), (5, .ref ou)]) hx hb d_La_fits_24 hl (by decide) rfl (fun ls hl => ?_)
  refine lv_iconst (v := 1) hx hb d_La_fits_26 (by decide) ?_
  have hP : va_P D vC [(h0, .inr (11, [.ref (r 0), .ref (r 1), .ref (r 2), .ref (r 3), .ref (r 4), .ref (r 5), .ref (r 6), .ref (r 7), .ref (r 8), .ref (r 9), .ref (r 10), .ref (r 11), .ref (r 12), .ref (r 13), .ref (r 14), .int fp, .int 0])), (r 7, .inr (2, [.ref (q 0), .ref (q 1), .ref (q 2), .ref (q 3), .ref (q 4), .ref (q 5), .ref (q 6), .ref (q 7), .ref (q 8), .ref (q 9), .ref (q 10), .int (z 11), .ref (q 12), .ref (q 13), .int (z 14), .int (z 15), .int (z 16), .int (z 17)])), (q 10, .inl (kA 1, 4, .inl vs)), (ou, .inl (kA 2, 1, .inr (.inl o)))] H := hP.sub [1, 2, 3, 0] rfl
  have hD : va_D A [(h0, .inr (11, [.ref (r 0), .ref (r 1), .ref (r 2), .ref (r 3), .ref (r 4), .ref (r 5), .ref (r 6), .ref (r 7), .ref (r 8), .ref (r 9), .ref (r 10), .ref (r 11), .ref (r 12), .ref (r 13), .ref (r 14), .int fp, .int 0])), (r 7, .inr (2, [.ref (q 0), .ref (q 1), .ref (q 2), .ref (q 3), .ref (q 4), .ref (q 5), .ref (q 6), .ref (q 7), .ref (q 8), .ref (q 9), .ref (q 10), .int (z 11), .ref (q 12), .ref (q 13), .int (z 14), .int (z 15), .int (z 16), .int (z 17)])), (q 10, .inl (kA 1, 4, .inl vs)), (ou, .inl (kA 2, 1, .inr (.inl o)))] := hD.sub [1, 2, 3, 0] (by decide) rfl
  exact W.iret (v := 1) hx hb hr (fun t ht hW => ⟨⟨1, (), rfl, rfl, by rw [ht]; exact hP, va_K.moved hW.alike hK, hD⟩, hS.F ht⟩) hS.2.2 d_La_fits_27

set_option maxHeartbeats 4000000 in
set_option maxRecDepth 100000 in
/-- the law's fits: refused -/
theorem n_La_fits3 (l : Launch) (D : va_G) (kA : Nat → ClassId) (kS : Nat → Nat) (sz : Nat) (hfl : l.flags = flags0) (ou : Nat) (o : Nat → Int64) (h0 : Nat) (r q : Nat → Nat) (fp : Int32) (z vs : Nat → Int32) (v y t : Int32) (hy1 : ¬ y < 0) (hy2 : y < 4) (k : Nat) (hk : k < 4) (h1 : v < 0 ∨ ¬ v < vs k) : Met l y_La_fits w_La_fits { frames := 8, cells := 1, slots := 6, locals := 128 } (xPre D vC (tK kA) kS [.ref h0, .int (nI k), .int v, .int y, .int t, .ref ou] ([oLk h0 r fp 0, oSc (r 7) q z, (q 10, .inl (kA 1, 4, .inl vs))] ++ [(ou, .inl (kA 2, 1, .inr (.inl o)))]) sz) (va_Qi (fun (x : Int32) (_ : Unit) => x = 1) (xB D vC (tK kA) (fun _ => [oLk h0 r fp 0, oSc (r 7) q z, (q 10, .inl (kA 1, 4, .inl vs))] ++ [(ou, .inl (kA 2, 1, .inr (.inl o)))]) (va_A ([oLk h0 r fp 0, oSc (r 7) q z, (q 10, .inl (kA 1, 4, .inl vs))] ++ [(ou, .inl (kA 2, 1, .inr (.inl o)))]) sz)) (va_A ([oLk h0 r fp 0, oSc (r 7) q z, (q 10, .inl (kA 1, 4, .inl vs))] ++ [(ou, .inl (kA 2, 1, .inr (.inl o)))]) sz)) 1 6 (va_A ([oLk h0 r fp 0, oSc (r 7) q z, (q 10, .inl (kA 1, 4, .inl vs))] ++ [(ou, .inl (kA 2, 1, .inr (.inl o)))]) sz) := by
  refine va_MetW (cc := b_La_fits) (maxL := 7) (ret := (some .int)) (hh := [(0, 21, 24, 25)]) (by decide) rfl ?_
  intro p e s m args below meth c s₁ B hml hv
  obtain ⟨rfl, hsz, hP, hK, hD0, hN, hC⟩ := hv
  have hx := B.exec
  have hb := B.bytes
  have hr := B.returns
  have hts := atoms_spec (ws := w_La_fits) B.pre
  have hg : ∀ w ∈ gW, w.before _ s = true := fun w h => hts w (List.mem_cons_of_mem _ h)
  have hown : s.vm.findClass R_La = some m.cls := findClass_of_methodNamed B.named
  have hlocks := B.notSynchronized
  have htab := xt_table B (hts _ List.mem_cons_self)
  subst hsz
  have hD := hD0.self (sz := s.heap.size)
  generalize hAe : va_A ([oLk h0 r fp 0, oSc (r 7) q z, (q 10, .inl (kA 1, 4, .inl vs))] ++ [(ou, .inl (kA 2, 1, .inr (.inl o)))]) s.heap.size = A at hD hC ⊢
  have hA : ∀ q : Nat, s.heap.size ≤ q → A q := fun q h => by rw [← hAe]; exact Or.inr h
  have hS : va_S A s.heap s.heap [] := va_S.rf
  have hP : va_P D vC [(h0, .inr (11, [.ref (r 0), .ref (r 1), .ref (r 2), .ref (r 3), .ref (r 4), .ref (r 5), .ref (r 6), .ref (r 7), .ref (r 8), .ref (r 9), .ref (r 10), .ref (r 11), .ref (r 12), .ref (r 13), .ref (r 14), .int fp, .int 0])), (r 7, .inr (2, [.ref (q 0), .ref (q 1), .ref (q 2), .ref (q 3), .ref (q 4), .ref (q 5), .ref (q 6), .ref (q 7), .ref (q 8), .ref (q 9), .ref (q 10), .int (z 11), .ref (q 12), .ref (q 13), .int (z 14), .int (z 15), .int (z 16), .int (z 17)])), (q 10, .inl (kA 1, 4, .inl vs)), (ou, .inl (kA 2, 1, .inr (.inl o)))] s.heap := hP
  have hD : va_D A [(h0, .inr (11, [.ref (r 0), .ref (r 1), .ref (r 2), .ref (r 3), .ref (r 4), .ref (r 5), .ref (r 6), .ref (r 7), .ref (r 8), .ref (r 9), .ref (r 10), .ref (r 11), .ref (r 12), .ref (r 13), .ref (r 14), .int fp, .int 0])), (r 7, .inr (2, [.ref (q 0), .ref (q 1), .ref (q 2), .ref (q 3), .ref (q 4), .ref (q 5), .ref (q 6), .ref (q 7), .ref (q 8), .ref (q 9), .ref (q 10), .int (z 11), .ref (q 12), .ref (q 13), .int (z 14), .int (z 15), .int (z 16), .int (z 17)])), (q 10, .inl (kA 1, 4, .inl vs)), (ou, .inl (kA 2, 1, .inr (.inl o)))] := hD
  have hl := lv_entry ([.ref h0, .int (nI k), .int v, .int y, .int t, .ref ou]) (n := 7) (Nat.le_of_ble_eq_true rfl)
  rw [lg_entry_eq]
  generalize (lg_sl ([.ref h0, .int (nI k), .int v, .int y, .int t, .ref ou]) ++ List.replicate (7 - (lg_sl ([.ref h0, .int (nI k), .int v, .int y, .int t, .ref ou])).length) Slot.unset).toArray = ls at hl ⊢
  have hl : lv_has ls 7 [(0, .ref h0), (1, .int (nI k)), (2, .int v), (3, .int y), (4, .int t), (5, .ref ou)] := hl
  refine lv_aload hx hb d_La_fits_0 (lv_at hl 5 rfl) ?_
  refine lv_iconst (v := 0) hx hb d_La_fits_2 (by decide) ?_
  refine lv_aload_n hx hb d_La_fits_3 rfl (lv_at hl 0 rfl) ?_
  refine lv_iload_n hx hb d_La_fits_4 rfl (lv_at hl 1 rfl) ?_
  refine lv_iload_n hx hb d_La_fits_5 rfl (lv_at hl 2 rfl) ?_
  refine lv_iload_n hx hb d_La_fits_6 rfl (lv_at hl 3 rfl) ?_
  refine lv_iload hx hb d_La_fits_7 (lv_at hl 4 rfl) ?_
  refine xc_t (wr := [(ou, .inl (kA 2, 1, .inr (.inl o)))]) (xt_runV (As := [.int (nI k), .int v, .int y, .int t]) (rest := [.int 0, .ref ou]) ⟨hx, hb, hml, hown, hg⟩ (t_Lk_fits3 l hfl D kA kS s.heap.size h0 r q fp z vs v y t hy1 hy2 k hk h1) (cwV 4 hg (xg_V mw_1486 mw_1487 mw_1488 mw_1 mw_1489) rfl rfl rfl (by decide +kernel) ⟨Nat.le_of_ble_eq_true rfl, Nat.le_of_ble_eq_true rfl⟩) (xc_preV hK hN hC hP hD hS hA [0, 1, 2] (by decide) rfl 0 rfl rfl) rfl rfl hl.1 rfl (lv_room (Nat.le_of_ble_eq_true rfl)) d_La_fits_9 ⟨Nat.le_of_ble_eq_true rfl, Nat.le_of_ble_eq_true rfl⟩) hP hD hS hA [0, 1, 2] [3] rfl rfl (by decide) (by decide) (xt_lead1 hown htab (by decide) (by decide) (by decide) (hg _ mw_1072) (hN.use nw_1082)) (fun u9 x9 H locs hw hP hD hS => ?_)
  have hP : va_P D vC [(ou, .inl (kA 2, 1, .inr (.inl o))), (h0, .inr (11, [.ref (r 0), .ref (r 1), .ref (r 2), .ref (r 3), .ref (r 4), .ref (r 5), .ref (r 6), .ref (r 7), .ref (r 8), .ref (r 9), .ref (r 10), .ref (r 11), .ref (r 12), .ref (r 13), .ref (r 14), .int fp, .int 0])), (r 7, .inr (2, [.ref (q 0), .ref (q 1), .ref (q 2), .ref (q 3), .ref (q 4), .ref (q 5), .ref (q 6), .ref (q 7), .ref (q 8), .ref (q 9), .ref (q 10), .int (z 11), .ref (q 12), .ref (q 13), .int (z 14), .int (z 15), .int (z 16), .int (z 17)])), (q 10, .inl (kA 1, 4, .inl vs))] H := hP
  have hD : va_D A [(ou, .inl (kA 2, 1, .inr (.inl o))), (h0, .inr (11, [.ref (r 0), .ref (r 1), .ref (r 2), .ref (r 3), .ref (r 4), .ref (r 5), .ref (r 6), .ref (r 7), .ref (r 8), .ref (r 9), .ref (r 10), .ref (r 11), .ref (r 12), .ref (r 13), .ref (r 14), .int fp, .int 0])), (r 7, .inr (2, [.ref (q 0), .ref (q 1), .ref (q 2), .ref (q 3), .ref (q 4), .ref (q 5), .ref (q 6), .ref (q 7), .ref (q 8), .ref (q 9), .ref (q 10), .int (z 11), .ref (q 12), .ref (q 13), .int (z 14), .int (z 15), .int (z 16), .int (z 17)])), (q 10, .inl (kA 1, 4, .inl vs))] := hD
  refine W.widen (k := 1) (n := 6) (Nat.le_of_ble_eq_true rfl) (Nat.le_of_ble_eq_true rfl) ?_
  refine lv_astore (lv' := [(6, .ref x9), (0, .ref h0), (1, .int (nI k)), (2, .int v), (3, .int y), (4, .int t), (5, .ref ou)]) hx hb d_La_fits_24 hl (by decide) rfl (fun ls hl => ?_)
  refine lv_iconst (v := 1) hx hb d_La_fits_26 (by decide) ?_
  have hP : va_P D vC [(h0, .inr (11, [.ref (r 0), .ref (r 1), .ref (r 2), .ref (r 3), .ref (r 4), .ref (r 5), .ref (r 6), .ref (r 7), .ref (r 8), .ref (r 9), .ref (r 10), .ref (r 11), .ref (r 12), .ref (r 13), .ref (r 14), .int fp, .int 0])), (r 7, .inr (2, [.ref (q 0), .ref (q 1), .ref (q 2), .ref (q 3), .ref (q 4), .ref (q 5), .ref (q 6), .ref (q 7), .ref (q 8), .ref (q 9), .ref (q 10), .int (z 11), .ref (q 12), .ref (q 13), .int (z 14), .int (z 15), .int (z 16), .int (z 17)])), (q 10, .inl (kA 1, 4, .inl vs)), (ou, .inl (kA 2, 1, .inr (.inl o)))] H := hP.sub [1, 2, 3, 0] rfl
  have hD : va_D A [(h0, .inr (11, [.ref (r 0), .ref (r 1), .ref (r 2), .ref (r 3), .ref (r 4), .ref (r 5), .ref (r 6), .ref (r 7), .ref (r 8), .ref (r 9), .ref (r 10), .ref (r 11), .ref (r 12), .ref (r 13), .ref (r 14), .int fp, .int 0])), (r 7, .inr (2, [.ref (q 0), .ref (q 1), .ref (q 2), .ref (q 3), .ref (q 4), .ref (q 5), .ref (q 6), .ref (q 7), .ref (q 8), .ref (q 9), .ref (q 10), .int (z 11), .ref (q 12), .ref (q 13), .int (z 14), .int (z 15), .int (z 16), .int (z 17)])), (q 10, .inl (kA 1, 4, .inl vs)), (ou, .inl (kA 2, 1, .inr (.inl o)))] := hD.sub [1, 2, 3, 0] (by decide) rfl
  exact W.iret (v := 1) hx hb hr (fun t ht hW => ⟨⟨1, (), rfl, rfl, by rw [ht]; exact hP, va_K.moved hW.alike hK, hD⟩, hS.F ht⟩) hS.2.2 d_La_fits_27

set_option maxHeartbeats 4000000 in
set_option maxRecDepth 100000 in
/-- the law's count: refused -/
theorem n_La_count (l : Launch) (D : va_G) (kA : Nat → ClassId) (kS : Nat → Nat) (sz : Nat) (hfl : l.flags = flags0) (ou : Nat) (o : Nat → Int64) (h0 L : Nat) (r q g : Nat → Nat) (fp tu : Int32) (z vs f0 f4 : Nat → Int32) (hL : L ≤ 40) (x y : Int32) (h1 : x < 0 ∨ ¬ x < 4) : Met l y_La_count w_La_count { frames := 8, cells := 1, slots := 6, locals := 125 } (xPre D vC (tK kA) kS [.ref h0, .int x, .int y, .ref ou] ((oLk h0 r fp 0 :: oSc (r 7) q z :: (q 10, .inl (kA 1, 4, .inl vs)) :: wFl (r 14) g kA (nI L) tu f0 f4) ++ [(ou, .inl (kA 2, 1, .inr (.inl o)))]) sz) (va_Qi (fun (x : Int32) (_ : Unit) => x = 1) (xB D vC (tK kA) (fun _ => (oLk h0 r fp 0 :: oSc (r 7) q z :: (q 10, .inl (kA 1, 4, .inl vs)) :: wFl (r 14) g kA (nI L) tu f0 f4) ++ [(ou, .inl (kA 2, 1, .inr (.inl o)))]) (va_A ((oLk h0 r fp 0 :: oSc (r 7) q z :: (q 10, .inl (kA 1, 4, .inl vs)) :: wFl (r 14) g kA (nI L) tu f0 f4) ++ [(ou, .inl (kA 2, 1, .inr (.inl o)))]) sz)) (va_A ((oLk h0 r fp 0 :: oSc (r 7) q z :: (q 10, .inl (kA 1, 4, .inl vs)) :: wFl (r 14) g kA (nI L) tu f0 f4) ++ [(ou, .inl (kA 2, 1, .inr (.inl o)))]) sz)) 1 6 (va_A ((oLk h0 r fp 0 :: oSc (r 7) q z :: (q 10, .inl (kA 1, 4, .inl vs)) :: wFl (r 14) g kA (nI L) tu f0 f4) ++ [(ou, .inl (kA 2, 1, .inr (.inl o)))]) sz) := by
  refine va_MetW (cc := b_La_count) (maxL := 5) (ret := (some .int)) (hh := [(0, 10, 13, 25), (0, 10, 17, 19)]) (by decide) rfl ?_
  intro p e s m args below meth c s₁ B hml hv
  obtain ⟨rfl, hsz, hP, hK, hD0, hN, hC⟩ := hv
  have hx := B.exec
  have hb := B.bytes
  have hr := B.returns
  have hts := atoms_spec (ws := w_La_count) B.pre
  have hg : ∀ w ∈ gW, w.before _ s = true := fun w h => hts w (List.mem_cons_of_mem _ h)
  have hown : s.vm.findClass R_La = some m.cls := findClass_of_methodNamed B.named
  have hlocks := B.notSynchronized
  have htab := xt_table B (hts _ List.mem_cons_self)
  subst hsz
  have hD := hD0.self (sz := s.heap.size)
  generalize hAe : va_A ((oLk h0 r fp 0 :: oSc (r 7) q z :: (q 10, .inl (kA 1, 4, .inl vs)) :: wFl (r 14) g kA (nI L) tu f0 f4) ++ [(ou, .inl (kA 2, 1, .inr (.inl o)))]) s.heap.size = A at hD hC ⊢
  have hA : ∀ q : Nat, s.heap.size ≤ q → A q := fun q h => by rw [← hAe]; exact Or.inr h
  have hS : va_S A s.heap s.heap [] := va_S.rf
  have hP : va_P D vC [(h0, .inr (11, [.ref (r 0), .ref (r 1), .ref (r 2), .ref (r 3), .ref (r 4), .ref (r 5), .ref (r 6), .ref (r 7), .ref (r 8), .ref (r 9), .ref (r 10), .ref (r 11), .ref (r 12), .ref (r 13), .ref (r 14), .int fp, .int 0])), (r 7, .inr (2, [.ref (q 0), .ref (q 1), .ref (q 2), .ref (q 3), .ref (q 4), .ref (q 5), .ref (q 6), .ref (q 7), .ref (q 8), .ref (q 9), .ref (q 10), .int (z 11), .ref (q 12), .ref (q 13), .int (z 14), .int (z 15), .int (z 16), .int (z 17)])), (q 10, .inl (kA 1, 4, .inl vs)), (r 14, .inr (10, [.ref (g 0), .ref (g 1), .ref (g 2), .ref (g 3), .ref (g 4), .int (nI L), .int tu, .ref (g 5), .ref (g 6)])), (g 0, .inl (kA 1, 40, .inl f0)), (g 4, .inl (kA 1, 40, .inl f4)), (ou, .inl (kA 2, 1, .inr (.inl o)))] s.heap := hP
  have hD : va_D A [(h0, .inr (11, [.ref (r 0), .ref (r 1), .ref (r 2), .ref (r 3), .ref (r 4), .ref (r 5), .ref (r 6), .ref (r 7), .ref (r 8), .ref (r 9), .ref (r 10), .ref (r 11), .ref (r 12), .ref (r 13), .ref (r 14), .int fp, .int 0])), (r 7, .inr (2, [.ref (q 0), .ref (q 1), .ref (q 2), .ref (q 3), .ref (q 4), .ref (q 5), .ref (q 6), .ref (q 7), .ref (q 8), .ref (q 9), .ref (q 10), .int (z 11), .ref (q 12), .ref (q 13), .int (z 14), .int (z 15), .int (z 16), .int (z 17)])), (q 10, .inl (kA 1, 4, .inl vs)), (r 14, .inr (10, [.ref (g 0), .ref (g 1), .ref (g 2), .ref (g 3), .ref (g 4), .int (nI L), .int tu, .ref (g 5), .ref (g 6)])), (g 0, .inl (kA 1, 40, .inl f0)), (g 4, .inl (kA 1, 40, .inl f4)), (ou, .inl (kA 2, 1, .inr (.inl o)))] := hD
  have hl := lv_entry ([.ref h0, .int x, .int y, .ref ou]) (n := 5) (Nat.le_of_ble_eq_true rfl)
  rw [lg_entry_eq]
  generalize (lg_sl ([.ref h0, .int x, .int y, .ref ou]) ++ List.replicate (5 - (lg_sl ([.ref h0, .int x, .int y, .ref ou])).length) Slot.unset).toArray = ls at hl ⊢
  have hl : lv_has ls 5 [(0, .ref h0), (1, .int x), (2, .int y), (3, .ref ou)] := hl
  refine lv_aload_n hx hb d_La_count_0 rfl (lv_at hl 3 rfl) ?_
  refine lv_iconst (v := 0) hx hb d_La_count_1 (by decide) ?_
  refine lv_aload_n hx hb d_La_count_2 rfl (lv_at hl 0 rfl) ?_
  refine lv_iload_n hx hb d_La_count_3 rfl (lv_at hl 1 rfl) ?_
  refine lv_iload_n hx hb d_La_count_4 rfl (lv_at hl 2 rfl) ?_
  refine xc_t (wr := [(ou, .inl (kA 2, 1, .inr (.inl o)))]) (xt_runV (As := [.int x, .int y]) (rest := [.int 0, .ref ou]) ⟨hx, hb, hml, hown, hg⟩ (t_Lk_count l hfl D kA kS s.heap.size h0 L r q g fp tu z vs f0 f4 hL x y h1) (cwV 2 hg (xg_V mw_1493 mw_1494 mw_1495 mw_1 mw_1496) rfl rfl rfl (by decide +kernel) ⟨Nat.le_of_ble_eq_true rfl, Nat.le_of_ble_eq_true rfl⟩) (xc_preV hK hN hC hP hD hS hA [0, 1, 2, 3, 4, 5] (by decide) rfl 0 rfl rfl) rfl rfl hl.1 rfl (lv_room (Nat.le_of_ble_eq_true rfl)) d_La_count_5 ⟨Nat.le_of_ble_eq_true rfl, Nat.le_of_ble_eq_true rfl⟩) hP hD hS hA [0, 1, 2, 3, 4, 5] [6] rfl rfl (by decide) (by decide) (xt_lead2a hown htab (by decide) (by decide) (by decide) (hg _ mw_1072) (hN.use nw_1082)) (fun u9 x9 H locs hw hP hD hS => ?_)
  have hP : va_P D vC [(ou, .inl (kA 2, 1, .inr (.inl o))), (h0, .inr (11, [.ref (r 0), .ref (r 1), .ref (r 2), .ref (r 3), .ref (r 4), .ref (r 5), .ref (r 6), .ref (r 7), .ref (r 8), .ref (r 9), .ref (r 10), .ref (r 11), .ref (r 12), .ref (r 13), .ref (r 14), .int fp, .int 0])), (r 7, .inr (2, [.ref (q 0), .ref (q 1), .ref (q 2), .ref (q 3), .ref (q 4), .ref (q 5), .ref (q 6), .ref (q 7), .ref (q 8), .ref (q 9), .ref (q 10), .int (z 11), .ref (q 12), .ref (q 13), .int (z 14), .int (z 15), .int (z 16), .int (z 17)])), (q 10, .inl (kA 1, 4, .inl vs)), (r 14, .inr (10, [.ref (g 0), .ref (g 1), .ref (g 2), .ref (g 3), .ref (g 4), .int (nI L), .int tu, .ref (g 5), .ref (g 6)])), (g 0, .inl (kA 1, 40, .inl f0)), (g 4, .inl (kA 1, 40, .inl f4))] H := hP
  have hD : va_D A [(ou, .inl (kA 2, 1, .inr (.inl o))), (h0, .inr (11, [.ref (r 0), .ref (r 1), .ref (r 2), .ref (r 3), .ref (r 4), .ref (r 5), .ref (r 6), .ref (r 7), .ref (r 8), .ref (r 9), .ref (r 10), .ref (r 11), .ref (r 12), .ref (r 13), .ref (r 14), .int fp, .int 0])), (r 7, .inr (2, [.ref (q 0), .ref (q 1), .ref (q 2), .ref (q 3), .ref (q 4), .ref (q 5), .ref (q 6), .ref (q 7), .ref (q 8), .ref (q 9), .ref (q 10), .int (z 11), .ref (q 12), .ref (q 13), .int (z 14), .int (z 15), .int (z 16), .int (z 17)])), (q 10, .inl (kA 1, 4, .inl vs)), (r 14, .inr (10, [.ref (g 0), .ref (g 1), .ref (g 2), .ref (g 3), .ref (g 4), .int (nI L), .int tu, .ref (g 5), .ref (g 6)])), (g 0, .inl (kA 1, 40, .inl f0)), (g 4, .inl (kA 1, 40, .inl f4))] := hD
  refine W.widen (k := 1) (n := 6) (Nat.le_of_ble_eq_true rfl) (Nat.le_of_ble_eq_true rfl) ?_
  refine lv_astore (lv' := [(4, .ref x9), (0, .ref h0), (1, .int x), (2, .int y), (3, .ref ou)]) hx hb d_La_count_13 hl (by decide) rfl (fun ls hl => ?_)
  refine lv_iconst (v := 1) hx hb d_La_count_15 (by decide) ?_
  have hP : va_P D vC [(h0, .inr (11, [.ref (r 0), .ref (r 1), .ref (r 2), .ref (r 3), .ref (r 4), .ref (r 5), .ref (r 6), .ref (r 7), .ref (r 8), .ref (r 9), .ref (r 10), .ref (r 11), .ref (r 12), .ref (r 13), .ref (r 14), .int fp, .int 0])), (r 7, .inr (2, [.ref (q 0), .ref (q 1), .ref (q 2), .ref (q 3), .ref (q 4), .ref (q 5), .ref (q 6), .ref (q 7), .ref (q 8), .ref (q 9), .ref (q 10), .int (z 11), .ref (q 12), .ref (q 13), .int (z 14), .int (z 15), .int (z 16), .int (z 17)])), (q 10, .inl (kA 1, 4, .inl vs)), (r 14, .inr (10, [.ref (g 0), .ref (g 1), .ref (g 2), .ref (g 3), .ref (g 4), .int (nI L), .int tu, .ref (g 5), .ref (g 6)])), (g 0, .inl (kA 1, 40, .inl f0)), (g 4, .inl (kA 1, 40, .inl f4)), (ou, .inl (kA 2, 1, .inr (.inl o)))] H := hP.sub [1, 2, 3, 4, 5, 6, 0] rfl
  have hD : va_D A [(h0, .inr (11, [.ref (r 0), .ref (r 1), .ref (r 2), .ref (r 3), .ref (r 4), .ref (r 5), .ref (r 6), .ref (r 7), .ref (r 8), .ref (r 9), .ref (r 10), .ref (r 11), .ref (r 12), .ref (r 13), .ref (r 14), .int fp, .int 0])), (r 7, .inr (2, [.ref (q 0), .ref (q 1), .ref (q 2), .ref (q 3), .ref (q 4), .ref (q 5), .ref (q 6), .ref (q 7), .ref (q 8), .ref (q 9), .ref (q 10), .int (z 11), .ref (q 12), .ref (q 13), .int (z 14), .int (z 15), .int (z 16), .int (z 17)])), (q 10, .inl (kA 1, 4, .inl vs)), (r 14, .inr (10, [.ref (g 0), .ref (g 1), .ref (g 2), .ref (g 3), .ref (g 4), .int (nI L), .int tu, .ref (g 5), .ref (g 6)])), (g 0, .inl (kA 1, 40, .inl f0)), (g 4, .inl (kA 1, 40, .inl f4)), (ou, .inl (kA 2, 1, .inr (.inl o)))] := hD.sub [1, 2, 3, 4, 5, 6, 0] (by decide) rfl
  exact W.iret (v := 1) hx hb hr (fun t ht hW => ⟨⟨1, (), rfl, rfl, by rw [ht]; exact hP, va_K.moved hW.alike hK, hD⟩, hS.F ht⟩) hS.2.2 d_La_count_16

set_option maxHeartbeats 4000000 in
set_option maxRecDepth 100000 in
/-- the law's clear: refused -/
theorem n_La_clear (l : Launch) (D : va_G) (kA : Nat → ClassId) (kS : Nat → Nat) (sz : Nat) (hfl : l.flags = flags0) (ou : Nat) (o : Nat → Int64) (h0 L : Nat) (r g : Nat → Nat) (fp tu : Int32) (f0 f4 : Nat → Int32) (hL : L ≤ 40) (x : Int32) (h1 : x < 0 ∨ ¬ x < 4) : Met l y_La_clear w_La_clear { frames := 8, cells := 1, slots := 6, locals := 125 } (xPre D vC (tK kA) kS [.ref h0, .int x, .ref ou] ((oLk h0 r fp 0 :: wFl (r 14) g kA (nI L) tu f0 f4) ++ [(ou, .inl (kA 2, 1, .inr (.inl o)))]) sz) (va_Qi (fun (x : Int32) (_ : Unit) => x = 1) (xB D vC (tK kA) (fun _ => (oLk h0 r fp 0 :: wFl (r 14) g kA (nI L) tu f0 f4) ++ [(ou, .inl (kA 2, 1, .inr (.inl o)))]) (va_A ((oLk h0 r fp 0 :: wFl (r 14) g kA (nI L) tu f0 f4) ++ [(ou, .inl (kA 2, 1, .inr (.inl o)))]) sz)) (va_A ((oLk h0 r fp 0 :: wFl (r 14) g kA (nI L) tu f0 f4) ++ [(ou, .inl (kA 2, 1, .inr (.inl o)))]) sz)) 1 6 (va_A ((oLk h0 r fp 0 :: wFl (r 14) g kA (nI L) tu f0 f4) ++ [(ou, .inl (kA 2, 1, .inr (.inl o)))]) sz) := by
  refine va_MetW (cc := b_La_clear) (maxL := 4) (ret := (some .int)) (hh := [(0, 9, 12, 25)]) (by decide) rfl ?_
  intro p e s m args below meth c s₁ B hml hv
  obtain ⟨rfl, hsz, hP, hK, hD0, hN, hC⟩ := hv
  have hx := B.exec
  have hb := B.bytes
  have hr := B.returns
  have hts := atoms_spec (ws := w_La_clear) B.pre
  have hg : ∀ w ∈ gW, w.before _ s = true := fun w h => hts w (List.mem_cons_of_mem _ h)
  have hown : s.vm.findClass R_La = some m.cls := findClass_of_methodNamed B.named
  have hlocks := B.notSynchronized
  have htab := xt_table B (hts _ List.mem_cons_self)
  subst hsz
  have hD := hD0.self (sz := s.heap.size)
  generalize hAe : va_A ((oLk h0 r fp 0 :: wFl (r 14) g kA (nI L) tu f0 f4) ++ [(ou, .inl (kA 2, 1, .inr (.inl o)))]) s.heap.size = A at hD hC ⊢
  have hA : ∀ q : Nat, s.heap.size ≤ q → A q := fun q h => by rw [← hAe]; exact Or.inr h
  have hS : va_S A s.heap s.heap [] := va_S.rf
  have hP : va_P D vC [(h0, .inr (11, [.ref (r 0), .ref (r 1), .ref (r 2), .ref (r 3), .ref (r 4), .ref (r 5), .ref (r 6), .ref (r 7), .ref (r 8), .ref (r 9), .ref (r 10), .ref (r 11), .ref (r 12), .ref (r 13), .ref (r 14), .int fp, .int 0])), (r 14, .inr (10, [.ref (g 0), .ref (g 1), .ref (g 2), .ref (g 3), .ref (g 4), .int (nI L), .int tu, .ref (g 5), .ref (g 6)])), (g 0, .inl (kA 1, 40, .inl f0)), (g 4, .inl (kA 1, 40, .inl f4)), (ou, .inl (kA 2, 1, .inr (.inl o)))] s.heap := hP
  have hD : va_D A [(h0, .inr (11, [.ref (r 0), .ref (r 1), .ref (r 2), .ref (r 3), .ref (r 4), .ref (r 5), .ref (r 6), .ref (r 7), .ref (r 8), .ref (r 9), .ref (r 10), .ref (r 11), .ref (r 12), .ref (r 13), .ref (r 14), .int fp, .int 0])), (r 14, .inr (10, [.ref (g 0), .ref (g 1), .ref (g 2), .ref (g 3), .ref (g 4), .int (nI L), .int tu, .ref (g 5), .ref (g 6)])), (g 0, .inl (kA 1, 40, .inl f0)), (g 4, .inl (kA 1, 40, .inl f4)), (ou, .inl (kA 2, 1, .inr (.inl o)))] := hD
  have hl := lv_entry ([.ref h0, .int x, .ref ou]) (n := 4) (Nat.le_of_ble_eq_true rfl)
  rw [lg_entry_eq]
  generalize (lg_sl ([.ref h0, .int x, .ref ou]) ++ List.replicate (4 - (lg_sl ([.ref h0, .int x, .ref ou])).length) Slot.unset).toArray = ls at hl ⊢
  have hl : lv_has ls 4 [(0, .ref h0), (1, .int x), (2, .ref ou)] := hl
  refine lv_aload_n hx hb d_La_clear_0 rfl (lv_at hl 2 rfl) ?_
  refine lv_iconst (v := 0) hx hb d_La_clear_1 (by decide) ?_
  refine lv_aload_n hx hb d_La_clear_2 rfl (lv_at hl 0 rfl) ?_
  refine lv_iload_n hx hb d_La_clear_3 rfl (lv_at hl 1 rfl) ?_
  refine xc_t (wr := [(ou, .inl (kA 2, 1, .inr (.inl o)))]) (xt_runV (As := [.int x]) (rest := [.int 0, .ref ou]) ⟨hx, hb, hml, hown, hg⟩ (t_Lk_clear l hfl D kA kS s.heap.size h0 L r g fp tu f0 f4 hL x h1) (cwV 1 hg (xg_V mw_1471 mw_1472 mw_1473 mw_1 mw_1474) rfl rfl rfl (by decide +kernel) ⟨Nat.le_of_ble_eq_true rfl, Nat.le_of_ble_eq_true rfl⟩) (xc_preV hK hN hC hP hD hS hA [0, 1, 2, 3] (by decide) rfl 0 rfl rfl) rfl rfl hl.1 rfl (lv_room (Nat.le_of_ble_eq_true rfl)) d_La_clear_4 ⟨Nat.le_of_ble_eq_true rfl, Nat.le_of_ble_eq_true rfl⟩) hP hD hS hA [0, 1, 2, 3] [4] rfl rfl (by decide) (by decide) (xt_lead1 hown htab (by decide) (by decide) (by decide) (hg _ mw_1072) (hN.use nw_1082)) (fun u9 x9 H locs hw hP hD hS => ?_)
  have hP : va_P D vC [(ou, .inl (kA 2, 1, .inr (.inl o))), (h0, .inr (11, [.ref (r 0), .ref (r 1), .ref (r 2), .ref (r 3), .ref (r 4), .ref (r 5), .ref (r 6), .ref (r 7), .ref (r 8), .ref (r 9), .ref (r 10), .ref (r 11), .ref (r 12), .ref (r 13), .ref (r 14), .int fp, .int 0])), (r 14, .inr (10, [.ref (g 0), .ref (g 1), .ref (g 2), .ref (g 3), .ref (g 4), .int (nI L), .int tu, .ref (g 5), .ref (g 6)])), (g 0, .inl (kA 1, 40, .inl f0)), (g 4, .inl (kA 1, 40, .inl f4))] H := hP
  have hD : va_D A [(ou, .inl (kA 2, 1, .inr (.inl o))), (h0, .inr (11, [.ref (r 0), .ref (r 1), .ref (r 2), .ref (r 3), .ref (r 4), .ref (r 5), .ref (r 6), .ref (r 7), .ref (r 8), .ref (r 9), .ref (r 10), .ref (r 11), .ref (r 12), .ref (r 13), .ref (r 14), .int fp, .int 0])), (r 14, .inr (10, [.ref (g 0), .ref (g 1), .ref (g 2), .ref (g 3), .ref (g 4), .int (nI L), .int tu, .ref (g 5), .ref (g 6)])), (g 0, .inl (kA 1, 40, .inl f0)), (g 4, .inl (kA 1, 40, .inl f4))] := hD
  refine W.widen (k := 1) (n := 6) (Nat.le_of_ble_eq_true rfl) (Nat.le_of_ble_eq_true rfl) ?_
  refine lv_astore_n (lv' := [(3, .ref x9), (0, .ref h0), (1, .int x), (2, .ref ou)]) hx hb d_La_clear_12 rfl hl (by decide) rfl (fun ls hl => ?_)
  refine lv_iconst (v := 1) hx hb d_La_clear_13 (by decide) ?_
  have hP : va_P D vC [(h0, .inr (11, [.ref (r 0), .ref (r 1), .ref (r 2), .ref (r 3), .ref (r 4), .ref (r 5), .ref (r 6), .ref (r 7), .ref (r 8), .ref (r 9), .ref (r 10), .ref (r 11), .ref (r 12), .ref (r 13), .ref (r 14), .int fp, .int 0])), (r 14, .inr (10, [.ref (g 0), .ref (g 1), .ref (g 2), .ref (g 3), .ref (g 4), .int (nI L), .int tu, .ref (g 5), .ref (g 6)])), (g 0, .inl (kA 1, 40, .inl f0)), (g 4, .inl (kA 1, 40, .inl f4)), (ou, .inl (kA 2, 1, .inr (.inl o)))] H := hP.sub [1, 2, 3, 4, 0] rfl
  have hD : va_D A [(h0, .inr (11, [.ref (r 0), .ref (r 1), .ref (r 2), .ref (r 3), .ref (r 4), .ref (r 5), .ref (r 6), .ref (r 7), .ref (r 8), .ref (r 9), .ref (r 10), .ref (r 11), .ref (r 12), .ref (r 13), .ref (r 14), .int fp, .int 0])), (r 14, .inr (10, [.ref (g 0), .ref (g 1), .ref (g 2), .ref (g 3), .ref (g 4), .int (nI L), .int tu, .ref (g 5), .ref (g 6)])), (g 0, .inl (kA 1, 40, .inl f0)), (g 4, .inl (kA 1, 40, .inl f4)), (ou, .inl (kA 2, 1, .inr (.inl o)))] := hD.sub [1, 2, 3, 4, 0] (by decide) rfl
  exact W.iret (v := 1) hx hb hr (fun t ht hW => ⟨⟨1, (), rfl, rfl, by rw [ht]; exact hP, va_K.moved hW.alike hK, hD⟩, hS.F ht⟩) hS.2.2 d_La_clear_14

set_option maxHeartbeats 4000000 in
set_option maxRecDepth 100000 in
/-- the law's compact: refused -/
theorem n_La_compact (l : Launch) (D : va_G) (kA : Nat → ClassId) (kS : Nat → Nat) (sz : Nat) (hfl : l.flags = flags0) (ou : Nat) (o : Nat → Int64) (h0 L : Nat) (r g : Nat → Nat) (fp tu : Int32) (f0 f4 : Nat → Int32) (hL : L ≤ 40) (x : Int32) (h1 : x < 0 ∨ ¬ x < 4) : Met l y_La_compact w_La_compact { frames := 8, cells := 1, slots := 6, locals := 125 } (xPre D vC (tK kA) kS [.ref h0, .int x, .ref ou] ((oLk h0 r fp 0 :: wFl (r 14) g kA (nI L) tu f0 f4) ++ [(ou, .inl (kA 2, 1, .inr (.inl o)))]) sz) (va_Qi (fun (x : Int32) (_ : Unit) => x = 1) (xB D vC (tK kA) (fun _ => (oLk h0 r fp 0 :: wFl (r 14) g kA (nI L) tu f0 f4) ++ [(ou, .inl (kA 2, 1, .inr (.inl o)))]) (va_A ((oLk h0 r fp 0 :: wFl (r 14) g kA (nI L) tu f0 f4) ++ [(ou, .inl (kA 2, 1, .inr (.inl o)))]) sz)) (va_A ((oLk h0 r fp 0 :: wFl (r 14) g kA (nI L) tu f0 f4) ++ [(ou, .inl (kA 2, 1, .inr (.inl o)))]) sz)) 1 6 (va_A ((oLk h0 r fp 0 :: wFl (r 14) g kA (nI L) tu f0 f4) ++ [(ou, .inl (kA 2, 1, .inr (.inl o)))]) sz) := by
  refine va_MetW (cc := b_La_compact) (maxL := 4) (ret := (some .int)) (hh := [(0, 9, 12, 25)]) (by decide) rfl ?_
  intro p e s m args below meth c s₁ B hml hv
  obtain ⟨rfl, hsz, hP, hK, hD0, hN, hC⟩ := hv
  have hx := B.exec
  have hb := B.bytes
  have hr := B.returns
  have hts := atoms_spec (ws := w_La_compact) B.pre
  have hg : ∀ w ∈ gW, w.before _ s = true := fun w h => hts w (List.mem_cons_of_mem _ h)
  have hown : s.vm.findClass R_La = some m.cls := findClass_of_methodNamed B.named
  have hlocks := B.notSynchronized
  have htab := xt_table B (hts _ List.mem_cons_self)
  subst hsz
  have hD := hD0.self (sz := s.heap.size)
  generalize hAe : va_A ((oLk h0 r fp 0 :: wFl (r 14) g kA (nI L) tu f0 f4) ++ [(ou, .inl (kA 2, 1, .inr (.inl o)))]) s.heap.size = A at hD hC ⊢
  have hA : ∀ q : Nat, s.heap.size ≤ q → A q := fun q h => by rw [← hAe]; exact Or.inr h
  have hS : va_S A s.heap s.heap [] := va_S.rf
  have hP : va_P D vC [(h0, .inr (11, [.ref (r 0), .ref (r 1), .ref (r 2), .ref (r 3), .ref (r 4), .ref (r 5), .ref (r 6), .ref (r 7), .ref (r 8), .ref (r 9), .ref (r 10), .ref (r 11), .ref (r 12), .ref (r 13), .ref (r 14), .int fp, .int 0])), (r 14, .inr (10, [.ref (g 0), .ref (g 1), .ref (g 2), .ref (g 3), .ref (g 4), .int (nI L), .int tu, .ref (g 5), .ref (g 6)])), (g 0, .inl (kA 1, 40, .inl f0)), (g 4, .inl (kA 1, 40, .inl f4)), (ou, .inl (kA 2, 1, .inr (.inl o)))] s.heap := hP
  have hD : va_D A [(h0, .inr (11, [.ref (r 0), .ref (r 1), .ref (r 2), .ref (r 3), .ref (r 4), .ref (r 5), .ref (r 6), .ref (r 7), .ref (r 8), .ref (r 9), .ref (r 10), .ref (r 11), .ref (r 12), .ref (r 13), .ref (r 14), .int fp, .int 0])), (r 14, .inr (10, [.ref (g 0), .ref (g 1), .ref (g 2), .ref (g 3), .ref (g 4), .int (nI L), .int tu, .ref (g 5), .ref (g 6)])), (g 0, .inl (kA 1, 40, .inl f0)), (g 4, .inl (kA 1, 40, .inl f4)), (ou, .inl (kA 2, 1, .inr (.inl o)))] := hD
  have hl := lv_entry ([.ref h0, .int x, .ref ou]) (n := 4) (Nat.le_of_ble_eq_true rfl)
  rw [lg_entry_eq]
  generalize (lg_sl ([.ref h0, .int x, .ref ou]) ++ List.replicate (4 - (lg_sl ([.ref h0, .int x, .ref ou])).length) Slot.unset).toArray = ls at hl ⊢
  have hl : lv_has ls 4 [(0, .ref h0), (1, .int x), (2, .ref ou)] := hl
  refine lv_aload_n hx hb d_La_compact_0 rfl (lv_at hl 2 rfl) ?_
  refine lv_iconst (v := 0) hx hb d_La_compact_1 (by decide) ?_
  refine lv_aload_n hx hb d_La_compact_2 rfl (lv_at hl 0 rfl) ?_
  refine lv_iload_n hx hb d_La_compact_3 rfl (lv_at hl 1 rfl) ?_
  refine xc_t (wr := [(ou, .inl (kA 2, 1, .inr (.inl o)))]) (xt_runV (As := [.int x]) (rest := [.int 0, .ref ou]) ⟨hx, hb, hml, hown, hg⟩ (t_Lk_compact l hfl D kA kS s.heap.size h0 L r g fp tu f0 f4 hL x h1) (cwV 1 hg (xg_V mw_1427 mw_1428 mw_1429 mw_1 mw_1430) rfl rfl rfl (by decide +kernel) ⟨Nat.le_of_ble_eq_true rfl, Nat.le_of_ble_eq_true rfl⟩) (xc_preV hK hN hC hP hD hS hA [0, 1, 2, 3] (by decide) rfl 0 rfl rfl) rfl rfl hl.1 rfl (lv_room (Nat.le_of_ble_eq_true rfl)) d_La_compact_4 ⟨Nat.le_of_ble_eq_true rfl, Nat.le_of_ble_eq_true rfl⟩) hP hD hS hA [0, 1, 2, 3] [4] rfl rfl (by decide) (by decide) (xt_lead1 hown htab (by decide) (by decide) (by decide) (hg _ mw_1072) (hN.use nw_1082)) (fun u9 x9 H locs hw hP hD hS => ?_)
  have hP : va_P D vC [(ou, .inl (kA 2, 1, .inr (.inl o))), (h0, .inr (11, [.ref (r 0), .ref (r 1), .ref (r 2), .ref (r 3), .ref (r 4), .ref (r 5), .ref (r 6), .ref (r 7), .ref (r 8), .ref (r 9), .ref (r 10), .ref (r 11), .ref (r 12), .ref (r 13), .ref (r 14), .int fp, .int 0])), (r 14, .inr (10, [.ref (g 0), .ref (g 1), .ref (g 2), .ref (g 3), .ref (g 4), .int (nI L), .int tu, .ref (g 5), .ref (g 6)])), (g 0, .inl (kA 1, 40, .inl f0)), (g 4, .inl (kA 1, 40, .inl f4))] H := hP
  have hD : va_D A [(ou, .inl (kA 2, 1, .inr (.inl o))), (h0, .inr (11, [.ref (r 0), .ref (r 1), .ref (r 2), .ref (r 3), .ref (r 4), .ref (r 5), .ref (r 6), .ref (r 7), .ref (r 8), .ref (r 9), .ref (r 10), .ref (r 11), .ref (r 12), .ref (r 13), .ref (r 14), .int fp, .int 0])), (r 14, .inr (10, [.ref (g 0), .ref (g 1), .ref (g 2), .ref (g 3), .ref (g 4), .int (nI L), .int tu, .ref (g 5), .ref (g 6)])), (g 0, .inl (kA 1, 40, .inl f0)), (g 4, .inl (kA 1, 40, .inl f4))] := hD
  refine W.widen (k := 1) (n := 6) (Nat.le_of_ble_eq_true rfl) (Nat.le_of_ble_eq_true rfl) ?_
  refine lv_astore_n (lv' := [(3, .ref x9), (0, .ref h0), (1, .int x), (2, .ref ou)]) hx hb d_La_compact_12 rfl hl (by decide) rfl (fun ls hl => ?_)
  refine lv_iconst (v := 1) hx hb d_La_compact_13 (by decide) ?_
  have hP : va_P D vC [(h0, .inr (11, [.ref (r 0), .ref (r 1), .ref (r 2), .ref (r 3), .ref (r 4), .ref (r 5), .ref (r 6), .ref (r 7), .ref (r 8), .ref (r 9), .ref (r 10), .ref (r 11), .ref (r 12), .ref (r 13), .ref (r 14), .int fp, .int 0])), (r 14, .inr (10, [.ref (g 0), .ref (g 1), .ref (g 2), .ref (g 3), .ref (g 4), .int (nI L), .int tu, .ref (g 5), .ref (g 6)])), (g 0, .inl (kA 1, 40, .inl f0)), (g 4, .inl (kA 1, 40, .inl f4)), (ou, .inl (kA 2, 1, .inr (.inl o)))] H := hP.sub [1, 2, 3, 4, 0] rfl
  have hD : va_D A [(h0, .inr (11, [.ref (r 0), .ref (r 1), .ref (r 2), .ref (r 3), .ref (r 4), .ref (r 5), .ref (r 6), .ref (r 7), .ref (r 8), .ref (r 9), .ref (r 10), .ref (r 11), .ref (r 12), .ref (r 13), .ref (r 14), .int fp, .int 0])), (r 14, .inr (10, [.ref (g 0), .ref (g 1), .ref (g 2), .ref (g 3), .ref (g 4), .int (nI L), .int tu, .ref (g 5), .ref (g 6)])), (g 0, .inl (kA 1, 40, .inl f0)), (g 4, .inl (kA 1, 40, .inl f4)), (ou, .inl (kA 2, 1, .inr (.inl o)))] := hD.sub [1, 2, 3, 4, 0] (by decide) rfl
  exact W.iret (v := 1) hx hb hr (fun t ht hW => ⟨⟨1, (), rfl, rfl, by rw [ht]; exact hP, va_K.moved hW.alike hK, hD⟩, hS.F ht⟩) hS.2.2 d_La_compact_14

set_option maxHeartbeats 4000000 in
set_option maxRecDepth 100000 in
/-- the law's file: refused -/
theorem n_La_file (l : Launch) (D : va_G) (kA : Nat → ClassId) (kS : Nat → Nat) (sz : Nat) (hfl : l.flags = flags0) (ou : Nat) (o : Nat → Int64) (h0 : Nat) (r g : Nat → Nat) (fp ln tu k x : Int32) (h1 : k < 0 ∨ ¬ k < ln) : Met l y_La_file w_La_file { frames := 7, cells := 1, slots := 6, locals := 104 } (xPre D vC (tK kA) kS [.ref h0, .int k, .int x, .ref ou] ([oLk h0 r fp 0, oFl (r 14) g ln tu] ++ [(ou, .inl (kA 2, 1, .inr (.inl o)))]) sz) (va_Qi (fun (x : Int32) (_ : Unit) => x = 1) (xB D vC (tK kA) (fun _ => [oLk h0 r fp 0, oFl (r 14) g ln tu] ++ [(ou, .inl (kA 2, 1, .inr (.inl o)))]) (va_A ([oLk h0 r fp 0, oFl (r 14) g ln tu] ++ [(ou, .inl (kA 2, 1, .inr (.inl o)))]) sz)) (va_A ([oLk h0 r fp 0, oFl (r 14) g ln tu] ++ [(ou, .inl (kA 2, 1, .inr (.inl o)))]) sz)) 1 6 (va_A ([oLk h0 r fp 0, oFl (r 14) g ln tu] ++ [(ou, .inl (kA 2, 1, .inr (.inl o)))]) sz) := by
  refine va_MetW (cc := b_La_file) (maxL := 5) (ret := (some .int)) (hh := [(0, 10, 13, 25), (0, 10, 17, 19)]) (by decide) rfl ?_
  intro p e s m args below meth c s₁ B hml hv
  obtain ⟨rfl, hsz, hP, hK, hD0, hN, hC⟩ := hv
  have hx := B.exec
  have hb := B.bytes
  have hr := B.returns
  have hts := atoms_spec (ws := w_La_file) B.pre
  have hg : ∀ w ∈ gW, w.before _ s = true := fun w h => hts w (List.mem_cons_of_mem _ h)
  have hown : s.vm.findClass R_La = some m.cls := findClass_of_methodNamed B.named
  have hlocks := B.notSynchronized
  have htab := xt_table B (hts _ List.mem_cons_self)
  subst hsz
  have hD := hD0.self (sz := s.heap.size)
  generalize hAe : va_A ([oLk h0 r fp 0, oFl (r 14) g ln tu] ++ [(ou, .inl (kA 2, 1, .inr (.inl o)))]) s.heap.size = A at hD hC ⊢
  have hA : ∀ q : Nat, s.heap.size ≤ q → A q := fun q h => by rw [← hAe]; exact Or.inr h
  have hS : va_S A s.heap s.heap [] := va_S.rf
  have hP : va_P D vC [(h0, .inr (11, [.ref (r 0), .ref (r 1), .ref (r 2), .ref (r 3), .ref (r 4), .ref (r 5), .ref (r 6), .ref (r 7), .ref (r 8), .ref (r 9), .ref (r 10), .ref (r 11), .ref (r 12), .ref (r 13), .ref (r 14), .int fp, .int 0])), (r 14, .inr (10, [.ref (g 0), .ref (g 1), .ref (g 2), .ref (g 3), .ref (g 4), .int ln, .int tu, .ref (g 5), .ref (g 6)])), (ou, .inl (kA 2, 1, .inr (.inl o)))] s.heap := hP
  have hD : va_D A [(h0, .inr (11, [.ref (r 0), .ref (r 1), .ref (r 2), .ref (r 3), .ref (r 4), .ref (r 5), .ref (r 6), .ref (r 7), .ref (r 8), .ref (r 9), .ref (r 10), .ref (r 11), .ref (r 12), .ref (r 13), .ref (r 14), .int fp, .int 0])), (r 14, .inr (10, [.ref (g 0), .ref (g 1), .ref (g 2), .ref (g 3), .ref (g 4), .int ln, .int tu, .ref (g 5), .ref (g 6)])), (ou, .inl (kA 2, 1, .inr (.inl o)))] := hD
  have hl := lv_entry ([.ref h0, .int k, .int x, .ref ou]) (n := 5) (Nat.le_of_ble_eq_true rfl)
  rw [lg_entry_eq]
  generalize (lg_sl ([.ref h0, .int k, .int x, .ref ou]) ++ List.replicate (5 - (lg_sl ([.ref h0, .int k, .int x, .ref ou])).length) Slot.unset).toArray = ls at hl ⊢
  have hl : lv_has ls 5 [(0, .ref h0), (1, .int k), (2, .int x), (3, .ref ou)] := hl
  refine lv_aload_n hx hb d_La_file_0 rfl (lv_at hl 3 rfl) ?_
  refine lv_iconst (v := 0) hx hb d_La_file_1 (by decide) ?_
  refine lv_aload_n hx hb d_La_file_2 rfl (lv_at hl 0 rfl) ?_
  refine lv_iload_n hx hb d_La_file_3 rfl (lv_at hl 1 rfl) ?_
  refine lv_iload_n hx hb d_La_file_4 rfl (lv_at hl 2 rfl) ?_
  refine xc_t (wr := [(ou, .inl (kA 2, 1, .inr (.inl o)))]) (xt_runV (As := [.int k, .int x]) (rest := [.int 0, .ref ou]) ⟨hx, hb, hml, hown, hg⟩ (t_Lk_file l hfl D kA kS s.heap.size h0 r g fp ln tu k x h1) (cwV 2 hg (xg_V mw_1536 mw_1537 mw_1538 mw_1 mw_1539) rfl rfl rfl (by decide +kernel) ⟨Nat.le_of_ble_eq_true rfl, Nat.le_of_ble_eq_true rfl⟩) (xc_preV hK hN hC hP hD hS hA [0, 1] (by decide) rfl 0 rfl rfl) rfl rfl hl.1 rfl (lv_room (Nat.le_of_ble_eq_true rfl)) d_La_file_5 ⟨Nat.le_of_ble_eq_true rfl, Nat.le_of_ble_eq_true rfl⟩) hP hD hS hA [0, 1] [2] rfl rfl (by decide) (by decide) (xt_lead2a hown htab (by decide) (by decide) (by decide) (hg _ mw_1072) (hN.use nw_1082)) (fun u9 x9 H locs hw hP hD hS => ?_)
  have hP : va_P D vC [(ou, .inl (kA 2, 1, .inr (.inl o))), (h0, .inr (11, [.ref (r 0), .ref (r 1), .ref (r 2), .ref (r 3), .ref (r 4), .ref (r 5), .ref (r 6), .ref (r 7), .ref (r 8), .ref (r 9), .ref (r 10), .ref (r 11), .ref (r 12), .ref (r 13), .ref (r 14), .int fp, .int 0])), (r 14, .inr (10, [.ref (g 0), .ref (g 1), .ref (g 2), .ref (g 3), .ref (g 4), .int ln, .int tu, .ref (g 5), .ref (g 6)]))] H := hP
  have hD : va_D A [(ou, .inl (kA 2, 1, .inr (.inl o))), (h0, .inr (11, [.ref (r 0), .ref (r 1), .ref (r 2), .ref (r 3), .ref (r 4), .ref (r 5), .ref (r 6), .ref (r 7), .ref (r 8), .ref (r 9), .ref (r 10), .ref (r 11), .ref (r 12), .ref (r 13), .ref (r 14), .int fp, .int 0])), (r 14, .inr (10, [.ref (g 0), .ref (g 1), .ref (g 2), .ref (g 3), .ref (g 4), .int ln, .int tu, .ref (g 5), .ref (g 6)]))] := hD
  refine W.widen (k := 1) (n := 6) (Nat.le_of_ble_eq_true rfl) (Nat.le_of_ble_eq_true rfl) ?_
  refine lv_astore (lv' := [(4, .ref x9), (0, .ref h0), (1, .int k), (2, .int x), (3, .ref ou)]) hx hb d_La_file_13 hl (by decide) rfl (fun ls hl => ?_)
  refine lv_iconst (v := 1) hx hb d_La_file_15 (by decide) ?_
  have hP : va_P D vC [(h0, .inr (11, [.ref (r 0), .ref (r 1), .ref (r 2), .ref (r 3), .ref (r 4), .ref (r 5), .ref (r 6), .ref (r 7), .ref (r 8), .ref (r 9), .ref (r 10), .ref (r 11), .ref (r 12), .ref (r 13), .ref (r 14), .int fp, .int 0])), (r 14, .inr (10, [.ref (g 0), .ref (g 1), .ref (g 2), .ref (g 3), .ref (g 4), .int ln, .int tu, .ref (g 5), .ref (g 6)])), (ou, .inl (kA 2, 1, .inr (.inl o)))] H := hP.sub [1, 2, 0] rfl
  have hD : va_D A [(h0, .inr (11, [.ref (r 0), .ref (r 1), .ref (r 2), .ref (r 3), .ref (r 4), .ref (r 5), .ref (r 6), .ref (r 7), .ref (r 8), .ref (r 9), .ref (r 10), .ref (r 11), .ref (r 12), .ref (r 13), .ref (r 14), .int fp, .int 0])), (r 14, .inr (10, [.ref (g 0), .ref (g 1), .ref (g 2), .ref (g 3), .ref (g 4), .int ln, .int tu, .ref (g 5), .ref (g 6)])), (ou, .inl (kA 2, 1, .inr (.inl o)))] := hD.sub [1, 2, 0] (by decide) rfl
  exact W.iret (v := 1) hx hb hr (fun t ht hW => ⟨⟨1, (), rfl, rfl, by rw [ht]; exact hP, va_K.moved hW.alike hK, hD⟩, hS.F ht⟩) hS.2.2 d_La_file_16

set_option maxHeartbeats 4000000 in
set_option maxRecDepth 100000 in
/-- the law's clear -/
theorem c_La_clear0 (l : Launch) (D : va_G) (kA : Nat → ClassId) (kS : Nat → Nat) (sz : Nat) (ou : Nat) (o : Nat → Int64) (h0 L : Nat) (r g : Nat → Nat) (fp tu : Int32) (f0 f4 : Nat → Int32) (hL : L ≤ 40) (k : Nat) (hk : k < 4) (h0s : fl_sum f0 f4 (nI k) L = 0) : Met l y_La_clear w_La_clear { frames := 4, cells := 0, slots := 0, locals := 90 } (xPre D vC (tK kA) kS [.ref h0, .int (nI k), .ref ou] ((oLk h0 r fp 0 :: wFl (r 14) g kA (nI L) tu f0 f4) ++ [(ou, .inl (kA 2, 1, .inr (.inl o)))]) sz) (va_Qi (fun (x : Int32) (_ : Unit) => x = 0) (xB D vC (tK kA) (fun _ => (oLk h0 r fp 0 :: wFl (r 14) g kA (nI L) tu f0 f4) ++ [(ou, .inl (kA 2, 1, .inr (.inl (vp_updL o 0 ((0 : Int32).toInt64)))))]) (va_A ((oLk h0 r fp 0 :: wFl (r 14) g kA (nI L) tu f0 f4) ++ [(ou, .inl (kA 2, 1, .inr (.inl o)))]) sz)) (va_A ((oLk h0 r fp 0 :: wFl (r 14) g kA (nI L) tu f0 f4) ++ [(ou, .inl (kA 2, 1, .inr (.inl o)))]) sz)) 0 0 (va_A ((oLk h0 r fp 0 :: wFl (r 14) g kA (nI L) tu f0 f4) ++ [(ou, .inl (kA 2, 1, .inr (.inl o)))]) sz) := by
  refine va_MetW (cc := b_La_clear) (maxL := 4) (ret := (some .int)) (hh := [(0, 9, 12, 25)]) (by decide) rfl ?_
  intro p e s m args below meth c s₁ B hml hv
  obtain ⟨rfl, hsz, hP, hK, hD0, hN, hC⟩ := hv
  have hx := B.exec
  have hb := B.bytes
  have hr := B.returns
  have hts := atoms_spec (ws := w_La_clear) B.pre
  have hg : ∀ w ∈ gW, w.before _ s = true := fun w h => hts w (List.mem_cons_of_mem _ h)
  have hown : s.vm.findClass R_La = some m.cls := findClass_of_methodNamed B.named
  have hlocks := B.notSynchronized
  have htab := xt_table B (hts _ List.mem_cons_self)
  subst hsz
  have hD := hD0.self (sz := s.heap.size)
  generalize hAe : va_A ((oLk h0 r fp 0 :: wFl (r 14) g kA (nI L) tu f0 f4) ++ [(ou, .inl (kA 2, 1, .inr (.inl o)))]) s.heap.size = A at hD hC ⊢
  have hA : ∀ q : Nat, s.heap.size ≤ q → A q := fun q h => by rw [← hAe]; exact Or.inr h
  have hS : va_S A s.heap s.heap [] := va_S.rf
  have hP : va_P D vC [(h0, .inr (11, [.ref (r 0), .ref (r 1), .ref (r 2), .ref (r 3), .ref (r 4), .ref (r 5), .ref (r 6), .ref (r 7), .ref (r 8), .ref (r 9), .ref (r 10), .ref (r 11), .ref (r 12), .ref (r 13), .ref (r 14), .int fp, .int 0])), (r 14, .inr (10, [.ref (g 0), .ref (g 1), .ref (g 2), .ref (g 3), .ref (g 4), .int (nI L), .int tu, .ref (g 5), .ref (g 6)])), (g 0, .inl (kA 1, 40, .inl f0)), (g 4, .inl (kA 1, 40, .inl f4)), (ou, .inl (kA 2, 1, .inr (.inl o)))] s.heap := hP
  have hD : va_D A [(h0, .inr (11, [.ref (r 0), .ref (r 1), .ref (r 2), .ref (r 3), .ref (r 4), .ref (r 5), .ref (r 6), .ref (r 7), .ref (r 8), .ref (r 9), .ref (r 10), .ref (r 11), .ref (r 12), .ref (r 13), .ref (r 14), .int fp, .int 0])), (r 14, .inr (10, [.ref (g 0), .ref (g 1), .ref (g 2), .ref (g 3), .ref (g 4), .int (nI L), .int tu, .ref (g 5), .ref (g 6)])), (g 0, .inl (kA 1, 40, .inl f0)), (g 4, .inl (kA 1, 40, .inl f4)), (ou, .inl (kA 2, 1, .inr (.inl o)))] := hD
  have hl := lv_entry ([.ref h0, .int (nI k), .ref ou]) (n := 4) (Nat.le_of_ble_eq_true rfl)
  rw [lg_entry_eq]
  generalize (lg_sl ([.ref h0, .int (nI k), .ref ou]) ++ List.replicate (4 - (lg_sl ([.ref h0, .int (nI k), .ref ou])).length) Slot.unset).toArray = ls at hl ⊢
  have hl : lv_has ls 4 [(0, .ref h0), (1, .int (nI k)), (2, .ref ou)] := hl
  refine lv_aload_n hx hb d_La_clear_0 rfl (lv_at hl 2 rfl) ?_
  refine lv_iconst (v := nI 0) hx hb d_La_clear_1 (by decide) ?_
  refine lv_aload_n hx hb d_La_clear_2 rfl (lv_at hl 0 rfl) ?_
  refine lv_iload_n hx hb d_La_clear_3 rfl (lv_at hl 1 rfl) ?_
  refine xc_pi (va_runV (As := [.int (nI k)]) (rest := [.int (nI 0), .ref ou]) ⟨hx, hb, hml, hown, hg⟩ (p_Lk_clear0 l D kA kS s.heap.size h0 L r g fp tu f0 f4 hL k hk h0s) (cwV 1 hg (xg_V mw_1471 mw_1472 mw_1473 mw_1 mw_1474) rfl rfl rfl (by decide +kernel) ⟨Nat.le_of_ble_eq_true rfl, Nat.le_of_ble_eq_true rfl⟩) (xc_preV hK hN hC hP hD hS hA [0, 1, 2, 3] (by decide) rfl 0 rfl rfl) rfl rfl hl.1 rfl (lv_room (Nat.le_of_ble_eq_true rfl)) d_La_clear_4 ⟨Nat.le_of_ble_eq_true rfl, Nat.le_of_ble_eq_true rfl⟩) (fun r_4 hw => ?_)
  subst hw
  refine lv_i2l hx hb d_La_clear_7 rfl ?_
  refine lv_topl (fun x_7 ex_7 => ?_)
  replace ex_7 : x_7 = (0 : Int32).toInt64 := ex_7.trans (rfl)
  subst ex_7
  refine xb_last hx hb hK hP hD hS 4 2 rfl rfl (by decide) (by decide) d_La_clear_8 (fun H locs hP hD hS => ?_)
  have hP : va_P D vC [(h0, .inr (11, [.ref (r 0), .ref (r 1), .ref (r 2), .ref (r 3), .ref (r 4), .ref (r 5), .ref (r 6), .ref (r 7), .ref (r 8), .ref (r 9), .ref (r 10), .ref (r 11), .ref (r 12), .ref (r 13), .ref (r 14), .int fp, .int 0])), (r 14, .inr (10, [.ref (g 0), .ref (g 1), .ref (g 2), .ref (g 3), .ref (g 4), .int (nI L), .int tu, .ref (g 5), .ref (g 6)])), (g 0, .inl (kA 1, 40, .inl f0)), (g 4, .inl (kA 1, 40, .inl f4)), (ou, .inl (kA 2, 1, .inr (.inl (vp_updL o 0 ((0 : Int32).toInt64)))))] H := hP
  have hD : va_D A [(h0, .inr (11, [.ref (r 0), .ref (r 1), .ref (r 2), .ref (r 3), .ref (r 4), .ref (r 5), .ref (r 6), .ref (r 7), .ref (r 8), .ref (r 9), .ref (r 10), .ref (r 11), .ref (r 12), .ref (r 13), .ref (r 14), .int fp, .int 0])), (r 14, .inr (10, [.ref (g 0), .ref (g 1), .ref (g 2), .ref (g 3), .ref (g 4), .int (nI L), .int tu, .ref (g 5), .ref (g 6)])), (g 0, .inl (kA 1, 40, .inl f0)), (g 4, .inl (kA 1, 40, .inl f4)), (ou, .inl (kA 2, 1, .inr (.inl (vp_updL o 0 ((0 : Int32).toInt64)))))] := hD
  refine lv_goto (tgt := 15) hx hb d_La_clear_9 (by decide) ?_
  refine lv_iconst (v := 0) hx hb d_La_clear_15 (by decide) ?_
  exact W.iret (v := 0) hx hb hr (fun t ht hW => ⟨⟨0, (), rfl, rfl, by rw [ht]; exact hP, va_K.moved hW.alike hK, hD⟩, hS.F ht⟩) hS.2.2 d_La_clear_16

set_option maxHeartbeats 4000000 in
set_option maxRecDepth 100000 in
/-- the law's compact -/
theorem c_La_compact0 (l : Launch) (D : va_G) (kA : Nat → ClassId) (kS : Nat → Nat) (sz : Nat) (ou : Nat) (o : Nat → Int64) (h0 : Nat) (r g : Nat → Nat) (fp tu : Int32) (f0 f4 : Nat → Int32) (k : Nat) (hk : k < 4) : Met l y_La_compact w_La_compact { frames := 2, cells := 0, slots := 0, locals := 43 } (xPre D vC (tK kA) kS [.ref h0, .int (nI k), .ref ou] ((oLk h0 r fp 0 :: wFl (r 14) g kA (nI 0) tu f0 f4) ++ [(ou, .inl (kA 2, 1, .inr (.inl o)))]) sz) (va_Qi (fun (x : Int32) (_ : Unit) => x = 0) (xB D vC (tK kA) (fun _ => (oLk h0 r fp 0 :: wFl (r 14) g kA (nI 0) tu f0 f4) ++ [(ou, .inl (kA 2, 1, .inr (.inl (vp_updL o 0 ((0 : Int32).toInt64)))))]) (va_A ((oLk h0 r fp 0 :: wFl (r 14) g kA (nI 0) tu f0 f4) ++ [(ou, .inl (kA 2, 1, .inr (.inl o)))]) sz)) (va_A ((oLk h0 r fp 0 :: wFl (r 14) g kA (nI 0) tu f0 f4) ++ [(ou, .inl (kA 2, 1, .inr (.inl o)))]) sz)) 0 0 (va_A ((oLk h0 r fp 0 :: wFl (r 14) g kA (nI 0) tu f0 f4) ++ [(ou, .inl (kA 2, 1, .inr (.inl o)))]) sz) := by
  refine va_MetW (cc := b_La_compact) (maxL := 4) (ret := (some .int)) (hh := [(0, 9, 12, 25)]) (by decide) rfl ?_
  intro p e s m args below meth c s₁ B hml hv
  obtain ⟨rfl, hsz, hP, hK, hD0, hN, hC⟩ := hv
  have hx := B.exec
  have hb := B.bytes
  have hr := B.returns
  have hts := atoms_spec (ws := w_La_compact) B.pre
  have hg : ∀ w ∈ gW, w.before _ s = true := fun w h => hts w (List.mem_cons_of_mem _ h)
  have hown : s.vm.findClass R_La = some m.cls := findClass_of_methodNamed B.named
  have hlocks := B.notSynchronized
  have htab := xt_table B (hts _ List.mem_cons_self)
  subst hsz
  have hD := hD0.self (sz := s.heap.size)
  generalize hAe : va_A ((oLk h0 r fp 0 :: wFl (r 14) g kA (nI 0) tu f0 f4) ++ [(ou, .inl (kA 2, 1, .inr (.inl o)))]) s.heap.size = A at hD hC ⊢
  have hA : ∀ q : Nat, s.heap.size ≤ q → A q := fun q h => by rw [← hAe]; exact Or.inr h
  have hS : va_S A s.heap s.heap [] := va_S.rf
  have hP : va_P D vC [(h0, .inr (11, [.ref (r 0), .ref (r 1), .ref (r 2), .ref (r 3), .ref (r 4), .ref (r 5), .ref (r 6), .ref (r 7), .ref (r 8), .ref (r 9), .ref (r 10), .ref (r 11), .ref (r 12), .ref (r 13), .ref (r 14), .int fp, .int 0])), (r 14, .inr (10, [.ref (g 0), .ref (g 1), .ref (g 2), .ref (g 3), .ref (g 4), .int (nI 0), .int tu, .ref (g 5), .ref (g 6)])), (g 0, .inl (kA 1, 40, .inl f0)), (g 4, .inl (kA 1, 40, .inl f4)), (ou, .inl (kA 2, 1, .inr (.inl o)))] s.heap := hP
  have hD : va_D A [(h0, .inr (11, [.ref (r 0), .ref (r 1), .ref (r 2), .ref (r 3), .ref (r 4), .ref (r 5), .ref (r 6), .ref (r 7), .ref (r 8), .ref (r 9), .ref (r 10), .ref (r 11), .ref (r 12), .ref (r 13), .ref (r 14), .int fp, .int 0])), (r 14, .inr (10, [.ref (g 0), .ref (g 1), .ref (g 2), .ref (g 3), .ref (g 4), .int (nI 0), .int tu, .ref (g 5), .ref (g 6)])), (g 0, .inl (kA 1, 40, .inl f0)), (g 4, .inl (kA 1, 40, .inl f4)), (ou, .inl (kA 2, 1, .inr (.inl o)))] := hD
  have hl := lv_entry ([.ref h0, .int (nI k), .ref ou]) (n := 4) (Nat.le_of_ble_eq_true rfl)
  rw [lg_entry_eq]
  generalize (lg_sl ([.ref h0, .int (nI k), .ref ou]) ++ List.replicate (4 - (lg_sl ([.ref h0, .int (nI k), .ref ou])).length) Slot.unset).toArray = ls at hl ⊢
  have hl : lv_has ls 4 [(0, .ref h0), (1, .int (nI k)), (2, .ref ou)] := hl
  refine lv_aload_n hx hb d_La_compact_0 rfl (lv_at hl 2 rfl) ?_
  refine lv_iconst (v := nI 0) hx hb d_La_compact_1 (by decide) ?_
  refine lv_aload_n hx hb d_La_compact_2 rfl (lv_at hl 0 rfl) ?_
  refine lv_iload_n hx hb d_La_compact_3 rfl (lv_at hl 1 rfl) ?_
  refine xc_pi (va_runV (As := [.int (nI k)]) (rest := [.int (nI 0), .ref ou]) ⟨hx, hb, hml, hown, hg⟩ (p_Lk_compact0 l D kA kS s.heap.size h0 r g fp tu f0 f4 k hk) (cwV 1 hg (xg_V mw_1427 mw_1428 mw_1429 mw_1 mw_1430) rfl rfl rfl (by decide +kernel) ⟨Nat.le_of_ble_eq_true rfl, Nat.le_of_ble_eq_true rfl⟩) (xc_preV hK hN hC hP hD hS hA [0, 1, 2, 3] (by decide) rfl 0 rfl rfl) rfl rfl hl.1 rfl (lv_room (Nat.le_of_ble_eq_true rfl)) d_La_compact_4 ⟨Nat.le_of_ble_eq_true rfl, Nat.le_of_ble_eq_true rfl⟩) (fun r_4 hw => ?_)
  subst hw
  refine lv_i2l hx hb d_La_compact_7 rfl ?_
  refine lv_topl (fun x_7 ex_7 => ?_)
  replace ex_7 : x_7 = (0 : Int32).toInt64 := ex_7.trans (rfl)
  subst ex_7
  refine xb_last hx hb hK hP hD hS 4 2 rfl rfl (by decide) (by decide) d_La_compact_8 (fun H locs hP hD hS => ?_)
  have hP : va_P D vC [(h0, .inr (11, [.ref (r 0), .ref (r 1), .ref (r 2), .ref (r 3), .ref (r 4), .ref (r 5), .ref (r 6), .ref (r 7), .ref (r 8), .ref (r 9), .ref (r 10), .ref (r 11), .ref (r 12), .ref (r 13), .ref (r 14), .int fp, .int 0])), (r 14, .inr (10, [.ref (g 0), .ref (g 1), .ref (g 2), .ref (g 3), .ref (g 4), .int (nI 0), .int tu, .ref (g 5), .ref (g 6)])), (g 0, .inl (kA 1, 40, .inl f0)), (g 4, .inl (kA 1, 40, .inl f4)), (ou, .inl (kA 2, 1, .inr (.inl (vp_updL o 0 ((0 : Int32).toInt64)))))] H := hP
  have hD : va_D A [(h0, .inr (11, [.ref (r 0), .ref (r 1), .ref (r 2), .ref (r 3), .ref (r 4), .ref (r 5), .ref (r 6), .ref (r 7), .ref (r 8), .ref (r 9), .ref (r 10), .ref (r 11), .ref (r 12), .ref (r 13), .ref (r 14), .int fp, .int 0])), (r 14, .inr (10, [.ref (g 0), .ref (g 1), .ref (g 2), .ref (g 3), .ref (g 4), .int (nI 0), .int tu, .ref (g 5), .ref (g 6)])), (g 0, .inl (kA 1, 40, .inl f0)), (g 4, .inl (kA 1, 40, .inl f4)), (ou, .inl (kA 2, 1, .inr (.inl (vp_updL o 0 ((0 : Int32).toInt64)))))] := hD
  refine lv_goto (tgt := 15) hx hb d_La_compact_9 (by decide) ?_
  refine lv_iconst (v := 0) hx hb d_La_compact_15 (by decide) ?_
  exact W.iret (v := 0) hx hb hr (fun t ht hW => ⟨⟨0, (), rfl, rfl, by rw [ht]; exact hP, va_K.moved hW.alike hK, hD⟩, hS.F ht⟩) hS.2.2 d_La_compact_16
