/-! the law's own methods -/
set_option maxHeartbeats 4000000 in
set_option maxRecDepth 100000 in
/-- the law's end: refused -/
theorem n_La_end (l : Launch) (D : va_G) (kA : Nat → ClassId) (kS : Nat → Nat) (sz : Nat) (hfl : l.flags = flags0) (h0 t1 n : Nat) (r : Nat → Nat) (fp dn : Int32) (x : Int32) (hx1 : x < 0 ∨ ¬ x ≤ nI n) : Met l y_La_end w_La_end { frames := 7, cells := 1, slots := 6, locals := 103 } (xPre D vC (tK kA) kS [.ref h0, .int x] ([oLk h0 r fp dn, (r 0, .inr (0, [.ref t1, .int (nI n)]))]) sz) (va_Qi (fun (x : Int32) (_ : Unit) => x = 1) (xB D vC (tK kA) (fun _ => [oLk h0 r fp dn, (r 0, .inr (0, [.ref t1, .int (nI n)]))]) (va_A ([oLk h0 r fp dn, (r 0, .inr (0, [.ref t1, .int (nI n)]))]) sz)) (va_A ([oLk h0 r fp dn, (r 0, .inr (0, [.ref t1, .int (nI n)]))]) sz)) 1 6 (va_A ([oLk h0 r fp dn, (r 0, .inr (0, [.ref t1, .int (nI n)]))]) sz) := by
  refine va_MetW (cc := b_La_end) (maxL := 3) (ret := (some .int)) (hh := [(0, 5, 8, 19)]) (by decide) rfl ?_
  intro p e s m args below meth c s₁ B hml hv
  obtain ⟨rfl, hsz, hP, hK, hD0, hN, hC⟩ := hv
  have hx := B.exec
  have hb := B.bytes
  have hr := B.returns
  have hts := atoms_spec (ws := w_La_end) B.pre
  have hg : ∀ w ∈ gW, w.before _ s = true := fun w h => hts w (List.mem_cons_of_mem _ h)
  have hown : s.vm.findClass R_La = some m.cls := findClass_of_methodNamed B.named
  have hlocks := B.notSynchronized
  have htab := xt_table B (hts _ List.mem_cons_self)
  subst hsz
  have hD := hD0.self (sz := s.heap.size)
  generalize hAe : va_A ([oLk h0 r fp dn, (r 0, .inr (0, [.ref t1, .int (nI n)]))]) s.heap.size = A at hD hC ⊢
  have hA : ∀ q : Nat, s.heap.size ≤ q → A q := fun q h => by rw [← hAe]; exact Or.inr h
  have hS : va_S A s.heap s.heap [] := va_S.rf
  have hP : va_P D vC [(h0, .inr (11, [.ref (r 0), .ref (r 1), .ref (r 2), .ref (r 3), .ref (r 4), .ref (r 5), .ref (r 6), .ref (r 7), .ref (r 8), .ref (r 9), .ref (r 10), .ref (r 11), .ref (r 12), .ref (r 13), .ref (r 14), .int fp, .int dn])), (r 0, .inr (0, [.ref t1, .int (nI n)]))] s.heap := hP
  have hD : va_D A [(h0, .inr (11, [.ref (r 0), .ref (r 1), .ref (r 2), .ref (r 3), .ref (r 4), .ref (r 5), .ref (r 6), .ref (r 7), .ref (r 8), .ref (r 9), .ref (r 10), .ref (r 11), .ref (r 12), .ref (r 13), .ref (r 14), .int fp, .int dn])), (r 0, .inr (0, [.ref t1, .int (nI n)]))] := hD
  have hl := lv_entry ([.ref h0, .int x]) (n := 3) (Nat.le_of_ble_eq_true rfl)
  rw [lg_entry_eq]
  generalize (lg_sl ([.ref h0, .int x]) ++ List.replicate (3 - (lg_sl ([.ref h0, .int x])).length) Slot.unset).toArray = ls at hl ⊢
  have hl : lv_has ls 3 [(0, .ref h0), (1, .int x)] := hl
  refine lv_aload_n hx hb d_La_end_0 rfl (lv_at hl 0 rfl) ?_
  refine lv_iload_n hx hb d_La_end_1 rfl (lv_at hl 1 rfl) ?_
  refine xc_t (wr := []) (xt_runV (As := [.int x]) (rest := []) ⟨hx, hb, hml, hown, hg⟩ (t_Lk_end l hfl D kA kS s.heap.size h0 t1 n r fp dn x hx1) (cwV 1 hg (xg_V mw_1049 mw_1050 mw_1051 mw_1 mw_1052) rfl rfl rfl (by decide +kernel) ⟨Nat.le_of_ble_eq_true rfl, Nat.le_of_ble_eq_true rfl⟩) (xc_preV hK hN hC hP hD hS hA [0, 1] (by decide) rfl 0 rfl rfl) rfl rfl hl.1 rfl (lv_room (Nat.le_of_ble_eq_true rfl)) d_La_end_2 ⟨Nat.le_of_ble_eq_true rfl, Nat.le_of_ble_eq_true rfl⟩) hP hD hS hA [0, 1] [] rfl rfl (by decide) (by decide) (xt_lead1 hown htab (by decide) (by decide) (by decide) (hg _ mw_1048) (hN.use nw_1055)) (fun u9 x9 H locs hw hP hD hS => ?_)
  have hP : va_P D vC [(h0, .inr (11, [.ref (r 0), .ref (r 1), .ref (r 2), .ref (r 3), .ref (r 4), .ref (r 5), .ref (r 6), .ref (r 7), .ref (r 8), .ref (r 9), .ref (r 10), .ref (r 11), .ref (r 12), .ref (r 13), .ref (r 14), .int fp, .int dn])), (r 0, .inr (0, [.ref t1, .int (nI n)]))] H := hP
  have hD : va_D A [(h0, .inr (11, [.ref (r 0), .ref (r 1), .ref (r 2), .ref (r 3), .ref (r 4), .ref (r 5), .ref (r 6), .ref (r 7), .ref (r 8), .ref (r 9), .ref (r 10), .ref (r 11), .ref (r 12), .ref (r 13), .ref (r 14), .int fp, .int dn])), (r 0, .inr (0, [.ref t1, .int (nI n)]))] := hD
  refine W.widen (k := 1) (n := 6) (Nat.le_of_ble_eq_true rfl) (Nat.le_of_ble_eq_true rfl) ?_
  refine lv_astore_n (lv' := [(2, .ref x9), (0, .ref h0), (1, .int x)]) hx hb d_La_end_8 rfl hl (by decide) rfl (fun ls hl => ?_)
  refine lv_iconst (v := 1) hx hb d_La_end_9 (by decide) ?_
  exact W.iret (v := 1) hx hb hr (fun t ht hW => ⟨⟨1, (), rfl, rfl, by rw [ht]; exact hP, va_K.moved hW.alike hK, hD⟩, hS.F ht⟩) hS.2.2 d_La_end_10

set_option maxHeartbeats 4000000 in
set_option maxRecDepth 100000 in
/-- the law's end -/
theorem c_La_end (l : Launch) (D : va_G) (kA : Nat → ClassId) (kS : Nat → Nat) (sz : Nat) (h0 t1 n : Nat) (r : Nat → Nat) (fp dn : Int32) (k : Nat) (hk : k ≤ n) (hn : n < 2 ^ 31) : Met l y_La_end w_La_end { frames := 1, cells := 0, slots := 0, locals := 21 } (xPre D vC (tK kA) kS [.ref h0, .int (nI k)] ([oLk h0 r fp dn, (r 0, .inr (0, [.ref t1, .int (nI n)]))]) sz) (va_Qi (fun (x : Int32) (_ : Unit) => x = 0) (xB D vC (tK kA) (fun _ => [oLk h0 r fp dn, (r 0, .inr (0, [.ref t1, .int (nI k)]))]) (va_A ([oLk h0 r fp dn, (r 0, .inr (0, [.ref t1, .int (nI n)]))]) sz)) (va_A ([oLk h0 r fp dn, (r 0, .inr (0, [.ref t1, .int (nI n)]))]) sz)) 0 0 (va_A ([oLk h0 r fp dn, (r 0, .inr (0, [.ref t1, .int (nI n)]))]) sz) := by
  refine va_MetW (cc := b_La_end) (maxL := 3) (ret := (some .int)) (hh := [(0, 5, 8, 19)]) (by decide) rfl ?_
  intro p e s m args below meth c s₁ B hml hv
  obtain ⟨rfl, hsz, hP, hK, hD0, hN, hC⟩ := hv
  have hx := B.exec
  have hb := B.bytes
  have hr := B.returns
  have hts := atoms_spec (ws := w_La_end) B.pre
  have hg : ∀ w ∈ gW, w.before _ s = true := fun w h => hts w (List.mem_cons_of_mem _ h)
  have hown : s.vm.findClass R_La = some m.cls := findClass_of_methodNamed B.named
  have hlocks := B.notSynchronized
  have htab := xt_table B (hts _ List.mem_cons_self)
  subst hsz
  have hD := hD0.self (sz := s.heap.size)
  generalize hAe : va_A ([oLk h0 r fp dn, (r 0, .inr (0, [.ref t1, .int (nI n)]))]) s.heap.size = A at hD hC ⊢
  have hA : ∀ q : Nat, s.heap.size ≤ q → A q := fun q h => by rw [← hAe]; exact Or.inr h
  have hS : va_S A s.heap s.heap [] := va_S.rf
  have hP : va_P D vC [(h0, .inr (11, [.ref (r 0), .ref (r 1), .ref (r 2), .ref (r 3), .ref (r 4), .ref (r 5), .ref (r 6), .ref (r 7), .ref (r 8), .ref (r 9), .ref (r 10), .ref (r 11), .ref (r 12), .ref (r 13), .ref (r 14), .int fp, .int dn])), (r 0, .inr (0, [.ref t1, .int (nI n)]))] s.heap := hP
  have hD : va_D A [(h0, .inr (11, [.ref (r 0), .ref (r 1), .ref (r 2), .ref (r 3), .ref (r 4), .ref (r 5), .ref (r 6), .ref (r 7), .ref (r 8), .ref (r 9), .ref (r 10), .ref (r 11), .ref (r 12), .ref (r 13), .ref (r 14), .int fp, .int dn])), (r 0, .inr (0, [.ref t1, .int (nI n)]))] := hD
  have hl := lv_entry ([.ref h0, .int (nI k)]) (n := 3) (Nat.le_of_ble_eq_true rfl)
  rw [lg_entry_eq]
  generalize (lg_sl ([.ref h0, .int (nI k)]) ++ List.replicate (3 - (lg_sl ([.ref h0, .int (nI k)])).length) Slot.unset).toArray = ls at hl ⊢
  have hl : lv_has ls 3 [(0, .ref h0), (1, .int (nI k))] := hl
  refine lv_aload_n hx hb d_La_end_0 rfl (lv_at hl 0 rfl) ?_
  refine lv_iload_n hx hb d_La_end_1 rfl (lv_at hl 1 rfl) ?_
  refine xc_v (wr := []) (va_runV (As := [.int (nI k)]) (rest := []) ⟨hx, hb, hml, hown, hg⟩ (c_Lk_end l D kA kS s.heap.size h0 t1 n r fp dn k hk hn) (cwV 1 hg (xg_V mw_1049 mw_1050 mw_1051 mw_1 mw_1052) rfl rfl rfl (by decide +kernel) ⟨Nat.le_of_ble_eq_true rfl, Nat.le_of_ble_eq_true rfl⟩) (xc_preV hK hN hC hP hD hS hA [0, 1] (by decide) rfl 0 rfl rfl) rfl rfl hl.1 rfl (lv_room (Nat.le_of_ble_eq_true rfl)) d_La_end_2 ⟨Nat.le_of_ble_eq_true rfl, Nat.le_of_ble_eq_true rfl⟩) hP hD hS hA [0, 1] [] rfl rfl (by decide) (by decide) (fun u9 H locs hw hP hD hS => ?_)
  have hP : va_P D vC [(h0, .inr (11, [.ref (r 0), .ref (r 1), .ref (r 2), .ref (r 3), .ref (r 4), .ref (r 5), .ref (r 6), .ref (r 7), .ref (r 8), .ref (r 9), .ref (r 10), .ref (r 11), .ref (r 12), .ref (r 13), .ref (r 14), .int fp, .int dn])), (r 0, .inr (0, [.ref t1, .int (nI k)]))] H := hP
  have hD : va_D A [(h0, .inr (11, [.ref (r 0), .ref (r 1), .ref (r 2), .ref (r 3), .ref (r 4), .ref (r 5), .ref (r 6), .ref (r 7), .ref (r 8), .ref (r 9), .ref (r 10), .ref (r 11), .ref (r 12), .ref (r 13), .ref (r 14), .int fp, .int dn])), (r 0, .inr (0, [.ref t1, .int (nI k)]))] := hD
  refine lv_goto (tgt := 11) hx hb d_La_end_5 (by decide) ?_
  refine lv_iconst (v := 0) hx hb d_La_end_11 (by decide) ?_
  exact W.iret (v := 0) hx hb hr (fun t ht hW => ⟨⟨0, (), rfl, rfl, by rw [ht]; exact hP, va_K.moved hW.alike hK, hD⟩, hS.F ht⟩) hS.2.2 d_La_end_12
