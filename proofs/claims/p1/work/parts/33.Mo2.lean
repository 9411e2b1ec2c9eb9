/-! the reference on an empty lake -/
set_option maxHeartbeats 4000000 in
set_option maxRecDepth 100000 in
/-- within, read-only -/
theorem p_Mo_within (l : Launch) (D : va_G) (kA : Nat → ClassId) (kS : Nat → Nat) (sz : Nat) (v a b : Int32) : Met l y_Mo_within w_Mo_within { frames := 0, cells := 0, slots := 0, locals := 0 } (xPre D vC (tK kA) kS [.int v, .int a, .int b] ([]) sz) (xt_Pi (fun x => x = mo_in v a b)) 0 0 (fun _ => False) := by
  refine Met.ofW (cc := b_Mo_within) (maxL := 3) (ret := (some .boolean)) (by decide) rfl ?_
  intro p e s m args below meth c s₁ B hml hv
  obtain ⟨rfl, hsz, hP, hK, hD0, hN, hC⟩ := hv
  have hx := B.exec
  have hb := B.bytes
  have hr := B.returns
  have hts := atoms_spec (ws := w_Mo_within) B.pre
  have hg : ∀ w ∈ gW, w.before _ s = true := fun w h => hts w (List.mem_cons_of_mem _ h)
  have hown : s.vm.findClass R_Mo = some m.cls := findClass_of_methodNamed B.named
  have hlocks := B.notSynchronized
  subst hsz
  have hD := hD0.self (sz := s.heap.size)
  generalize hAe : va_A ([]) s.heap.size = A at hD hC ⊢
  have hA : ∀ q : Nat, s.heap.size ≤ q → A q := fun q h => by rw [← hAe]; exact Or.inr h
  have hS : va_S A s.heap s.heap [] := va_S.rf
  have hP : va_P D vC [] s.heap := hP
  have hD : va_D A [] := hD
  have hl := lv_entry ([.int v, .int a, .int b]) (n := 3) (Nat.le_of_ble_eq_true rfl)
  rw [lg_entry_eq]
  generalize (lg_sl ([.int v, .int a, .int b]) ++ List.replicate (3 - (lg_sl ([.int v, .int a, .int b])).length) Slot.unset).toArray = ls at hl ⊢
  have hl : lv_has ls 3 [(0, .int v), (1, .int a), (2, .int b)] := hl
  refine lv_iload_n hx hb d_Mo_within_0 rfl (lv_at hl 0 rfl) ?_
  refine lv_iload_n hx hb d_Mo_within_1 rfl (lv_at hl 1 rfl) ?_
  refine lv_icmp_lt (tgt := 14) hx hb d_Mo_within_2 (by decide) (fun c_2 => ?_) (fun c_2 => ?_)
  · skip
    refine lv_iconst (v := 0) hx hb d_Mo_within_14 (by decide) ?_
    exact W.zret (v := 0) hx hb hr (rfl) (fun t ht hW => ⟨0, rfl, (if_pos c_2).symm, ht⟩) (fun q hq => by cases hq) d_Mo_within_15
  · skip
    refine lv_iload_n hx hb d_Mo_within_5 rfl (lv_at hl 0 rfl) ?_
    refine lv_iload_n hx hb d_Mo_within_6 rfl (lv_at hl 2 rfl) ?_
    refine lv_icmp_gt (tgt := 14) hx hb d_Mo_within_7 (by decide) (fun c_7 => ?_) (fun c_7 => ?_)
    · skip
      refine lv_iconst (v := 0) hx hb d_Mo_within_14 (by decide) ?_
      exact W.zret (v := 0) hx hb hr (rfl) (fun t ht hW => ⟨0, rfl, by unfold mo_in; rw [if_neg c_2, if_pos c_7], ht⟩) (fun q hq => by cases hq) d_Mo_within_15
    · skip
      refine lv_iconst (v := 1) hx hb d_Mo_within_10 (by decide) ?_
      refine lv_goto (tgt := 15) hx hb d_Mo_within_11 (by decide) ?_
      exact W.zret (v := 1) hx hb hr (rfl) (fun t ht hW => ⟨1, rfl, by unfold mo_in; rw [if_neg c_2, if_neg c_7], ht⟩) (fun q hq => by cases hq) d_Mo_within_15

set_option maxHeartbeats 4000000 in
set_option maxRecDepth 100000 in
/-- isSubject -/
theorem p_Mo_isSubject (l : Launch) (D : va_G) (kA : Nat → ClassId) (kS : Nat → Nat) (sz : Nat) (v : Int32) : Met l y_Mo_isSubject w_Mo_isSubject { frames := 1, cells := 0, slots := 0, locals := 22 } (xPre D vC (tK kA) kS [.int v] ([]) sz) (xt_Pi (fun x => x = mo_in v 0 3)) 0 0 (fun _ => False) := by
  refine Met.ofW (cc := b_Mo_isSubject) (maxL := 1) (ret := (some .boolean)) (by decide) rfl ?_
  intro p e s m args below meth c s₁ B hml hv
  obtain ⟨rfl, hsz, hP, hK, hD0, hN, hC⟩ := hv
  have hx := B.exec
  have hb := B.bytes
  have hr := B.returns
  have hts := atoms_spec (ws := w_Mo_isSubject) B.pre
  have hg : ∀ w ∈ gW, w.before _ s = true := fun w h => hts w (List.mem_cons_of_mem _ h)
  have hown : s.vm.findClass R_Mo = some m.cls := findClass_of_methodNamed B.named
  have hlocks := B.notSynchronized
  subst hsz
  have hD := hD0.self (sz := s.heap.size)
  generalize hAe : va_A ([]) s.heap.size = A at hD hC ⊢
  have hA : ∀ q : Nat, s.heap.size ≤ q → A q := fun q h => by rw [← hAe]; exact Or.inr h
  have hS : va_S A s.heap s.heap [] := va_S.rf
  have hP : va_P D vC [] s.heap := hP
  have hD : va_D A [] := hD
  have hl := lv_entry ([.int v]) (n := 1) (Nat.le_of_ble_eq_true rfl)
  rw [lg_entry_eq]
  generalize (lg_sl ([.int v]) ++ List.replicate (1 - (lg_sl ([.int v])).length) Slot.unset).toArray = ls at hl ⊢
  have hl : lv_has ls 1 [(0, .int v)] := hl
  refine lv_iload_n hx hb d_Mo_isSubject_0 rfl (lv_at hl 0 rfl) ?_
  refine lv_iconst (v := 0) hx hb d_Mo_isSubject_1 (by decide) ?_
  refine lv_iconst (v := 3) hx hb d_Mo_isSubject_2 (by decide) ?_
  refine xc_pi (va_runS (As := [.int v, .int 0, .int 3]) (rest := []) ⟨hx, hb, hml, hown, hg⟩ (p_Mo_within l D kA kS s.heap.size v 0 3) (cwS 3 hg (xg_S mw_1842 mw_1843 mw_13 mw_1844) rfl rfl rfl (by decide +kernel) ⟨Nat.le_of_ble_eq_true rfl, Nat.le_of_ble_eq_true rfl⟩) (xc_pre hK hN hC hP hD hS hA [] (by decide) rfl) rfl rfl hl.1 rfl (lv_room (Nat.le_of_ble_eq_true rfl)) d_Mo_isSubject_3 ⟨Nat.le_of_ble_eq_true rfl, Nat.le_of_ble_eq_true rfl⟩) (fun r_3 hw3 => ?_)
  exact W.zret (v := r_3) hx hb hr (by rw [hw3]; unfold mo_in; split <;> first | rfl | (split <;> rfl)) (fun t ht hW => ⟨r_3, rfl, hw3, ht⟩) (fun q hq => by cases hq) d_Mo_isSubject_6

set_option maxHeartbeats 4000000 in
set_option maxRecDepth 100000 in
/-- versionFile: no files -/
theorem p_Mo_versionFile0 (l : Launch) (D : va_G) (kA : Nat → ClassId) (kS : Nat → Nat) (sz : Nat) (h0 : Nat) (r : Nat → Nat) (z : Nat → Int32) (y : Nat → Int64) (a b : Int32) (hz13 : z 13 = 0) : Met l y_Mo_versionFile w_Mo_versionFile { frames := 0, cells := 0, slots := 0, locals := 0 } (xPre D vC (tK kA) kS [.ref h0, .int a, .int b] ([oMo h0 r z y]) sz) (xt_Pi (fun x => x = -1)) 0 0 (fun _ => False) := by
  refine Met.ofW (cc := b_Mo_versionFile) (maxL := 4) (ret := (some .int)) (by decide) rfl ?_
  intro p e s m args below meth c s₁ B hml hv
  obtain ⟨rfl, hsz, hP, hK, hD0, hN, hC⟩ := hv
  have hx := B.exec
  have hb := B.bytes
  have hr := B.returns
  have hts := atoms_spec (ws := w_Mo_versionFile) B.pre
  have hg : ∀ w ∈ gW, w.before _ s = true := fun w h => hts w (List.mem_cons_of_mem _ h)
  have hown : s.vm.findClass R_Mo = some m.cls := findClass_of_methodNamed B.named
  have hlocks := B.notSynchronized
  subst hsz
  have hD := hD0.self (sz := s.heap.size)
  generalize hAe : va_A ([oMo h0 r z y]) s.heap.size = A at hD hC ⊢
  have hA : ∀ q : Nat, s.heap.size ≤ q → A q := fun q h => by rw [← hAe]; exact Or.inr h
  have hS : va_S A s.heap s.heap [] := va_S.rf
  have hP : va_P D vC [(h0, .inr (13, [.int (z 0), .ref (r 1), .int (z 2), .int (z 3), .ref (r 4), .ref (r 5), .ref (r 6), .ref (r 7), .int (z 8), .ref (r 9), .int (z 10), .int (z 11), .int (z 12), .int (z 13), .ref (r 14), .ref (r 15), .ref (r 16), .ref (r 17), .ref (r 18), .ref (r 19), .ref (r 20), .ref (r 21), .int (z 22), .int (z 23), .int (z 24), .int (z 25), .int (z 26), .int (z 27), .ref (r 28), .ref (r 29), .int (z 30), .int (z 31), .int (z 32), .ref (r 33), .ref (r 34)]))] s.heap := hP
  have hD : va_D A [(h0, .inr (13, [.int (z 0), .ref (r 1), .int (z 2), .int (z 3), .ref (r 4), .ref (r 5), .ref (r 6), .ref (r 7), .int (z 8), .ref (r 9), .int (z 10), .int (z 11), .int (z 12), .int (z 13), .ref (r 14), .ref (r 15), .ref (r 16), .ref (r 17), .ref (r 18), .ref (r 19), .ref (r 20), .ref (r 21), .int (z 22), .int (z 23), .int (z 24), .int (z 25), .int (z 26), .int (z 27), .ref (r 28), .ref (r 29), .int (z 30), .int (z 31), .int (z 32), .ref (r 33), .ref (r 34)]))] := hD
  have hl := lv_entry ([.ref h0, .int a, .int b]) (n := 4) (Nat.le_of_ble_eq_true rfl)
  rw [lg_entry_eq]
  generalize (lg_sl ([.ref h0, .int a, .int b]) ++ List.replicate (4 - (lg_sl ([.ref h0, .int a, .int b])).length) Slot.unset).toArray = ls at hl ⊢
  have hl : lv_has ls 4 [(0, .ref h0), (1, .int a), (2, .int b)] := hl
  refine lv_iconst (v := 0) hx hb d_Mo_versionFile_0 (by decide) ?_
  refine lv_istore_n (lv' := [(3, .int 0), (0, .ref h0), (1, .int a), (2, .int b)]) hx hb d_Mo_versionFile_1 rfl hl (by decide) rfl (fun ls hl => ?_)
  refine lv_iload_n hx hb d_Mo_versionFile_2 rfl (lv_at hl 0 rfl) ?_
  refine lv_aload_n hx hb d_Mo_versionFile_3 rfl (lv_at hl 1 rfl) ?_
  refine va_get (D := D) (ci := 13) (v := .int (z 13)) (C := R_Mo) (T := F_Mo) (N := 35) hx hb hg i_Mo hown hK hP 0 rfl rfl 13 (by decide) (hg _ mw_1729) (fun _ h9 => h9) rfl d_Mo_versionFile_4 ?_
  refine lv_icmp_ge (tgt := 48) hx hb d_Mo_versionFile_7 (by decide) (fun c_7 => ?_) (fun c_7 => absurd (by rw [hz13]; decide) c_7)
  refine lv_iconst (v := (-1)) hx hb d_Mo_versionFile_48 (by decide) ?_
  exact W.iret (v := (-1)) hx hb hr (fun t ht hW => ⟨(-1), rfl, rfl, ht⟩) (fun q hq => by cases hq) d_Mo_versionFile_49

set_option maxHeartbeats 4000000 in
set_option maxRecDepth 100000 in
/-- rows: no files -/
theorem p_Mo_rows0 (l : Launch) (D : va_G) (kA : Nat → ClassId) (kS : Nat → Nat) (sz : Nat) (h0 : Nat) (r : Nat → Nat) (z : Nat → Int32) (y : Nat → Int64) (a : Int32) (hz13 : z 13 = 0) : Met l y_Mo_rows w_Mo_rows { frames := 0, cells := 0, slots := 0, locals := 0 } (xPre D vC (tK kA) kS [.ref h0, .int a] ([oMo h0 r z y]) sz) (xt_Pi (fun x => x = 0)) 0 0 (fun _ => False) := by
  refine Met.ofW (cc := b_Mo_rows) (maxL := 4) (ret := (some .int)) (by decide) rfl ?_
  intro p e s m args below meth c s₁ B hml hv
  obtain ⟨rfl, hsz, hP, hK, hD0, hN, hC⟩ := hv
  have hx := B.exec
  have hb := B.bytes
  have hr := B.returns
  have hts := atoms_spec (ws := w_Mo_rows) B.pre
  have hg : ∀ w ∈ gW, w.before _ s = true := fun w h => hts w (List.mem_cons_of_mem _ h)
  have hown : s.vm.findClass R_Mo = some m.cls := findClass_of_methodNamed B.named
  have hlocks := B.notSynchronized
  subst hsz
  have hD := hD0.self (sz := s.heap.size)
  generalize hAe : va_A ([oMo h0 r z y]) s.heap.size = A at hD hC ⊢
  have hA : ∀ q : Nat, s.heap.size ≤ q → A q := fun q h => by rw [← hAe]; exact Or.inr h
  have hS : va_S A s.heap s.heap [] := va_S.rf
  have hP : va_P D vC [(h0, .inr (13, [.int (z 0), .ref (r 1), .int (z 2), .int (z 3), .ref (r 4), .ref (r 5), .ref (r 6), .ref (r 7), .int (z 8), .ref (r 9), .int (z 10), .int (z 11), .int (z 12), .int (z 13), .ref (r 14), .ref (r 15), .ref (r 16), .ref (r 17), .ref (r 18), .ref (r 19), .ref (r 20), .ref (r 21), .int (z 22), .int (z 23), .int (z 24), .int (z 25), .int (z 26), .int (z 27), .ref (r 28), .ref (r 29), .int (z 30), .int (z 31), .int (z 32), .ref (r 33), .ref (r 34)]))] s.heap := hP
  have hD : va_D A [(h0, .inr (13, [.int (z 0), .ref (r 1), .int (z 2), .int (z 3), .ref (r 4), .ref (r 5), .ref (r 6), .ref (r 7), .int (z 8), .ref (r 9), .int (z 10), .int (z 11), .int (z 12), .int (z 13), .ref (r 14), .ref (r 15), .ref (r 16), .ref (r 17), .ref (r 18), .ref (r 19), .ref (r 20), .ref (r 21), .int (z 22), .int (z 23), .int (z 24), .int (z 25), .int (z 26), .int (z 27), .ref (r 28), .ref (r 29), .int (z 30), .int (z 31), .int (z 32), .ref (r 33), .ref (r 34)]))] := hD
  have hl := lv_entry ([.ref h0, .int a]) (n := 4) (Nat.le_of_ble_eq_true rfl)
  rw [lg_entry_eq]
  generalize (lg_sl ([.ref h0, .int a]) ++ List.replicate (4 - (lg_sl ([.ref h0, .int a])).length) Slot.unset).toArray = ls at hl ⊢
  have hl : lv_has ls 4 [(0, .ref h0), (1, .int a)] := hl
  refine lv_iconst (v := 0) hx hb d_Mo_rows_0 (by decide) ?_
  refine lv_istore_n (lv' := [(2, .int 0), (0, .ref h0), (1, .int a)]) hx hb d_Mo_rows_1 rfl hl (by decide) rfl (fun ls hl => ?_)
  refine lv_iconst (v := 0) hx hb d_Mo_rows_2 (by decide) ?_
  refine lv_istore_n (lv' := [(3, .int 0), (2, .int 0), (0, .ref h0), (1, .int a)]) hx hb d_Mo_rows_3 rfl hl (by decide) rfl (fun ls hl => ?_)
  refine lv_iload_n hx hb d_Mo_rows_4 rfl (lv_at hl 0 rfl) ?_
  refine lv_aload_n hx hb d_Mo_rows_5 rfl (lv_at hl 2 rfl) ?_
  refine va_get (D := D) (ci := 13) (v := .int (z 13)) (C := R_Mo) (T := F_Mo) (N := 35) hx hb hg i_Mo hown hK hP 0 rfl rfl 13 (by decide) (hg _ mw_1729) (fun _ h9 => h9) rfl d_Mo_rows_6 ?_
  refine lv_icmp_ge (tgt := 50) hx hb d_Mo_rows_9 (by decide) (fun c_9 => ?_) (fun c_9 => absurd (by rw [hz13]; decide) c_9)
  refine lv_iload_n hx hb d_Mo_rows_50 rfl (lv_at hl 1 rfl) ?_
  exact W.iret (v := 0) hx hb hr (fun t ht hW => ⟨0, rfl, rfl, ht⟩) (fun q hq => by cases hq) d_Mo_rows_51

set_option maxHeartbeats 4000000 in
set_option maxRecDepth 100000 in
/-- versions: no files -/
theorem p_Mo_versions0 (l : Launch) (D : va_G) (kA : Nat → ClassId) (kS : Nat → Nat) (sz : Nat) (h0 : Nat) (r : Nat → Nat) (z : Nat → Int32) (y : Nat → Int64) (a : Int32) (hz13 : z 13 = 0) : Met l y_Mo_versions w_Mo_versions { frames := 0, cells := 0, slots := 0, locals := 0 } (xPre D vC (tK kA) kS [.ref h0, .int a] ([oMo h0 r z y]) sz) (xt_Pi (fun x => x = 0)) 0 0 (fun _ => False) := by
  refine Met.ofW (cc := b_Mo_versions) (maxL := 4) (ret := (some .int)) (by decide) rfl ?_
  intro p e s m args below meth c s₁ B hml hv
  obtain ⟨rfl, hsz, hP, hK, hD0, hN, hC⟩ := hv
  have hx := B.exec
  have hb := B.bytes
  have hr := B.returns
  have hts := atoms_spec (ws := w_Mo_versions) B.pre
  have hg : ∀ w ∈ gW, w.before _ s = true := fun w h => hts w (List.mem_cons_of_mem _ h)
  have hown : s.vm.findClass R_Mo = some m.cls := findClass_of_methodNamed B.named
  have hlocks := B.notSynchronized
  subst hsz
  have hD := hD0.self (sz := s.heap.size)
  generalize hAe : va_A ([oMo h0 r z y]) s.heap.size = A at hD hC ⊢
  have hA : ∀ q : Nat, s.heap.size ≤ q → A q := fun q h => by rw [← hAe]; exact Or.inr h
  have hS : va_S A s.heap s.heap [] := va_S.rf
  have hP : va_P D vC [(h0, .inr (13, [.int (z 0), .ref (r 1), .int (z 2), .int (z 3), .ref (r 4), .ref (r 5), .ref (r 6), .ref (r 7), .int (z 8), .ref (r 9), .int (z 10), .int (z 11), .int (z 12), .int (z 13), .ref (r 14), .ref (r 15), .ref (r 16), .ref (r 17), .ref (r 18), .ref (r 19), .ref (r 20), .ref (r 21), .int (z 22), .int (z 23), .int (z 24), .int (z 25), .int (z 26), .int (z 27), .ref (r 28), .ref (r 29), .int (z 30), .int (z 31), .int (z 32), .ref (r 33), .ref (r 34)]))] s.heap := hP
  have hD : va_D A [(h0, .inr (13, [.int (z 0), .ref (r 1), .int (z 2), .int (z 3), .ref (r 4), .ref (r 5), .ref (r 6), .ref (r 7), .int (z 8), .ref (r 9), .int (z 10), .int (z 11), .int (z 12), .int (z 13), .ref (r 14), .ref (r 15), .ref (r 16), .ref (r 17), .ref (r 18), .ref (r 19), .ref (r 20), .ref (r 21), .int (z 22), .int (z 23), .int (z 24), .int (z 25), .int (z 26), .int (z 27), .ref (r 28), .ref (r 29), .int (z 30), .int (z 31), .int (z 32), .ref (r 33), .ref (r 34)]))] := hD
  have hl := lv_entry ([.ref h0, .int a]) (n := 4) (Nat.le_of_ble_eq_true rfl)
  rw [lg_entry_eq]
  generalize (lg_sl ([.ref h0, .int a]) ++ List.replicate (4 - (lg_sl ([.ref h0, .int a])).length) Slot.unset).toArray = ls at hl ⊢
  have hl : lv_has ls 4 [(0, .ref h0), (1, .int a)] := hl
  refine lv_iconst (v := 0) hx hb d_Mo_versions_0 (by decide) ?_
  refine lv_istore_n (lv' := [(2, .int 0), (0, .ref h0), (1, .int a)]) hx hb d_Mo_versions_1 rfl hl (by decide) rfl (fun ls hl => ?_)
  refine lv_iconst (v := 0) hx hb d_Mo_versions_2 (by decide) ?_
  refine lv_istore_n (lv' := [(3, .int 0), (2, .int 0), (0, .ref h0), (1, .int a)]) hx hb d_Mo_versions_3 rfl hl (by decide) rfl (fun ls hl => ?_)
  refine lv_iload_n hx hb d_Mo_versions_4 rfl (lv_at hl 0 rfl) ?_
  refine lv_aload_n hx hb d_Mo_versions_5 rfl (lv_at hl 2 rfl) ?_
  refine va_get (D := D) (ci := 13) (v := .int (z 13)) (C := R_Mo) (T := F_Mo) (N := 35) hx hb hg i_Mo hown hK hP 0 rfl rfl 13 (by decide) (hg _ mw_1729) (fun _ h9 => h9) rfl d_Mo_versions_6 ?_
  refine lv_icmp_ge (tgt := 46) hx hb d_Mo_versions_9 (by decide) (fun c_9 => ?_) (fun c_9 => absurd (by rw [hz13]; decide) c_9)
  refine lv_iload_n hx hb d_Mo_versions_46 rfl (lv_at hl 1 rfl) ?_
  exact W.iret (v := 0) hx hb hr (fun t ht hW => ⟨0, rfl, rfl, ht⟩) (fun q hq => by cases hq) d_Mo_versions_47

set_option maxHeartbeats 4000000 in
set_option maxRecDepth 100000 in
/-- isVersion: no files -/
theorem p_Mo_isVersion0 (l : Launch) (D : va_G) (kA : Nat → ClassId) (kS : Nat → Nat) (sz : Nat) (h0 : Nat) (r : Nat → Nat) (z : Nat → Int32) (y : Nat → Int64) (a b : Int32) (hz13 : z 13 = 0) : Met l y_Mo_isVersion w_Mo_isVersion { frames := 2, cells := 0, slots := 0, locals := 42 } (xPre D vC (tK kA) kS [.ref h0, .int a, .int b] ([oMo h0 r z y]) sz) (xt_Pi (fun x => x = 0)) 0 0 (fun _ => False) := by
  refine Met.ofW (cc := b_Mo_isVersion) (maxL := 3) (ret := (some .boolean)) (by decide) rfl ?_
  intro p e s m args below meth c s₁ B hml hv
  obtain ⟨rfl, hsz, hP, hK, hD0, hN, hC⟩ := hv
  have hx := B.exec
  have hb := B.bytes
  have hr := B.returns
  have hts := atoms_spec (ws := w_Mo_isVersion) B.pre
  have hg : ∀ w ∈ gW, w.before _ s = true := fun w h => hts w (List.mem_cons_of_mem _ h)
  have hown : s.vm.findClass R_Mo = some m.cls := findClass_of_methodNamed B.named
  have hlocks := B.notSynchronized
  subst hsz
  have hD := hD0.self (sz := s.heap.size)
  generalize hAe : va_A ([oMo h0 r z y]) s.heap.size = A at hD hC ⊢
  have hA : ∀ q : Nat, s.heap.size ≤ q → A q := fun q h => by rw [← hAe]; exact Or.inr h
  have hS : va_S A s.heap s.heap [] := va_S.rf
  have hP : va_P D vC [(h0, .inr (13, [.int (z 0), .ref (r 1), .int (z 2), .int (z 3), .ref (r 4), .ref (r 5), .ref (r 6), .ref (r 7), .int (z 8), .ref (r 9), .int (z 10), .int (z 11), .int (z 12), .int (z 13), .ref (r 14), .ref (r 15), .ref (r 16), .ref (r 17), .ref (r 18), .ref (r 19), .ref (r 20), .ref (r 21), .int (z 22), .int (z 23), .int (z 24), .int (z 25), .int (z 26), .int (z 27), .ref (r 28), .ref (r 29), .int (z 30), .int (z 31), .int (z 32), .ref (r 33), .ref (r 34)]))] s.heap := hP
  have hD : va_D A [(h0, .inr (13, [.int (z 0), .ref (r 1), .int (z 2), .int (z 3), .ref (r 4), .ref (r 5), .ref (r 6), .ref (r 7), .int (z 8), .ref (r 9), .int (z 10), .int (z 11), .int (z 12), .int (z 13), .ref (r 14), .ref (r 15), .ref (r 16), .ref (r 17), .ref (r 18), .ref (r 19), .ref (r 20), .ref (r 21), .int (z 22), .int (z 23), .int (z 24), .int (z 25), .int (z 26), .int (z 27), .ref (r 28), .ref (r 29), .int (z 30), .int (z 31), .int (z 32), .ref (r 33), .ref (r 34)]))] := hD
  have hl := lv_entry ([.ref h0, .int a, .int b]) (n := 3) (Nat.le_of_ble_eq_true rfl)
  rw [lg_entry_eq]
  generalize (lg_sl ([.ref h0, .int a, .int b]) ++ List.replicate (3 - (lg_sl ([.ref h0, .int a, .int b])).length) Slot.unset).toArray = ls at hl ⊢
  have hl : lv_has ls 3 [(0, .ref h0), (1, .int a), (2, .int b)] := hl
  refine lv_iload_n hx hb d_Mo_isVersion_0 rfl (lv_at hl 1 rfl) ?_
  refine xc_pi (va_runS (As := [.int a]) (rest := []) ⟨hx, hb, hml, hown, hg⟩ (p_Mo_isSubject l D kA kS s.heap.size a) (cwS 1 hg (xg_S mw_2103 mw_2104 mw_13 mw_2105) rfl rfl rfl (by decide +kernel) ⟨Nat.le_of_ble_eq_true rfl, Nat.le_of_ble_eq_true rfl⟩) (xc_pre hK hN hC hP hD hS hA [] (by decide) rfl) rfl rfl hl.1 rfl (lv_room (Nat.le_of_ble_eq_true rfl)) d_Mo_isVersion_1 ⟨Nat.le_of_ble_eq_true rfl, Nat.le_of_ble_eq_true rfl⟩) (fun r_1 hw1 => ?_)
  refine lv_if_eq (tgt := 24) hx hb d_Mo_isVersion_4 (by decide) (fun c_4 => ?_) (fun c_4 => ?_)
  · skip
    refine lv_iconst (v := 0) hx hb d_Mo_isVersion_24 (by decide) ?_
    exact W.zret (v := 0) hx hb hr (rfl) (fun t ht hW => ⟨0, rfl, rfl, ht⟩) (fun q hq => by cases hq) d_Mo_isVersion_25
  · skip
    refine lv_aload_n hx hb d_Mo_isVersion_7 rfl (lv_at hl 0 rfl) ?_
    refine lv_iload_n hx hb d_Mo_isVersion_8 rfl (lv_at hl 1 rfl) ?_
    refine lv_iload_n hx hb d_Mo_isVersion_9 rfl (lv_at hl 2 rfl) ?_
    refine xc_pi (va_runV (As := [.int a, .int b]) (rest := []) ⟨hx, hb, hml, hown, hg⟩ (p_Mo_versionFile0 l D kA kS s.heap.size h0 r z y a b hz13) (cwV 2 hg (xg_V mw_2114 mw_2116 ms_136 mw_13 mw_2117) rfl rfl rfl (by decide +kernel) ⟨Nat.le_of_ble_eq_true rfl, Nat.le_of_ble_eq_true rfl⟩) (xc_preV hK hN hC hP hD hS hA [0] (by decide) rfl 0 rfl rfl) rfl rfl hl.1 rfl (lv_room (Nat.le_of_ble_eq_true rfl)) d_Mo_isVersion_10 ⟨Nat.le_of_ble_eq_true rfl, Nat.le_of_ble_eq_true rfl⟩) (fun r_10 hw10 => ?_)
    refine lv_if_lt (tgt := 24) hx hb d_Mo_isVersion_13 (by decide) (fun c_13 => ?_) (fun c_13 => absurd (by rw [hw10]; decide) c_13)
    refine lv_iconst (v := 0) hx hb d_Mo_isVersion_24 (by decide) ?_
    exact W.zret (v := 0) hx hb hr (rfl) (fun t ht hW => ⟨0, rfl, rfl, ht⟩) (fun q hq => by cases hq) d_Mo_isVersion_25

set_option maxHeartbeats 4000000 in
set_option maxRecDepth 100000 in
/-- look on an empty lake -/
theorem c_Mo_look0 (l : Launch) (D : va_G) (kA : Nat → ClassId) (kS : Nat → Nat) (sz : Nat) (h0 : Nat) (r : Nat → Nat) (z : Nat → Int32) (y : Nat → Int64) (a b : Int32) (hz11 : z 11 = 0) (hz13 : z 13 = 0) : Met l y_Mo_look w_Mo_look { frames := 3, cells := 0, slots := 0, locals := 64 } (xPre D vC (tK kA) kS [.ref h0, .int a, .int b] ([oMo h0 r z y]) sz) (va_Qi (fun (x : Int32) (_ : Unit) => x = 0) (xB D vC (tK kA) (fun _ => [oMo h0 r (upd z 0 1) y]) (va_A ([oMo h0 r z y]) sz)) (va_A ([oMo h0 r z y]) sz)) 0 0 (va_A ([oMo h0 r z y]) sz) := by
  refine Met.ofW (cc := b_Mo_look) (maxL := 3) (ret := (some .int)) (by decide) rfl ?_
  intro p e s m args below meth c s₁ B hml hv
  obtain ⟨rfl, hsz, hP, hK, hD0, hN, hC⟩ := hv
  have hx := B.exec
  have hb := B.bytes
  have hr := B.returns
  have hts := atoms_spec (ws := w_Mo_look) B.pre
  have hg : ∀ w ∈ gW, w.before _ s = true := fun w h => hts w (List.mem_cons_of_mem _ h)
  have hown : s.vm.findClass R_Mo = some m.cls := findClass_of_methodNamed B.named
  have hlocks := B.notSynchronized
  subst hsz
  have hD := hD0.self (sz := s.heap.size)
  generalize hAe : va_A ([oMo h0 r z y]) s.heap.size = A at hD hC ⊢
  have hA : ∀ q : Nat, s.heap.size ≤ q → A q := fun q h => by rw [← hAe]; exact Or.inr h
  have hS : va_S A s.heap s.heap [] := va_S.rf
  have hP : va_P D vC [(h0, .inr (13, [.int (z 0), .ref (r 1), .int (z 2), .int (z 3), .ref (r 4), .ref (r 5), .ref (r 6), .ref (r 7), .int (z 8), .ref (r 9), .int (z 10), .int (z 11), .int (z 12), .int (z 13), .ref (r 14), .ref (r 15), .ref (r 16), .ref (r 17), .ref (r 18), .ref (r 19), .ref (r 20), .ref (r 21), .int (z 22), .int (z 23), .int (z 24), .int (z 25), .int (z 26), .int (z 27), .ref (r 28), .ref (r 29), .int (z 30), .int (z 31), .int (z 32), .ref (r 33), .ref (r 34)]))] s.heap := hP
  have hD : va_D A [(h0, .inr (13, [.int (z 0), .ref (r 1), .int (z 2), .int (z 3), .ref (r 4), .ref (r 5), .ref (r 6), .ref (r 7), .int (z 8), .ref (r 9), .int (z 10), .int (z 11), .int (z 12), .int (z 13), .ref (r 14), .ref (r 15), .ref (r 16), .ref (r 17), .ref (r 18), .ref (r 19), .ref (r 20), .ref (r 21), .int (z 22), .int (z 23), .int (z 24), .int (z 25), .int (z 26), .int (z 27), .ref (r 28), .ref (r 29), .int (z 30), .int (z 31), .int (z 32), .ref (r 33), .ref (r 34)]))] := hD
  have hl := lv_entry ([.ref h0, .int a, .int b]) (n := 3) (Nat.le_of_ble_eq_true rfl)
  rw [lg_entry_eq]
  generalize (lg_sl ([.ref h0, .int a, .int b]) ++ List.replicate (3 - (lg_sl ([.ref h0, .int a, .int b])).length) Slot.unset).toArray = ls at hl ⊢
  have hl : lv_has ls 3 [(0, .ref h0), (1, .int a), (2, .int b)] := hl
  refine lv_aload_n hx hb d_Mo_look_0 rfl (lv_at hl 0 rfl) ?_
  refine lv_iload_n hx hb d_Mo_look_1 rfl (lv_at hl 1 rfl) ?_
  refine xc_pi (va_runS (As := [.int a]) (rest := [.ref h0]) ⟨hx, hb, hml, hown, hg⟩ (p_Mo_isSubject l D kA kS s.heap.size a) (cwS 1 hg (xg_S mw_2103 mw_2104 mw_13 mw_2105) rfl rfl rfl (by decide +kernel) ⟨Nat.le_of_ble_eq_true rfl, Nat.le_of_ble_eq_true rfl⟩) (xc_pre hK hN hC hP hD hS hA [] (by decide) rfl) rfl rfl hl.1 rfl (lv_room (Nat.le_of_ble_eq_true rfl)) d_Mo_look_2 ⟨Nat.le_of_ble_eq_true rfl, Nat.le_of_ble_eq_true rfl⟩) (fun r_2 hw2 => ?_)
  refine lv_if_eq (tgt := 24) hx hb d_Mo_look_5 (by decide) (fun c_5 => ?_) (fun c_5 => ?_)
  · skip
    refine lv_iconst (v := 1) hx hb d_Mo_look_24 (by decide) ?_
    refine lv_goto (tgt := 29) hx hb d_Mo_look_25 (by decide) ?_
    refine lv_iconst (v := 0) hx hb d_Mo_look_29 (by decide) ?_
    refine xc_i (wr := []) (va_runV (As := [.int 1, .int 0]) (rest := []) ⟨hx, hb, hml, hown, hg⟩ (c_Mo_refused l D kA kS s.heap.size h0 r z y 1 0) (cwV 2 hg (xg_V mw_1830 mw_1832 ms_96 mw_13 mw_1833) rfl rfl rfl (by decide +kernel) ⟨Nat.le_of_ble_eq_true rfl, Nat.le_of_ble_eq_true rfl⟩) (xc_preV hK hN hC hP hD hS hA [0] (by decide) rfl 0 rfl rfl) rfl rfl hl.1 rfl (lv_room (Nat.le_of_ble_eq_true rfl)) d_Mo_look_30 ⟨Nat.le_of_ble_eq_true rfl, Nat.le_of_ble_eq_true rfl⟩) hP hD hS hA [0] [] rfl rfl (by decide) (by decide) (fun r_30 u9 H locs hw30 hP hD hS => ?_)
    have hP : va_P D vC [(h0, .inr (13, [.int (mo_th 1 0), .ref (r 1), .int (z 2), .int (z 3), .ref (r 4), .ref (r 5), .ref (r 6), .ref (r 7), .int (z 8), .ref (r 9), .int (z 10), .int (z 11), .int (z 12), .int (z 13), .ref (r 14), .ref (r 15), .ref (r 16), .ref (r 17), .ref (r 18), .ref (r 19), .ref (r 20), .ref (r 21), .int (z 22), .int (z 23), .int (z 24), .int (z 25), .int (z 26), .int (z 27), .ref (r 28), .ref (r 29), .int (z 30), .int (z 31), .int (z 32), .ref (r 33), .ref (r 34)]))] H := hP
    have hD : va_D A [(h0, .inr (13, [.int (mo_th 1 0), .ref (r 1), .int (z 2), .int (z 3), .ref (r 4), .ref (r 5), .ref (r 6), .ref (r 7), .int (z 8), .ref (r 9), .int (z 10), .int (z 11), .int (z 12), .int (z 13), .ref (r 14), .ref (r 15), .ref (r 16), .ref (r 17), .ref (r 18), .ref (r 19), .ref (r 20), .ref (r 21), .int (z 22), .int (z 23), .int (z 24), .int (z 25), .int (z 26), .int (z 27), .ref (r 28), .ref (r 29), .int (z 30), .int (z 31), .int (z 32), .ref (r 33), .ref (r 34)]))] := hD
    rw [show mo_th 1 0 = (1 : Int32) from by decide +kernel] at hP hD
    refine lv_if_eq (tgt := 38) hx hb d_Mo_look_33 (by decide) (fun c_33 => absurd (hw30.symm.trans c_33) (by decide)) (fun c_33 => ?_)
    refine lv_iconst (v := 0) hx hb d_Mo_look_36 (by decide) ?_
    exact W.iret (v := 0) hx hb hr (fun t ht hW => ⟨⟨0, (), rfl, rfl, by rw [ht]; exact hP, va_K.moved hW.alike hK, hD⟩, hS.F ht⟩) hS.2.2 d_Mo_look_37
  · skip
    refine lv_aload_n hx hb d_Mo_look_8 rfl (lv_at hl 0 rfl) ?_
    refine va_get (D := D) (ci := 13) (v := .int (z 11)) (C := R_Mo) (T := F_Mo) (N := 35) hx hb hg i_Mo hown hK hP 0 rfl rfl 11 (by decide) (hg _ mw_1727) (fun _ h9 => h9) rfl d_Mo_look_9 ?_
    refine lv_if_ne (tgt := 28) hx hb d_Mo_look_12 (by decide) (fun c_12 => absurd hz11 c_12) (fun c_12 => ?_)
    refine lv_aload_n hx hb d_Mo_look_15 rfl (lv_at hl 0 rfl) ?_
    refine lv_iload_n hx hb d_Mo_look_16 rfl (lv_at hl 1 rfl) ?_
    refine lv_iload_n hx hb d_Mo_look_17 rfl (lv_at hl 2 rfl) ?_
    refine xc_pi (va_runV (As := [.int a, .int b]) (rest := [.ref h0]) ⟨hx, hb, hml, hown, hg⟩ (p_Mo_isVersion0 l D kA kS s.heap.size h0 r z y a b hz13) (cwV 2 hg (xg_V mw_2166 mw_2168 ms_143 mw_13 mw_2169) rfl rfl rfl (by decide +kernel) ⟨Nat.le_of_ble_eq_true rfl, Nat.le_of_ble_eq_true rfl⟩) (xc_preV hK hN hC hP hD hS hA [0] (by decide) rfl 0 rfl rfl) rfl rfl hl.1 rfl (lv_room (Nat.le_of_ble_eq_true rfl)) d_Mo_look_18 ⟨Nat.le_of_ble_eq_true rfl, Nat.le_of_ble_eq_true rfl⟩) (fun r_18 hw18 => ?_)
    refine lv_if_ne (tgt := 28) hx hb d_Mo_look_21 (by decide) (fun c_21 => absurd hw18 c_21) (fun c_21 => ?_)
    refine lv_iconst (v := 1) hx hb d_Mo_look_24 (by decide) ?_
    refine lv_goto (tgt := 29) hx hb d_Mo_look_25 (by decide) ?_
    refine lv_iconst (v := 0) hx hb d_Mo_look_29 (by decide) ?_
    refine xc_i (wr := []) (va_runV (As := [.int 1, .int 0]) (rest := []) ⟨hx, hb, hml, hown, hg⟩ (c_Mo_refused l D kA kS s.heap.size h0 r z y 1 0) (cwV 2 hg (xg_V mw_1830 mw_1832 ms_96 mw_13 mw_1833) rfl rfl rfl (by decide +kernel) ⟨Nat.le_of_ble_eq_true rfl, Nat.le_of_ble_eq_true rfl⟩) (xc_preV hK hN hC hP hD hS hA [0] (by decide) rfl 0 rfl rfl) rfl rfl hl.1 rfl (lv_room (Nat.le_of_ble_eq_true rfl)) d_Mo_look_30 ⟨Nat.le_of_ble_eq_true rfl, Nat.le_of_ble_eq_true rfl⟩) hP hD hS hA [0] [] rfl rfl (by decide) (by decide) (fun r_30 u9 H locs hw30 hP hD hS => ?_)
    have hP : va_P D vC [(h0, .inr (13, [.int (mo_th 1 0), .ref (r 1), .int (z 2), .int (z 3), .ref (r 4), .ref (r 5), .ref (r 6), .ref (r 7), .int (z 8), .ref (r 9), .int (z 10), .int (z 11), .int (z 12), .int (z 13), .ref (r 14), .ref (r 15), .ref (r 16), .ref (r 17), .ref (r 18), .ref (r 19), .ref (r 20), .ref (r 21), .int (z 22), .int (z 23), .int (z 24), .int (z 25), .int (z 26), .int (z 27), .ref (r 28), .ref (r 29), .int (z 30), .int (z 31), .int (z 32), .ref (r 33), .ref (r 34)]))] H := hP
    have hD : va_D A [(h0, .inr (13, [.int (mo_th 1 0), .ref (r 1), .int (z 2), .int (z 3), .ref (r 4), .ref (r 5), .ref (r 6), .ref (r 7), .int (z 8), .ref (r 9), .int (z 10), .int (z 11), .int (z 12), .int (z 13), .ref (r 14), .ref (r 15), .ref (r 16), .ref (r 17), .ref (r 18), .ref (r 19), .ref (r 20), .ref (r 21), .int (z 22), .int (z 23), .int (z 24), .int (z 25), .int (z 26), .int (z 27), .ref (r 28), .ref (r 29), .int (z 30), .int (z 31), .int (z 32), .ref (r 33), .ref (r 34)]))] := hD
    rw [show mo_th 1 0 = (1 : Int32) from by decide +kernel] at hP hD
    refine lv_if_eq (tgt := 38) hx hb d_Mo_look_33 (by decide) (fun c_33 => absurd (hw30.symm.trans c_33) (by decide)) (fun c_33 => ?_)
    refine lv_iconst (v := 0) hx hb d_Mo_look_36 (by decide) ?_
    exact W.iret (v := 0) hx hb hr (fun t ht hW => ⟨⟨0, (), rfl, rfl, by rw [ht]; exact hP, va_K.moved hW.alike hK, hD⟩, hS.F ht⟩) hS.2.2 d_Mo_look_37

set_option maxHeartbeats 4000000 in
set_option maxRecDepth 100000 in
/-- load on an empty lake -/
theorem c_Mo_load0 (l : Launch) (D : va_G) (kA : Nat → ClassId) (kS : Nat → Nat) (sz : Nat) (h0 : Nat) (r : Nat → Nat) (z : Nat → Int32) (y : Nat → Int64) (a b : Int32) (hz11 : z 11 = 0) (hz13 : z 13 = 0) : Met l y_Mo_load w_Mo_load { frames := 3, cells := 0, slots := 0, locals := 64 } (xPre D vC (tK kA) kS [.ref h0, .int a, .int b] ([oMo h0 r z y]) sz) (va_Qi (fun (x : Int32) (_ : Unit) => x = 0) (xB D vC (tK kA) (fun _ => [oMo h0 r (upd z 0 1) y]) (va_A ([oMo h0 r z y]) sz)) (va_A ([oMo h0 r z y]) sz)) 0 0 (va_A ([oMo h0 r z y]) sz) := by
  refine Met.ofW (cc := b_Mo_load) (maxL := 5) (ret := (some .int)) (by decide) rfl ?_
  intro p e s m args below meth c s₁ B hml hv
  obtain ⟨rfl, hsz, hP, hK, hD0, hN, hC⟩ := hv
  have hx := B.exec
  have hb := B.bytes
  have hr := B.returns
  have hts := atoms_spec (ws := w_Mo_load) B.pre
  have hg : ∀ w ∈ gW, w.before _ s = true := fun w h => hts w (List.mem_cons_of_mem _ h)
  have hown : s.vm.findClass R_Mo = some m.cls := findClass_of_methodNamed B.named
  have hlocks := B.notSynchronized
  subst hsz
  have hD := hD0.self (sz := s.heap.size)
  generalize hAe : va_A ([oMo h0 r z y]) s.heap.size = A at hD hC ⊢
  have hA : ∀ q : Nat, s.heap.size ≤ q → A q := fun q h => by rw [← hAe]; exact Or.inr h
  have hS : va_S A s.heap s.heap [] := va_S.rf
  have hP : va_P D vC [(h0, .inr (13, [.int (z 0), .ref (r 1), .int (z 2), .int (z 3), .ref (r 4), .ref (r 5), .ref (r 6), .ref (r 7), .int (z 8), .ref (r 9), .int (z 10), .int (z 11), .int (z 12), .int (z 13), .ref (r 14), .ref (r 15), .ref (r 16), .ref (r 17), .ref (r 18), .ref (r 19), .ref (r 20), .ref (r 21), .int (z 22), .int (z 23), .int (z 24), .int (z 25), .int (z 26), .int (z 27), .ref (r 28), .ref (r 29), .int (z 30), .int (z 31), .int (z 32), .ref (r 33), .ref (r 34)]))] s.heap := hP
  have hD : va_D A [(h0, .inr (13, [.int (z 0), .ref (r 1), .int (z 2), .int (z 3), .ref (r 4), .ref (r 5), .ref (r 6), .ref (r 7), .int (z 8), .ref (r 9), .int (z 10), .int (z 11), .int (z 12), .int (z 13), .ref (r 14), .ref (r 15), .ref (r 16), .ref (r 17), .ref (r 18), .ref (r 19), .ref (r 20), .ref (r 21), .int (z 22), .int (z 23), .int (z 24), .int (z 25), .int (z 26), .int (z 27), .ref (r 28), .ref (r 29), .int (z 30), .int (z 31), .int (z 32), .ref (r 33), .ref (r 34)]))] := hD
  have hl := lv_entry ([.ref h0, .int a, .int b]) (n := 5) (Nat.le_of_ble_eq_true rfl)
  rw [lg_entry_eq]
  generalize (lg_sl ([.ref h0, .int a, .int b]) ++ List.replicate (5 - (lg_sl ([.ref h0, .int a, .int b])).length) Slot.unset).toArray = ls at hl ⊢
  have hl : lv_has ls 5 [(0, .ref h0), (1, .int a), (2, .int b)] := hl
  refine lv_aload_n hx hb d_Mo_load_0 rfl (lv_at hl 0 rfl) ?_
  refine lv_iload_n hx hb d_Mo_load_1 rfl (lv_at hl 1 rfl) ?_
  refine xc_pi (va_runS (As := [.int a]) (rest := [.ref h0]) ⟨hx, hb, hml, hown, hg⟩ (p_Mo_isSubject l D kA kS s.heap.size a) (cwS 1 hg (xg_S mw_2103 mw_2104 mw_13 mw_2105) rfl rfl rfl (by decide +kernel) ⟨Nat.le_of_ble_eq_true rfl, Nat.le_of_ble_eq_true rfl⟩) (xc_pre hK hN hC hP hD hS hA [] (by decide) rfl) rfl rfl hl.1 rfl (lv_room (Nat.le_of_ble_eq_true rfl)) d_Mo_load_2 ⟨Nat.le_of_ble_eq_true rfl, Nat.le_of_ble_eq_true rfl⟩) (fun r_2 hw2 => ?_)
  refine lv_if_eq (tgt := 24) hx hb d_Mo_load_5 (by decide) (fun c_5 => ?_) (fun c_5 => ?_)
  · skip
    refine lv_iconst (v := 1) hx hb d_Mo_load_24 (by decide) ?_
    refine lv_goto (tgt := 29) hx hb d_Mo_load_25 (by decide) ?_
    refine lv_iconst (v := 0) hx hb d_Mo_load_29 (by decide) ?_
    refine xc_i (wr := []) (va_runV (As := [.int 1, .int 0]) (rest := []) ⟨hx, hb, hml, hown, hg⟩ (c_Mo_refused l D kA kS s.heap.size h0 r z y 1 0) (cwV 2 hg (xg_V mw_1830 mw_1832 ms_96 mw_13 mw_1833) rfl rfl rfl (by decide +kernel) ⟨Nat.le_of_ble_eq_true rfl, Nat.le_of_ble_eq_true rfl⟩) (xc_preV hK hN hC hP hD hS hA [0] (by decide) rfl 0 rfl rfl) rfl rfl hl.1 rfl (lv_room (Nat.le_of_ble_eq_true rfl)) d_Mo_load_30 ⟨Nat.le_of_ble_eq_true rfl, Nat.le_of_ble_eq_true rfl⟩) hP hD hS hA [0] [] rfl rfl (by decide) (by decide) (fun r_30 u9 H locs hw30 hP hD hS => ?_)
    have hP : va_P D vC [(h0, .inr (13, [.int (mo_th 1 0), .ref (r 1), .int (z 2), .int (z 3), .ref (r 4), .ref (r 5), .ref (r 6), .ref (r 7), .int (z 8), .ref (r 9), .int (z 10), .int (z 11), .int (z 12), .int (z 13), .ref (r 14), .ref (r 15), .ref (r 16), .ref (r 17), .ref (r 18), .ref (r 19), .ref (r 20), .ref (r 21), .int (z 22), .int (z 23), .int (z 24), .int (z 25), .int (z 26), .int (z 27), .ref (r 28), .ref (r 29), .int (z 30), .int (z 31), .int (z 32), .ref (r 33), .ref (r 34)]))] H := hP
    have hD : va_D A [(h0, .inr (13, [.int (mo_th 1 0), .ref (r 1), .int (z 2), .int (z 3), .ref (r 4), .ref (r 5), .ref (r 6), .ref (r 7), .int (z 8), .ref (r 9), .int (z 10), .int (z 11), .int (z 12), .int (z 13), .ref (r 14), .ref (r 15), .ref (r 16), .ref (r 17), .ref (r 18), .ref (r 19), .ref (r 20), .ref (r 21), .int (z 22), .int (z 23), .int (z 24), .int (z 25), .int (z 26), .int (z 27), .ref (r 28), .ref (r 29), .int (z 30), .int (z 31), .int (z 32), .ref (r 33), .ref (r 34)]))] := hD
    rw [show mo_th 1 0 = (1 : Int32) from by decide +kernel] at hP hD
    refine lv_if_eq (tgt := 38) hx hb d_Mo_load_33 (by decide) (fun c_33 => absurd (hw30.symm.trans c_33) (by decide)) (fun c_33 => ?_)
    refine lv_iconst (v := 0) hx hb d_Mo_load_36 (by decide) ?_
    exact W.iret (v := 0) hx hb hr (fun t ht hW => ⟨⟨0, (), rfl, rfl, by rw [ht]; exact hP, va_K.moved hW.alike hK, hD⟩, hS.F ht⟩) hS.2.2 d_Mo_load_37
  · skip
    refine lv_aload_n hx hb d_Mo_load_8 rfl (lv_at hl 0 rfl) ?_
    refine va_get (D := D) (ci := 13) (v := .int (z 11)) (C := R_Mo) (T := F_Mo) (N := 35) hx hb hg i_Mo hown hK hP 0 rfl rfl 11 (by decide) (hg _ mw_1727) (fun _ h9 => h9) rfl d_Mo_load_9 ?_
    refine lv_if_ne (tgt := 28) hx hb d_Mo_load_12 (by decide) (fun c_12 => absurd hz11 c_12) (fun c_12 => ?_)
    refine lv_aload_n hx hb d_Mo_load_15 rfl (lv_at hl 0 rfl) ?_
    refine lv_iload_n hx hb d_Mo_load_16 rfl (lv_at hl 1 rfl) ?_
    refine lv_iload_n hx hb d_Mo_load_17 rfl (lv_at hl 2 rfl) ?_
    refine xc_pi (va_runV (As := [.int a, .int b]) (rest := [.ref h0]) ⟨hx, hb, hml, hown, hg⟩ (p_Mo_isVersion0 l D kA kS s.heap.size h0 r z y a b hz13) (cwV 2 hg (xg_V mw_2166 mw_2168 ms_143 mw_13 mw_2169) rfl rfl rfl (by decide +kernel) ⟨Nat.le_of_ble_eq_true rfl, Nat.le_of_ble_eq_true rfl⟩) (xc_preV hK hN hC hP hD hS hA [0] (by decide) rfl 0 rfl rfl) rfl rfl hl.1 rfl (lv_room (Nat.le_of_ble_eq_true rfl)) d_Mo_load_18 ⟨Nat.le_of_ble_eq_true rfl, Nat.le_of_ble_eq_true rfl⟩) (fun r_18 hw18 => ?_)
    refine lv_if_ne (tgt := 28) hx hb d_Mo_load_21 (by decide) (fun c_21 => absurd hw18 c_21) (fun c_21 => ?_)
    refine lv_iconst (v := 1) hx hb d_Mo_load_24 (by decide) ?_
    refine lv_goto (tgt := 29) hx hb d_Mo_load_25 (by decide) ?_
    refine lv_iconst (v := 0) hx hb d_Mo_load_29 (by decide) ?_
    refine xc_i (wr := []) (va_runV (As := [.int 1, .int 0]) (rest := []) ⟨hx, hb, hml, hown, hg⟩ (c_Mo_refused l D kA kS s.heap.size h0 r z y 1 0) (cwV 2 hg (xg_V mw_1830 mw_1832 ms_96 mw_13 mw_1833) rfl rfl rfl (by decide +kernel) ⟨Nat.le_of_ble_eq_true rfl, Nat.le_of_ble_eq_true rfl⟩) (xc_preV hK hN hC hP hD hS hA [0] (by decide) rfl 0 rfl rfl) rfl rfl hl.1 rfl (lv_room (Nat.le_of_ble_eq_true rfl)) d_Mo_load_30 ⟨Nat.le_of_ble_eq_true rfl, Nat.le_of_ble_eq_true rfl⟩) hP hD hS hA [0] [] rfl rfl (by decide) (by decide) (fun r_30 u9 H locs hw30 hP hD hS => ?_)
    have hP : va_P D vC [(h0, .inr (13, [.int (mo_th 1 0), .ref (r 1), .int (z 2), .int (z 3), .ref (r 4), .ref (r 5), .ref (r 6), .ref (r 7), .int (z 8), .ref (r 9), .int (z 10), .int (z 11), .int (z 12), .int (z 13), .ref (r 14), .ref (r 15), .ref (r 16), .ref (r 17), .ref (r 18), .ref (r 19), .ref (r 20), .ref (r 21), .int (z 22), .int (z 23), .int (z 24), .int (z 25), .int (z 26), .int (z 27), .ref (r 28), .ref (r 29), .int (z 30), .int (z 31), .int (z 32), .ref (r 33), .ref (r 34)]))] H := hP
    have hD : va_D A [(h0, .inr (13, [.int (mo_th 1 0), .ref (r 1), .int (z 2), .int (z 3), .ref (r 4), .ref (r 5), .ref (r 6), .ref (r 7), .int (z 8), .ref (r 9), .int (z 10), .int (z 11), .int (z 12), .int (z 13), .ref (r 14), .ref (r 15), .ref (r 16), .ref (r 17), .ref (r 18), .ref (r 19), .ref (r 20), .ref (r 21), .int (z 22), .int (z 23), .int (z 24), .int (z 25), .int (z 26), .int (z 27), .ref (r 28), .ref (r 29), .int (z 30), .int (z 31), .int (z 32), .ref (r 33), .ref (r 34)]))] := hD
    rw [show mo_th 1 0 = (1 : Int32) from by decide +kernel] at hP hD
    refine lv_if_eq (tgt := 38) hx hb d_Mo_load_33 (by decide) (fun c_33 => absurd (hw30.symm.trans c_33) (by decide)) (fun c_33 => ?_)
    refine lv_iconst (v := 0) hx hb d_Mo_load_36 (by decide) ?_
    exact W.iret (v := 0) hx hb hr (fun t ht hW => ⟨⟨0, (), rfl, rfl, by rw [ht]; exact hP, va_K.moved hW.alike hK, hD⟩, hS.F ht⟩) hS.2.2 d_Mo_load_37

set_option maxHeartbeats 4000000 in
set_option maxRecDepth 100000 in
/-- print on an empty lake -/
theorem c_Mo_print0 (l : Launch) (D : va_G) (kA : Nat → ClassId) (kS : Nat → Nat) (sz : Nat) (h0 : Nat) (r : Nat → Nat) (z : Nat → Int32) (y : Nat → Int64) (a b : Int32) (hz11 : z 11 = 0) (hz13 : z 13 = 0) : Met l y_Mo_print w_Mo_print { frames := 3, cells := 0, slots := 0, locals := 64 } (xPre D vC (tK kA) kS [.ref h0, .int a, .int b] ([oMo h0 r z y]) sz) (va_Ql (fun (x : Int64) (_ : Unit) => x = 0) (xB D vC (tK kA) (fun _ => [oMo h0 r (upd z 0 1) y]) (va_A ([oMo h0 r z y]) sz)) (va_A ([oMo h0 r z y]) sz)) 0 0 (va_A ([oMo h0 r z y]) sz) := by
  refine Met.ofW (cc := b_Mo_print) (maxL := 3) (ret := (some .long)) (by decide) rfl ?_
  intro p e s m args below meth c s₁ B hml hv
  obtain ⟨rfl, hsz, hP, hK, hD0, hN, hC⟩ := hv
  have hx := B.exec
  have hb := B.bytes
  have hr := B.returns
  have hts := atoms_spec (ws := w_Mo_print) B.pre
  have hg : ∀ w ∈ gW, w.before _ s = true := fun w h => hts w (List.mem_cons_of_mem _ h)
  have hown : s.vm.findClass R_Mo = some m.cls := findClass_of_methodNamed B.named
  have hlocks := B.notSynchronized
  subst hsz
  have hD := hD0.self (sz := s.heap.size)
  generalize hAe : va_A ([oMo h0 r z y]) s.heap.size = A at hD hC ⊢
  have hA : ∀ q : Nat, s.heap.size ≤ q → A q := fun q h => by rw [← hAe]; exact Or.inr h
  have hS : va_S A s.heap s.heap [] := va_S.rf
  have hP : va_P D vC [(h0, .inr (13, [.int (z 0), .ref (r 1), .int (z 2), .int (z 3), .ref (r 4), .ref (r 5), .ref (r 6), .ref (r 7), .int (z 8), .ref (r 9), .int (z 10), .int (z 11), .int (z 12), .int (z 13), .ref (r 14), .ref (r 15), .ref (r 16), .ref (r 17), .ref (r 18), .ref (r 19), .ref (r 20), .ref (r 21), .int (z 22), .int (z 23), .int (z 24), .int (z 25), .int (z 26), .int (z 27), .ref (r 28), .ref (r 29), .int (z 30), .int (z 31), .int (z 32), .ref (r 33), .ref (r 34)]))] s.heap := hP
  have hD : va_D A [(h0, .inr (13, [.int (z 0), .ref (r 1), .int (z 2), .int (z 3), .ref (r 4), .ref (r 5), .ref (r 6), .ref (r 7), .int (z 8), .ref (r 9), .int (z 10), .int (z 11), .int (z 12), .int (z 13), .ref (r 14), .ref (r 15), .ref (r 16), .ref (r 17), .ref (r 18), .ref (r 19), .ref (r 20), .ref (r 21), .int (z 22), .int (z 23), .int (z 24), .int (z 25), .int (z 26), .int (z 27), .ref (r 28), .ref (r 29), .int (z 30), .int (z 31), .int (z 32), .ref (r 33), .ref (r 34)]))] := hD
  have hl := lv_entry ([.ref h0, .int a, .int b]) (n := 3) (Nat.le_of_ble_eq_true rfl)
  rw [lg_entry_eq]
  generalize (lg_sl ([.ref h0, .int a, .int b]) ++ List.replicate (3 - (lg_sl ([.ref h0, .int a, .int b])).length) Slot.unset).toArray = ls at hl ⊢
  have hl : lv_has ls 3 [(0, .ref h0), (1, .int a), (2, .int b)] := hl
  refine lv_aload_n hx hb d_Mo_print_0 rfl (lv_at hl 0 rfl) ?_
  refine lv_iload_n hx hb d_Mo_print_1 rfl (lv_at hl 1 rfl) ?_
  refine xc_pi (va_runS (As := [.int a]) (rest := [.ref h0]) ⟨hx, hb, hml, hown, hg⟩ (p_Mo_isSubject l D kA kS s.heap.size a) (cwS 1 hg (xg_S mw_2103 mw_2104 mw_13 mw_2105) rfl rfl rfl (by decide +kernel) ⟨Nat.le_of_ble_eq_true rfl, Nat.le_of_ble_eq_true rfl⟩) (xc_pre hK hN hC hP hD hS hA [] (by decide) rfl) rfl rfl hl.1 rfl (lv_room (Nat.le_of_ble_eq_true rfl)) d_Mo_print_2 ⟨Nat.le_of_ble_eq_true rfl, Nat.le_of_ble_eq_true rfl⟩) (fun r_2 hw2 => ?_)
  refine lv_if_eq (tgt := 24) hx hb d_Mo_print_5 (by decide) (fun c_5 => ?_) (fun c_5 => ?_)
  · skip
    refine lv_iconst (v := 1) hx hb d_Mo_print_24 (by decide) ?_
    refine lv_goto (tgt := 29) hx hb d_Mo_print_25 (by decide) ?_
    refine lv_iconst (v := 0) hx hb d_Mo_print_29 (by decide) ?_
    refine xc_i (wr := []) (va_runV (As := [.int 1, .int 0]) (rest := []) ⟨hx, hb, hml, hown, hg⟩ (c_Mo_refused l D kA kS s.heap.size h0 r z y 1 0) (cwV 2 hg (xg_V mw_1830 mw_1832 ms_96 mw_13 mw_1833) rfl rfl rfl (by decide +kernel) ⟨Nat.le_of_ble_eq_true rfl, Nat.le_of_ble_eq_true rfl⟩) (xc_preV hK hN hC hP hD hS hA [0] (by decide) rfl 0 rfl rfl) rfl rfl hl.1 rfl (lv_room (Nat.le_of_ble_eq_true rfl)) d_Mo_print_30 ⟨Nat.le_of_ble_eq_true rfl, Nat.le_of_ble_eq_true rfl⟩) hP hD hS hA [0] [] rfl rfl (by decide) (by decide) (fun r_30 u9 H locs hw30 hP hD hS => ?_)
    have hP : va_P D vC [(h0, .inr (13, [.int (mo_th 1 0), .ref (r 1), .int (z 2), .int (z 3), .ref (r 4), .ref (r 5), .ref (r 6), .ref (r 7), .int (z 8), .ref (r 9), .int (z 10), .int (z 11), .int (z 12), .int (z 13), .ref (r 14), .ref (r 15), .ref (r 16), .ref (r 17), .ref (r 18), .ref (r 19), .ref (r 20), .ref (r 21), .int (z 22), .int (z 23), .int (z 24), .int (z 25), .int (z 26), .int (z 27), .ref (r 28), .ref (r 29), .int (z 30), .int (z 31), .int (z 32), .ref (r 33), .ref (r 34)]))] H := hP
    have hD : va_D A [(h0, .inr (13, [.int (mo_th 1 0), .ref (r 1), .int (z 2), .int (z 3), .ref (r 4), .ref (r 5), .ref (r 6), .ref (r 7), .int (z 8), .ref (r 9), .int (z 10), .int (z 11), .int (z 12), .int (z 13), .ref (r 14), .ref (r 15), .ref (r 16), .ref (r 17), .ref (r 18), .ref (r 19), .ref (r 20), .ref (r 21), .int (z 22), .int (z 23), .int (z 24), .int (z 25), .int (z 26), .int (z 27), .ref (r 28), .ref (r 29), .int (z 30), .int (z 31), .int (z 32), .ref (r 33), .ref (r 34)]))] := hD
    rw [show mo_th 1 0 = (1 : Int32) from by decide +kernel] at hP hD
    refine lv_if_ne (tgt := 43) hx hb d_Mo_print_33 (by decide) (fun c_33 => ?_) (fun c_33 => absurd (hw30.symm.trans c_33) (by decide))
    refine lv_lconst (v := 0) hx hb d_Mo_print_43 (by decide) ?_
    exact W.lret (v := 0) hx hb hr (fun t ht hW => ⟨⟨0, (), rfl, rfl, by rw [ht]; exact hP, va_K.moved hW.alike hK, hD⟩, hS.F ht⟩) hS.2.2 d_Mo_print_44
  · skip
    refine lv_aload_n hx hb d_Mo_print_8 rfl (lv_at hl 0 rfl) ?_
    refine va_get (D := D) (ci := 13) (v := .int (z 11)) (C := R_Mo) (T := F_Mo) (N := 35) hx hb hg i_Mo hown hK hP 0 rfl rfl 11 (by decide) (hg _ mw_1727) (fun _ h9 => h9) rfl d_Mo_print_9 ?_
    refine lv_if_ne (tgt := 28) hx hb d_Mo_print_12 (by decide) (fun c_12 => absurd hz11 c_12) (fun c_12 => ?_)
    refine lv_aload_n hx hb d_Mo_print_15 rfl (lv_at hl 0 rfl) ?_
    refine lv_iload_n hx hb d_Mo_print_16 rfl (lv_at hl 1 rfl) ?_
    refine lv_iload_n hx hb d_Mo_print_17 rfl (lv_at hl 2 rfl) ?_
    refine xc_pi (va_runV (As := [.int a, .int b]) (rest := [.ref h0]) ⟨hx, hb, hml, hown, hg⟩ (p_Mo_isVersion0 l D kA kS s.heap.size h0 r z y a b hz13) (cwV 2 hg (xg_V mw_2166 mw_2168 ms_143 mw_13 mw_2169) rfl rfl rfl (by decide +kernel) ⟨Nat.le_of_ble_eq_true rfl, Nat.le_of_ble_eq_true rfl⟩) (xc_preV hK hN hC hP hD hS hA [0] (by decide) rfl 0 rfl rfl) rfl rfl hl.1 rfl (lv_room (Nat.le_of_ble_eq_true rfl)) d_Mo_print_18 ⟨Nat.le_of_ble_eq_true rfl, Nat.le_of_ble_eq_true rfl⟩) (fun r_18 hw18 => ?_)
    refine lv_if_ne (tgt := 28) hx hb d_Mo_print_21 (by decide) (fun c_21 => absurd hw18 c_21) (fun c_21 => ?_)
    refine lv_iconst (v := 1) hx hb d_Mo_print_24 (by decide) ?_
    refine lv_goto (tgt := 29) hx hb d_Mo_print_25 (by decide) ?_
    refine lv_iconst (v := 0) hx hb d_Mo_print_29 (by decide) ?_
    refine xc_i (wr := []) (va_runV (As := [.int 1, .int 0]) (rest := []) ⟨hx, hb, hml, hown, hg⟩ (c_Mo_refused l D kA kS s.heap.size h0 r z y 1 0) (cwV 2 hg (xg_V mw_1830 mw_1832 ms_96 mw_13 mw_1833) rfl rfl rfl (by decide +kernel) ⟨Nat.le_of_ble_eq_true rfl, Nat.le_of_ble_eq_true rfl⟩) (xc_preV hK hN hC hP hD hS hA [0] (by decide) rfl 0 rfl rfl) rfl rfl hl.1 rfl (lv_room (Nat.le_of_ble_eq_true rfl)) d_Mo_print_30 ⟨Nat.le_of_ble_eq_true rfl, Nat.le_of_ble_eq_true rfl⟩) hP hD hS hA [0] [] rfl rfl (by decide) (by decide) (fun r_30 u9 H locs hw30 hP hD hS => ?_)
    have hP : va_P D vC [(h0, .inr (13, [.int (mo_th 1 0), .ref (r 1), .int (z 2), .int (z 3), .ref (r 4), .ref (r 5), .ref (r 6), .ref (r 7), .int (z 8), .ref (r 9), .int (z 10), .int (z 11), .int (z 12), .int (z 13), .ref (r 14), .ref (r 15), .ref (r 16), .ref (r 17), .ref (r 18), .ref (r 19), .ref (r 20), .ref (r 21), .int (z 22), .int (z 23), .int (z 24), .int (z 25), .int (z 26), .int (z 27), .ref (r 28), .ref (r 29), .int (z 30), .int (z 31), .int (z 32), .ref (r 33), .ref (r 34)]))] H := hP
    have hD : va_D A [(h0, .inr (13, [.int (mo_th 1 0), .ref (r 1), .int (z 2), .int (z 3), .ref (r 4), .ref (r 5), .ref (r 6), .ref (r 7), .int (z 8), .ref (r 9), .int (z 10), .int (z 11), .int (z 12), .int (z 13), .ref (r 14), .ref (r 15), .ref (r 16), .ref (r 17), .ref (r 18), .ref (r 19), .ref (r 20), .ref (r 21), .int (z 22), .int (z 23), .int (z 24), .int (z 25), .int (z 26), .int (z 27), .ref (r 28), .ref (r 29), .int (z 30), .int (z 31), .int (z 32), .ref (r 33), .ref (r 34)]))] := hD
    rw [show mo_th 1 0 = (1 : Int32) from by decide +kernel] at hP hD
    refine lv_if_ne (tgt := 43) hx hb d_Mo_print_33 (by decide) (fun c_33 => ?_) (fun c_33 => absurd (hw30.symm.trans c_33) (by decide))
    refine lv_lconst (v := 0) hx hb d_Mo_print_43 (by decide) ?_
    exact W.lret (v := 0) hx hb hr (fun t ht hW => ⟨⟨0, (), rfl, rfl, by rw [ht]; exact hP, va_K.moved hW.alike hK, hD⟩, hS.F ht⟩) hS.2.2 d_Mo_print_44

set_option maxHeartbeats 4000000 in
set_option maxRecDepth 100000 in
/-- read on an empty lake -/
theorem c_Mo_read0 (l : Launch) (D : va_G) (kA : Nat → ClassId) (kS : Nat → Nat) (sz : Nat) (h0 : Nat) (r : Nat → Nat) (z : Nat → Int32) (y : Nat → Int64) (a b i : Int32) (hz11 : z 11 = 0) (hz13 : z 13 = 0) : Met l y_Mo_read w_Mo_read { frames := 3, cells := 0, slots := 0, locals := 64 } (xPre D vC (tK kA) kS [.ref h0, .int a, .int b, .int i] ([oMo h0 r z y]) sz) (va_Qi (fun (x : Int32) (_ : Unit) => x = 0) (xB D vC (tK kA) (fun _ => [oMo h0 r (upd z 0 1) y]) (va_A ([oMo h0 r z y]) sz)) (va_A ([oMo h0 r z y]) sz)) 0 0 (va_A ([oMo h0 r z y]) sz) := by
  refine Met.ofW (cc := b_Mo_read) (maxL := 9) (ret := (some .int)) (by decide) rfl ?_
  intro p e s m args below meth c s₁ B hml hv
  obtain ⟨rfl, hsz, hP, hK, hD0, hN, hC⟩ := hv
  have hx := B.exec
  have hb := B.bytes
  have hr := B.returns
  have hts := atoms_spec (ws := w_Mo_read) B.pre
  have hg : ∀ w ∈ gW, w.before _ s = true := fun w h => hts w (List.mem_cons_of_mem _ h)
  have hown : s.vm.findClass R_Mo = some m.cls := findClass_of_methodNamed B.named
  have hlocks := B.notSynchronized
  subst hsz
  have hD := hD0.self (sz := s.heap.size)
  generalize hAe : va_A ([oMo h0 r z y]) s.heap.size = A at hD hC ⊢
  have hA : ∀ q : Nat, s.heap.size ≤ q → A q := fun q h => by rw [← hAe]; exact Or.inr h
  have hS : va_S A s.heap s.heap [] := va_S.rf
  have hP : va_P D vC [(h0, .inr (13, [.int (z 0), .ref (r 1), .int (z 2), .int (z 3), .ref (r 4), .ref (r 5), .ref (r 6), .ref (r 7), .int (z 8), .ref (r 9), .int (z 10), .int (z 11), .int (z 12), .int (z 13), .ref (r 14), .ref (r 15), .ref (r 16), .ref (r 17), .ref (r 18), .ref (r 19), .ref (r 20), .ref (r 21), .int (z 22), .int (z 23), .int (z 24), .int (z 25), .int (z 26), .int (z 27), .ref (r 28), .ref (r 29), .int (z 30), .int (z 31), .int (z 32), .ref (r 33), .ref (r 34)]))] s.heap := hP
  have hD : va_D A [(h0, .inr (13, [.int (z 0), .ref (r 1), .int (z 2), .int (z 3), .ref (r 4), .ref (r 5), .ref (r 6), .ref (r 7), .int (z 8), .ref (r 9), .int (z 10), .int (z 11), .int (z 12), .int (z 13), .ref (r 14), .ref (r 15), .ref (r 16), .ref (r 17), .ref (r 18), .ref (r 19), .ref (r 20), .ref (r 21), .int (z 22), .int (z 23), .int (z 24), .int (z 25), .int (z 26), .int (z 27), .ref (r 28), .ref (r 29), .int (z 30), .int (z 31), .int (z 32), .ref (r 33), .ref (r 34)]))] := hD
  have hl := lv_entry ([.ref h0, .int a, .int b, .int i]) (n := 9) (Nat.le_of_ble_eq_true rfl)
  rw [lg_entry_eq]
  generalize (lg_sl ([.ref h0, .int a, .int b, .int i]) ++ List.replicate (9 - (lg_sl ([.ref h0, .int a, .int b, .int i])).length) Slot.unset).toArray = ls at hl ⊢
  have hl : lv_has ls 9 [(0, .ref h0), (1, .int a), (2, .int b), (3, .int i)] := hl
  refine lv_iload_n hx hb d_Mo_read_0 rfl (lv_at hl 1 rfl) ?_
  refine xc_pi (va_runS (As := [.int a]) (rest := []) ⟨hx, hb, hml, hown, hg⟩ (p_Mo_isSubject l D kA kS s.heap.size a) (cwS 1 hg (xg_S mw_2103 mw_2104 mw_13 mw_2105) rfl rfl rfl (by decide +kernel) ⟨Nat.le_of_ble_eq_true rfl, Nat.le_of_ble_eq_true rfl⟩) (xc_pre hK hN hC hP hD hS hA [] (by decide) rfl) rfl rfl hl.1 rfl (lv_room (Nat.le_of_ble_eq_true rfl)) d_Mo_read_1 ⟨Nat.le_of_ble_eq_true rfl, Nat.le_of_ble_eq_true rfl⟩) (fun r_1 hw1 => ?_)
  refine lv_if_eq (tgt := 38) hx hb d_Mo_read_4 (by decide) (fun c_4 => ?_) (fun c_4 => ?_)
  · skip
    refine lv_iconst (v := 1) hx hb d_Mo_read_38 (by decide) ?_
    refine lv_goto (tgt := 43) hx hb d_Mo_read_39 (by decide) ?_
    refine lv_istore (lv' := [(4, .int 1), (0, .ref h0), (1, .int a), (2, .int b), (3, .int i)]) hx hb d_Mo_read_43 hl (by decide) rfl (fun ls hl => ?_)
    refine lv_aload_n hx hb d_Mo_read_45 rfl (lv_at hl 1 rfl) ?_
    refine lv_iload hx hb d_Mo_read_46 (lv_at hl 0 rfl) ?_
    refine lv_iconst (v := 0) hx hb d_Mo_read_48 (by decide) ?_
    refine xc_i (wr := []) (va_runV (As := [.int 1, .int 0]) (rest := []) ⟨hx, hb, hml, hown, hg⟩ (c_Mo_refused l D kA kS s.heap.size h0 r z y 1 0) (cwV 2 hg (xg_V mw_1830 mw_1832 ms_96 mw_13 mw_1833) rfl rfl rfl (by decide +kernel) ⟨Nat.le_of_ble_eq_true rfl, Nat.le_of_ble_eq_true rfl⟩) (xc_preV hK hN hC hP hD hS hA [0] (by decide) rfl 0 rfl rfl) rfl rfl hl.1 rfl (lv_room (Nat.le_of_ble_eq_true rfl)) d_Mo_read_49 ⟨Nat.le_of_ble_eq_true rfl, Nat.le_of_ble_eq_true rfl⟩) hP hD hS hA [0] [] rfl rfl (by decide) (by decide) (fun r_49 u9 H locs hw49 hP hD hS => ?_)
    have hP : va_P D vC [(h0, .inr (13, [.int (mo_th 1 0), .ref (r 1), .int (z 2), .int (z 3), .ref (r 4), .ref (r 5), .ref (r 6), .ref (r 7), .int (z 8), .ref (r 9), .int (z 10), .int (z 11), .int (z 12), .int (z 13), .ref (r 14), .ref (r 15), .ref (r 16), .ref (r 17), .ref (r 18), .ref (r 19), .ref (r 20), .ref (r 21), .int (z 22), .int (z 23), .int (z 24), .int (z 25), .int (z 26), .int (z 27), .ref (r 28), .ref (r 29), .int (z 30), .int (z 31), .int (z 32), .ref (r 33), .ref (r 34)]))] H := hP
    have hD : va_D A [(h0, .inr (13, [.int (mo_th 1 0), .ref (r 1), .int (z 2), .int (z 3), .ref (r 4), .ref (r 5), .ref (r 6), .ref (r 7), .int (z 8), .ref (r 9), .int (z 10), .int (z 11), .int (z 12), .int (z 13), .ref (r 14), .ref (r 15), .ref (r 16), .ref (r 17), .ref (r 18), .ref (r 19), .ref (r 20), .ref (r 21), .int (z 22), .int (z 23), .int (z 24), .int (z 25), .int (z 26), .int (z 27), .ref (r 28), .ref (r 29), .int (z 30), .int (z 31), .int (z 32), .ref (r 33), .ref (r 34)]))] := hD
    rw [show mo_th 1 0 = (1 : Int32) from by decide +kernel] at hP hD
    refine lv_if_eq (tgt := 57) hx hb d_Mo_read_52 (by decide) (fun c_52 => absurd (hw49.symm.trans c_52) (by decide)) (fun c_52 => ?_)
    refine lv_iconst (v := 0) hx hb d_Mo_read_55 (by decide) ?_
    exact W.iret (v := 0) hx hb hr (fun t ht hW => ⟨⟨0, (), rfl, rfl, by rw [ht]; exact hP, va_K.moved hW.alike hK, hD⟩, hS.F ht⟩) hS.2.2 d_Mo_read_56
  · skip
    refine lv_aload_n hx hb d_Mo_read_7 rfl (lv_at hl 0 rfl) ?_
    refine va_get (D := D) (ci := 13) (v := .int (z 11)) (C := R_Mo) (T := F_Mo) (N := 35) hx hb hg i_Mo hown hK hP 0 rfl rfl 11 (by decide) (hg _ mw_1727) (fun _ h9 => h9) rfl d_Mo_read_8 ?_
    refine lv_if_ne (tgt := 42) hx hb d_Mo_read_11 (by decide) (fun c_11 => absurd hz11 c_11) (fun c_11 => ?_)
    refine lv_aload_n hx hb d_Mo_read_14 rfl (lv_at hl 0 rfl) ?_
    refine lv_iload_n hx hb d_Mo_read_15 rfl (lv_at hl 1 rfl) ?_
    refine lv_iload_n hx hb d_Mo_read_16 rfl (lv_at hl 2 rfl) ?_
    refine xc_pi (va_runV (As := [.int a, .int b]) (rest := []) ⟨hx, hb, hml, hown, hg⟩ (p_Mo_isVersion0 l D kA kS s.heap.size h0 r z y a b hz13) (cwV 2 hg (xg_V mw_2166 mw_2168 ms_143 mw_13 mw_2169) rfl rfl rfl (by decide +kernel) ⟨Nat.le_of_ble_eq_true rfl, Nat.le_of_ble_eq_true rfl⟩) (xc_preV hK hN hC hP hD hS hA [0] (by decide) rfl 0 rfl rfl) rfl rfl hl.1 rfl (lv_room (Nat.le_of_ble_eq_true rfl)) d_Mo_read_17 ⟨Nat.le_of_ble_eq_true rfl, Nat.le_of_ble_eq_true rfl⟩) (fun r_17 hw17 => ?_)
    refine lv_if_eq (tgt := 38) hx hb d_Mo_read_20 (by decide) (fun c_20 => ?_) (fun c_20 => absurd hw17 c_20)
    refine lv_iconst (v := 1) hx hb d_Mo_read_38 (by decide) ?_
    refine lv_goto (tgt := 43) hx hb d_Mo_read_39 (by decide) ?_
    refine lv_istore (lv' := [(4, .int 1), (0, .ref h0), (1, .int a), (2, .int b), (3, .int i)]) hx hb d_Mo_read_43 hl (by decide) rfl (fun ls hl => ?_)
    refine lv_aload_n hx hb d_Mo_read_45 rfl (lv_at hl 1 rfl) ?_
    refine lv_iload hx hb d_Mo_read_46 (lv_at hl 0 rfl) ?_
    refine lv_iconst (v := 0) hx hb d_Mo_read_48 (by decide) ?_
    refine xc_i (wr := []) (va_runV (As := [.int 1, .int 0]) (rest := []) ⟨hx, hb, hml, hown, hg⟩ (c_Mo_refused l D kA kS s.heap.size h0 r z y 1 0) (cwV 2 hg (xg_V mw_1830 mw_1832 ms_96 mw_13 mw_1833) rfl rfl rfl (by decide +kernel) ⟨Nat.le_of_ble_eq_true rfl, Nat.le_of_ble_eq_true rfl⟩) (xc_preV hK hN hC hP hD hS hA [0] (by decide) rfl 0 rfl rfl) rfl rfl hl.1 rfl (lv_room (Nat.le_of_ble_eq_true rfl)) d_Mo_read_49 ⟨Nat.le_of_ble_eq_true rfl, Nat.le_of_ble_eq_true rfl⟩) hP hD hS hA [0] [] rfl rfl (by decide) (by decide) (fun r_49 u9 H locs hw49 hP hD hS => ?_)
    have hP : va_P D vC [(h0, .inr (13, [.int (mo_th 1 0), .ref (r 1), .int (z 2), .int (z 3), .ref (r 4), .ref (r 5), .ref (r 6), .ref (r 7), .int (z 8), .ref (r 9), .int (z 10), .int (z 11), .int (z 12), .int (z 13), .ref (r 14), .ref (r 15), .ref (r 16), .ref (r 17), .ref (r 18), .ref (r 19), .ref (r 20), .ref (r 21), .int (z 22), .int (z 23), .int (z 24), .int (z 25), .int (z 26), .int (z 27), .ref (r 28), .ref (r 29), .int (z 30), .int (z 31), .int (z 32), .ref (r 33), .ref (r 34)]))] H := hP
    have hD : va_D A [(h0, .inr (13, [.int (mo_th 1 0), .ref (r 1), .int (z 2), .int (z 3), .ref (r 4), .ref (r 5), .ref (r 6), .ref (r 7), .int (z 8), .ref (r 9), .int (z 10), .int (z 11), .int (z 12), .int (z 13), .ref (r 14), .ref (r 15), .ref (r 16), .ref (r 17), .ref (r 18), .ref (r 19), .ref (r 20), .ref (r 21), .int (z 22), .int (z 23), .int (z 24), .int (z 25), .int (z 26), .int (z 27), .ref (r 28), .ref (r 29), .int (z 30), .int (z 31), .int (z 32), .ref (r 33), .ref (r 34)]))] := hD
    rw [show mo_th 1 0 = (1 : Int32) from by decide +kernel] at hP hD
    refine lv_if_eq (tgt := 57) hx hb d_Mo_read_52 (by decide) (fun c_52 => absurd (hw49.symm.trans c_52) (by decide)) (fun c_52 => ?_)
    refine lv_iconst (v := 0) hx hb d_Mo_read_55 (by decide) ?_
    exact W.iret (v := 0) hx hb hr (fun t ht hW => ⟨⟨0, (), rfl, rfl, by rw [ht]; exact hP, va_K.moved hW.alike hK, hD⟩, hS.F ht⟩) hS.2.2 d_Mo_read_56

set_option maxHeartbeats 4000000 in
set_option maxRecDepth 100000 in
/-- copy on an empty lake -/
theorem c_Mo_copy0 (l : Launch) (D : va_G) (kA : Nat → ClassId) (kS : Nat → Nat) (sz : Nat) (h0 : Nat) (r : Nat → Nat) (z : Nat → Int32) (y : Nat → Int64) (a b v : Int32) (hz11 : z 11 = 0) (hz13 : z 13 = 0) : Met l y_Mo_copy w_Mo_copy { frames := 3, cells := 0, slots := 0, locals := 64 } (xPre D vC (tK kA) kS [.ref h0, .int a, .int b, .int v] ([oMo h0 r z y]) sz) (va_Qi (fun (x : Int32) (_ : Unit) => x = 0) (xB D vC (tK kA) (fun _ => [oMo h0 r (upd z 0 1) y]) (va_A ([oMo h0 r z y]) sz)) (va_A ([oMo h0 r z y]) sz)) 0 0 (va_A ([oMo h0 r z y]) sz) := by
  refine Met.ofW (cc := b_Mo_copy) (maxL := 11) (ret := (some .int)) (by decide) rfl ?_
  intro p e s m args below meth c s₁ B hml hv
  obtain ⟨rfl, hsz, hP, hK, hD0, hN, hC⟩ := hv
  have hx := B.exec
  have hb := B.bytes
  have hr := B.returns
  have hts := atoms_spec (ws := w_Mo_copy) B.pre
  have hg : ∀ w ∈ gW, w.before _ s = true := fun w h => hts w (List.mem_cons_of_mem _ h)
  have hown : s.vm.findClass R_Mo = some m.cls := findClass_of_methodNamed B.named
  have hlocks := B.notSynchronized
  subst hsz
  have hD := hD0.self (sz := s.heap.size)
  generalize hAe : va_A ([oMo h0 r z y]) s.heap.size = A at hD hC ⊢
  have hA : ∀ q : Nat, s.heap.size ≤ q → A q := fun q h => by rw [← hAe]; exact Or.inr h
  have hS : va_S A s.heap s.heap [] := va_S.rf
  have hP : va_P D vC [(h0, .inr (13, [.int (z 0), .ref (r 1), .int (z 2), .int (z 3), .ref (r 4), .ref (r 5), .ref (r 6), .ref (r 7), .int (z 8), .ref (r 9), .int (z 10), .int (z 11), .int (z 12), .int (z 13), .ref (r 14), .ref (r 15), .ref (r 16), .ref (r 17), .ref (r 18), .ref (r 19), .ref (r 20), .ref (r 21), .int (z 22), .int (z 23), .int (z 24), .int (z 25), .int (z 26), .int (z 27), .ref (r 28), .ref (r 29), .int (z 30), .int (z 31), .int (z 32), .ref (r 33), .ref (r 34)]))] s.heap := hP
  have hD : va_D A [(h0, .inr (13, [.int (z 0), .ref (r 1), .int (z 2), .int (z 3), .ref (r 4), .ref (r 5), .ref (r 6), .ref (r 7), .int (z 8), .ref (r 9), .int (z 10), .int (z 11), .int (z 12), .int (z 13), .ref (r 14), .ref (r 15), .ref (r 16), .ref (r 17), .ref (r 18), .ref (r 19), .ref (r 20), .ref (r 21), .int (z 22), .int (z 23), .int (z 24), .int (z 25), .int (z 26), .int (z 27), .ref (r 28), .ref (r 29), .int (z 30), .int (z 31), .int (z 32), .ref (r 33), .ref (r 34)]))] := hD
  have hl := lv_entry ([.ref h0, .int a, .int b, .int v]) (n := 11) (Nat.le_of_ble_eq_true rfl)
  rw [lg_entry_eq]
  generalize (lg_sl ([.ref h0, .int a, .int b, .int v]) ++ List.replicate (11 - (lg_sl ([.ref h0, .int a, .int b, .int v])).length) Slot.unset).toArray = ls at hl ⊢
  have hl : lv_has ls 11 [(0, .ref h0), (1, .int a), (2, .int b), (3, .int v)] := hl
  refine lv_iload_n hx hb d_Mo_copy_0 rfl (lv_at hl 1 rfl) ?_
  refine xc_pi (va_runS (As := [.int a]) (rest := []) ⟨hx, hb, hml, hown, hg⟩ (p_Mo_isSubject l D kA kS s.heap.size a) (cwS 1 hg (xg_S mw_2103 mw_2104 mw_13 mw_2105) rfl rfl rfl (by decide +kernel) ⟨Nat.le_of_ble_eq_true rfl, Nat.le_of_ble_eq_true rfl⟩) (xc_pre hK hN hC hP hD hS hA [] (by decide) rfl) rfl rfl hl.1 rfl (lv_room (Nat.le_of_ble_eq_true rfl)) d_Mo_copy_1 ⟨Nat.le_of_ble_eq_true rfl, Nat.le_of_ble_eq_true rfl⟩) (fun r_1 hw1 => ?_)
  refine lv_if_eq (tgt := 30) hx hb d_Mo_copy_4 (by decide) (fun c_4 => ?_) (fun c_4 => ?_)
  · skip
    refine lv_iconst (v := 1) hx hb d_Mo_copy_30 (by decide) ?_
    refine lv_goto (tgt := 35) hx hb d_Mo_copy_31 (by decide) ?_
    refine lv_istore (lv' := [(4, .int 1), (0, .ref h0), (1, .int a), (2, .int b), (3, .int v)]) hx hb d_Mo_copy_35 hl (by decide) rfl (fun ls hl => ?_)
    refine lv_aload_n hx hb d_Mo_copy_37 rfl (lv_at hl 1 rfl) ?_
    refine lv_iload hx hb d_Mo_copy_38 (lv_at hl 0 rfl) ?_
    refine lv_iconst (v := 0) hx hb d_Mo_copy_40 (by decide) ?_
    refine xc_i (wr := []) (va_runV (As := [.int 1, .int 0]) (rest := []) ⟨hx, hb, hml, hown, hg⟩ (c_Mo_refused l D kA kS s.heap.size h0 r z y 1 0) (cwV 2 hg (xg_V mw_1830 mw_1832 ms_96 mw_13 mw_1833) rfl rfl rfl (by decide +kernel) ⟨Nat.le_of_ble_eq_true rfl, Nat.le_of_ble_eq_true rfl⟩) (xc_preV hK hN hC hP hD hS hA [0] (by decide) rfl 0 rfl rfl) rfl rfl hl.1 rfl (lv_room (Nat.le_of_ble_eq_true rfl)) d_Mo_copy_41 ⟨Nat.le_of_ble_eq_true rfl, Nat.le_of_ble_eq_true rfl⟩) hP hD hS hA [0] [] rfl rfl (by decide) (by decide) (fun r_41 u9 H locs hw41 hP hD hS => ?_)
    have hP : va_P D vC [(h0, .inr (13, [.int (mo_th 1 0), .ref (r 1), .int (z 2), .int (z 3), .ref (r 4), .ref (r 5), .ref (r 6), .ref (r 7), .int (z 8), .ref (r 9), .int (z 10), .int (z 11), .int (z 12), .int (z 13), .ref (r 14), .ref (r 15), .ref (r 16), .ref (r 17), .ref (r 18), .ref (r 19), .ref (r 20), .ref (r 21), .int (z 22), .int (z 23), .int (z 24), .int (z 25), .int (z 26), .int (z 27), .ref (r 28), .ref (r 29), .int (z 30), .int (z 31), .int (z 32), .ref (r 33), .ref (r 34)]))] H := hP
    have hD : va_D A [(h0, .inr (13, [.int (mo_th 1 0), .ref (r 1), .int (z 2), .int (z 3), .ref (r 4), .ref (r 5), .ref (r 6), .ref (r 7), .int (z 8), .ref (r 9), .int (z 10), .int (z 11), .int (z 12), .int (z 13), .ref (r 14), .ref (r 15), .ref (r 16), .ref (r 17), .ref (r 18), .ref (r 19), .ref (r 20), .ref (r 21), .int (z 22), .int (z 23), .int (z 24), .int (z 25), .int (z 26), .int (z 27), .ref (r 28), .ref (r 29), .int (z 30), .int (z 31), .int (z 32), .ref (r 33), .ref (r 34)]))] := hD
    rw [show mo_th 1 0 = (1 : Int32) from by decide +kernel] at hP hD
    refine lv_if_eq (tgt := 49) hx hb d_Mo_copy_44 (by decide) (fun c_44 => absurd (hw41.symm.trans c_44) (by decide)) (fun c_44 => ?_)
    refine lv_iconst (v := 0) hx hb d_Mo_copy_47 (by decide) ?_
    exact W.iret (v := 0) hx hb hr (fun t ht hW => ⟨⟨0, (), rfl, rfl, by rw [ht]; exact hP, va_K.moved hW.alike hK, hD⟩, hS.F ht⟩) hS.2.2 d_Mo_copy_48
  · skip
    refine lv_iload_n hx hb d_Mo_copy_7 rfl (lv_at hl 2 rfl) ?_
    refine xc_pi (va_runS (As := [.int b]) (rest := []) ⟨hx, hb, hml, hown, hg⟩ (p_Mo_isSubject l D kA kS s.heap.size b) (cwS 1 hg (xg_S mw_2103 mw_2104 mw_13 mw_2105) rfl rfl rfl (by decide +kernel) ⟨Nat.le_of_ble_eq_true rfl, Nat.le_of_ble_eq_true rfl⟩) (xc_pre hK hN hC hP hD hS hA [] (by decide) rfl) rfl rfl hl.1 rfl (lv_room (Nat.le_of_ble_eq_true rfl)) d_Mo_copy_8 ⟨Nat.le_of_ble_eq_true rfl, Nat.le_of_ble_eq_true rfl⟩) (fun r_8 hw8 => ?_)
    refine lv_if_eq (tgt := 30) hx hb d_Mo_copy_11 (by decide) (fun c_11 => ?_) (fun c_11 => ?_)
    · skip
      refine lv_iconst (v := 1) hx hb d_Mo_copy_30 (by decide) ?_
      refine lv_goto (tgt := 35) hx hb d_Mo_copy_31 (by decide) ?_
      refine lv_istore (lv' := [(4, .int 1), (0, .ref h0), (1, .int a), (2, .int b), (3, .int v)]) hx hb d_Mo_copy_35 hl (by decide) rfl (fun ls hl => ?_)
      refine lv_aload_n hx hb d_Mo_copy_37 rfl (lv_at hl 1 rfl) ?_
      refine lv_iload hx hb d_Mo_copy_38 (lv_at hl 0 rfl) ?_
      refine lv_iconst (v := 0) hx hb d_Mo_copy_40 (by decide) ?_
      refine xc_i (wr := []) (va_runV (As := [.int 1, .int 0]) (rest := []) ⟨hx, hb, hml, hown, hg⟩ (c_Mo_refused l D kA kS s.heap.size h0 r z y 1 0) (cwV 2 hg (xg_V mw_1830 mw_1832 ms_96 mw_13 mw_1833) rfl rfl rfl (by decide +kernel) ⟨Nat.le_of_ble_eq_true rfl, Nat.le_of_ble_eq_true rfl⟩) (xc_preV hK hN hC hP hD hS hA [0] (by decide) rfl 0 rfl rfl) rfl rfl hl.1 rfl (lv_room (Nat.le_of_ble_eq_true rfl)) d_Mo_copy_41 ⟨Nat.le_of_ble_eq_true rfl, Nat.le_of_ble_eq_true rfl⟩) hP hD hS hA [0] [] rfl rfl (by decide) (by decide) (fun r_41 u9 H locs hw41 hP hD hS => ?_)
      have hP : va_P D vC [(h0, .inr (13, [.int (mo_th 1 0), .ref (r 1), .int (z 2), .int (z 3), .ref (r 4), .ref (r 5), .ref (r 6), .ref (r 7), .int (z 8), .ref (r 9), .int (z 10), .int (z 11), .int (z 12), .int (z 13), .ref (r 14), .ref (r 15), .ref (r 16), .ref (r 17), .ref (r 18), .ref (r 19), .ref (r 20), .ref (r 21), .int (z 22), .int (z 23), .int (z 24), .int (z 25), .int (z 26), .int (z 27), .ref (r 28), .ref (r 29), .int (z 30), .int (z 31), .int (z 32), .ref (r 33), .ref (r 34)]))] H := hP
      have hD : va_D A [(h0, .inr (13, [.int (mo_th 1 0), .ref (r 1), .int (z 2), .int (z 3), .ref (r 4), .ref (r 5), .ref (r 6), .ref (r 7), .int (z 8), .ref (r 9), .int (z 10), .int (z 11), .int (z 12), .int (z 13), .ref (r 14), .ref (r 15), .ref (r 16), .ref (r 17), .ref (r 18), .ref (r 19), .ref (r 20), .ref (r 21), .int (z 22), .int (z 23), .int (z 24), .int (z 25), .int (z 26), .int (z 27), .ref (r 28), .ref (r 29), .int (z 30), .int (z 31), .int (z 32), .ref (r 33), .ref (r 34)]))] := hD
      rw [show mo_th 1 0 = (1 : Int32) from by decide +kernel] at hP hD
      refine lv_if_eq (tgt := 49) hx hb d_Mo_copy_44 (by decide) (fun c_44 => absurd (hw41.symm.trans c_44) (by decide)) (fun c_44 => ?_)
      refine lv_iconst (v := 0) hx hb d_Mo_copy_47 (by decide) ?_
      exact W.iret (v := 0) hx hb hr (fun t ht hW => ⟨⟨0, (), rfl, rfl, by rw [ht]; exact hP, va_K.moved hW.alike hK, hD⟩, hS.F ht⟩) hS.2.2 d_Mo_copy_48
    · skip
      refine lv_aload_n hx hb d_Mo_copy_14 rfl (lv_at hl 0 rfl) ?_
      refine va_get (D := D) (ci := 13) (v := .int (z 11)) (C := R_Mo) (T := F_Mo) (N := 35) hx hb hg i_Mo hown hK hP 0 rfl rfl 11 (by decide) (hg _ mw_1727) (fun _ h9 => h9) rfl d_Mo_copy_15 ?_
      refine lv_if_ne (tgt := 34) hx hb d_Mo_copy_18 (by decide) (fun c_18 => absurd hz11 c_18) (fun c_18 => ?_)
      refine lv_aload_n hx hb d_Mo_copy_21 rfl (lv_at hl 0 rfl) ?_
      refine lv_iload_n hx hb d_Mo_copy_22 rfl (lv_at hl 2 rfl) ?_
      refine lv_iload_n hx hb d_Mo_copy_23 rfl (lv_at hl 3 rfl) ?_
      refine xc_pi (va_runV (As := [.int b, .int v]) (rest := []) ⟨hx, hb, hml, hown, hg⟩ (p_Mo_isVersion0 l D kA kS s.heap.size h0 r z y b v hz13) (cwV 2 hg (xg_V mw_2166 mw_2168 ms_143 mw_13 mw_2169) rfl rfl rfl (by decide +kernel) ⟨Nat.le_of_ble_eq_true rfl, Nat.le_of_ble_eq_true rfl⟩) (xc_preV hK hN hC hP hD hS hA [0] (by decide) rfl 0 rfl rfl) rfl rfl hl.1 rfl (lv_room (Nat.le_of_ble_eq_true rfl)) d_Mo_copy_24 ⟨Nat.le_of_ble_eq_true rfl, Nat.le_of_ble_eq_true rfl⟩) (fun r_24 hw24 => ?_)
      refine lv_if_ne (tgt := 34) hx hb d_Mo_copy_27 (by decide) (fun c_27 => absurd hw24 c_27) (fun c_27 => ?_)
      refine lv_iconst (v := 1) hx hb d_Mo_copy_30 (by decide) ?_
      refine lv_goto (tgt := 35) hx hb d_Mo_copy_31 (by decide) ?_
      refine lv_istore (lv' := [(4, .int 1), (0, .ref h0), (1, .int a), (2, .int b), (3, .int v)]) hx hb d_Mo_copy_35 hl (by decide) rfl (fun ls hl => ?_)
      refine lv_aload_n hx hb d_Mo_copy_37 rfl (lv_at hl 1 rfl) ?_
      refine lv_iload hx hb d_Mo_copy_38 (lv_at hl 0 rfl) ?_
      refine lv_iconst (v := 0) hx hb d_Mo_copy_40 (by decide) ?_
      refine xc_i (wr := []) (va_runV (As := [.int 1, .int 0]) (rest := []) ⟨hx, hb, hml, hown, hg⟩ (c_Mo_refused l D kA kS s.heap.size h0 r z y 1 0) (cwV 2 hg (xg_V mw_1830 mw_1832 ms_96 mw_13 mw_1833) rfl rfl rfl (by decide +kernel) ⟨Nat.le_of_ble_eq_true rfl, Nat.le_of_ble_eq_true rfl⟩) (xc_preV hK hN hC hP hD hS hA [0] (by decide) rfl 0 rfl rfl) rfl rfl hl.1 rfl (lv_room (Nat.le_of_ble_eq_true rfl)) d_Mo_copy_41 ⟨Nat.le_of_ble_eq_true rfl, Nat.le_of_ble_eq_true rfl⟩) hP hD hS hA [0] [] rfl rfl (by decide) (by decide) (fun r_41 u9 H locs hw41 hP hD hS => ?_)
      have hP : va_P D vC [(h0, .inr (13, [.int (mo_th 1 0), .ref (r 1), .int (z 2), .int (z 3), .ref (r 4), .ref (r 5), .ref (r 6), .ref (r 7), .int (z 8), .ref (r 9), .int (z 10), .int (z 11), .int (z 12), .int (z 13), .ref (r 14), .ref (r 15), .ref (r 16), .ref (r 17), .ref (r 18), .ref (r 19), .ref (r 20), .ref (r 21), .int (z 22), .int (z 23), .int (z 24), .int (z 25), .int (z 26), .int (z 27), .ref (r 28), .ref (r 29), .int (z 30), .int (z 31), .int (z 32), .ref (r 33), .ref (r 34)]))] H := hP
      have hD : va_D A [(h0, .inr (13, [.int (mo_th 1 0), .ref (r 1), .int (z 2), .int (z 3), .ref (r 4), .ref (r 5), .ref (r 6), .ref (r 7), .int (z 8), .ref (r 9), .int (z 10), .int (z 11), .int (z 12), .int (z 13), .ref (r 14), .ref (r 15), .ref (r 16), .ref (r 17), .ref (r 18), .ref (r 19), .ref (r 20), .ref (r 21), .int (z 22), .int (z 23), .int (z 24), .int (z 25), .int (z 26), .int (z 27), .ref (r 28), .ref (r 29), .int (z 30), .int (z 31), .int (z 32), .ref (r 33), .ref (r 34)]))] := hD
      rw [show mo_th 1 0 = (1 : Int32) from by decide +kernel] at hP hD
      refine lv_if_eq (tgt := 49) hx hb d_Mo_copy_44 (by decide) (fun c_44 => absurd (hw41.symm.trans c_44) (by decide)) (fun c_44 => ?_)
      refine lv_iconst (v := 0) hx hb d_Mo_copy_47 (by decide) ?_
      exact W.iret (v := 0) hx hb hr (fun t ht hW => ⟨⟨0, (), rfl, rfl, by rw [ht]; exact hP, va_K.moved hW.alike hK, hD⟩, hS.F ht⟩) hS.2.2 d_Mo_copy_48

set_option maxHeartbeats 4000000 in
set_option maxRecDepth 100000 in
/-- fits on an empty lake -/
theorem c_Mo_fits0 (l : Launch) (D : va_G) (kA : Nat → ClassId) (kS : Nat → Nat) (sz : Nat) (h0 : Nat) (r : Nat → Nat) (z : Nat → Int32) (y : Nat → Int64) (a v b t : Int32) (hz11 : z 11 = 0) (hz13 : z 13 = 0) : Met l y_Mo_fits w_Mo_fits { frames := 3, cells := 0, slots := 0, locals := 64 } (xPre D vC (tK kA) kS [.ref h0, .int a, .int v, .int b, .int t] ([oMo h0 r z y]) sz) (va_Qi (fun (x : Int32) (_ : Unit) => x = 0) (xB D vC (tK kA) (fun _ => [oMo h0 r (upd z 0 1) y]) (va_A ([oMo h0 r z y]) sz)) (va_A ([oMo h0 r z y]) sz)) 0 0 (va_A ([oMo h0 r z y]) sz) := by
  refine Met.ofW (cc := b_Mo_fits) (maxL := 6) (ret := (some .boolean)) (by decide) rfl ?_
  intro p e s m args below meth c s₁ B hml hv
  obtain ⟨rfl, hsz, hP, hK, hD0, hN, hC⟩ := hv
  have hx := B.exec
  have hb := B.bytes
  have hr := B.returns
  have hts := atoms_spec (ws := w_Mo_fits) B.pre
  have hg : ∀ w ∈ gW, w.before _ s = true := fun w h => hts w (List.mem_cons_of_mem _ h)
  have hown : s.vm.findClass R_Mo = some m.cls := findClass_of_methodNamed B.named
  have hlocks := B.notSynchronized
  subst hsz
  have hD := hD0.self (sz := s.heap.size)
  generalize hAe : va_A ([oMo h0 r z y]) s.heap.size = A at hD hC ⊢
  have hA : ∀ q : Nat, s.heap.size ≤ q → A q := fun q h => by rw [← hAe]; exact Or.inr h
  have hS : va_S A s.heap s.heap [] := va_S.rf
  have hP : va_P D vC [(h0, .inr (13, [.int (z 0), .ref (r 1), .int (z 2), .int (z 3), .ref (r 4), .ref (r 5), .ref (r 6), .ref (r 7), .int (z 8), .ref (r 9), .int (z 10), .int (z 11), .int (z 12), .int (z 13), .ref (r 14), .ref (r 15), .ref (r 16), .ref (r 17), .ref (r 18), .ref (r 19), .ref (r 20), .ref (r 21), .int (z 22), .int (z 23), .int (z 24), .int (z 25), .int (z 26), .int (z 27), .ref (r 28), .ref (r 29), .int (z 30), .int (z 31), .int (z 32), .ref (r 33), .ref (r 34)]))] s.heap := hP
  have hD : va_D A [(h0, .inr (13, [.int (z 0), .ref (r 1), .int (z 2), .int (z 3), .ref (r 4), .ref (r 5), .ref (r 6), .ref (r 7), .int (z 8), .ref (r 9), .int (z 10), .int (z 11), .int (z 12), .int (z 13), .ref (r 14), .ref (r 15), .ref (r 16), .ref (r 17), .ref (r 18), .ref (r 19), .ref (r 20), .ref (r 21), .int (z 22), .int (z 23), .int (z 24), .int (z 25), .int (z 26), .int (z 27), .ref (r 28), .ref (r 29), .int (z 30), .int (z 31), .int (z 32), .ref (r 33), .ref (r 34)]))] := hD
  have hl := lv_entry ([.ref h0, .int a, .int v, .int b, .int t]) (n := 6) (Nat.le_of_ble_eq_true rfl)
  rw [lg_entry_eq]
  generalize (lg_sl ([.ref h0, .int a, .int v, .int b, .int t]) ++ List.replicate (6 - (lg_sl ([.ref h0, .int a, .int v, .int b, .int t])).length) Slot.unset).toArray = ls at hl ⊢
  have hl : lv_has ls 6 [(0, .ref h0), (1, .int a), (2, .int v), (3, .int b), (4, .int t)] := hl
  refine lv_iload_n hx hb d_Mo_fits_0 rfl (lv_at hl 1 rfl) ?_
  refine xc_pi (va_runS (As := [.int a]) (rest := []) ⟨hx, hb, hml, hown, hg⟩ (p_Mo_isSubject l D kA kS s.heap.size a) (cwS 1 hg (xg_S mw_2103 mw_2104 mw_13 mw_2105) rfl rfl rfl (by decide +kernel) ⟨Nat.le_of_ble_eq_true rfl, Nat.le_of_ble_eq_true rfl⟩) (xc_pre hK hN hC hP hD hS hA [] (by decide) rfl) rfl rfl hl.1 rfl (lv_room (Nat.le_of_ble_eq_true rfl)) d_Mo_fits_1 ⟨Nat.le_of_ble_eq_true rfl, Nat.le_of_ble_eq_true rfl⟩) (fun r_1 hw1 => ?_)
  refine lv_if_eq (tgt := 14) hx hb d_Mo_fits_4 (by decide) (fun c_4 => ?_) (fun c_4 => ?_)
  · skip
    refine lv_iconst (v := 1) hx hb d_Mo_fits_14 (by decide) ?_
    refine lv_goto (tgt := 19) hx hb d_Mo_fits_15 (by decide) ?_
    refine lv_istore (lv' := [(5, .int 1), (0, .ref h0), (1, .int a), (2, .int v), (3, .int b), (4, .int t)]) hx hb d_Mo_fits_19 hl (by decide) rfl (fun ls hl => ?_)
    refine lv_iload hx hb d_Mo_fits_21 (lv_at hl 0 rfl) ?_
    refine lv_if_ne (tgt := 52) hx hb d_Mo_fits_23 (by decide) (fun c_23 => ?_) (fun c_23 => absurd c_23 (by decide))
    refine lv_iconst (v := 1) hx hb d_Mo_fits_52 (by decide) ?_
    refine lv_goto (tgt := 57) hx hb d_Mo_fits_53 (by decide) ?_
    refine lv_istore (lv' := [(5, .int 1), (0, .ref h0), (1, .int a), (2, .int v), (3, .int b), (4, .int t)]) hx hb d_Mo_fits_57 hl (by decide) rfl (fun ls hl => ?_)
    refine lv_aload_n hx hb d_Mo_fits_59 rfl (lv_at hl 1 rfl) ?_
    refine lv_iload hx hb d_Mo_fits_60 (lv_at hl 0 rfl) ?_
    refine lv_iconst (v := 0) hx hb d_Mo_fits_62 (by decide) ?_
    refine xc_i (wr := []) (va_runV (As := [.int 1, .int 0]) (rest := []) ⟨hx, hb, hml, hown, hg⟩ (c_Mo_refused l D kA kS s.heap.size h0 r z y 1 0) (cwV 2 hg (xg_V mw_1830 mw_1832 ms_96 mw_13 mw_1833) rfl rfl rfl (by decide +kernel) ⟨Nat.le_of_ble_eq_true rfl, Nat.le_of_ble_eq_true rfl⟩) (xc_preV hK hN hC hP hD hS hA [0] (by decide) rfl 0 rfl rfl) rfl rfl hl.1 rfl (lv_room (Nat.le_of_ble_eq_true rfl)) d_Mo_fits_63 ⟨Nat.le_of_ble_eq_true rfl, Nat.le_of_ble_eq_true rfl⟩) hP hD hS hA [0] [] rfl rfl (by decide) (by decide) (fun r_63 u9 H locs hw63 hP hD hS => ?_)
    have hP : va_P D vC [(h0, .inr (13, [.int (mo_th 1 0), .ref (r 1), .int (z 2), .int (z 3), .ref (r 4), .ref (r 5), .ref (r 6), .ref (r 7), .int (z 8), .ref (r 9), .int (z 10), .int (z 11), .int (z 12), .int (z 13), .ref (r 14), .ref (r 15), .ref (r 16), .ref (r 17), .ref (r 18), .ref (r 19), .ref (r 20), .ref (r 21), .int (z 22), .int (z 23), .int (z 24), .int (z 25), .int (z 26), .int (z 27), .ref (r 28), .ref (r 29), .int (z 30), .int (z 31), .int (z 32), .ref (r 33), .ref (r 34)]))] H := hP
    have hD : va_D A [(h0, .inr (13, [.int (mo_th 1 0), .ref (r 1), .int (z 2), .int (z 3), .ref (r 4), .ref (r 5), .ref (r 6), .ref (r 7), .int (z 8), .ref (r 9), .int (z 10), .int (z 11), .int (z 12), .int (z 13), .ref (r 14), .ref (r 15), .ref (r 16), .ref (r 17), .ref (r 18), .ref (r 19), .ref (r 20), .ref (r 21), .int (z 22), .int (z 23), .int (z 24), .int (z 25), .int (z 26), .int (z 27), .ref (r 28), .ref (r 29), .int (z 30), .int (z 31), .int (z 32), .ref (r 33), .ref (r 34)]))] := hD
    rw [show mo_th 1 0 = (1 : Int32) from by decide +kernel] at hP hD
    refine lv_if_ne (tgt := 76) hx hb d_Mo_fits_66 (by decide) (fun c_66 => ?_) (fun c_66 => absurd (hw63.symm.trans c_66) (by decide))
    refine lv_iconst (v := 0) hx hb d_Mo_fits_76 (by decide) ?_
    exact W.zret (v := 0) hx hb hr (rfl) (fun t ht hW => ⟨⟨0, (), rfl, rfl, by rw [ht]; exact hP, va_K.moved hW.alike hK, hD⟩, hS.F ht⟩) hS.2.2 d_Mo_fits_77
  · skip
    refine lv_iload_n hx hb d_Mo_fits_7 rfl (lv_at hl 3 rfl) ?_
    refine xc_pi (va_runS (As := [.int b]) (rest := []) ⟨hx, hb, hml, hown, hg⟩ (p_Mo_isSubject l D kA kS s.heap.size b) (cwS 1 hg (xg_S mw_2103 mw_2104 mw_13 mw_2105) rfl rfl rfl (by decide +kernel) ⟨Nat.le_of_ble_eq_true rfl, Nat.le_of_ble_eq_true rfl⟩) (xc_pre hK hN hC hP hD hS hA [] (by decide) rfl) rfl rfl hl.1 rfl (lv_room (Nat.le_of_ble_eq_true rfl)) d_Mo_fits_8 ⟨Nat.le_of_ble_eq_true rfl, Nat.le_of_ble_eq_true rfl⟩) (fun r_8 hw8 => ?_)
    refine lv_if_ne (tgt := 18) hx hb d_Mo_fits_11 (by decide) (fun c_11 => ?_) (fun c_11 => ?_)
    · skip
      refine lv_iconst (v := 0) hx hb d_Mo_fits_18 (by decide) ?_
      refine lv_istore (lv' := [(5, .int 0), (0, .ref h0), (1, .int a), (2, .int v), (3, .int b), (4, .int t)]) hx hb d_Mo_fits_19 hl (by decide) rfl (fun ls hl => ?_)
      refine lv_iload hx hb d_Mo_fits_21 (lv_at hl 0 rfl) ?_
      refine lv_if_ne (tgt := 52) hx hb d_Mo_fits_23 (by decide) (fun c_23 => absurd rfl c_23) (fun c_23 => ?_)
      refine lv_aload_n hx hb d_Mo_fits_26 rfl (lv_at hl 1 rfl) ?_
      refine va_get (D := D) (ci := 13) (v := .int (z 11)) (C := R_Mo) (T := F_Mo) (N := 35) hx hb hg i_Mo hown hK hP 0 rfl rfl 11 (by decide) (hg _ mw_1727) (fun _ h9 => h9) rfl d_Mo_fits_27 ?_
      refine lv_if_ne (tgt := 56) hx hb d_Mo_fits_30 (by decide) (fun c_30 => absurd hz11 c_30) (fun c_30 => ?_)
      refine lv_aload_n hx hb d_Mo_fits_33 rfl (lv_at hl 1 rfl) ?_
      refine lv_iload_n hx hb d_Mo_fits_34 rfl (lv_at hl 2 rfl) ?_
      refine lv_iload_n hx hb d_Mo_fits_35 rfl (lv_at hl 3 rfl) ?_
      refine xc_pi (va_runV (As := [.int a, .int v]) (rest := []) ⟨hx, hb, hml, hown, hg⟩ (p_Mo_isVersion0 l D kA kS s.heap.size h0 r z y a v hz13) (cwV 2 hg (xg_V mw_2166 mw_2168 ms_143 mw_13 mw_2169) rfl rfl rfl (by decide +kernel) ⟨Nat.le_of_ble_eq_true rfl, Nat.le_of_ble_eq_true rfl⟩) (xc_preV hK hN hC hP hD hS hA [0] (by decide) rfl 0 rfl rfl) rfl rfl hl.1 rfl (lv_room (Nat.le_of_ble_eq_true rfl)) d_Mo_fits_36 ⟨Nat.le_of_ble_eq_true rfl, Nat.le_of_ble_eq_true rfl⟩) (fun r_36 hw36 => ?_)
      refine lv_if_eq (tgt := 52) hx hb d_Mo_fits_39 (by decide) (fun c_39 => ?_) (fun c_39 => absurd hw36 c_39)
      refine lv_iconst (v := 1) hx hb d_Mo_fits_52 (by decide) ?_
      refine lv_goto (tgt := 57) hx hb d_Mo_fits_53 (by decide) ?_
      refine lv_istore (lv' := [(5, .int 1), (0, .ref h0), (1, .int a), (2, .int v), (3, .int b), (4, .int t)]) hx hb d_Mo_fits_57 hl (by decide) rfl (fun ls hl => ?_)
      refine lv_aload_n hx hb d_Mo_fits_59 rfl (lv_at hl 1 rfl) ?_
      refine lv_iload hx hb d_Mo_fits_60 (lv_at hl 0 rfl) ?_
      refine lv_iconst (v := 0) hx hb d_Mo_fits_62 (by decide) ?_
      refine xc_i (wr := []) (va_runV (As := [.int 1, .int 0]) (rest := []) ⟨hx, hb, hml, hown, hg⟩ (c_Mo_refused l D kA kS s.heap.size h0 r z y 1 0) (cwV 2 hg (xg_V mw_1830 mw_1832 ms_96 mw_13 mw_1833) rfl rfl rfl (by decide +kernel) ⟨Nat.le_of_ble_eq_true rfl, Nat.le_of_ble_eq_true rfl⟩) (xc_preV hK hN hC hP hD hS hA [0] (by decide) rfl 0 rfl rfl) rfl rfl hl.1 rfl (lv_room (Nat.le_of_ble_eq_true rfl)) d_Mo_fits_63 ⟨Nat.le_of_ble_eq_true rfl, Nat.le_of_ble_eq_true rfl⟩) hP hD hS hA [0] [] rfl rfl (by decide) (by decide) (fun r_63 u9 H locs hw63 hP hD hS => ?_)
      have hP : va_P D vC [(h0, .inr (13, [.int (mo_th 1 0), .ref (r 1), .int (z 2), .int (z 3), .ref (r 4), .ref (r 5), .ref (r 6), .ref (r 7), .int (z 8), .ref (r 9), .int (z 10), .int (z 11), .int (z 12), .int (z 13), .ref (r 14), .ref (r 15), .ref (r 16), .ref (r 17), .ref (r 18), .ref (r 19), .ref (r 20), .ref (r 21), .int (z 22), .int (z 23), .int (z 24), .int (z 25), .int (z 26), .int (z 27), .ref (r 28), .ref (r 29), .int (z 30), .int (z 31), .int (z 32), .ref (r 33), .ref (r 34)]))] H := hP
      have hD : va_D A [(h0, .inr (13, [.int (mo_th 1 0), .ref (r 1), .int (z 2), .int (z 3), .ref (r 4), .ref (r 5), .ref (r 6), .ref (r 7), .int (z 8), .ref (r 9), .int (z 10), .int (z 11), .int (z 12), .int (z 13), .ref (r 14), .ref (r 15), .ref (r 16), .ref (r 17), .ref (r 18), .ref (r 19), .ref (r 20), .ref (r 21), .int (z 22), .int (z 23), .int (z 24), .int (z 25), .int (z 26), .int (z 27), .ref (r 28), .ref (r 29), .int (z 30), .int (z 31), .int (z 32), .ref (r 33), .ref (r 34)]))] := hD
      rw [show mo_th 1 0 = (1 : Int32) from by decide +kernel] at hP hD
      refine lv_if_ne (tgt := 76) hx hb d_Mo_fits_66 (by decide) (fun c_66 => ?_) (fun c_66 => absurd (hw63.symm.trans c_66) (by decide))
      refine lv_iconst (v := 0) hx hb d_Mo_fits_76 (by decide) ?_
      exact W.zret (v := 0) hx hb hr (rfl) (fun t ht hW => ⟨⟨0, (), rfl, rfl, by rw [ht]; exact hP, va_K.moved hW.alike hK, hD⟩, hS.F ht⟩) hS.2.2 d_Mo_fits_77
    · skip
      refine lv_iconst (v := 1) hx hb d_Mo_fits_14 (by decide) ?_
      refine lv_goto (tgt := 19) hx hb d_Mo_fits_15 (by decide) ?_
      refine lv_istore (lv' := [(5, .int 1), (0, .ref h0), (1, .int a), (2, .int v), (3, .int b), (4, .int t)]) hx hb d_Mo_fits_19 hl (by decide) rfl (fun ls hl => ?_)
      refine lv_iload hx hb d_Mo_fits_21 (lv_at hl 0 rfl) ?_
      refine lv_if_ne (tgt := 52) hx hb d_Mo_fits_23 (by decide) (fun c_23 => ?_) (fun c_23 => absurd c_23 (by decide))
      refine lv_iconst (v := 1) hx hb d_Mo_fits_52 (by decide) ?_
      refine lv_goto (tgt := 57) hx hb d_Mo_fits_53 (by decide) ?_
      refine lv_istore (lv' := [(5, .int 1), (0, .ref h0), (1, .int a), (2, .int v), (3, .int b), (4, .int t)]) hx hb d_Mo_fits_57 hl (by decide) rfl (fun ls hl => ?_)
      refine lv_aload_n hx hb d_Mo_fits_59 rfl (lv_at hl 1 rfl) ?_
      refine lv_iload hx hb d_Mo_fits_60 (lv_at hl 0 rfl) ?_
      refine lv_iconst (v := 0) hx hb d_Mo_fits_62 (by decide) ?_
      refine xc_i (wr := []) (va_runV (As := [.int 1, .int 0]) (rest := []) ⟨hx, hb, hml, hown, hg⟩ (c_Mo_refused l D kA kS s.heap.size h0 r z y 1 0) (cwV 2 hg (xg_V mw_1830 mw_1832 ms_96 mw_13 mw_1833) rfl rfl rfl (by decide +kernel) ⟨Nat.le_of_ble_eq_true rfl, Nat.le_of_ble_eq_true rfl⟩) (xc_preV hK hN hC hP hD hS hA [0] (by decide) rfl 0 rfl rfl) rfl rfl hl.1 rfl (lv_room (Nat.le_of_ble_eq_true rfl)) d_Mo_fits_63 ⟨Nat.le_of_ble_eq_true rfl, Nat.le_of_ble_eq_true rfl⟩) hP hD hS hA [0] [] rfl rfl (by decide) (by decide) (fun r_63 u9 H locs hw63 hP hD hS => ?_)
      have hP : va_P D vC [(h0, .inr (13, [.int (mo_th 1 0), .ref (r 1), .int (z 2), .int (z 3), .ref (r 4), .ref (r 5), .ref (r 6), .ref (r 7), .int (z 8), .ref (r 9), .int (z 10), .int (z 11), .int (z 12), .int (z 13), .ref (r 14), .ref (r 15), .ref (r 16), .ref (r 17), .ref (r 18), .ref (r 19), .ref (r 20), .ref (r 21), .int (z 22), .int (z 23), .int (z 24), .int (z 25), .int (z 26), .int (z 27), .ref (r 28), .ref (r 29), .int (z 30), .int (z 31), .int (z 32), .ref (r 33), .ref (r 34)]))] H := hP
      have hD : va_D A [(h0, .inr (13, [.int (mo_th 1 0), .ref (r 1), .int (z 2), .int (z 3), .ref (r 4), .ref (r 5), .ref (r 6), .ref (r 7), .int (z 8), .ref (r 9), .int (z 10), .int (z 11), .int (z 12), .int (z 13), .ref (r 14), .ref (r 15), .ref (r 16), .ref (r 17), .ref (r 18), .ref (r 19), .ref (r 20), .ref (r 21), .int (z 22), .int (z 23), .int (z 24), .int (z 25), .int (z 26), .int (z 27), .ref (r 28), .ref (r 29), .int (z 30), .int (z 31), .int (z 32), .ref (r 33), .ref (r 34)]))] := hD
      rw [show mo_th 1 0 = (1 : Int32) from by decide +kernel] at hP hD
      refine lv_if_ne (tgt := 76) hx hb d_Mo_fits_66 (by decide) (fun c_66 => ?_) (fun c_66 => absurd (hw63.symm.trans c_66) (by decide))
      refine lv_iconst (v := 0) hx hb d_Mo_fits_76 (by decide) ?_
      exact W.zret (v := 0) hx hb hr (rfl) (fun t ht hW => ⟨⟨0, (), rfl, rfl, by rw [ht]; exact hP, va_K.moved hW.alike hK, hD⟩, hS.F ht⟩) hS.2.2 d_Mo_fits_77
