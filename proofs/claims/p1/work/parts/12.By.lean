/-! Bytes: a row of n places, how many are told, what they hold. -/
abbrev by_b (x : Int32) : Int32 := x.toInt8.toInt32
def by_put (n : Nat) (u : Nat × (Nat → Int32)) (b : Int32) : Nat × (Nat → Int32) := if u.1 < n then (u.1 + 1, upd u.2 u.1 (by_b b)) else u
theorem by_put_le {n : Nat} {u : Nat × (Nat → Int32)} (b : Int32) (h : u.1 ≤ n) : (by_put n u b).1 ≤ n := by
  unfold by_put
  split
  · assumption
  · exact h
def by_at (u : Nat × (Nat → Int32)) (i : Int32) : Int32 := if ¬ i < 0 ∧ i.toNatClampNeg < u.1 then u.2 i.toNatClampNeg &&& 255 else -1
theorem by_at_no {u : Nat × (Nat → Int32)} {i : Int32} (h : i < 0 ∨ ∃ k : Nat, k < 2 ^ 31 ∧ i = nI k ∧ u.1 ≤ k) : by_at u i = -1 := by
  unfold by_at
  rw [if_neg]
  rintro ⟨h1, h2⟩
  rcases h with h | ⟨k, hk, rfl, h3⟩
  · exact h1 h
  · rw [nI_clamp hk] at h2
    omega
theorem by_at_in {u : Nat × (Nat → Int32)} {k : Nat} (hk : k < 2 ^ 31) (h : k < u.1) : by_at u (nI k) = u.2 k &&& 255 := by
  unfold by_at
  rw [nI_clamp hk, if_pos ⟨nI_pos hk, h⟩]
def by_zeros (n : Nat) (u : Nat × (Nat → Int32)) : Nat → Nat × (Nat → Int32)
  | 0 => u
  | k + 1 => by_zeros n (by_put n u 0) k
def by_zrj (n : Nat) (u : Nat × (Nat → Int32)) (r : Int32) : Nat → Int32
  | 0 => r
  | k + 1 => by_zrj n (by_put n u 0) (if u.1 < n then 1 else 0) k
def by_zr (n : Nat) (u : Nat × (Nat → Int32)) (k : Nat) : Int32 := by_zrj n u 1 k
abbrev by_sh (v : Int64) (j : Nat) : Int32 := ((v.toUInt64 >>> ((nI (8 * j)).toInt64.toUInt64 &&& Int64.toUInt64 63)).toInt64).toInt32
def by_num (n : Nat) (u : Nat × (Nat → Int32)) (v : Int64) : Nat → Nat × (Nat → Int32)
  | 0 => u
  | k + 1 => by_num n (by_put n u (by_sh v k)) v k
abbrev wBy (h0 h1 : Nat) (kA : Nat → ClassId) (n : Nat) (u : Nat × (Nat → Int32)) : va_W := [(h0, .inr (0, [.ref h1, .int (nI u.1)])), (h1, .inl (kA 0, n, .inl u.2))]
set_option maxHeartbeats 4000000 in
set_option maxRecDepth 100000 in
/-- put(b): the byte goes behind the others, if there is a place -/
theorem c_By_put (l : Launch) (D : va_G) (kA : Nat → ClassId) (kS : Nat → Nat) (sz : Nat) (h0 h1 n : Nat) (u : Nat × (Nat → Int32)) (b : Int32) (hu : u.1 ≤ n) (hn : n < 2 ^ 31) : Met l y_By_put w_By_put { frames := 0, cells := 0, slots := 0, locals := 0 } (xPre D vC (tK kA) kS [.ref h0, .int b] (wBy h0 h1 kA n u) sz) (va_Qi (fun (r : Int32) (_ : Unit) => r = if u.1 < n then 1 else 0) (xB D vC (tK kA) (fun _ => wBy h0 h1 kA n (by_put n u b)) (va_A (wBy h0 h1 kA n u) sz)) (va_A (wBy h0 h1 kA n u) sz)) 0 0 (va_A (wBy h0 h1 kA n u) sz) := by
  refine Met.ofW (cc := b_By_put) (maxL := 2) (ret := (some .boolean)) (by decide) rfl ?_
  intro p e s m args below meth c s₁ B hml hv
  obtain ⟨rfl, hsz, hP, hK, hD0, hN, hC⟩ := hv
  have hx := B.exec
  have hb := B.bytes
  have hr := B.returns
  have hts := atoms_spec (ws := w_By_put) B.pre
  have hg : ∀ w ∈ gW, w.before _ s = true := fun w h => hts w (List.mem_cons_of_mem _ h)
  have hown : s.vm.findClass R_By = some m.cls := findClass_of_methodNamed B.named
  have hlocks := B.notSynchronized
  subst hsz
  have hD := hD0.self (sz := s.heap.size)
  generalize hAe : va_A (wBy h0 h1 kA n u) s.heap.size = A at hD hC ⊢
  have hA : ∀ q : Nat, s.heap.size ≤ q → A q := fun q h => by rw [← hAe]; exact Or.inr h
  have hS : va_S A s.heap s.heap [] := va_S.rf
  have hP : va_P D vC [(h0, .inr (0, [.ref h1, .int (nI u.1)])), (h1, .inl (kA 0, n, .inl u.2))] s.heap := hP
  have hD : va_D A [(h0, .inr (0, [.ref h1, .int (nI u.1)])), (h1, .inl (kA 0, n, .inl u.2))] := hD
  have hl := lv_entry ([.ref h0, .int b]) (n := 2) (Nat.le_of_ble_eq_true rfl)
  rw [lg_entry_eq]
  generalize (lg_sl ([.ref h0, .int b]) ++ List.replicate (2 - (lg_sl ([.ref h0, .int b])).length) Slot.unset).toArray = ls at hl ⊢
  have hl : lv_has ls 2 [(0, .ref h0), (1, .int b)] := hl
  refine lv_aload_n hx hb d_By_put_0 rfl (lv_at hl 0 rfl) ?_
  refine va_get (D := D) (ci := 0) (v := .int (nI u.1)) (C := R_By) (T := F_By) (N := 2) hx hb hg i_By hown hK hP 0 rfl rfl 1 (by decide) (hg _ mw_50) (fun _ h9 => h9) rfl d_By_put_1 ?_
  refine lv_aload_n hx hb d_By_put_4 rfl (lv_at hl 0 rfl) ?_
  refine va_get (D := D) (ci := 0) (v := .ref h1) (C := R_By) (T := F_By) (N := 2) hx hb hg i_By hown hK hP 0 rfl rfl 0 (by decide) (hg _ mw_42) (fun _ h9 => h9) rfl d_By_put_5 ?_
  refine va_alen (v := nI n) hx hb hK hP 1 0 rfl rfl rfl d_By_put_8 ?_
  refine xb_lt (tgt := 14) hx hb d_By_put_9 (by decide) (by omega) (by omega) (fun c_9 => ?_) (fun c_9 => ?_)
  · skip
    refine lv_aload_n hx hb d_By_put_14 rfl (lv_at hl 0 rfl) ?_
    refine va_get (D := D) (ci := 0) (v := .ref h1) (C := R_By) (T := F_By) (N := 2) hx hb hg i_By hown hK hP 0 rfl rfl 0 (by decide) (hg _ mw_42) (fun _ h9 => h9) rfl d_By_put_15 ?_
    refine lv_aload_n hx hb d_By_put_18 rfl (lv_at hl 0 rfl) ?_
    refine va_get (D := D) (ci := 0) (v := .int (nI u.1)) (C := R_By) (T := F_By) (N := 2) hx hb hg i_By hown hK hP 0 rfl rfl 1 (by decide) (hg _ mw_50) (fun _ h9 => h9) rfl d_By_put_19 ?_
    refine lv_iload_n hx hb d_By_put_22 rfl (lv_at hl 1 rfl) ?_
    refine lv_i2b hx hb d_By_put_23 rfl ?_
    refine lv_topi (fun x_23 ex_23 => ?_)
    refine xb_bast (v := by_b b) hx hb hK hP hD hS 1 0 rfl rfl (by rw [ex_23]; exact pk_vb b) (by omega) (by omega) d_By_put_24 (fun H locs hP hD hS => ?_)
    have hP : va_P D vC [(h0, .inr (0, [.ref h1, .int (nI u.1)])), (h1, .inl (kA 0, n, .inl (upd u.2 u.1 (by_b b))))] H := hP
    have hD : va_D A [(h0, .inr (0, [.ref h1, .int (nI u.1)])), (h1, .inl (kA 0, n, .inl (upd u.2 u.1 (by_b b))))] := hD
    refine lv_aload_n hx hb d_By_put_25 rfl (lv_at hl 0 rfl) ?_
    refine lv_dup hx hb d_By_put_26 rfl ?_
    refine va_get (D := D) (ci := 0) (v := .int (nI u.1)) (C := R_By) (T := F_By) (N := 2) hx hb hg i_By hown hK hP 0 rfl rfl 1 (by decide) (hg _ mw_50) (fun _ h9 => h9) rfl d_By_put_27 ?_
    refine lv_iconst (v := 1) hx hb d_By_put_30 (by decide) ?_
    refine lv_iadd hx hb d_By_put_31 ?_
    refine lv_topi (fun x_31 ex_31 => ?_)
    replace ex_31 : x_31 = nI (u.1 + 1) := ex_31.trans (nI_1 u.1)
    subst ex_31
    refine va_put (D := D) (ci := 0) (v := .int (nI (u.1 + 1))) (ty := .int) (C := R_By) (T := F_By) (N := 2) hx hb hg i_By t_By t_By_ok n_By hown hK hP hD hS 0 rfl rfl 1 (by decide) (hg _ mw_50) (fun _ h9 => h9) rfl (by decide +kernel) rfl rfl (Nat.le_of_ble_eq_true rfl) d_By_put_32 (fun H locs hP hD hS => ?_)
    have hP : va_P D vC [(h0, .inr (0, [.ref h1, .int (nI (u.1 + 1))])), (h1, .inl (kA 0, n, .inl (upd u.2 u.1 (by_b b))))] H := hP
    have hD : va_D A [(h0, .inr (0, [.ref h1, .int (nI (u.1 + 1))])), (h1, .inl (kA 0, n, .inl (upd u.2 u.1 (by_b b))))] := hD
    refine lv_iconst (v := 1) hx hb d_By_put_35 (by decide) ?_
    rw [show by_put n u b = (u.1 + 1, upd u.2 u.1 (by_b b)) from if_pos c_9]
    exact W.zret (v := 1) hx hb hr (rfl) (fun t ht hW => ⟨⟨1, (), rfl, (if_pos c_9).symm, by rw [ht]; exact hP, va_K.moved hW.alike hK, hD⟩, hS.F ht⟩) hS.2.2 d_By_put_36
  · skip
    refine lv_iconst (v := 0) hx hb d_By_put_12 (by decide) ?_
    rw [show by_put n u b = u from if_neg (Nat.not_lt.mpr c_9)]
    exact W.zret (v := 0) hx hb hr (rfl) (fun t ht hW => ⟨⟨0, (), rfl, (if_neg (Nat.not_lt.mpr c_9)).symm, by rw [ht]; exact hP, va_K.moved hW.alike hK, hD⟩, hS.F ht⟩) hS.2.2 d_By_put_13

set_option maxHeartbeats 4000000 in
set_option maxRecDepth 100000 in
/-- at(i): the byte there, or -1 -/
theorem c_By_at (l : Launch) (D : va_G) (kA : Nat → ClassId) (kS : Nat → Nat) (sz : Nat) (h0 h1 n : Nat) (u : Nat × (Nat → Int32)) (i : Int32) (hu : u.1 ≤ n) (hn : n < 2 ^ 31) : Met l y_By_at w_By_at { frames := 0, cells := 0, slots := 0, locals := 0 } (xPre D vC (tK kA) kS [.ref h0, .int i] (wBy h0 h1 kA n u) sz) (va_Qi (fun (r : Int32) (_ : Unit) => r = by_at u i) (xB D vC (tK kA) (fun _ => wBy h0 h1 kA n u) (va_A (wBy h0 h1 kA n u) sz)) (va_A (wBy h0 h1 kA n u) sz)) 0 0 (va_A (wBy h0 h1 kA n u) sz) := by
  refine Met.ofW (cc := b_By_at) (maxL := 2) (ret := (some .int)) (by decide) rfl ?_
  intro p e s m args below meth c s₁ B hml hv
  obtain ⟨rfl, hsz, hP, hK, hD0, hN, hC⟩ := hv
  have hx := B.exec
  have hb := B.bytes
  have hr := B.returns
  have hts := atoms_spec (ws := w_By_at) B.pre
  have hg : ∀ w ∈ gW, w.before _ s = true := fun w h => hts w (List.mem_cons_of_mem _ h)
  have hown : s.vm.findClass R_By = some m.cls := findClass_of_methodNamed B.named
  have hlocks := B.notSynchronized
  subst hsz
  have hD := hD0.self (sz := s.heap.size)
  generalize hAe : va_A (wBy h0 h1 kA n u) s.heap.size = A at hD hC ⊢
  have hA : ∀ q : Nat, s.heap.size ≤ q → A q := fun q h => by rw [← hAe]; exact Or.inr h
  have hS : va_S A s.heap s.heap [] := va_S.rf
  have hP : va_P D vC [(h0, .inr (0, [.ref h1, .int (nI u.1)])), (h1, .inl (kA 0, n, .inl u.2))] s.heap := hP
  have hD : va_D A [(h0, .inr (0, [.ref h1, .int (nI u.1)])), (h1, .inl (kA 0, n, .inl u.2))] := hD
  have hl := lv_entry ([.ref h0, .int i]) (n := 2) (Nat.le_of_ble_eq_true rfl)
  rw [lg_entry_eq]
  generalize (lg_sl ([.ref h0, .int i]) ++ List.replicate (2 - (lg_sl ([.ref h0, .int i])).length) Slot.unset).toArray = ls at hl ⊢
  have hl : lv_has ls 2 [(0, .ref h0), (1, .int i)] := hl
  refine lv_iload_n hx hb d_By_at_0 rfl (lv_at hl 1 rfl) ?_
  refine lv_if_lt (tgt := 12) hx hb d_By_at_1 (by decide) (fun c_1 => ?_) (fun c_1 => ?_)
  · skip
    refine lv_iconst (v := (-1)) hx hb d_By_at_12 (by decide) ?_
    refine lv_goto (tgt := 26) hx hb d_By_at_13 (by decide) ?_
    exact W.iret (v := (-1)) hx hb hr (fun t ht hW => ⟨⟨(-1), (), rfl, (by_at_no (Or.inl c_1)).symm, by rw [ht]; exact hP, va_K.moved hW.alike hK, hD⟩, hS.F ht⟩) hS.2.2 d_By_at_26
  · skip
    obtain ⟨k, hk, rfl⟩ := nI_of c_1
    refine lv_iload_n hx hb d_By_at_4 rfl (lv_at hl 1 rfl) ?_
    refine lv_aload_n hx hb d_By_at_5 rfl (lv_at hl 0 rfl) ?_
    refine va_get (D := D) (ci := 0) (v := .int (nI u.1)) (C := R_By) (T := F_By) (N := 2) hx hb hg i_By hown hK hP 0 rfl rfl 1 (by decide) (hg _ mw_50) (fun _ h9 => h9) rfl d_By_at_6 ?_
    refine xb_lt (tgt := 16) hx hb d_By_at_9 (by decide) (by omega) (by omega) (fun c_9 => ?_) (fun c_9 => ?_)
    · skip
      refine lv_aload_n hx hb d_By_at_16 rfl (lv_at hl 0 rfl) ?_
      refine va_get (D := D) (ci := 0) (v := .ref h1) (C := R_By) (T := F_By) (N := 2) hx hb hg i_By hown hK hP 0 rfl rfl 0 (by decide) (hg _ mw_42) (fun _ h9 => h9) rfl d_By_at_17 ?_
      refine lv_iload_n hx hb d_By_at_20 rfl (lv_at hl 1 rfl) ?_
      refine xb_bald hx hb hK hP 1 0 rfl rfl (by omega) (by omega) d_By_at_21 ?_
      refine lv_topi (fun x_21 ex_21 => ?_)
      refine lv_sipush (v := 255) hx hb d_By_at_22 (by decide) ?_
      refine lv_iand hx hb d_By_at_25 ?_
      refine lv_topi (fun x_25 ex_25 => ?_)
      exact W.iret (v := x_25) hx hb hr (fun t ht hW => ⟨⟨x_25, (), rfl, by rw [ex_25, ex_21]; exact (by_at_in hk c_9).symm, by rw [ht]; exact hP, va_K.moved hW.alike hK, hD⟩, hS.F ht⟩) hS.2.2 d_By_at_26
    · skip
      refine lv_iconst (v := (-1)) hx hb d_By_at_12 (by decide) ?_
      refine lv_goto (tgt := 26) hx hb d_By_at_13 (by decide) ?_
      exact W.iret (v := (-1)) hx hb hr (fun t ht hW => ⟨⟨(-1), (), rfl, (by_at_no (Or.inr ⟨k, hk, rfl, c_9⟩)).symm, by rw [ht]; exact hP, va_K.moved hW.alike hK, hD⟩, hS.F ht⟩) hS.2.2 d_By_at_26

set_option maxHeartbeats 4000000 in
set_option maxRecDepth 100000 in
/-- putZeros(k) -/
theorem c_By_putZeros (l : Launch) (D : va_G) (kA : Nat → ClassId) (kS : Nat → Nat) (sz : Nat) (h0 h1 n : Nat) (u : Nat × (Nat → Int32)) (k : Nat) (hu : u.1 ≤ n) (hn : n < 2 ^ 31) (hk : k < 2 ^ 31) : Met l y_By_putZeros w_By_putZeros { frames := 1, cells := 0, slots := 0, locals := 21 } (xPre D vC (tK kA) kS [.ref h0, .int (nI k)] (wBy h0 h1 kA n u) sz) (va_Qi (fun (r : Int32) (_ : Unit) => r = by_zr n u k) (xB D vC (tK kA) (fun _ => wBy h0 h1 kA n (by_zeros n u k)) (va_A (wBy h0 h1 kA n u) sz)) (va_A (wBy h0 h1 kA n u) sz)) 0 0 (va_A (wBy h0 h1 kA n u) sz) := by
  refine Met.ofW (cc := b_By_putZeros) (maxL := 4) (ret := (some .boolean)) (by decide) rfl ?_
  intro p e s m args below meth c s₁ B hml hv
  obtain ⟨rfl, hsz, hP, hK, hD0, hN, hC⟩ := hv
  have hx := B.exec
  have hb := B.bytes
  have hr := B.returns
  have hts := atoms_spec (ws := w_By_putZeros) B.pre
  have hg : ∀ w ∈ gW, w.before _ s = true := fun w h => hts w (List.mem_cons_of_mem _ h)
  have hown : s.vm.findClass R_By = some m.cls := findClass_of_methodNamed B.named
  have hlocks := B.notSynchronized
  subst hsz
  have hD := hD0.self (sz := s.heap.size)
  generalize hAe : va_A (wBy h0 h1 kA n u) s.heap.size = A at hD hC ⊢
  have hA : ∀ q : Nat, s.heap.size ≤ q → A q := fun q h => by rw [← hAe]; exact Or.inr h
  have hS : va_S A s.heap s.heap [] := va_S.rf
  have hP : va_P D vC [(h0, .inr (0, [.ref h1, .int (nI u.1)])), (h1, .inl (kA 0, n, .inl u.2))] s.heap := hP
  have hD : va_D A [(h0, .inr (0, [.ref h1, .int (nI u.1)])), (h1, .inl (kA 0, n, .inl u.2))] := hD
  have hl := lv_entry ([.ref h0, .int (nI k)]) (n := 4) (Nat.le_of_ble_eq_true rfl)
  rw [lg_entry_eq]
  generalize (lg_sl ([.ref h0, .int (nI k)]) ++ List.replicate (4 - (lg_sl ([.ref h0, .int (nI k)])).length) Slot.unset).toArray = ls at hl ⊢
  have hl : lv_has ls 4 [(0, .ref h0), (1, .int (nI k))] := hl
  refine xl_Q (fun Q9 hQ9 => ?_)
  refine lv_iconst (v := 1) hx hb d_By_putZeros_0 (by decide) ?_
  refine lv_istore_n (lv' := [(2, .int 1), (0, .ref h0), (1, .int (nI k))]) hx hb d_By_putZeros_1 rfl hl (by decide) rfl (fun ls hl => ?_)
  refine lv_iconst (v := 0) hx hb d_By_putZeros_2 (by decide) ?_
  refine lv_istore_n (lv' := [(3, .int 0), (2, .int 1), (0, .ref h0), (1, .int (nI k))]) hx hb d_By_putZeros_3 rfl hl (by decide) rfl (fun ls hl => ?_)
  have lp : ∀ (j i : Nat) (r2 : Int32) (v : Nat × (Nat → Int32)), i + j = k → v.1 ≤ n → by_zeros n v j = by_zeros n u k → by_zrj n v r2 j = by_zr n u k → narrow .boolean (.int r2) = .int r2 → ∀ (H : Heap) (locs : List Loc) (ls : Array Slot), va_P D vC [(h0, .inr (0, [.ref h1, .int (nI v.1)])), (h1, .inl (kA 0, n, .inl v.2))] H → va_D A [(h0, .inr (0, [.ref h1, .int (nI v.1)])), (h1, .inl (kA 0, n, .inl v.2))] → va_S A s.heap H locs → lv_has ls 4 [(0, .ref h0), (1, .int (nI k)), (2, .int r2), (3, .int (nI i))] → W p l e (headSpec w_By_putZeros { frames := 1, cells := 0, slots := 0, locals := 21 }).room s m ([.ref h0, .int (nI k)] : List Value).toArray below meth c H locs 0 0 Q9 (F0 m 4 ls []) := by
    intro j
    induction j with
    | zero =>
      intro i r2 v hj hv e1 e2 hr2 H locs ls hP hD hS hl
      refine lv_iload_n hx hb d_By_putZeros_4 rfl (lv_at hl 3 rfl) ?_
      refine lv_iload_n hx hb d_By_putZeros_5 rfl (lv_at hl 1 rfl) ?_
      refine xb_ge (tgt := 21) hx hb d_By_putZeros_6 (by decide) (by omega) (by omega) (fun c_6 => ?_) (fun c_6 => ?_)
      · skip
        refine lv_iload_n hx hb d_By_putZeros_21 rfl (lv_at hl 2 rfl) ?_
        rw [hQ9, ← e1]
        exact W.zret (v := r2) hx hb hr (hr2) (fun t ht hW => ⟨⟨r2, (), rfl, e2, by rw [ht]; exact hP, va_K.moved hW.alike hK, hD⟩, hS.F ht⟩) hS.2.2 d_By_putZeros_22
      · skip
        exact absurd c_6 (by omega)
    | succ j ih =>
      intro i r2 v hj hv e1 e2 hr2 H locs ls hP hD hS hl
      refine lv_iload_n hx hb d_By_putZeros_4 rfl (lv_at hl 3 rfl) ?_
      refine lv_iload_n hx hb d_By_putZeros_5 rfl (lv_at hl 1 rfl) ?_
      refine xb_ge (tgt := 21) hx hb d_By_putZeros_6 (by decide) (by omega) (by omega) (fun c_6 => ?_) (fun c_6 => ?_)
      · skip
        exact absurd c_6 (by omega)
      · skip
        refine lv_aload_n hx hb d_By_putZeros_9 rfl (lv_at hl 0 rfl) ?_
        refine lv_iconst (v := 0) hx hb d_By_putZeros_10 (by decide) ?_
        refine xc_i (wr := []) (va_runV (As := [.int 0]) (rest := []) ⟨hx, hb, hml, hown, hg⟩ (c_By_put l D kA kS H.size h0 h1 n v 0 hv hn) (cwV 1 hg (xg_V mw_879 mw_601 mw_602 mw_2 mw_603) rfl rfl rfl (by decide +kernel) ⟨Nat.le_of_ble_eq_true rfl, Nat.le_of_ble_eq_true rfl⟩) (xc_preV hK hN hC hP hD hS hA [0, 1] (by decide) rfl 0 rfl rfl) rfl rfl hl.1 rfl (lv_room (Nat.le_of_ble_eq_true rfl)) d_By_putZeros_11 ⟨Nat.le_of_ble_eq_true rfl, Nat.le_of_ble_eq_true rfl⟩) hP hD hS hA [0, 1] [] rfl rfl (by decide) (by decide) (fun r_11 u H locs hw hP hD hS => ?_)
        have hP : va_P D vC [(h0, .inr (0, [.ref h1, .int (nI (by_put n v 0).1)])), (h1, .inl (kA 0, n, .inl ((by_put n v 0).2)))] H := hP
        have hD : va_D A [(h0, .inr (0, [.ref h1, .int (nI (by_put n v 0).1)])), (h1, .inl (kA 0, n, .inl ((by_put n v 0).2)))] := hD
        refine lv_istore_n (lv' := [(2, .int r_11), (0, .ref h0), (1, .int (nI k)), (3, .int (nI i))]) hx hb d_By_putZeros_14 rfl hl (by decide) rfl (fun ls hl => ?_)
        obtain ⟨x_15, ex_15⟩ : ∃ y : Int32, y = (nI i) + Int32.ofInt 1 := ⟨_, rfl⟩
        replace ex_15 : x_15 = nI (i + 1) := ex_15.trans (nI_1 i)
        refine lv_iinc (v := x_15) (lv' := [(3, .int x_15), (2, .int r_11), (0, .ref h0), (1, .int (nI k))]) hx hb d_By_putZeros_15 hl (k := 3) rfl (by rw [ex_15]; exact nI_1 i) (by decide) rfl (fun ls hl => ?_)
        subst ex_15
        refine lv_goto (tgt := 4) hx hb d_By_putZeros_18 (by decide) ?_
        exact ih (i + 1) r_11 (by_put n v 0) (by omega) (by_put_le 0 hv) e1 (by rw [hw]; exact e2) (by rw [hw]; split <;> rfl) H locs ls hP hD hS (lv_sub hl [2, 3, 1, 0] rfl)
  exact lp k 0 1 u (by omega) hu rfl rfl rfl s.heap [] ls hP hD hS (lv_sub hl [2, 3, 1, 0] rfl)

set_option maxHeartbeats 4000000 in
set_option maxRecDepth 100000 in
/-- putNumber(v, k): the lowest k bytes, highest first -/
theorem c_By_putNumber (l : Launch) (D : va_G) (kA : Nat → ClassId) (kS : Nat → Nat) (sz : Nat) (h0 h1 n : Nat) (u : Nat × (Nat → Int32)) (v : Int64) (k : Nat) (hu : u.1 ≤ n) (hn : n < 2 ^ 31) (hk : k < 2 ^ 28) : Met l y_By_putNumber w_By_putNumber { frames := 1, cells := 0, slots := 0, locals := 21 } (xPre D vC (tK kA) kS [.ref h0, .long v, .int (nI k)] (wBy h0 h1 kA n u) sz) (va_Qv (fun (_ : Unit) => True) (xB D vC (tK kA) (fun _ => wBy h0 h1 kA n (by_num n u v k)) (va_A (wBy h0 h1 kA n u) sz)) (va_A (wBy h0 h1 kA n u) sz)) 0 0 (va_A (wBy h0 h1 kA n u) sz) := by
  refine Met.ofW (cc := b_By_putNumber) (maxL := 5) (ret := none) (by decide) rfl ?_
  intro p e s m args below meth c s₁ B hml hv
  obtain ⟨rfl, hsz, hP, hK, hD0, hN, hC⟩ := hv
  have hx := B.exec
  have hb := B.bytes
  have hr := B.returns
  have hts := atoms_spec (ws := w_By_putNumber) B.pre
  have hg : ∀ w ∈ gW, w.before _ s = true := fun w h => hts w (List.mem_cons_of_mem _ h)
  have hown : s.vm.findClass R_By = some m.cls := findClass_of_methodNamed B.named
  have hlocks := B.notSynchronized
  subst hsz
  have hD := hD0.self (sz := s.heap.size)
  generalize hAe : va_A (wBy h0 h1 kA n u) s.heap.size = A at hD hC ⊢
  have hA : ∀ q : Nat, s.heap.size ≤ q → A q := fun q h => by rw [← hAe]; exact Or.inr h
  have hS : va_S A s.heap s.heap [] := va_S.rf
  have hP : va_P D vC [(h0, .inr (0, [.ref h1, .int (nI u.1)])), (h1, .inl (kA 0, n, .inl u.2))] s.heap := hP
  have hD : va_D A [(h0, .inr (0, [.ref h1, .int (nI u.1)])), (h1, .inl (kA 0, n, .inl u.2))] := hD
  have hl := lv_entry ([.ref h0, .long v, .int (nI k)]) (n := 5) (Nat.le_of_ble_eq_true rfl)
  rw [lg_entry_eq]
  generalize (lg_sl ([.ref h0, .long v, .int (nI k)]) ++ List.replicate (5 - (lg_sl ([.ref h0, .long v, .int (nI k)])).length) Slot.unset).toArray = ls at hl ⊢
  have hl : lv_has ls 5 [(0, .ref h0), (1, .long v), (3, .int (nI k))] := hl
  refine xl_Q (fun Q9 hQ9 => ?_)
  refine lv_iload_n hx hb d_By_putNumber_0 rfl (lv_at hl 2 rfl) ?_
  refine lv_iconst (v := 1) hx hb d_By_putNumber_1 (by decide) ?_
  refine lv_isub hx hb d_By_putNumber_2 ?_
  refine lv_topi (fun x_2 ex_2 => ?_)
  refine lv_istore (lv' := [(4, .int x_2), (0, .ref h0), (1, .long v), (3, .int (nI k))]) hx hb d_By_putNumber_3 hl (by decide) rfl (fun ls hl => ?_)
  have lp : ∀ (j : Nat) (x4 : Int32) (t : Nat × (Nat → Int32)), j ≤ k → x4 = nI j - 1 → t.1 ≤ n → by_num n t v j = by_num n u v k → ∀ (H : Heap) (locs : List Loc) (ls : Array Slot), va_P D vC [(h0, .inr (0, [.ref h1, .int (nI t.1)])), (h1, .inl (kA 0, n, .inl t.2))] H → va_D A [(h0, .inr (0, [.ref h1, .int (nI t.1)])), (h1, .inl (kA 0, n, .inl t.2))] → va_S A s.heap H locs → lv_has ls 5 [(0, .ref h0), (1, .long v), (3, .int (nI k)), (4, .int x4)] → W p l e (headSpec w_By_putNumber { frames := 1, cells := 0, slots := 0, locals := 21 }).room s m ([.ref h0, .long v, .int (nI k)] : List Value).toArray below meth c H locs 0 0 Q9 (F0 m 5 ls []) := by
    intro j
    induction j with
    | zero =>
      intro x4 t hj hx4 ht1 e1 H locs ls hP hD hS hl
      refine lv_iload hx hb d_By_putNumber_5 (lv_at hl 3 rfl) ?_
      refine lv_if_lt (tgt := 29) hx hb d_By_putNumber_7 (by decide) (fun c_7 => ?_) (fun c_7 => ?_)
      · skip
        rw [hQ9, ← e1]
        exact W.vret hx hb hr (fun t ht hW => ⟨⟨(), rfl, trivial, by rw [ht]; exact hP, va_K.moved hW.alike hK, hD⟩, hS.F ht⟩) hS.2.2 d_By_putNumber_29
      · skip
        exact absurd (by rw [hx4]; decide +kernel) c_7
    | succ j ih =>
      intro x4 t hj hx4 ht1 e1 H locs ls hP hD hS hl
      replace hx4 : x4 = nI j := hx4.trans (nI_pred j)
      subst hx4
      refine lv_iload hx hb d_By_putNumber_5 (lv_at hl 3 rfl) ?_
      refine lv_if_lt (tgt := 29) hx hb d_By_putNumber_7 (by decide) (fun c_7 => ?_) (fun c_7 => ?_)
      · skip
        exact absurd c_7 (nI_pos (by omega))
      · skip
        refine lv_aload_n hx hb d_By_putNumber_10 rfl (lv_at hl 0 rfl) ?_
        refine lv_lload_n hx hb d_By_putNumber_11 rfl (lv_at hl 1 rfl) ?_
        refine lv_bipush (v := 8) hx hb d_By_putNumber_12 (by decide) ?_
        refine lv_iload hx hb d_By_putNumber_14 (lv_at hl 3 rfl) ?_
        refine lv_imul hx hb d_By_putNumber_16 ?_
        refine lv_topi (fun x_16 ex_16 => ?_)
        replace ex_16 : x_16 = nI (8 * j) := ex_16.trans (pk_mul 8 j)
        subst ex_16
        refine lv_lushr hx hb d_By_putNumber_17 rfl ?_
        refine lv_topl (fun x_17 ex_17 => ?_)
        refine lv_l2i hx hb d_By_putNumber_18 rfl ?_
        refine lv_topi (fun x_18 ex_18 => ?_)
        refine xc_i (wr := []) (va_runV (As := [.int x_18]) (rest := []) ⟨hx, hb, hml, hown, hg⟩ (c_By_put l D kA kS H.size h0 h1 n t x_18 ht1 hn) (cwV 1 hg (xg_V mw_879 mw_601 mw_602 mw_2 mw_603) rfl rfl rfl (by decide +kernel) ⟨Nat.le_of_ble_eq_true rfl, Nat.le_of_ble_eq_true rfl⟩) (xc_preV hK hN hC hP hD hS hA [0, 1] (by decide) rfl 0 rfl rfl) rfl rfl hl.1 rfl (lv_room (Nat.le_of_ble_eq_true rfl)) d_By_putNumber_19 ⟨Nat.le_of_ble_eq_true rfl, Nat.le_of_ble_eq_true rfl⟩) hP hD hS hA [0, 1] [] rfl rfl (by decide) (by decide) (fun r_19 u H locs hw hP hD hS => ?_)
        have hP : va_P D vC [(h0, .inr (0, [.ref h1, .int (nI (by_put n t x_18).1)])), (h1, .inl (kA 0, n, .inl ((by_put n t x_18).2)))] H := hP
        have hD : va_D A [(h0, .inr (0, [.ref h1, .int (nI (by_put n t x_18).1)])), (h1, .inl (kA 0, n, .inl ((by_put n t x_18).2)))] := hD
        refine lv_pop hx hb d_By_putNumber_22 rfl ?_
        obtain ⟨x_23, ex_23⟩ : ∃ y : Int32, y = (nI j) + Int32.ofInt (-1) := ⟨_, rfl⟩
        refine lv_iinc (v := x_23) (lv' := [(4, .int x_23), (0, .ref h0), (1, .long v), (3, .int (nI k))]) hx hb d_By_putNumber_23 hl (k := 3) rfl (ex_23.symm) (by decide) rfl (fun ls hl => ?_)
        refine lv_goto (tgt := 5) hx hb d_By_putNumber_26 (by decide) ?_
        exact ih x_23 (by_put n t x_18) (by omega) (ex_23.trans (xn_m1 _)) (by_put_le x_18 ht1) (by rw [ex_18, ex_17]; exact e1) H locs ls hP hD hS (lv_sub hl [1, 2, 3, 0] rfl)
  exact lp k x_2 u (Nat.le_refl k) ex_2 hu rfl s.heap [] ls hP hD hS (lv_sub hl [1, 2, 3, 0] rfl)

set_option maxHeartbeats 4000000 in
set_option maxRecDepth 100000 in
/-- Bytes(n): n zeros, none told -/
theorem c_By_init (l : Launch) (D : va_G) (kA : Nat → ClassId) (kS : Nat → Nat) (sz : Nat) (h0 n : Nat) (x : Int32) (hxn : x = nI n) (hn : n ≤ 536870912) : Met l y_By_init w_By_init { frames := 1, cells := 1, slots := n, locals := 12 } (xPre D vC (tK kA) kS [.ref h0, .int x] ([(h0, .inr (0, [.null, .int 0]))]) sz) (va_Qv (fun (_ : Nat) => True) (xB D vC (tK kA) (fun h1 => wBy h0 h1 kA n (0, fun _ => 0)) (va_A ([(h0, .inr (0, [.null, .int 0]))]) sz)) (va_A ([(h0, .inr (0, [.null, .int 0]))]) sz)) 1 n (va_A ([(h0, .inr (0, [.null, .int 0]))]) sz) := by
  refine Met.ofW (cc := b_By_init) (maxL := 2) (ret := none) (by decide) rfl ?_
  intro p e s m args below meth c s₁ B hml hv
  obtain ⟨rfl, hsz, hP, hK, hD0, hN, hC⟩ := hv
  have hx := B.exec
  have hb := B.bytes
  have hr := B.returns
  have hts := atoms_spec (ws := w_By_init) B.pre
  have hg : ∀ w ∈ gW, w.before _ s = true := fun w h => hts w (List.mem_cons_of_mem _ h)
  have hown : s.vm.findClass R_By = some m.cls := findClass_of_methodNamed B.named
  have hlocks := B.notSynchronized
  have hin : meth.name = "<init>" := (name_of_methodNamed B.named B.method).1
  subst hsz
  have hD := hD0.self (sz := s.heap.size)
  generalize hAe : va_A ([(h0, .inr (0, [.null, .int 0]))]) s.heap.size = A at hD hC ⊢
  have hA : ∀ q : Nat, s.heap.size ≤ q → A q := fun q h => by rw [← hAe]; exact Or.inr h
  have hS : va_S A s.heap s.heap [] := va_S.rf
  have hP : va_P D vC [(h0, .inr (0, [.null, .int 0]))] s.heap := hP
  have hD : va_D A [(h0, .inr (0, [.null, .int 0]))] := hD
  have hl := lv_entry ([.ref h0, .int x]) (n := 2) (Nat.le_of_ble_eq_true rfl)
  rw [lg_entry_eq]
  generalize (lg_sl ([.ref h0, .int x]) ++ List.replicate (2 - (lg_sl ([.ref h0, .int x])).length) Slot.unset).toArray = ls at hl ⊢
  have hl : lv_has ls 2 [(0, .ref h0), (1, .int x)] := hl
  subst hxn
  refine lv_aload_n hx hb d_By_init_0 rfl (lv_at hl 0 rfl) ?_
  refine W.objInit hx hb hown (hg _ mw_41) (hg _ mw_34) (hg _ mw_35) rfl (by rw [hml]; exact hl.1) rfl d_By_init_1 (Nat.le_of_ble_eq_true rfl) (Nat.le_of_ble_eq_true rfl) ?_
  refine W.eq (g2 := F0 m 4 ls []) rfl ?_
  refine lv_aload_n hx hb d_By_init_4 rfl (lv_at hl 0 rfl) ?_
  refine lv_iload_n hx hb d_By_init_5 rfl (lv_at hl 1 rfl) ?_
  refine xn_newa (atype := .byte) (a0 := (n, .inl (fun _ => 0))) (N' := n) (ty := .byte) hx hb (hg _ mw_64) rfl hK hP hD hS hA 0 rfl (fun _ => rfl) (nI_pos (by omega)) (nI_clamp (by omega)) (by show n * 1 ≤ _; omega) (Nat.le_of_ble_eq_true rfl) (by show 0 + n ≤ n; omega) d_By_init_6 (fun q_6 H hP hD hS => ?_)
  have hP : va_P D vC [(h0, .inr (0, [.null, .int 0])), (q_6, .inl (kA 0, n, .inl (fun _ => 0)))] H := hP
  have hD : va_D A [(h0, .inr (0, [.null, .int 0])), (q_6, .inl (kA 0, n, .inl (fun _ => 0)))] := hD
  refine W.widen (k := 1) (n := n) (by omega) (by omega) ?_
  refine va_putF (D := D) (ci := 0) (v := .ref q_6) (ty := (.array .byte)) (C := R_By) (T := F_By) (N := 2) hx hb hg i_By t_By t_By_ok n_By hown hK hP hD hS 0 rfl rfl 0 (by decide) (hg _ mw_42) (fun _ h9 => h9) rfl hin rfl (by decide +kernel) rfl rfl (Nat.le_of_ble_eq_true rfl) d_By_init_8 (fun H locs hP hD hS => ?_)
  have hP : va_P D vC [(h0, .inr (0, [.ref q_6, .int 0])), (q_6, .inl (kA 0, n, .inl (fun _ => 0)))] H := hP
  have hD : va_D A [(h0, .inr (0, [.ref q_6, .int 0])), (q_6, .inl (kA 0, n, .inl (fun _ => 0)))] := hD
  refine lv_aload_n hx hb d_By_init_11 rfl (lv_at hl 0 rfl) ?_
  refine lv_iconst (v := 0) hx hb d_By_init_12 (by decide) ?_
  refine va_put (D := D) (ci := 0) (v := .int 0) (ty := .int) (C := R_By) (T := F_By) (N := 2) hx hb hg i_By t_By t_By_ok n_By hown hK hP hD hS 0 rfl rfl 1 (by decide) (hg _ mw_50) (fun _ h9 => h9) rfl (by decide +kernel) rfl rfl (Nat.le_of_ble_eq_true rfl) d_By_init_13 (fun H locs hP hD hS => ?_)
  have hP : va_P D vC [(h0, .inr (0, [.ref q_6, .int 0])), (q_6, .inl (kA 0, n, .inl (fun _ => 0)))] H := hP
  have hD : va_D A [(h0, .inr (0, [.ref q_6, .int 0])), (q_6, .inl (kA 0, n, .inl (fun _ => 0)))] := hD
  exact W.vret hx hb hr (fun t ht hW => ⟨⟨q_6, rfl, trivial, by rw [ht]; exact hP, va_K.moved hW.alike hK, hD⟩, hS.F ht⟩) hS.2.2 d_By_init_16
