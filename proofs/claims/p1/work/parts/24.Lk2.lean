/-! the lake: feed, files, power, size, needVersion -/
theorem by_num_le {n : Nat} {v : Int64} : ∀ (k : Nat) {u : Nat × (Nat → Int32)}, u.1 ≤ n → (by_num n u v k).1 ≤ n
  | 0, _, h => h
  | k + 1, _, h => by_num_le k (by_put_le _ h)
def lk_feed (u : Nat × (Nat → Int32)) (a b c d e : Int32) : Nat × (Nat → Int32) := by_num 4096 (by_num 4096 (by_num 4096 (by_num 4096 (by_num 4096 u a.toInt64 4) b.toInt64 4) c.toInt64 4) d.toInt64 4) e.toInt64 4
abbrev oFl (h0 : Nat) (g : Nat → Nat) (ln tu : Int32) : Nat × va_E := (h0, .inr (10, [.ref (g 0), .ref (g 1), .ref (g 2), .ref (g 3), .ref (g 4), .int ln, .int tu, .ref (g 5), .ref (g 6)]))
set_option maxHeartbeats 4000000 in
set_option maxRecDepth 100000 in
/-- feed -/
theorem c_Lk_feed (l : Launch) (D : va_G) (kA : Nat → ClassId) (kS : Nat → Nat) (sz : Nat) (h0 t1 : Nat) (r : Nat → Nat) (fp dn : Int32) (u : Nat × (Nat → Int32)) (a b c d e0 : Int32) (hu : u.1 ≤ 4076) : Met l y_Lk_feed w_Lk_feed { frames := 2, cells := 0, slots := 0, locals := 45 } (xPre D vC (tK kA) kS [.ref h0, .int a, .int b, .int c, .int d, .int e0] (oLk h0 r fp dn :: wBy (r 0) t1 kA 4096 u) sz) (va_Qi (fun (x : Int32) (_ : Unit) => x = nI (lk_feed u a b c d e0).1) (xB D vC (tK kA) (fun _ => oLk h0 r fp dn :: wBy (r 0) t1 kA 4096 (lk_feed u a b c d e0)) (va_A (oLk h0 r fp dn :: wBy (r 0) t1 kA 4096 u) sz)) (va_A (oLk h0 r fp dn :: wBy (r 0) t1 kA 4096 u) sz)) 0 0 (va_A (oLk h0 r fp dn :: wBy (r 0) t1 kA 4096 u) sz) := by
  refine Met.ofW (cc := b_Lk_feed) (maxL := 6) (ret := (some .int)) (by decide) rfl ?_
  intro p ev s m args below meth cd s₁ B hml hv
  obtain ⟨rfl, hsz, hP, hK, hD0, hN, hC⟩ := hv
  have hx := B.exec
  have hb := B.bytes
  have hr := B.returns
  have hts := atoms_spec (ws := w_Lk_feed) B.pre
  have hg : ∀ w ∈ gW, w.before _ s = true := fun w h => hts w (List.mem_cons_of_mem _ h)
  have hown : s.vm.findClass R_Lk = some m.cls := findClass_of_methodNamed B.named
  have hlocks := B.notSynchronized
  subst hsz
  have hD := hD0.self (sz := s.heap.size)
  generalize hAe : va_A (oLk h0 r fp dn :: wBy (r 0) t1 kA 4096 u) s.heap.size = A at hD hC ⊢
  have hA : ∀ q : Nat, s.heap.size ≤ q → A q := fun q h => by rw [← hAe]; exact Or.inr h
  have hS : va_S A s.heap s.heap [] := va_S.rf
  have hP : va_P D vC [(h0, .inr (11, [.ref (r 0), .ref (r 1), .ref (r 2), .ref (r 3), .ref (r 4), .ref (r 5), .ref (r 6), .ref (r 7), .ref (r 8), .ref (r 9), .ref (r 10), .ref (r 11), .ref (r 12), .ref (r 13), .ref (r 14), .int fp, .int dn])), (r 0, .inr (0, [.ref t1, .int (nI u.1)])), (t1, .inl (kA 0, 4096, .inl u.2))] s.heap := hP
  have hD : va_D A [(h0, .inr (11, [.ref (r 0), .ref (r 1), .ref (r 2), .ref (r 3), .ref (r 4), .ref (r 5), .ref (r 6), .ref (r 7), .ref (r 8), .ref (r 9), .ref (r 10), .ref (r 11), .ref (r 12), .ref (r 13), .ref (r 14), .int fp, .int dn])), (r 0, .inr (0, [.ref t1, .int (nI u.1)])), (t1, .inl (kA 0, 4096, .inl u.2))] := hD
  have hl := lv_entry ([.ref h0, .int a, .int b, .int c, .int d, .int e0]) (n := 6) (Nat.le_of_ble_eq_true rfl)
  rw [lg_entry_eq]
  generalize (lg_sl ([.ref h0, .int a, .int b, .int c, .int d, .int e0]) ++ List.replicate (6 - (lg_sl ([.ref h0, .int a, .int b, .int c, .int d, .int e0])).length) Slot.unset).toArray = ls at hl ⊢
  have hl : lv_has ls 6 [(0, .ref h0), (1, .int a), (2, .int b), (3, .int c), (4, .int d), (5, .int e0)] := hl
  refine lv_aload_n hx hb d_Lk_feed_0 rfl (lv_at hl 0 rfl) ?_
  refine va_get (D := D) (ci := 11) (v := .ref (r 0)) (C := R_Lk) (T := F_Lk) (N := 17) hx hb hg i_Lk hown hK hP 0 rfl rfl 0 (by decide) (hg _ mw_483) (fun _ h9 => h9) rfl d_Lk_feed_1 ?_
  refine va_get (D := D) (ci := 0) (v := .int (nI u.1)) (C := R_By) (T := F_By) (N := 2) hx hb hg i_By hown hK hP 1 rfl rfl 1 (by decide) (hg _ mw_51) (fun _ h9 => h9) rfl d_Lk_feed_4 ?_
  refine lv_sipush (v := nI 4076) hx hb d_Lk_feed_7 (by decide) ?_
  refine xb_le (tgt := 23) hx hb d_Lk_feed_10 (by decide) (by omega) (by decide) (fun c_10 => ?_) (fun c_10 => ?_)
  · skip
    refine lv_aload_n hx hb d_Lk_feed_23 rfl (lv_at hl 0 rfl) ?_
    refine va_get (D := D) (ci := 11) (v := .ref (r 0)) (C := R_Lk) (T := F_Lk) (N := 17) hx hb hg i_Lk hown hK hP 0 rfl rfl 0 (by decide) (hg _ mw_483) (fun _ h9 => h9) rfl d_Lk_feed_24 ?_
    refine lv_iload_n hx hb d_Lk_feed_27 rfl (lv_at hl 1 rfl) ?_
    refine lv_i2l hx hb d_Lk_feed_28 rfl ?_
    refine lv_topl (fun x_28 ex_28 => ?_)
    replace ex_28 : x_28 = a.toInt64 := ex_28.trans (rfl)
    subst ex_28
    refine lv_iconst (v := nI 4) hx hb d_Lk_feed_29 (by decide) ?_
    obtain ⟨u1, eu1⟩ : ∃ x, x = by_num 4096 u a.toInt64 4 := ⟨_, rfl⟩
    have hu1 : u1.1 ≤ 4096 := by rw [eu1]; exact by_num_le 4 (by omega : u.1 ≤ 4096)
    refine xc_v (wr := [(h0, .inr (11, [.ref (r 0), .ref (r 1), .ref (r 2), .ref (r 3), .ref (r 4), .ref (r 5), .ref (r 6), .ref (r 7), .ref (r 8), .ref (r 9), .ref (r 10), .ref (r 11), .ref (r 12), .ref (r 13), .ref (r 14), .int fp, .int dn]))]) (va_runV (As := [.long a.toInt64, .int (nI 4)]) (rest := []) ⟨hx, hb, hml, hown, hg⟩ (c_By_putNumber l D kA kS s.heap.size (r 0) t1 4096 u a.toInt64 4 (by omega : u.1 ≤ 4096) (by decide) (by decide)) (cwV 2 hg (xg_V mw_1041 mw_1042 mw_1043 mw_2 mw_1044) rfl rfl rfl (by decide +kernel) ⟨Nat.le_of_ble_eq_true rfl, Nat.le_of_ble_eq_true rfl⟩) (xc_preV hK hN hC hP hD hS hA [1, 2] (by decide) rfl 0 rfl rfl) rfl rfl hl.1 rfl (lv_room (Nat.le_of_ble_eq_true rfl)) d_Lk_feed_30 ⟨Nat.le_of_ble_eq_true rfl, Nat.le_of_ble_eq_true rfl⟩) hP hD hS hA [1, 2] [0] rfl rfl (by decide) (by decide) (fun u9 H locs hw hP hD hS => ?_)
    have hP : va_P D vC [(h0, .inr (11, [.ref (r 0), .ref (r 1), .ref (r 2), .ref (r 3), .ref (r 4), .ref (r 5), .ref (r 6), .ref (r 7), .ref (r 8), .ref (r 9), .ref (r 10), .ref (r 11), .ref (r 12), .ref (r 13), .ref (r 14), .int fp, .int dn])), (r 0, .inr (0, [.ref t1, .int (nI u1.1)])), (t1, .inl (kA 0, 4096, .inl u1.2))] H := by rw [eu1]; exact hP
    have hD : va_D A [(h0, .inr (11, [.ref (r 0), .ref (r 1), .ref (r 2), .ref (r 3), .ref (r 4), .ref (r 5), .ref (r 6), .ref (r 7), .ref (r 8), .ref (r 9), .ref (r 10), .ref (r 11), .ref (r 12), .ref (r 13), .ref (r 14), .int fp, .int dn])), (r 0, .inr (0, [.ref t1, .int (nI u1.1)])), (t1, .inl (kA 0, 4096, .inl u1.2))] := by rw [eu1]; exact hD
    refine lv_aload_n hx hb d_Lk_feed_33 rfl (lv_at hl 0 rfl) ?_
    refine va_get (D := D) (ci := 11) (v := .ref (r 0)) (C := R_Lk) (T := F_Lk) (N := 17) hx hb hg i_Lk hown hK hP 0 rfl rfl 0 (by decide) (hg _ mw_483) (fun _ h9 => h9) rfl d_Lk_feed_34 ?_
    refine lv_iload_n hx hb d_Lk_feed_37 rfl (lv_at hl 2 rfl) ?_
    refine lv_i2l hx hb d_Lk_feed_38 rfl ?_
    refine lv_topl (fun x_38 ex_38 => ?_)
    replace ex_38 : x_38 = b.toInt64 := ex_38.trans (rfl)
    subst ex_38
    refine lv_iconst (v := nI 4) hx hb d_Lk_feed_39 (by decide) ?_
    obtain ⟨u2, eu2⟩ : ∃ x, x = by_num 4096 u1 b.toInt64 4 := ⟨_, rfl⟩
    have hu2 : u2.1 ≤ 4096 := by rw [eu2]; exact by_num_le 4 hu1
    refine xc_v (wr := [(h0, .inr (11, [.ref (r 0), .ref (r 1), .ref (r 2), .ref (r 3), .ref (r 4), .ref (r 5), .ref (r 6), .ref (r 7), .ref (r 8), .ref (r 9), .ref (r 10), .ref (r 11), .ref (r 12), .ref (r 13), .ref (r 14), .int fp, .int dn]))]) (va_runV (As := [.long b.toInt64, .int (nI 4)]) (rest := []) ⟨hx, hb, hml, hown, hg⟩ (c_By_putNumber l D kA kS H.size (r 0) t1 4096 u1 b.toInt64 4 hu1 (by decide) (by decide)) (cwV 2 hg (xg_V mw_1041 mw_1042 mw_1043 mw_2 mw_1044) rfl rfl rfl (by decide +kernel) ⟨Nat.le_of_ble_eq_true rfl, Nat.le_of_ble_eq_true rfl⟩) (xc_preV hK hN hC hP hD hS hA [1, 2] (by decide) rfl 0 rfl rfl) rfl rfl hl.1 rfl (lv_room (Nat.le_of_ble_eq_true rfl)) d_Lk_feed_40 ⟨Nat.le_of_ble_eq_true rfl, Nat.le_of_ble_eq_true rfl⟩) hP hD hS hA [1, 2] [0] rfl rfl (by decide) (by decide) (fun u9 H locs hw hP hD hS => ?_)
    have hP : va_P D vC [(h0, .inr (11, [.ref (r 0), .ref (r 1), .ref (r 2), .ref (r 3), .ref (r 4), .ref (r 5), .ref (r 6), .ref (r 7), .ref (r 8), .ref (r 9), .ref (r 10), .ref (r 11), .ref (r 12), .ref (r 13), .ref (r 14), .int fp, .int dn])), (r 0, .inr (0, [.ref t1, .int (nI u2.1)])), (t1, .inl (kA 0, 4096, .inl u2.2))] H := by rw [eu2]; exact hP
    have hD : va_D A [(h0, .inr (11, [.ref (r 0), .ref (r 1), .ref (r 2), .ref (r 3), .ref (r 4), .ref (r 5), .ref (r 6), .ref (r 7), .ref (r 8), .ref (r 9), .ref (r 10), .ref (r 11), .ref (r 12), .ref (r 13), .ref (r 14), .int fp, .int dn])), (r 0, .inr (0, [.ref t1, .int (nI u2.1)])), (t1, .inl (kA 0, 4096, .inl u2.2))] := by rw [eu2]; exact hD
    refine lv_aload_n hx hb d_Lk_feed_43 rfl (lv_at hl 0 rfl) ?_
    refine va_get (D := D) (ci := 11) (v := .ref (r 0)) (C := R_Lk) (T := F_Lk) (N := 17) hx hb hg i_Lk hown hK hP 0 rfl rfl 0 (by decide) (hg _ mw_483) (fun _ h9 => h9) rfl d_Lk_feed_44 ?_
    refine lv_iload_n hx hb d_Lk_feed_47 rfl (lv_at hl 3 rfl) ?_
    refine lv_i2l hx hb d_Lk_feed_48 rfl ?_
    refine lv_topl (fun x_48 ex_48 => ?_)
    replace ex_48 : x_48 = c.toInt64 := ex_48.trans (rfl)
    subst ex_48
    refine lv_iconst (v := nI 4) hx hb d_Lk_feed_49 (by decide) ?_
    obtain ⟨u3, eu3⟩ : ∃ x, x = by_num 4096 u2 c.toInt64 4 := ⟨_, rfl⟩
    have hu3 : u3.1 ≤ 4096 := by rw [eu3]; exact by_num_le 4 hu2
    refine xc_v (wr := [(h0, .inr (11, [.ref (r 0), .ref (r 1), .ref (r 2), .ref (r 3), .ref (r 4), .ref (r 5), .ref (r 6), .ref (r 7), .ref (r 8), .ref (r 9), .ref (r 10), .ref (r 11), .ref (r 12), .ref (r 13), .ref (r 14), .int fp, .int dn]))]) (va_runV (As := [.long c.toInt64, .int (nI 4)]) (rest := []) ⟨hx, hb, hml, hown, hg⟩ (c_By_putNumber l D kA kS H.size (r 0) t1 4096 u2 c.toInt64 4 hu2 (by decide) (by decide)) (cwV 2 hg (xg_V mw_1041 mw_1042 mw_1043 mw_2 mw_1044) rfl rfl rfl (by decide +kernel) ⟨Nat.le_of_ble_eq_true rfl, Nat.le_of_ble_eq_true rfl⟩) (xc_preV hK hN hC hP hD hS hA [1, 2] (by decide) rfl 0 rfl rfl) rfl rfl hl.1 rfl (lv_room (Nat.le_of_ble_eq_true rfl)) d_Lk_feed_50 ⟨Nat.le_of_ble_eq_true rfl, Nat.le_of_ble_eq_true rfl⟩) hP hD hS hA [1, 2] [0] rfl rfl (by decide) (by decide) (fun u9 H locs hw hP hD hS => ?_)
    have hP : va_P D vC [(h0, .inr (11, [.ref (r 0), .ref (r 1), .ref (r 2), .ref (r 3), .ref (r 4), .ref (r 5), .ref (r 6), .ref (r 7), .ref (r 8), .ref (r 9), .ref (r 10), .ref (r 11), .ref (r 12), .ref (r 13), .ref (r 14), .int fp, .int dn])), (r 0, .inr (0, [.ref t1, .int (nI u3.1)])), (t1, .inl (kA 0, 4096, .inl u3.2))] H := by rw [eu3]; exact hP
    have hD : va_D A [(h0, .inr (11, [.ref (r 0), .ref (r 1), .ref (r 2), .ref (r 3), .ref (r 4), .ref (r 5), .ref (r 6), .ref (r 7), .ref (r 8), .ref (r 9), .ref (r 10), .ref (r 11), .ref (r 12), .ref (r 13), .ref (r 14), .int fp, .int dn])), (r 0, .inr (0, [.ref t1, .int (nI u3.1)])), (t1, .inl (kA 0, 4096, .inl u3.2))] := by rw [eu3]; exact hD
    refine lv_aload_n hx hb d_Lk_feed_53 rfl (lv_at hl 0 rfl) ?_
    refine va_get (D := D) (ci := 11) (v := .ref (r 0)) (C := R_Lk) (T := F_Lk) (N := 17) hx hb hg i_Lk hown hK hP 0 rfl rfl 0 (by decide) (hg _ mw_483) (fun _ h9 => h9) rfl d_Lk_feed_54 ?_
    refine lv_iload hx hb d_Lk_feed_57 (lv_at hl 4 rfl) ?_
    refine lv_i2l hx hb d_Lk_feed_59 rfl ?_
    refine lv_topl (fun x_59 ex_59 => ?_)
    replace ex_59 : x_59 = d.toInt64 := ex_59.trans (rfl)
    subst ex_59
    refine lv_iconst (v := nI 4) hx hb d_Lk_feed_60 (by decide) ?_
    obtain ⟨u4, eu4⟩ : ∃ x, x = by_num 4096 u3 d.toInt64 4 := ⟨_, rfl⟩
    have hu4 : u4.1 ≤ 4096 := by rw [eu4]; exact by_num_le 4 hu3
    refine xc_v (wr := [(h0, .inr (11, [.ref (r 0), .ref (r 1), .ref (r 2), .ref (r 3), .ref (r 4), .ref (r 5), .ref (r 6), .ref (r 7), .ref (r 8), .ref (r 9), .ref (r 10), .ref (r 11), .ref (r 12), .ref (r 13), .ref (r 14), .int fp, .int dn]))]) (va_runV (As := [.long d.toInt64, .int (nI 4)]) (rest := []) ⟨hx, hb, hml, hown, hg⟩ (c_By_putNumber l D kA kS H.size (r 0) t1 4096 u3 d.toInt64 4 hu3 (by decide) (by decide)) (cwV 2 hg (xg_V mw_1041 mw_1042 mw_1043 mw_2 mw_1044) rfl rfl rfl (by decide +kernel) ⟨Nat.le_of_ble_eq_true rfl, Nat.le_of_ble_eq_true rfl⟩) (xc_preV hK hN hC hP hD hS hA [1, 2] (by decide) rfl 0 rfl rfl) rfl rfl hl.1 rfl (lv_room (Nat.le_of_ble_eq_true rfl)) d_Lk_feed_61 ⟨Nat.le_of_ble_eq_true rfl, Nat.le_of_ble_eq_true rfl⟩) hP hD hS hA [1, 2] [0] rfl rfl (by decide) (by decide) (fun u9 H locs hw hP hD hS => ?_)
    have hP : va_P D vC [(h0, .inr (11, [.ref (r 0), .ref (r 1), .ref (r 2), .ref (r 3), .ref (r 4), .ref (r 5), .ref (r 6), .ref (r 7), .ref (r 8), .ref (r 9), .ref (r 10), .ref (r 11), .ref (r 12), .ref (r 13), .ref (r 14), .int fp, .int dn])), (r 0, .inr (0, [.ref t1, .int (nI u4.1)])), (t1, .inl (kA 0, 4096, .inl u4.2))] H := by rw [eu4]; exact hP
    have hD : va_D A [(h0, .inr (11, [.ref (r 0), .ref (r 1), .ref (r 2), .ref (r 3), .ref (r 4), .ref (r 5), .ref (r 6), .ref (r 7), .ref (r 8), .ref (r 9), .ref (r 10), .ref (r 11), .ref (r 12), .ref (r 13), .ref (r 14), .int fp, .int dn])), (r 0, .inr (0, [.ref t1, .int (nI u4.1)])), (t1, .inl (kA 0, 4096, .inl u4.2))] := by rw [eu4]; exact hD
    refine lv_aload_n hx hb d_Lk_feed_64 rfl (lv_at hl 0 rfl) ?_
    refine va_get (D := D) (ci := 11) (v := .ref (r 0)) (C := R_Lk) (T := F_Lk) (N := 17) hx hb hg i_Lk hown hK hP 0 rfl rfl 0 (by decide) (hg _ mw_483) (fun _ h9 => h9) rfl d_Lk_feed_65 ?_
    refine lv_iload hx hb d_Lk_feed_68 (lv_at hl 5 rfl) ?_
    refine lv_i2l hx hb d_Lk_feed_70 rfl ?_
    refine lv_topl (fun x_70 ex_70 => ?_)
    replace ex_70 : x_70 = e0.toInt64 := ex_70.trans (rfl)
    subst ex_70
    refine lv_iconst (v := nI 4) hx hb d_Lk_feed_71 (by decide) ?_
    obtain ⟨u5, eu5⟩ : ∃ x, x = by_num 4096 u4 e0.toInt64 4 := ⟨_, rfl⟩
    have hu5 : u5.1 ≤ 4096 := by rw [eu5]; exact by_num_le 4 hu4
    refine xc_v (wr := [(h0, .inr (11, [.ref (r 0), .ref (r 1), .ref (r 2), .ref (r 3), .ref (r 4), .ref (r 5), .ref (r 6), .ref (r 7), .ref (r 8), .ref (r 9), .ref (r 10), .ref (r 11), .ref (r 12), .ref (r 13), .ref (r 14), .int fp, .int dn]))]) (va_runV (As := [.long e0.toInt64, .int (nI 4)]) (rest := []) ⟨hx, hb, hml, hown, hg⟩ (c_By_putNumber l D kA kS H.size (r 0) t1 4096 u4 e0.toInt64 4 hu4 (by decide) (by decide)) (cwV 2 hg (xg_V mw_1041 mw_1042 mw_1043 mw_2 mw_1044) rfl rfl rfl (by decide +kernel) ⟨Nat.le_of_ble_eq_true rfl, Nat.le_of_ble_eq_true rfl⟩) (xc_preV hK hN hC hP hD hS hA [1, 2] (by decide) rfl 0 rfl rfl) rfl rfl hl.1 rfl (lv_room (Nat.le_of_ble_eq_true rfl)) d_Lk_feed_72 ⟨Nat.le_of_ble_eq_true rfl, Nat.le_of_ble_eq_true rfl⟩) hP hD hS hA [1, 2] [0] rfl rfl (by decide) (by decide) (fun u9 H locs hw hP hD hS => ?_)
    have hP : va_P D vC [(h0, .inr (11, [.ref (r 0), .ref (r 1), .ref (r 2), .ref (r 3), .ref (r 4), .ref (r 5), .ref (r 6), .ref (r 7), .ref (r 8), .ref (r 9), .ref (r 10), .ref (r 11), .ref (r 12), .ref (r 13), .ref (r 14), .int fp, .int dn])), (r 0, .inr (0, [.ref t1, .int (nI u5.1)])), (t1, .inl (kA 0, 4096, .inl u5.2))] H := by rw [eu5]; exact hP
    have hD : va_D A [(h0, .inr (11, [.ref (r 0), .ref (r 1), .ref (r 2), .ref (r 3), .ref (r 4), .ref (r 5), .ref (r 6), .ref (r 7), .ref (r 8), .ref (r 9), .ref (r 10), .ref (r 11), .ref (r 12), .ref (r 13), .ref (r 14), .int fp, .int dn])), (r 0, .inr (0, [.ref t1, .int (nI u5.1)])), (t1, .inl (kA 0, 4096, .inl u5.2))] := by rw [eu5]; exact hD
    refine lv_aload_n hx hb d_Lk_feed_75 rfl (lv_at hl 0 rfl) ?_
    refine va_get (D := D) (ci := 11) (v := .ref (r 0)) (C := R_Lk) (T := F_Lk) (N := 17) hx hb hg i_Lk hown hK hP 0 rfl rfl 0 (by decide) (hg _ mw_483) (fun _ h9 => h9) rfl d_Lk_feed_76 ?_
    refine va_get (D := D) (ci := 0) (v := .int (nI u5.1)) (C := R_By) (T := F_By) (N := 2) hx hb hg i_By hown hK hP 1 rfl rfl 1 (by decide) (hg _ mw_51) (fun _ h9 => h9) rfl d_Lk_feed_79 ?_
    rw [show lk_feed u a b c d e0 = u5 from by rw [eu5, eu4, eu3, eu2, eu1]; rfl]
    exact W.iret (v := nI u5.1) hx hb hr (fun t ht hW => ⟨⟨nI u5.1, (), rfl, rfl, by rw [ht]; exact hP, va_K.moved hW.alike hK, hD⟩, hS.F ht⟩) hS.2.2 d_Lk_feed_82
  · skip
    exact absurd hu (by omega)

set_option maxHeartbeats 4000000 in
set_option maxRecDepth 100000 in
/-- feed: refused -/
theorem t_Lk_feed (l : Launch) (hfl : l.flags = flags0) (D : va_G) (kA : Nat → ClassId) (kS : Nat → Nat) (sz : Nat) (h0 t1 : Nat) (r : Nat → Nat) (fp dn : Int32) (u : Nat × (Nat → Int32)) (a b c d e0 : Int32) (hu : 4076 < u.1) (hu2 : u.1 ≤ 4096) : xt_Met l y_Lk_feed w_Lk_feed { frames := 6, cells := 1, slots := 6, locals := 82 } (xPre D vC (tK kA) kS [.ref h0, .int a, .int b, .int c, .int d, .int e0] (oLk h0 r fp dn :: wBy (r 0) t1 kA 4096 u) sz) (xt_Q "java/lang/IllegalStateException" (fun _ : Unit => True) (xB D vC (tK kA) (fun _ => oLk h0 r fp dn :: wBy (r 0) t1 kA 4096 u) (va_A (oLk h0 r fp dn :: wBy (r 0) t1 kA 4096 u) sz)) (va_A (oLk h0 r fp dn :: wBy (r 0) t1 kA 4096 u) sz)) 1 6 (va_A (oLk h0 r fp dn :: wBy (r 0) t1 kA 4096 u) sz) := by
  refine xt_ofW (cc := b_Lk_feed) (maxL := 6) (ret := (some .int)) (by decide) rfl ?_
  intro p ev s m args below meth cd s₁ B hml hemp hv
  obtain ⟨rfl, hsz, hP, hK, hD0, hN, hC⟩ := hv
  have hx := B.exec
  have hb := B.bytes
  have hts := atoms_spec (ws := w_Lk_feed) B.pre
  have hg : ∀ w ∈ gW, w.before _ s = true := fun w h => hts w (List.mem_cons_of_mem _ h)
  have hown : s.vm.findClass R_Lk = some m.cls := findClass_of_methodNamed B.named
  have hlocks := B.notSynchronized
  subst hsz
  have hD := hD0.self (sz := s.heap.size)
  generalize hAe : va_A (oLk h0 r fp dn :: wBy (r 0) t1 kA 4096 u) s.heap.size = A at hD hC ⊢
  have hA : ∀ q : Nat, s.heap.size ≤ q → A q := fun q h => by rw [← hAe]; exact Or.inr h
  have hS : va_S A s.heap s.heap [] := va_S.rf
  have hP : va_P D vC [(h0, .inr (11, [.ref (r 0), .ref (r 1), .ref (r 2), .ref (r 3), .ref (r 4), .ref (r 5), .ref (r 6), .ref (r 7), .ref (r 8), .ref (r 9), .ref (r 10), .ref (r 11), .ref (r 12), .ref (r 13), .ref (r 14), .int fp, .int dn])), (r 0, .inr (0, [.ref t1, .int (nI u.1)])), (t1, .inl (kA 0, 4096, .inl u.2))] s.heap := hP
  have hD : va_D A [(h0, .inr (11, [.ref (r 0), .ref (r 1), .ref (r 2), .ref (r 3), .ref (r 4), .ref (r 5), .ref (r 6), .ref (r 7), .ref (r 8), .ref (r 9), .ref (r 10), .ref (r 11), .ref (r 12), .ref (r 13), .ref (r 14), .int fp, .int dn])), (r 0, .inr (0, [.ref t1, .int (nI u.1)])), (t1, .inl (kA 0, 4096, .inl u.2))] := hD
  have hl := lv_entry ([.ref h0, .int a, .int b, .int c, .int d, .int e0]) (n := 6) (Nat.le_of_ble_eq_true rfl)
  rw [lg_entry_eq]
  generalize (lg_sl ([.ref h0, .int a, .int b, .int c, .int d, .int e0]) ++ List.replicate (6 - (lg_sl ([.ref h0, .int a, .int b, .int c, .int d, .int e0])).length) Slot.unset).toArray = ls at hl ⊢
  have hl : lv_has ls 6 [(0, .ref h0), (1, .int a), (2, .int b), (3, .int c), (4, .int d), (5, .int e0)] := hl
  refine lv_aload_n hx hb d_Lk_feed_0 rfl (lv_at hl 0 rfl) ?_
  refine va_get (D := D) (ci := 11) (v := .ref (r 0)) (C := R_Lk) (T := F_Lk) (N := 17) hx hb hg i_Lk hown hK hP 0 rfl rfl 0 (by decide) (hg _ mw_483) (fun _ h9 => h9) rfl d_Lk_feed_1 ?_
  refine va_get (D := D) (ci := 0) (v := .int (nI u.1)) (C := R_By) (T := F_By) (N := 2) hx hb hg i_By hown hK hP 1 rfl rfl 1 (by decide) (hg _ mw_51) (fun _ h9 => h9) rfl d_Lk_feed_4 ?_
  refine lv_sipush (v := nI 4076) hx hb d_Lk_feed_7 (by decide) ?_
  refine xb_le (tgt := 23) hx hb d_Lk_feed_10 (by decide) (by omega) (by decide) (fun c_10 => ?_) (fun c_10 => ?_)
  · skip
    exact absurd hu (by omega)
  · skip
    exact xt_new0 (D := D) hx hb hfl hown (by decide +kernel) xE_fit (xE_Lk_ISE.use hg hN hC) (hg _ mw_974) (hg _ mw_18) (hC.2.2 32 ("RecordLake", 115, "the tape would have more than 4096 bytes") rfl) hml hl.1 hemp hlocks (by decide) (by decide) (by decide) (by decide) d_Lk_feed_13 d_Lk_feed_16 d_Lk_feed_17 d_Lk_feed_19 d_Lk_feed_22 hK () trivial hP hD

set_option maxHeartbeats 4000000 in
set_option maxRecDepth 100000 in
/-- files() -/
theorem c_Lk_files (l : Launch) (D : va_G) (kA : Nat → ClassId) (kS : Nat → Nat) (sz : Nat) (h0 : Nat) (r g : Nat → Nat) (fp dn ln tu : Int32) : Met l y_Lk_files w_Lk_files { frames := 0, cells := 0, slots := 0, locals := 0 } (xPre D vC (tK kA) kS [.ref h0] ([oLk h0 r fp dn, oFl (r 14) g ln tu]) sz) (va_Qi (fun (x : Int32) (_ : Unit) => x = if dn = 0 then ln else -33) (xB D vC (tK kA) (fun _ => [oLk h0 r fp dn, oFl (r 14) g ln tu]) (va_A ([oLk h0 r fp dn, oFl (r 14) g ln tu]) sz)) (va_A ([oLk h0 r fp dn, oFl (r 14) g ln tu]) sz)) 0 0 (va_A ([oLk h0 r fp dn, oFl (r 14) g ln tu]) sz) := by
  refine Met.ofW (cc := b_Lk_files) (maxL := 1) (ret := (some .int)) (by decide) rfl ?_
  intro p e s m args below meth c s₁ B hml hv
  obtain ⟨rfl, hsz, hP, hK, hD0, hN, hC⟩ := hv
  have hx := B.exec
  have hb := B.bytes
  have hr := B.returns
  have hts := atoms_spec (ws := w_Lk_files) B.pre
  have hg : ∀ w ∈ gW, w.before _ s = true := fun w h => hts w (List.mem_cons_of_mem _ h)
  have hown : s.vm.findClass R_Lk = some m.cls := findClass_of_methodNamed B.named
  have hlocks := B.notSynchronized
  subst hsz
  have hD := hD0.self (sz := s.heap.size)
  generalize hAe : va_A ([oLk h0 r fp dn, oFl (r 14) g ln tu]) s.heap.size = A at hD hC ⊢
  have hA : ∀ q : Nat, s.heap.size ≤ q → A q := fun q h => by rw [← hAe]; exact Or.inr h
  have hS : va_S A s.heap s.heap [] := va_S.rf
  have hP : va_P D vC [(h0, .inr (11, [.ref (r 0), .ref (r 1), .ref (r 2), .ref (r 3), .ref (r 4), .ref (r 5), .ref (r 6), .ref (r 7), .ref (r 8), .ref (r 9), .ref (r 10), .ref (r 11), .ref (r 12), .ref (r 13), .ref (r 14), .int fp, .int dn])), (r 14, .inr (10, [.ref (g 0), .ref (g 1), .ref (g 2), .ref (g 3), .ref (g 4), .int ln, .int tu, .ref (g 5), .ref (g 6)]))] s.heap := hP
  have hD : va_D A [(h0, .inr (11, [.ref (r 0), .ref (r 1), .ref (r 2), .ref (r 3), .ref (r 4), .ref (r 5), .ref (r 6), .ref (r 7), .ref (r 8), .ref (r 9), .ref (r 10), .ref (r 11), .ref (r 12), .ref (r 13), .ref (r 14), .int fp, .int dn])), (r 14, .inr (10, [.ref (g 0), .ref (g 1), .ref (g 2), .ref (g 3), .ref (g 4), .int ln, .int tu, .ref (g 5), .ref (g 6)]))] := hD
  have hl := lv_entry ([.ref h0]) (n := 1) (Nat.le_of_ble_eq_true rfl)
  rw [lg_entry_eq]
  generalize (lg_sl ([.ref h0]) ++ List.replicate (1 - (lg_sl ([.ref h0])).length) Slot.unset).toArray = ls at hl ⊢
  have hl : lv_has ls 1 [(0, .ref h0)] := hl
  refine lv_aload_n hx hb d_Lk_files_0 rfl (lv_at hl 0 rfl) ?_
  refine va_get (D := D) (ci := 11) (v := .int dn) (C := R_Lk) (T := F_Lk) (N := 17) hx hb hg i_Lk hown hK hP 0 rfl rfl 16 (by decide) (hg _ mw_499) (fun _ h9 => h9) rfl d_Lk_files_1 ?_
  refine lv_if_eq (tgt := 12) hx hb d_Lk_files_4 (by decide) (fun c_4 => ?_) (fun c_4 => ?_)
  · skip
    refine lv_aload_n hx hb d_Lk_files_12 rfl (lv_at hl 0 rfl) ?_
    refine va_get (D := D) (ci := 11) (v := .ref (r 14)) (C := R_Lk) (T := F_Lk) (N := 17) hx hb hg i_Lk hown hK hP 0 rfl rfl 14 (by decide) (hg _ mw_497) (fun _ h9 => h9) rfl d_Lk_files_13 ?_
    refine va_get (D := D) (ci := 10) (v := .int ln) (C := R_Fl) (T := F_Fl) (N := 9) hx hb hg i_Fl hown hK hP 1 rfl rfl 5 (by decide) (hg _ mw_459) (fun _ h9 => h9) rfl d_Lk_files_16 ?_
    exact W.iret (v := ln) hx hb hr (fun t ht hW => ⟨⟨ln, (), rfl, (if_pos c_4).symm, by rw [ht]; exact hP, va_K.moved hW.alike hK, hD⟩, hS.F ht⟩) hS.2.2 d_Lk_files_19
  · skip
    refine lv_bipush (v := (-33)) hx hb d_Lk_files_7 (by decide) ?_
    refine lv_goto (tgt := 19) hx hb d_Lk_files_9 (by decide) ?_
    exact W.iret (v := (-33)) hx hb hr (fun t ht hW => ⟨⟨(-33), (), rfl, (if_neg c_4).symm, by rw [ht]; exact hP, va_K.moved hW.alike hK, hD⟩, hS.F ht⟩) hS.2.2 d_Lk_files_19

set_option maxHeartbeats 4000000 in
set_option maxRecDepth 100000 in
/-- power(x) -/
theorem c_Lk_power (l : Launch) (D : va_G) (kA : Nat → ClassId) (kS : Nat → Nat) (sz : Nat) (h0 b0 : Nat) (r : Nat → Nat) (fp dn ul x : Int32) (h1 : ¬ x < -1) (h2 : x ≤ 1000) : Met l y_Lk_power w_Lk_power { frames := 0, cells := 0, slots := 0, locals := 0 } (xPre D vC (tK kA) kS [.ref h0, .int x] ([oLk h0 r fp dn, (r 13, .inr (9, [.ref b0, .int ul]))]) sz) (va_Qv (fun (_ : Unit) => True) (xB D vC (tK kA) (fun _ => [oLk h0 r fp dn, (r 13, .inr (9, [.ref b0, .int x]))]) (va_A ([oLk h0 r fp dn, (r 13, .inr (9, [.ref b0, .int ul]))]) sz)) (va_A ([oLk h0 r fp dn, (r 13, .inr (9, [.ref b0, .int ul]))]) sz)) 0 0 (va_A ([oLk h0 r fp dn, (r 13, .inr (9, [.ref b0, .int ul]))]) sz) := by
  refine Met.ofW (cc := b_Lk_power) (maxL := 2) (ret := none) (by decide) rfl ?_
  intro p e s m args below meth c s₁ B hml hv
  obtain ⟨rfl, hsz, hP, hK, hD0, hN, hC⟩ := hv
  have hx := B.exec
  have hb := B.bytes
  have hr := B.returns
  have hts := atoms_spec (ws := w_Lk_power) B.pre
  have hg : ∀ w ∈ gW, w.before _ s = true := fun w h => hts w (List.mem_cons_of_mem _ h)
  have hown : s.vm.findClass R_Lk = some m.cls := findClass_of_methodNamed B.named
  have hlocks := B.notSynchronized
  subst hsz
  have hD := hD0.self (sz := s.heap.size)
  generalize hAe : va_A ([oLk h0 r fp dn, (r 13, .inr (9, [.ref b0, .int ul]))]) s.heap.size = A at hD hC ⊢
  have hA : ∀ q : Nat, s.heap.size ≤ q → A q := fun q h => by rw [← hAe]; exact Or.inr h
  have hS : va_S A s.heap s.heap [] := va_S.rf
  have hP : va_P D vC [(h0, .inr (11, [.ref (r 0), .ref (r 1), .ref (r 2), .ref (r 3), .ref (r 4), .ref (r 5), .ref (r 6), .ref (r 7), .ref (r 8), .ref (r 9), .ref (r 10), .ref (r 11), .ref (r 12), .ref (r 13), .ref (r 14), .int fp, .int dn])), (r 13, .inr (9, [.ref b0, .int ul]))] s.heap := hP
  have hD : va_D A [(h0, .inr (11, [.ref (r 0), .ref (r 1), .ref (r 2), .ref (r 3), .ref (r 4), .ref (r 5), .ref (r 6), .ref (r 7), .ref (r 8), .ref (r 9), .ref (r 10), .ref (r 11), .ref (r 12), .ref (r 13), .ref (r 14), .int fp, .int dn])), (r 13, .inr (9, [.ref b0, .int ul]))] := hD
  have hl := lv_entry ([.ref h0, .int x]) (n := 2) (Nat.le_of_ble_eq_true rfl)
  rw [lg_entry_eq]
  generalize (lg_sl ([.ref h0, .int x]) ++ List.replicate (2 - (lg_sl ([.ref h0, .int x])).length) Slot.unset).toArray = ls at hl ⊢
  have hl : lv_has ls 2 [(0, .ref h0), (1, .int x)] := hl
  refine lv_iload_n hx hb d_Lk_power_0 rfl (lv_at hl 1 rfl) ?_
  refine lv_iconst (v := (-1)) hx hb d_Lk_power_1 (by decide) ?_
  refine lv_icmp_lt (tgt := 12) hx hb d_Lk_power_2 (by decide) (fun c_2 => ?_) (fun c_2 => ?_)
  · skip
    exact absurd c_2 h1
  · skip
    refine lv_iload_n hx hb d_Lk_power_5 rfl (lv_at hl 1 rfl) ?_
    refine lv_sipush (v := 1000) hx hb d_Lk_power_6 (by decide) ?_
    refine lv_icmp_le (tgt := 23) hx hb d_Lk_power_9 (by decide) (fun c_9 => ?_) (fun c_9 => ?_)
    · skip
      refine lv_aload_n hx hb d_Lk_power_23 rfl (lv_at hl 0 rfl) ?_
      refine va_get (D := D) (ci := 11) (v := .ref (r 13)) (C := R_Lk) (T := F_Lk) (N := 17) hx hb hg i_Lk hown hK hP 0 rfl rfl 13 (by decide) (hg _ mw_496) (fun _ h9 => h9) rfl d_Lk_power_24 ?_
      refine lv_iload_n hx hb d_Lk_power_27 rfl (lv_at hl 1 rfl) ?_
      refine va_put (D := D) (ci := 9) (v := .int x) (ty := .int) (C := R_Dk) (T := F_Dk) (N := 2) hx hb hg i_Dk t_Dk t_Dk_ok n_Dk hown hK hP hD hS 1 rfl rfl 1 (by decide) (hg _ mw_434) (fun _ h9 => h9) rfl (by decide +kernel) rfl rfl (Nat.le_of_ble_eq_true rfl) d_Lk_power_28 (fun H locs hP hD hS => ?_)
      have hP : va_P D vC [(h0, .inr (11, [.ref (r 0), .ref (r 1), .ref (r 2), .ref (r 3), .ref (r 4), .ref (r 5), .ref (r 6), .ref (r 7), .ref (r 8), .ref (r 9), .ref (r 10), .ref (r 11), .ref (r 12), .ref (r 13), .ref (r 14), .int fp, .int dn])), (r 13, .inr (9, [.ref b0, .int x]))] H := hP
      have hD : va_D A [(h0, .inr (11, [.ref (r 0), .ref (r 1), .ref (r 2), .ref (r 3), .ref (r 4), .ref (r 5), .ref (r 6), .ref (r 7), .ref (r 8), .ref (r 9), .ref (r 10), .ref (r 11), .ref (r 12), .ref (r 13), .ref (r 14), .int fp, .int dn])), (r 13, .inr (9, [.ref b0, .int x]))] := hD
      exact W.vret hx hb hr (fun t ht hW => ⟨⟨(), rfl, trivial, by rw [ht]; exact hP, va_K.moved hW.alike hK, hD⟩, hS.F ht⟩) hS.2.2 d_Lk_power_31
    · skip
      exact absurd h2 c_9

set_option maxHeartbeats 4000000 in
set_option maxRecDepth 100000 in
/-- power: refused -/
theorem t_Lk_power (l : Launch) (hfl : l.flags = flags0) (D : va_G) (kA : Nat → ClassId) (kS : Nat → Nat) (sz : Nat) (h0 b0 : Nat) (r : Nat → Nat) (fp dn ul x : Int32) (h1 : x < -1 ∨ ¬ x ≤ 1000) : xt_Met l y_Lk_power w_Lk_power { frames := 6, cells := 1, slots := 6, locals := 82 } (xPre D vC (tK kA) kS [.ref h0, .int x] ([oLk h0 r fp dn, (r 13, .inr (9, [.ref b0, .int ul]))]) sz) (xt_Q "java/lang/IllegalArgumentException" (fun _ : Unit => True) (xB D vC (tK kA) (fun _ => [oLk h0 r fp dn, (r 13, .inr (9, [.ref b0, .int ul]))]) (va_A ([oLk h0 r fp dn, (r 13, .inr (9, [.ref b0, .int ul]))]) sz)) (va_A ([oLk h0 r fp dn, (r 13, .inr (9, [.ref b0, .int ul]))]) sz)) 1 6 (va_A ([oLk h0 r fp dn, (r 13, .inr (9, [.ref b0, .int ul]))]) sz) := by
  refine xt_ofW (cc := b_Lk_power) (maxL := 2) (ret := none) (by decide) rfl ?_
  intro p e s m args below meth c s₁ B hml hemp hv
  obtain ⟨rfl, hsz, hP, hK, hD0, hN, hC⟩ := hv
  have hx := B.exec
  have hb := B.bytes
  have hts := atoms_spec (ws := w_Lk_power) B.pre
  have hg : ∀ w ∈ gW, w.before _ s = true := fun w h => hts w (List.mem_cons_of_mem _ h)
  have hown : s.vm.findClass R_Lk = some m.cls := findClass_of_methodNamed B.named
  have hlocks := B.notSynchronized
  subst hsz
  have hD := hD0.self (sz := s.heap.size)
  generalize hAe : va_A ([oLk h0 r fp dn, (r 13, .inr (9, [.ref b0, .int ul]))]) s.heap.size = A at hD hC ⊢
  have hA : ∀ q : Nat, s.heap.size ≤ q → A q := fun q h => by rw [← hAe]; exact Or.inr h
  have hS : va_S A s.heap s.heap [] := va_S.rf
  have hP : va_P D vC [(h0, .inr (11, [.ref (r 0), .ref (r 1), .ref (r 2), .ref (r 3), .ref (r 4), .ref (r 5), .ref (r 6), .ref (r 7), .ref (r 8), .ref (r 9), .ref (r 10), .ref (r 11), .ref (r 12), .ref (r 13), .ref (r 14), .int fp, .int dn])), (r 13, .inr (9, [.ref b0, .int ul]))] s.heap := hP
  have hD : va_D A [(h0, .inr (11, [.ref (r 0), .ref (r 1), .ref (r 2), .ref (r 3), .ref (r 4), .ref (r 5), .ref (r 6), .ref (r 7), .ref (r 8), .ref (r 9), .ref (r 10), .ref (r 11), .ref (r 12), .ref (r 13), .ref (r 14), .int fp, .int dn])), (r 13, .inr (9, [.ref b0, .int ul]))] := hD
  have hl := lv_entry ([.ref h0, .int x]) (n := 2) (Nat.le_of_ble_eq_true rfl)
  rw [lg_entry_eq]
  generalize (lg_sl ([.ref h0, .int x]) ++ List.replicate (2 - (lg_sl ([.ref h0, .int x])).length) Slot.unset).toArray = ls at hl ⊢
  have hl : lv_has ls 2 [(0, .ref h0), (1, .int x)] := hl
  refine lv_iload_n hx hb d_Lk_power_0 rfl (lv_at hl 1 rfl) ?_
  refine lv_iconst (v := (-1)) hx hb d_Lk_power_1 (by decide) ?_
  refine lv_icmp_lt (tgt := 12) hx hb d_Lk_power_2 (by decide) (fun c_2 => ?_) (fun c_2 => ?_)
  · skip
    exact xt_new1 (D := D) hx hb hfl hown (by decide +kernel) xE_fit (xE_Lk_IAE.use hg hN hC) (hg _ mw_1053) (hg _ mw_19) (hC.2.2 40 ("RecordLake", 261, "power cannot be set so") rfl) hml hl.1 hemp hlocks (by decide) (by decide) (by decide) (by decide) d_Lk_power_12 d_Lk_power_15 d_Lk_power_16 d_Lk_power_19 d_Lk_power_22 hK () trivial hP hD
  · skip
    refine lv_iload_n hx hb d_Lk_power_5 rfl (lv_at hl 1 rfl) ?_
    refine lv_sipush (v := 1000) hx hb d_Lk_power_6 (by decide) ?_
    refine lv_icmp_le (tgt := 23) hx hb d_Lk_power_9 (by decide) (fun c_9 => ?_) (fun c_9 => ?_)
    · skip
      exact absurd c_9 (h1.resolve_left c_2)
    · skip
      exact xt_new1 (D := D) hx hb hfl hown (by decide +kernel) xE_fit (xE_Lk_IAE.use hg hN hC) (hg _ mw_1053) (hg _ mw_19) (hC.2.2 40 ("RecordLake", 261, "power cannot be set so") rfl) hml hl.1 hemp hlocks (by decide) (by decide) (by decide) (by decide) d_Lk_power_12 d_Lk_power_15 d_Lk_power_16 d_Lk_power_19 d_Lk_power_22 hK () trivial hP hD

set_option maxHeartbeats 4000000 in
set_option maxRecDepth 100000 in
/-- start: not down -/
theorem t_Lk_start (l : Launch) (hfl : l.flags = flags0) (D : va_G) (kA : Nat → ClassId) (kS : Nat → Nat) (sz : Nat) (h0 : Nat) (r : Nat → Nat) (fp : Int32) : xt_Met l y_Lk_start w_Lk_start { frames := 6, cells := 1, slots := 6, locals := 82 } (xPre D vC (tK kA) kS [.ref h0] ([oLk h0 r fp 0]) sz) (xt_Q "java/lang/IllegalStateException" (fun _ : Unit => True) (xB D vC (tK kA) (fun _ => [oLk h0 r fp 0]) (va_A ([oLk h0 r fp 0]) sz)) (va_A ([oLk h0 r fp 0]) sz)) 1 6 (va_A ([oLk h0 r fp 0]) sz) := by
  refine xt_ofW (cc := b_Lk_start) (maxL := 2) (ret := (some .int)) (by decide) rfl ?_
  intro p e s m args below meth c s₁ B hml hemp hv
  obtain ⟨rfl, hsz, hP, hK, hD0, hN, hC⟩ := hv
  have hx := B.exec
  have hb := B.bytes
  have hts := atoms_spec (ws := w_Lk_start) B.pre
  have hg : ∀ w ∈ gW, w.before _ s = true := fun w h => hts w (List.mem_cons_of_mem _ h)
  have hown : s.vm.findClass R_Lk = some m.cls := findClass_of_methodNamed B.named
  have hlocks := B.notSynchronized
  subst hsz
  have hD := hD0.self (sz := s.heap.size)
  generalize hAe : va_A ([oLk h0 r fp 0]) s.heap.size = A at hD hC ⊢
  have hA : ∀ q : Nat, s.heap.size ≤ q → A q := fun q h => by rw [← hAe]; exact Or.inr h
  have hS : va_S A s.heap s.heap [] := va_S.rf
  have hP : va_P D vC [(h0, .inr (11, [.ref (r 0), .ref (r 1), .ref (r 2), .ref (r 3), .ref (r 4), .ref (r 5), .ref (r 6), .ref (r 7), .ref (r 8), .ref (r 9), .ref (r 10), .ref (r 11), .ref (r 12), .ref (r 13), .ref (r 14), .int fp, .int 0]))] s.heap := hP
  have hD : va_D A [(h0, .inr (11, [.ref (r 0), .ref (r 1), .ref (r 2), .ref (r 3), .ref (r 4), .ref (r 5), .ref (r 6), .ref (r 7), .ref (r 8), .ref (r 9), .ref (r 10), .ref (r 11), .ref (r 12), .ref (r 13), .ref (r 14), .int fp, .int 0]))] := hD
  have hl := lv_entry ([.ref h0]) (n := 2) (Nat.le_of_ble_eq_true rfl)
  rw [lg_entry_eq]
  generalize (lg_sl ([.ref h0]) ++ List.replicate (2 - (lg_sl ([.ref h0])).length) Slot.unset).toArray = ls at hl ⊢
  have hl : lv_has ls 2 [(0, .ref h0)] := hl
  refine lv_aload_n hx hb d_Lk_start_0 rfl (lv_at hl 0 rfl) ?_
  refine va_get (D := D) (ci := 11) (v := .int 0) (C := R_Lk) (T := F_Lk) (N := 17) hx hb hg i_Lk hown hK hP 0 rfl rfl 16 (by decide) (hg _ mw_499) (fun _ h9 => h9) rfl d_Lk_start_1 ?_
  refine lv_if_ne (tgt := 18) hx hb d_Lk_start_4 (by decide) (fun c_4 => ?_) (fun c_4 => ?_)
  · skip
    exact absurd rfl c_4
  · skip
    exact xt_new1 (D := D) hx hb hfl hown (by decide +kernel) xE_fit (xE_Lk_ISE.use hg hN hC) (hg _ mw_974) (hg _ mw_18) (hC.2.2 41 ("RecordLake", 266, "it is not down") rfl) hml hl.1 hemp hlocks (by decide) (by decide) (by decide) (by decide) d_Lk_start_7 d_Lk_start_10 d_Lk_start_11 d_Lk_start_14 d_Lk_start_17 hK () trivial hP hD
