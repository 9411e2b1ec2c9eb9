section ArA1
variable {kA : Nat → ClassId} {ad : Nat → Nat} {D : va_G} {kS : Nat → Nat}
set_option maxHeartbeats 4000000 in
set_option maxRecDepth 100000 in
theorem Ar_register (SIM : xSim kA ad kS D) : xArm kA ad kS D 289 := by
  intro p l e s m below meth c b L xs A Q B i hi hL cl sl hcl hsl n hn S t hw hB H locs ls hP hD hS hl kk
  obtain ⟨hfl, hx, hb, hml, hown, hg, hK, hN, hno, hC, hX, hbl, hA, hbA⟩ := B
  obtain ⟨k, ta, w, t2, hk, hm, ⟨hu, hth, hB2⟩, ho, hwr⟩ := yA_1 (G := fun ta => fMo_register 150 (xs (i + 1)) ta) (L_register hw hn hB.1 59 (E := fun k => 2) rfl (xs (i + 1))) (Y_register (xs (i + 1))) hB (fun ta h => M_register hw h 89 (xs (i + 1)))
  have hw2 : yWf (y_register (xs (i + 1)) S).2.2 := W_register hw (xs (i + 1))
  have tail : ∀ (H : Heap) (locs : List Loc) (ls : Array Slot) (c9 s9 : Nat), c9 ≤ cl + 1 → s9 ≤ sl + 6 → va_P D vC (aV kA ad ta) H → va_D A (aV kA ad ta) → va_S A s.heap H locs → lv_has ls 8 [(4, .int (nI i)), (3, .ref (ad 149)), (2, .ref (ad 67)), (1, .ref (ad 0)), (0, .ref b)] → W p l e room_1 s m #[Value.ref b] below meth c H locs c9 s9 Q (F0 m 300 ls [.int k]) := by
    intro H locs ls c9 s9 hc9 hs9 hP hD hS hl
    refine lv_istore (lv' := [(5, .int k), (4, .int (nI i)), (3, .ref (ad 149)), (2, .ref (ad 67)), (1, .ref (ad 0)), (0, .ref b)]) hx hb d_law_300 hl (by decide) rfl (fun ls hl => ?_)
    refine lv_aload_n hx hb d_law_302 rfl (lv_at hl 3 rfl) ?_
    refine lv_aload_n hx hb d_law_303 rfl (lv_at hl 5 rfl) ?_
    refine lv_iload hx hb d_law_304 (lv_at hl 1 rfl) ?_
    refine lv_iconst (v := nI 1) hx hb d_law_306 (by decide) ?_
    refine lv_iadd hx hb d_law_307 ?_
    refine lv_topi (fun y ey => ?_)
    replace ey : y = nI (i + 1) := ey.trans (nI_add i 1)
    subst ey
    refine xb_sld hx hb hX hbl hbA hS (k := i + 1) (by omega) hL d_law_308 ?_
    refine xa_call (rest := []) (rv := some (.int w)) (t1 := t2) SIM hfl hx hb hml hown hg 232 rfl rfl rfl mw_2099 67 13 (by decide) rfl rfl rfl [.int (xs (i + 1))] rfl (Nat.le_of_ble_eq_true rfl) hm 1 hu hK hN hC hP hD hS hA hl.1 rfl (Nat.le_of_ble_eq_true rfl) d_law_309 (Nat.le_of_ble_eq_true rfl) (Nat.le_of_ble_eq_true rfl) (by omega) (by omega) (fun H locs hP hD hS => ?_)
    refine W.eq (g2 := F0 m 312 ls [.int w]) rfl ?_
    refine lv_istore (lv' := [(6, .int w), (5, .int k), (4, .int (nI i)), (3, .ref (ad 149)), (2, .ref (ad 67)), (1, .ref (ad 0)), (0, .ref b)]) hx hb d_law_312 hl (by decide) rfl (fun ls hl => ?_)
    refine lv_aload_n hx hb d_law_314 rfl (lv_at hl 4 rfl) ?_
    refine xa_call (rest := []) (rv := some (.int (gI t2 67 0))) (t1 := t2) SIM hfl hx hb hml hown hg 187 rfl rfl rfl mw_1822 67 13 (by decide) rfl rfl rfl [] rfl (Nat.le_of_ble_eq_true rfl) (eMo_thrown 150 t2 _ rfl) 0 (Nat.le_refl _) hK hN hC hP hD hS hA hl.1 rfl (Nat.le_of_ble_eq_true rfl) d_law_315 (Nat.le_of_ble_eq_true rfl) (Nat.le_of_ble_eq_true rfl) (by omega) (by omega) (fun H locs hP hD hS => ?_)
    refine W.eq (g2 := F0 m 318 ls [.int k]) (by rw [hth]; rfl) ?_
    refine lv_iload hx hb d_law_318 (lv_at hl 1 rfl) ?_
    refine lv_icmp_eq (tgt := 325) hx hb d_law_320 (by decide) (fun cz => ?_) (fun cz => absurd rfl cz)
    refine lv_iload hx hb d_law_325 (lv_at hl 1 rfl) ?_
    by_cases hk0 : k = 0
    · subst hk0
      refine lv_if_ne (tgt := 342) hx hb d_law_327 (by decide) (fun cz => absurd rfl cz) (fun cz => ?_)
      refine lv_aload_n hx hb d_law_330 rfl (lv_at hl 3 rfl) ?_
      refine lv_iconst (v := nI 0) hx hb d_law_331 (by decide) ?_
      refine xa_lald hx hb hK hP d_law_332 ?_
      refine W.eq (g2 := F0 m 333 ls [.long w.toInt64]) (by rw [ho rfl]) ?_
      refine lv_iload hx hb d_law_333 (lv_at hl 0 rfl) ?_
      refine lv_i2l hx hb d_law_335 rfl ?_
      refine lv_topl (fun y ey => ?_)
      replace ey : y = w.toInt64 := ey.trans rfl
      subst ey
      refine xl_cmp hx hb rfl d_law_336 ?_
      refine lv_if_eq (tgt := 342) hx hb d_law_337 (by decide) (fun cz => ?_) (fun cz => absurd rfl cz)
      refine lv_goto (tgt := 1285) hx hb d_law_342 (by decide) ?_
      refine W.widen (k := cl + 2) (n := sl + 12) (by omega) (by omega) ?_
      exact kk _ t2 H locs ls hw2 hB2 hP hD hS (lv_sub hl [2, 3, 4, 5, 6] rfl)
    · refine lv_if_ne (tgt := 342) hx hb d_law_327 (by decide) (fun cz => ?_) (fun cz => by first | exact absurd cz hk0 | exact absurd hk0 cz)
      refine lv_goto (tgt := 1285) hx hb d_law_342 (by decide) ?_
      refine W.widen (k := cl + 2) (n := sl + 12) (by omega) (by omega) ?_
      exact kk _ t2 H locs ls hw2 hB2 hP hD hS (lv_sub hl [2, 3, 4, 5, 6] rfl)
  refine lv_aload_n hx hb d_law_289 rfl (lv_at hl 3 rfl) ?_
  refine lv_aload_n hx hb d_law_290 rfl (lv_at hl 4 rfl) ?_
  refine lv_iload hx hb d_law_291 (lv_at hl 0 rfl) ?_
  refine lv_iconst (v := nI 1) hx hb d_law_293 (by decide) ?_
  refine lv_iadd hx hb d_law_294 ?_
  refine lv_topi (fun y ey => ?_)
  replace ey : y = nI (i + 1) := ey.trans (nI_add i 1)
  subst ey
  refine xb_sld hx hb hX hbl hbA hS (k := i + 1) (by omega) hL d_law_295 ?_
  refine lv_aload_n hx hb d_law_296 rfl (lv_at hl 1 rfl) ?_
  rcases hk with ⟨rfl, t1, hr, rfl⟩ | ⟨rfl, hr, rfl⟩
  · refine xa_ret (h := toH t) (h1 := toH (pL t1 149 0 w.toInt64)) (rv := some (.int 0)) (xt_runSW (n := 3) (As := [.ref (ad 0), .int (xs (i + 1)), .ref (ad 149)]) (rest := []) ⟨hx, hb, hml, hown, hg⟩ (wo_register SIM l hfl H.size (xs (i + 1)) hr) mw_1069 mw_1070 mw_0 mw_1071 rfl rfl (by decide +kernel) ⟨(Nat.le_of_ble_eq_true rfl), (Nat.le_of_ble_eq_true rfl)⟩ (xa_preN hno hK hN hC hP hD hS hA) rfl rfl hl.1 rfl (lv_room (Nat.le_of_ble_eq_true rfl)) d_law_297 ⟨by omega, by omega⟩) hD hS hA (fun H locs hP hD hS => ?_)
    exact tail H locs ls _ _ (by omega) (by omega) hP hD hS hl
  · refine xa_ret (h := toH ta) (h1 := toH ta) (rv := some (.int 1)) (xt_runSW (n := 3) (As := [.ref (ad 0), .int (xs (i + 1)), .ref (ad 149)]) (rest := []) ⟨hx, hb, hml, hown, hg⟩ (wx_register SIM l hfl H.size (xs (i + 1)) hr) mw_1069 mw_1070 mw_0 mw_1071 rfl rfl (by decide +kernel) ⟨(Nat.le_of_ble_eq_true rfl), (Nat.le_of_ble_eq_true rfl)⟩ (xa_preN hno hK hN hC hP hD hS hA) rfl rfl hl.1 rfl (lv_room (Nat.le_of_ble_eq_true rfl)) d_law_297 ⟨by omega, by omega⟩) hD hS hA (fun H locs hP hD hS => ?_)
    exact tail H locs ls _ _ (by omega) (by omega) hP hD hS hl
set_option maxHeartbeats 4000000 in
set_option maxRecDepth 100000 in
theorem Ar_look (SIM : xSim kA ad kS D) : xArm kA ad kS D 345 := by
  intro p l e s m below meth c b L xs A Q B i hi hL cl sl hcl hsl n hn S t hw hB H locs ls hP hD hS hl kk
  obtain ⟨hfl, hx, hb, hml, hown, hg, hK, hN, hno, hC, hX, hbl, hA, hbA⟩ := B
  obtain ⟨k, ta, w, t2, hk, hm, ⟨hu, hth, hB2⟩, ho, hwr⟩ := yA_1 (G := fun ta => fMo_look 150 (xs (i + 1)) (xs (i + 2)) ta) (L_look hw hB.1 41 (E := fun k => 2) rfl (xs (i + 1)) (xs (i + 2))) (Y_look (xs (i + 1)) (xs (i + 2))) hB (fun ta h => M_look hw h 45 (xs (i + 1)) (xs (i + 2)))
  have hw2 : yWf (y_look (xs (i + 1)) (xs (i + 2)) S).2.2 := W_look hw (xs (i + 1)) (xs (i + 2))
  have tail : ∀ (H : Heap) (locs : List Loc) (ls : Array Slot) (c9 s9 : Nat), c9 ≤ cl + 1 → s9 ≤ sl + 6 → va_P D vC (aV kA ad ta) H → va_D A (aV kA ad ta) → va_S A s.heap H locs → lv_has ls 8 [(4, .int (nI i)), (3, .ref (ad 149)), (2, .ref (ad 67)), (1, .ref (ad 0)), (0, .ref b)] → W p l e room_1 s m #[Value.ref b] below meth c H locs c9 s9 Q (F0 m 362 ls [.int k]) := by
    intro H locs ls c9 s9 hc9 hs9 hP hD hS hl
    refine lv_istore (lv' := [(5, .int k), (4, .int (nI i)), (3, .ref (ad 149)), (2, .ref (ad 67)), (1, .ref (ad 0)), (0, .ref b)]) hx hb d_law_362 hl (by decide) rfl (fun ls hl => ?_)
    refine lv_aload_n hx hb d_law_364 rfl (lv_at hl 3 rfl) ?_
    refine lv_aload_n hx hb d_law_365 rfl (lv_at hl 5 rfl) ?_
    refine lv_iload hx hb d_law_366 (lv_at hl 1 rfl) ?_
    refine lv_iconst (v := nI 1) hx hb d_law_368 (by decide) ?_
    refine lv_iadd hx hb d_law_369 ?_
    refine lv_topi (fun y ey => ?_)
    replace ey : y = nI (i + 1) := ey.trans (nI_add i 1)
    subst ey
    refine xb_sld hx hb hX hbl hbA hS (k := i + 1) (by omega) hL d_law_370 ?_
    refine lv_aload_n hx hb d_law_371 rfl (lv_at hl 5 rfl) ?_
    refine lv_iload hx hb d_law_372 (lv_at hl 1 rfl) ?_
    refine lv_iconst (v := nI 2) hx hb d_law_374 (by decide) ?_
    refine lv_iadd hx hb d_law_375 ?_
    refine lv_topi (fun y ey => ?_)
    replace ey : y = nI (i + 2) := ey.trans (nI_add i 2)
    subst ey
    refine xb_sld hx hb hX hbl hbA hS (k := i + 2) (by omega) hL d_law_376 ?_
    refine xa_call (rest := []) (rv := some (.int w)) (t1 := t2) SIM hfl hx hb hml hown hg 249 rfl rfl rfl mw_2162 67 13 (by decide) rfl rfl rfl [.int (xs (i + 1)), .int (xs (i + 2))] rfl (Nat.le_of_ble_eq_true rfl) hm 1 hu hK hN hC hP hD hS hA hl.1 rfl (Nat.le_of_ble_eq_true rfl) d_law_377 (Nat.le_of_ble_eq_true rfl) (Nat.le_of_ble_eq_true rfl) (by omega) (by omega) (fun H locs hP hD hS => ?_)
    refine W.eq (g2 := F0 m 380 ls [.int w]) rfl ?_
    refine lv_istore (lv' := [(6, .int w), (5, .int k), (4, .int (nI i)), (3, .ref (ad 149)), (2, .ref (ad 67)), (1, .ref (ad 0)), (0, .ref b)]) hx hb d_law_380 hl (by decide) rfl (fun ls hl => ?_)
    refine lv_aload_n hx hb d_law_382 rfl (lv_at hl 4 rfl) ?_
    refine xa_call (rest := []) (rv := some (.int (gI t2 67 0))) (t1 := t2) SIM hfl hx hb hml hown hg 187 rfl rfl rfl mw_1822 67 13 (by decide) rfl rfl rfl [] rfl (Nat.le_of_ble_eq_true rfl) (eMo_thrown 150 t2 _ rfl) 0 (Nat.le_refl _) hK hN hC hP hD hS hA hl.1 rfl (Nat.le_of_ble_eq_true rfl) d_law_383 (Nat.le_of_ble_eq_true rfl) (Nat.le_of_ble_eq_true rfl) (by omega) (by omega) (fun H locs hP hD hS => ?_)
    refine W.eq (g2 := F0 m 386 ls [.int k]) (by rw [hth]; rfl) ?_
    refine lv_iload hx hb d_law_386 (lv_at hl 1 rfl) ?_
    refine lv_icmp_eq (tgt := 393) hx hb d_law_388 (by decide) (fun cz => ?_) (fun cz => absurd rfl cz)
    refine lv_iload hx hb d_law_393 (lv_at hl 1 rfl) ?_
    by_cases hk0 : k = 0
    · subst hk0
      refine lv_if_ne (tgt := 410) hx hb d_law_395 (by decide) (fun cz => absurd rfl cz) (fun cz => ?_)
      refine lv_aload_n hx hb d_law_398 rfl (lv_at hl 3 rfl) ?_
      refine lv_iconst (v := nI 0) hx hb d_law_399 (by decide) ?_
      refine xa_lald hx hb hK hP d_law_400 ?_
      refine W.eq (g2 := F0 m 401 ls [.long w.toInt64]) (by rw [ho rfl]) ?_
      refine lv_iload hx hb d_law_401 (lv_at hl 0 rfl) ?_
      refine lv_i2l hx hb d_law_403 rfl ?_
      refine lv_topl (fun y ey => ?_)
      replace ey : y = w.toInt64 := ey.trans rfl
      subst ey
      refine xl_cmp hx hb rfl d_law_404 ?_
      refine lv_if_eq (tgt := 410) hx hb d_law_405 (by decide) (fun cz => ?_) (fun cz => absurd rfl cz)
      refine lv_goto (tgt := 1285) hx hb d_law_410 (by decide) ?_
      refine W.widen (k := cl + 2) (n := sl + 12) (by omega) (by omega) ?_
      exact kk _ t2 H locs ls hw2 hB2 hP hD hS (lv_sub hl [2, 3, 4, 5, 6] rfl)
    · refine lv_if_ne (tgt := 410) hx hb d_law_395 (by decide) (fun cz => ?_) (fun cz => by first | exact absurd cz hk0 | exact absurd hk0 cz)
      refine lv_goto (tgt := 1285) hx hb d_law_410 (by decide) ?_
      refine W.widen (k := cl + 2) (n := sl + 12) (by omega) (by omega) ?_
      exact kk _ t2 H locs ls hw2 hB2 hP hD hS (lv_sub hl [2, 3, 4, 5, 6] rfl)
  refine lv_aload_n hx hb d_law_345 rfl (lv_at hl 3 rfl) ?_
  refine lv_aload_n hx hb d_law_346 rfl (lv_at hl 4 rfl) ?_
  refine lv_iload hx hb d_law_347 (lv_at hl 0 rfl) ?_
  refine lv_iconst (v := nI 1) hx hb d_law_349 (by decide) ?_
  refine lv_iadd hx hb d_law_350 ?_
  refine lv_topi (fun y ey => ?_)
  replace ey : y = nI (i + 1) := ey.trans (nI_add i 1)
  subst ey
  refine xb_sld hx hb hX hbl hbA hS (k := i + 1) (by omega) hL d_law_351 ?_
  refine lv_aload_n hx hb d_law_352 rfl (lv_at hl 4 rfl) ?_
  refine lv_iload hx hb d_law_353 (lv_at hl 0 rfl) ?_
  refine lv_iconst (v := nI 2) hx hb d_law_355 (by decide) ?_
  refine lv_iadd hx hb d_law_356 ?_
  refine lv_topi (fun y ey => ?_)
  replace ey : y = nI (i + 2) := ey.trans (nI_add i 2)
  subst ey
  refine xb_sld hx hb hX hbl hbA hS (k := i + 2) (by omega) hL d_law_357 ?_
  refine lv_aload_n hx hb d_law_358 rfl (lv_at hl 1 rfl) ?_
  rcases hk with ⟨rfl, t1, hr, rfl⟩ | ⟨rfl, hr, rfl⟩
  · refine xa_ret (h := toH t) (h1 := toH (pL t1 149 0 w.toInt64)) (rv := some (.int 0)) (xt_runSW (n := 4) (As := [.ref (ad 0), .int (xs (i + 1)), .int (xs (i + 2)), .ref (ad 149)]) (rest := []) ⟨hx, hb, hml, hown, hg⟩ (wo_look SIM l hfl H.size (xs (i + 1)) (xs (i + 2)) hr) mw_1223 mw_1224 mw_0 mw_1225 rfl rfl (by decide +kernel) ⟨(Nat.le_of_ble_eq_true rfl), (Nat.le_of_ble_eq_true rfl)⟩ (xa_preN hno hK hN hC hP hD hS hA) rfl rfl hl.1 rfl (lv_room (Nat.le_of_ble_eq_true rfl)) d_law_359 ⟨by omega, by omega⟩) hD hS hA (fun H locs hP hD hS => ?_)
    exact tail H locs ls _ _ (by omega) (by omega) hP hD hS hl
  · refine xa_ret (h := toH ta) (h1 := toH ta) (rv := some (.int 1)) (xt_runSW (n := 4) (As := [.ref (ad 0), .int (xs (i + 1)), .int (xs (i + 2)), .ref (ad 149)]) (rest := []) ⟨hx, hb, hml, hown, hg⟩ (wx_look SIM l hfl H.size (xs (i + 1)) (xs (i + 2)) hr) mw_1223 mw_1224 mw_0 mw_1225 rfl rfl (by decide +kernel) ⟨(Nat.le_of_ble_eq_true rfl), (Nat.le_of_ble_eq_true rfl)⟩ (xa_preN hno hK hN hC hP hD hS hA) rfl rfl hl.1 rfl (lv_room (Nat.le_of_ble_eq_true rfl)) d_law_359 ⟨by omega, by omega⟩) hD hS hA (fun H locs hP hD hS => ?_)
    exact tail H locs ls _ _ (by omega) (by omega) hP hD hS hl
set_option maxHeartbeats 4000000 in
set_option maxRecDepth 100000 in
theorem Ar_load (SIM : xSim kA ad kS D) : xArm kA ad kS D 426 := by
  intro p l e s m below meth c b L xs A Q B i hi hL cl sl hcl hsl n hn S t hw hB H locs ls hP hD hS hl kk
  obtain ⟨hfl, hx, hb, hml, hown, hg, hK, hN, hno, hC, hX, hbl, hA, hbA⟩ := B
  obtain ⟨k, ta, w, t2, hk, hm, ⟨hu, hth, hB2⟩, ho, hwr⟩ := yA_1 (G := fun ta => fMo_load 150 (xs (i + 1)) (xs (i + 2)) ta) (L_load hw hn hB.1 41 (E := fun k => 2) rfl (xs (i + 1)) (xs (i + 2))) (Y_load (xs (i + 1)) (xs (i + 2))) hB (fun ta h => M_load hw h 45 (xs (i + 1)) (xs (i + 2)))
  have hw2 : yWf (y_load (xs (i + 1)) (xs (i + 2)) S).2.2 := W_load hw (xs (i + 1)) (xs (i + 2))
  have tail : ∀ (H : Heap) (locs : List Loc) (ls : Array Slot) (c9 s9 : Nat), c9 ≤ cl + 1 → s9 ≤ sl + 6 → va_P D vC (aV kA ad ta) H → va_D A (aV kA ad ta) → va_S A s.heap H locs → lv_has ls 8 [(4, .int (nI i)), (3, .ref (ad 149)), (2, .ref (ad 67)), (1, .ref (ad 0)), (0, .ref b)] → W p l e room_1 s m #[Value.ref b] below meth c H locs c9 s9 Q (F0 m 443 ls [.int k]) := by
    intro H locs ls c9 s9 hc9 hs9 hP hD hS hl
    refine lv_istore (lv' := [(5, .int k), (4, .int (nI i)), (3, .ref (ad 149)), (2, .ref (ad 67)), (1, .ref (ad 0)), (0, .ref b)]) hx hb d_law_443 hl (by decide) rfl (fun ls hl => ?_)
    refine lv_aload_n hx hb d_law_445 rfl (lv_at hl 3 rfl) ?_
    refine lv_aload_n hx hb d_law_446 rfl (lv_at hl 5 rfl) ?_
    refine lv_iload hx hb d_law_447 (lv_at hl 1 rfl) ?_
    refine lv_iconst (v := nI 1) hx hb d_law_449 (by decide) ?_
    refine lv_iadd hx hb d_law_450 ?_
    refine lv_topi (fun y ey => ?_)
    replace ey : y = nI (i + 1) := ey.trans (nI_add i 1)
    subst ey
    refine xb_sld hx hb hX hbl hbA hS (k := i + 1) (by omega) hL d_law_451 ?_
    refine lv_aload_n hx hb d_law_452 rfl (lv_at hl 5 rfl) ?_
    refine lv_iload hx hb d_law_453 (lv_at hl 1 rfl) ?_
    refine lv_iconst (v := nI 2) hx hb d_law_455 (by decide) ?_
    refine lv_iadd hx hb d_law_456 ?_
    refine lv_topi (fun y ey => ?_)
    replace ey : y = nI (i + 2) := ey.trans (nI_add i 2)
    subst ey
    refine xb_sld hx hb hX hbl hbA hS (k := i + 2) (by omega) hL d_law_457 ?_
    refine xa_call (rest := []) (rv := some (.int w)) (t1 := t2) SIM hfl hx hb hml hown hg 267 rfl rfl rfl mw_2239 67 13 (by decide) rfl rfl rfl [.int (xs (i + 1)), .int (xs (i + 2))] rfl (Nat.le_of_ble_eq_true rfl) hm 1 hu hK hN hC hP hD hS hA hl.1 rfl (Nat.le_of_ble_eq_true rfl) d_law_458 (Nat.le_of_ble_eq_true rfl) (Nat.le_of_ble_eq_true rfl) (by omega) (by omega) (fun H locs hP hD hS => ?_)
    refine W.eq (g2 := F0 m 461 ls [.int w]) rfl ?_
    refine lv_istore (lv' := [(6, .int w), (5, .int k), (4, .int (nI i)), (3, .ref (ad 149)), (2, .ref (ad 67)), (1, .ref (ad 0)), (0, .ref b)]) hx hb d_law_461 hl (by decide) rfl (fun ls hl => ?_)
    refine lv_aload_n hx hb d_law_463 rfl (lv_at hl 4 rfl) ?_
    refine xa_call (rest := []) (rv := some (.int (gI t2 67 0))) (t1 := t2) SIM hfl hx hb hml hown hg 187 rfl rfl rfl mw_1822 67 13 (by decide) rfl rfl rfl [] rfl (Nat.le_of_ble_eq_true rfl) (eMo_thrown 150 t2 _ rfl) 0 (Nat.le_refl _) hK hN hC hP hD hS hA hl.1 rfl (Nat.le_of_ble_eq_true rfl) d_law_464 (Nat.le_of_ble_eq_true rfl) (Nat.le_of_ble_eq_true rfl) (by omega) (by omega) (fun H locs hP hD hS => ?_)
    refine W.eq (g2 := F0 m 467 ls [.int k]) (by rw [hth]; rfl) ?_
    refine lv_iload hx hb d_law_467 (lv_at hl 1 rfl) ?_
    refine lv_icmp_eq (tgt := 474) hx hb d_law_469 (by decide) (fun cz => ?_) (fun cz => absurd rfl cz)
    refine lv_iload hx hb d_law_474 (lv_at hl 1 rfl) ?_
    by_cases hk0 : k = 0
    · subst hk0
      refine lv_if_ne (tgt := 491) hx hb d_law_476 (by decide) (fun cz => absurd rfl cz) (fun cz => ?_)
      refine lv_aload_n hx hb d_law_479 rfl (lv_at hl 3 rfl) ?_
      refine lv_iconst (v := nI 0) hx hb d_law_480 (by decide) ?_
      refine xa_lald hx hb hK hP d_law_481 ?_
      refine W.eq (g2 := F0 m 482 ls [.long w.toInt64]) (by rw [ho rfl]) ?_
      refine lv_iload hx hb d_law_482 (lv_at hl 0 rfl) ?_
      refine lv_i2l hx hb d_law_484 rfl ?_
      refine lv_topl (fun y ey => ?_)
      replace ey : y = w.toInt64 := ey.trans rfl
      subst ey
      refine xl_cmp hx hb rfl d_law_485 ?_
      refine lv_if_eq (tgt := 491) hx hb d_law_486 (by decide) (fun cz => ?_) (fun cz => absurd rfl cz)
      refine lv_goto (tgt := 1285) hx hb d_law_491 (by decide) ?_
      refine W.widen (k := cl + 2) (n := sl + 12) (by omega) (by omega) ?_
      exact kk _ t2 H locs ls hw2 hB2 hP hD hS (lv_sub hl [2, 3, 4, 5, 6] rfl)
    · refine lv_if_ne (tgt := 491) hx hb d_law_476 (by decide) (fun cz => ?_) (fun cz => by first | exact absurd cz hk0 | exact absurd hk0 cz)
      refine lv_goto (tgt := 1285) hx hb d_law_491 (by decide) ?_
      refine W.widen (k := cl + 2) (n := sl + 12) (by omega) (by omega) ?_
      exact kk _ t2 H locs ls hw2 hB2 hP hD hS (lv_sub hl [2, 3, 4, 5, 6] rfl)
  refine lv_aload_n hx hb d_law_426 rfl (lv_at hl 3 rfl) ?_
  refine lv_aload_n hx hb d_law_427 rfl (lv_at hl 4 rfl) ?_
  refine lv_iload hx hb d_law_428 (lv_at hl 0 rfl) ?_
  refine lv_iconst (v := nI 1) hx hb d_law_430 (by decide) ?_
  refine lv_iadd hx hb d_law_431 ?_
  refine lv_topi (fun y ey => ?_)
  replace ey : y = nI (i + 1) := ey.trans (nI_add i 1)
  subst ey
  refine xb_sld hx hb hX hbl hbA hS (k := i + 1) (by omega) hL d_law_432 ?_
  refine lv_aload_n hx hb d_law_433 rfl (lv_at hl 4 rfl) ?_
  refine lv_iload hx hb d_law_434 (lv_at hl 0 rfl) ?_
  refine lv_iconst (v := nI 2) hx hb d_law_436 (by decide) ?_
  refine lv_iadd hx hb d_law_437 ?_
  refine lv_topi (fun y ey => ?_)
  replace ey : y = nI (i + 2) := ey.trans (nI_add i 2)
  subst ey
  refine xb_sld hx hb hX hbl hbA hS (k := i + 2) (by omega) hL d_law_438 ?_
  refine lv_aload_n hx hb d_law_439 rfl (lv_at hl 1 rfl) ?_
  rcases hk with ⟨rfl, t1, hr, rfl⟩ | ⟨rfl, hr, rfl⟩
  · refine xa_ret (h := toH t) (h1 := toH (pL t1 149 0 w.toInt64)) (rv := some (.int 0)) (xt_runSW (n := 4) (As := [.ref (ad 0), .int (xs (i + 1)), .int (xs (i + 2)), .ref (ad 149)]) (rest := []) ⟨hx, hb, hml, hown, hg⟩ (wo_load SIM l hfl H.size (xs (i + 1)) (xs (i + 2)) hr) mw_1308 mw_1309 mw_0 mw_1310 rfl rfl (by decide +kernel) ⟨(Nat.le_of_ble_eq_true rfl), (Nat.le_of_ble_eq_true rfl)⟩ (xa_preN hno hK hN hC hP hD hS hA) rfl rfl hl.1 rfl (lv_room (Nat.le_of_ble_eq_true rfl)) d_law_440 ⟨by omega, by omega⟩) hD hS hA (fun H locs hP hD hS => ?_)
    exact tail H locs ls _ _ (by omega) (by omega) hP hD hS hl
  · refine xa_ret (h := toH ta) (h1 := toH ta) (rv := some (.int 1)) (xt_runSW (n := 4) (As := [.ref (ad 0), .int (xs (i + 1)), .int (xs (i + 2)), .ref (ad 149)]) (rest := []) ⟨hx, hb, hml, hown, hg⟩ (wx_load SIM l hfl H.size (xs (i + 1)) (xs (i + 2)) hr) mw_1308 mw_1309 mw_0 mw_1310 rfl rfl (by decide +kernel) ⟨(Nat.le_of_ble_eq_true rfl), (Nat.le_of_ble_eq_true rfl)⟩ (xa_preN hno hK hN hC hP hD hS hA) rfl rfl hl.1 rfl (lv_room (Nat.le_of_ble_eq_true rfl)) d_law_440 ⟨by omega, by omega⟩) hD hS hA (fun H locs hP hD hS => ?_)
    exact tail H locs ls _ _ (by omega) (by omega) hP hD hS hl
set_option maxHeartbeats 4000000 in
set_option maxRecDepth 100000 in
theorem Ar_print (SIM : xSim kA ad kS D) : xArm kA ad kS D 933 := by
  intro p l e s m below meth c b L xs A Q B i hi hL cl sl hcl hsl n hn S t hw hB H locs ls hP hD hS hl kk
  obtain ⟨hfl, hx, hb, hml, hown, hg, hK, hN, hno, hC, hX, hbl, hA, hbA⟩ := B
  obtain ⟨k, ta, w, t2, hk, hm, ⟨hu, hth, hB2⟩, ho⟩ := yA_p (G := fun ta => fMo_print 150 (xs (i + 1)) (xs (i + 2)) ta) (L_print hw hB.1 90 (E := fun k => 2) rfl (xs (i + 1)) (xs (i + 2))) (Y_print (xs (i + 1)) (xs (i + 2))) hB (fun ta h => M_print hw h 88 (xs (i + 1)) (xs (i + 2)))
  have hw2 : yWf (y_print (xs (i + 1)) (xs (i + 2)) S).2.2 := by rw [show _ = S from Sk_print (xs (i + 1)) (xs (i + 2))]; exact hw
  have tail : ∀ (H : Heap) (locs : List Loc) (ls : Array Slot) (c9 s9 : Nat), c9 ≤ cl + 1 → s9 ≤ sl + 6 → va_P D vC (aV kA ad ta) H → va_D A (aV kA ad ta) → va_S A s.heap H locs → lv_has ls 8 [(4, .int (nI i)), (3, .ref (ad 149)), (2, .ref (ad 67)), (1, .ref (ad 0)), (0, .ref b)] → W p l e room_1 s m #[Value.ref b] below meth c H locs c9 s9 Q (F0 m 950 ls [.int k]) := by
    intro H locs ls c9 s9 hc9 hs9 hP hD hS hl
    refine lv_istore (lv' := [(5, .int k), (4, .int (nI i)), (3, .ref (ad 149)), (2, .ref (ad 67)), (1, .ref (ad 0)), (0, .ref b)]) hx hb d_law_950 hl (by decide) rfl (fun ls hl => ?_)
    refine lv_aload_n hx hb d_law_952 rfl (lv_at hl 3 rfl) ?_
    refine lv_aload_n hx hb d_law_953 rfl (lv_at hl 5 rfl) ?_
    refine lv_iload hx hb d_law_954 (lv_at hl 1 rfl) ?_
    refine lv_iconst (v := nI 1) hx hb d_law_956 (by decide) ?_
    refine lv_iadd hx hb d_law_957 ?_
    refine lv_topi (fun y ey => ?_)
    replace ey : y = nI (i + 1) := ey.trans (nI_add i 1)
    subst ey
    refine xb_sld hx hb hX hbl hbA hS (k := i + 1) (by omega) hL d_law_958 ?_
    refine lv_aload_n hx hb d_law_959 rfl (lv_at hl 5 rfl) ?_
    refine lv_iload hx hb d_law_960 (lv_at hl 1 rfl) ?_
    refine lv_iconst (v := nI 2) hx hb d_law_962 (by decide) ?_
    refine lv_iadd hx hb d_law_963 ?_
    refine lv_topi (fun y ey => ?_)
    replace ey : y = nI (i + 2) := ey.trans (nI_add i 2)
    subst ey
    refine xb_sld hx hb hX hbl hbA hS (k := i + 2) (by omega) hL d_law_964 ?_
    refine xa_call (rest := []) (rv := some (.long w)) (t1 := t2) SIM hfl hx hb hml hown hg 292 rfl rfl rfl mw_2339 67 13 (by decide) rfl rfl rfl [.int (xs (i + 1)), .int (xs (i + 2))] rfl (Nat.le_of_ble_eq_true rfl) hm 1 hu hK hN hC hP hD hS hA hl.1 rfl (Nat.le_of_ble_eq_true rfl) d_law_965 (Nat.le_of_ble_eq_true rfl) (Nat.le_of_ble_eq_true rfl) (by omega) (by omega) (fun H locs hP hD hS => ?_)
    refine W.eq (g2 := F0 m 968 ls [.long w]) rfl ?_
    refine lv_lstore (lv' := [(6, .long w), (5, .int k), (4, .int (nI i)), (3, .ref (ad 149)), (2, .ref (ad 67)), (1, .ref (ad 0)), (0, .ref b)]) hx hb d_law_968 hl (by decide) rfl (fun ls hl => ?_)
    refine lv_aload_n hx hb d_law_970 rfl (lv_at hl 4 rfl) ?_
    refine xa_call (rest := []) (rv := some (.int (gI t2 67 0))) (t1 := t2) SIM hfl hx hb hml hown hg 187 rfl rfl rfl mw_1822 67 13 (by decide) rfl rfl rfl [] rfl (Nat.le_of_ble_eq_true rfl) (eMo_thrown 150 t2 _ rfl) 0 (Nat.le_refl _) hK hN hC hP hD hS hA hl.1 rfl (Nat.le_of_ble_eq_true rfl) d_law_971 (Nat.le_of_ble_eq_true rfl) (Nat.le_of_ble_eq_true rfl) (by omega) (by omega) (fun H locs hP hD hS => ?_)
    refine W.eq (g2 := F0 m 974 ls [.int k]) (by rw [hth]; rfl) ?_
    refine lv_iload hx hb d_law_974 (lv_at hl 1 rfl) ?_
    refine lv_icmp_eq (tgt := 981) hx hb d_law_976 (by decide) (fun cz => ?_) (fun cz => absurd rfl cz)
    refine lv_iload hx hb d_law_981 (lv_at hl 1 rfl) ?_
    by_cases hk0 : k = 0
    · subst hk0
      refine lv_if_ne (tgt := 997) hx hb d_law_983 (by decide) (fun cz => absurd rfl cz) (fun cz => ?_)
      refine lv_aload_n hx hb d_law_986 rfl (lv_at hl 3 rfl) ?_
      refine lv_iconst (v := nI 0) hx hb d_law_987 (by decide) ?_
      refine xa_lald hx hb hK hP d_law_988 ?_
      refine W.eq (g2 := F0 m 989 ls [.long w]) (by rw [ho rfl]) ?_
      refine lv_lload hx hb d_law_989 (lv_at hl 0 rfl) ?_
      refine xl_cmp hx hb rfl d_law_991 ?_
      refine lv_if_eq (tgt := 997) hx hb d_law_992 (by decide) (fun cz => ?_) (fun cz => absurd rfl cz)
      refine lv_goto (tgt := 1285) hx hb d_law_997 (by decide) ?_
      refine W.widen (k := cl + 2) (n := sl + 12) (by omega) (by omega) ?_
      exact kk _ t2 H locs ls hw2 hB2 hP hD hS (lv_sub hl [2, 3, 4, 5, 6] rfl)
    · refine lv_if_ne (tgt := 997) hx hb d_law_983 (by decide) (fun cz => ?_) (fun cz => by first | exact absurd cz hk0 | exact absurd hk0 cz)
      refine lv_goto (tgt := 1285) hx hb d_law_997 (by decide) ?_
      refine W.widen (k := cl + 2) (n := sl + 12) (by omega) (by omega) ?_
      exact kk _ t2 H locs ls hw2 hB2 hP hD hS (lv_sub hl [2, 3, 4, 5, 6] rfl)
  refine lv_aload_n hx hb d_law_933 rfl (lv_at hl 3 rfl) ?_
  refine lv_aload_n hx hb d_law_934 rfl (lv_at hl 4 rfl) ?_
  refine lv_iload hx hb d_law_935 (lv_at hl 0 rfl) ?_
  refine lv_iconst (v := nI 1) hx hb d_law_937 (by decide) ?_
  refine lv_iadd hx hb d_law_938 ?_
  refine lv_topi (fun y ey => ?_)
  replace ey : y = nI (i + 1) := ey.trans (nI_add i 1)
  subst ey
  refine xb_sld hx hb hX hbl hbA hS (k := i + 1) (by omega) hL d_law_939 ?_
  refine lv_aload_n hx hb d_law_940 rfl (lv_at hl 4 rfl) ?_
  refine lv_iload hx hb d_law_941 (lv_at hl 0 rfl) ?_
  refine lv_iconst (v := nI 2) hx hb d_law_943 (by decide) ?_
  refine lv_iadd hx hb d_law_944 ?_
  refine lv_topi (fun y ey => ?_)
  replace ey : y = nI (i + 2) := ey.trans (nI_add i 2)
  subst ey
  refine xb_sld hx hb hX hbl hbA hS (k := i + 2) (by omega) hL d_law_945 ?_
  refine lv_aload_n hx hb d_law_946 rfl (lv_at hl 1 rfl) ?_
  rcases hk with ⟨rfl, t1, hr, rfl⟩ | ⟨rfl, hr, rfl⟩
  · refine xa_ret (h := toH t) (h1 := toH (pL t1 149 0 w)) (rv := some (.int 0)) (xt_runSW (n := 4) (As := [.ref (ad 0), .int (xs (i + 1)), .int (xs (i + 2)), .ref (ad 149)]) (rest := []) ⟨hx, hb, hml, hown, hg⟩ (wo_print SIM l hfl H.size (xs (i + 1)) (xs (i + 2)) hr) mw_1505 mw_1506 mw_0 mw_1507 rfl rfl (by decide +kernel) ⟨(Nat.le_of_ble_eq_true rfl), (Nat.le_of_ble_eq_true rfl)⟩ (xa_preN hno hK hN hC hP hD hS hA) rfl rfl hl.1 rfl (lv_room (Nat.le_of_ble_eq_true rfl)) d_law_947 ⟨by omega, by omega⟩) hD hS hA (fun H locs hP hD hS => ?_)
    exact tail H locs ls _ _ (by omega) (by omega) hP hD hS hl
  · refine xa_ret (h := toH ta) (h1 := toH ta) (rv := some (.int 1)) (xt_runSW (n := 4) (As := [.ref (ad 0), .int (xs (i + 1)), .int (xs (i + 2)), .ref (ad 149)]) (rest := []) ⟨hx, hb, hml, hown, hg⟩ (wx_print SIM l hfl H.size (xs (i + 1)) (xs (i + 2)) hr) mw_1505 mw_1506 mw_0 mw_1507 rfl rfl (by decide +kernel) ⟨(Nat.le_of_ble_eq_true rfl), (Nat.le_of_ble_eq_true rfl)⟩ (xa_preN hno hK hN hC hP hD hS hA) rfl rfl hl.1 rfl (lv_room (Nat.le_of_ble_eq_true rfl)) d_law_947 ⟨by omega, by omega⟩) hD hS hA (fun H locs hP hD hS => ?_)
    exact tail H locs ls _ _ (by omega) (by omega) hP hD hS hl
end ArA1
