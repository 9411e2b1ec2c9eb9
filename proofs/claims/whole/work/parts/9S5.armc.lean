section ArA2
variable {kA : Nat → ClassId} {ad : Nat → Nat} {D : va_G} {kS : Nat → Nat}
set_option maxHeartbeats 4000000 in
set_option maxRecDepth 100000 in
theorem Ar_read (SIM : xSim kA ad kS D) : xArm kA ad kS D 494 := by
  intro p l e s m below meth c b L xs A Q B i hi hL cl sl hcl hsl n hn S t hw hB H locs ls hP hD hS hl kk
  obtain ⟨hfl, hx, hb, hml, hown, hg, hK, hN, hno, hC, hX, hbl, hA, hbA⟩ := B
  obtain ⟨r, hrr⟩ := y_read_ex hw (xs (i + 1)) (xs (i + 2)) (xs (i + 3))
  obtain ⟨k, ta, w, t2, hk, hm, ⟨hu, hth, hB2⟩, ho, hwr⟩ := yA_1 (G := fun ta => fMo_read 150 (xs (i + 1)) (xs (i + 2)) (xs (i + 3)) ta) (L_read hw hB.1 62 (E := fun k => 2) rfl (xs (i + 1)) (xs (i + 2)) (xs (i + 3)) hrr) (Y_read hrr) hB (fun ta h => M_read hw h 0 (xs (i + 1)) (xs (i + 2)) (xs (i + 3)) hrr)
  have hw2 : yWf r.2.2 := W_read hw (xs (i + 1)) (xs (i + 2)) (xs (i + 3)) hrr
  have tail : ∀ (H : Heap) (locs : List Loc) (ls : Array Slot) (c9 s9 : Nat), c9 ≤ cl + 1 → s9 ≤ sl + 6 → va_P D vC (aV kA ad ta) H → va_D A (aV kA ad ta) → va_S A s.heap H locs → lv_has ls 8 [(4, .int (nI i)), (3, .ref (ad 149)), (2, .ref (ad 67)), (1, .ref (ad 0)), (0, .ref b)] → W p l e room_1 s m #[Value.ref b] below meth c H locs c9 s9 Q (F0 m 517 ls [.int k]) := by
    intro H locs ls c9 s9 hc9 hs9 hP hD hS hl
    refine lv_istore (lv' := [(5, .int k), (4, .int (nI i)), (3, .ref (ad 149)), (2, .ref (ad 67)), (1, .ref (ad 0)), (0, .ref b)]) hx hb d_law_517 hl (by decide) rfl (fun ls hl => ?_)
    refine lv_aload_n hx hb d_law_519 rfl (lv_at hl 3 rfl) ?_
    refine lv_aload_n hx hb d_law_520 rfl (lv_at hl 5 rfl) ?_
    refine lv_iload hx hb d_law_521 (lv_at hl 1 rfl) ?_
    refine lv_iconst (v := nI 1) hx hb d_law_523 (by decide) ?_
    refine lv_iadd hx hb d_law_524 ?_
    refine lv_topi (fun y ey => ?_)
    replace ey : y = nI (i + 1) := ey.trans (nI_add i 1)
    subst ey
    refine xb_sld hx hb hX hbl hbA hS (k := i + 1) (by omega) hL d_law_525 ?_
    refine lv_aload_n hx hb d_law_526 rfl (lv_at hl 5 rfl) ?_
    refine lv_iload hx hb d_law_527 (lv_at hl 1 rfl) ?_
    refine lv_iconst (v := nI 2) hx hb d_law_529 (by decide) ?_
    refine lv_iadd hx hb d_law_530 ?_
    refine lv_topi (fun y ey => ?_)
    replace ey : y = nI (i + 2) := ey.trans (nI_add i 2)
    subst ey
    refine xb_sld hx hb hX hbl hbA hS (k := i + 2) (by omega) hL d_law_531 ?_
    refine lv_aload_n hx hb d_law_532 rfl (lv_at hl 5 rfl) ?_
    refine lv_iload hx hb d_law_533 (lv_at hl 1 rfl) ?_
    refine lv_iconst (v := nI 3) hx hb d_law_535 (by decide) ?_
    refine lv_iadd hx hb d_law_536 ?_
    refine lv_topi (fun y ey => ?_)
    replace ey : y = nI (i + 3) := ey.trans (nI_add i 3)
    subst ey
    refine xb_sld hx hb hX hbl hbA hS (k := i + 3) (by omega) hL d_law_537 ?_
    refine xa_call (rest := []) (rv := some (.int w)) (t1 := t2) SIM hfl hx hb hml hown hg 270 rfl rfl rfl mw_2250 67 13 (by decide) rfl rfl rfl [.int (xs (i + 1)), .int (xs (i + 2)), .int (xs (i + 3))] rfl (Nat.le_of_ble_eq_true rfl) hm 1 hu hK hN hC hP hD hS hA hl.1 rfl (Nat.le_of_ble_eq_true rfl) d_law_538 (Nat.le_of_ble_eq_true rfl) (Nat.le_of_ble_eq_true rfl) (by omega) (by omega) (fun H locs hP hD hS => ?_)
    refine W.eq (g2 := F0 m 541 ls [.int w]) rfl ?_
    refine lv_istore (lv' := [(6, .int w), (5, .int k), (4, .int (nI i)), (3, .ref (ad 149)), (2, .ref (ad 67)), (1, .ref (ad 0)), (0, .ref b)]) hx hb d_law_541 hl (by decide) rfl (fun ls hl => ?_)
    refine lv_aload_n hx hb d_law_543 rfl (lv_at hl 4 rfl) ?_
    refine xa_call (rest := []) (rv := some (.int (gI t2 67 0))) (t1 := t2) SIM hfl hx hb hml hown hg 187 rfl rfl rfl mw_1822 67 13 (by decide) rfl rfl rfl [] rfl (Nat.le_of_ble_eq_true rfl) (eMo_thrown 150 t2 _ rfl) 0 (Nat.le_refl _) hK hN hC hP hD hS hA hl.1 rfl (Nat.le_of_ble_eq_true rfl) d_law_544 (Nat.le_of_ble_eq_true rfl) (Nat.le_of_ble_eq_true rfl) (by omega) (by omega) (fun H locs hP hD hS => ?_)
    refine W.eq (g2 := F0 m 547 ls [.int k]) (by rw [hth]; rfl) ?_
    refine lv_iload hx hb d_law_547 (lv_at hl 1 rfl) ?_
    refine lv_icmp_eq (tgt := 554) hx hb d_law_549 (by decide) (fun cz => ?_) (fun cz => absurd rfl cz)
    refine lv_iload hx hb d_law_554 (lv_at hl 1 rfl) ?_
    by_cases hk0 : k = 0
    · subst hk0
      refine lv_if_ne (tgt := 571) hx hb d_law_556 (by decide) (fun cz => absurd rfl cz) (fun cz => ?_)
      refine lv_aload_n hx hb d_law_559 rfl (lv_at hl 3 rfl) ?_
      refine lv_iconst (v := nI 0) hx hb d_law_560 (by decide) ?_
      refine xa_lald hx hb hK hP d_law_561 ?_
      refine W.eq (g2 := F0 m 562 ls [.long w.toInt64]) (by rw [ho rfl]) ?_
      refine lv_iload hx hb d_law_562 (lv_at hl 0 rfl) ?_
      refine lv_i2l hx hb d_law_564 rfl ?_
      refine lv_topl (fun y ey => ?_)
      replace ey : y = w.toInt64 := ey.trans rfl
      subst ey
      refine xl_cmp hx hb rfl d_law_565 ?_
      refine lv_if_eq (tgt := 571) hx hb d_law_566 (by decide) (fun cz => ?_) (fun cz => absurd rfl cz)
      refine lv_goto (tgt := 1285) hx hb d_law_571 (by decide) ?_
      refine W.widen (k := cl + 2) (n := sl + 12) (by omega) (by omega) ?_
      exact kk _ t2 H locs ls hw2 hB2 hP hD hS (lv_sub hl [2, 3, 4, 5, 6] rfl)
    · refine lv_if_ne (tgt := 571) hx hb d_law_556 (by decide) (fun cz => ?_) (fun cz => by first | exact absurd cz hk0 | exact absurd hk0 cz)
      refine lv_goto (tgt := 1285) hx hb d_law_571 (by decide) ?_
      refine W.widen (k := cl + 2) (n := sl + 12) (by omega) (by omega) ?_
      exact kk _ t2 H locs ls hw2 hB2 hP hD hS (lv_sub hl [2, 3, 4, 5, 6] rfl)
  refine lv_aload_n hx hb d_law_494 rfl (lv_at hl 3 rfl) ?_
  refine lv_aload_n hx hb d_law_495 rfl (lv_at hl 4 rfl) ?_
  refine lv_iload hx hb d_law_496 (lv_at hl 0 rfl) ?_
  refine lv_iconst (v := nI 1) hx hb d_law_498 (by decide) ?_
  refine lv_iadd hx hb d_law_499 ?_
  refine lv_topi (fun y ey => ?_)
  replace ey : y = nI (i + 1) := ey.trans (nI_add i 1)
  subst ey
  refine xb_sld hx hb hX hbl hbA hS (k := i + 1) (by omega) hL d_law_500 ?_
  refine lv_aload_n hx hb d_law_501 rfl (lv_at hl 4 rfl) ?_
  refine lv_iload hx hb d_law_502 (lv_at hl 0 rfl) ?_
  refine lv_iconst (v := nI 2) hx hb d_law_504 (by decide) ?_
  refine lv_iadd hx hb d_law_505 ?_
  refine lv_topi (fun y ey => ?_)
  replace ey : y = nI (i + 2) := ey.trans (nI_add i 2)
  subst ey
  refine xb_sld hx hb hX hbl hbA hS (k := i + 2) (by omega) hL d_law_506 ?_
  refine lv_aload_n hx hb d_law_507 rfl (lv_at hl 4 rfl) ?_
  refine lv_iload hx hb d_law_508 (lv_at hl 0 rfl) ?_
  refine lv_iconst (v := nI 3) hx hb d_law_510 (by decide) ?_
  refine lv_iadd hx hb d_law_511 ?_
  refine lv_topi (fun y ey => ?_)
  replace ey : y = nI (i + 3) := ey.trans (nI_add i 3)
  subst ey
  refine xb_sld hx hb hX hbl hbA hS (k := i + 3) (by omega) hL d_law_512 ?_
  refine lv_aload_n hx hb d_law_513 rfl (lv_at hl 1 rfl) ?_
  rcases hk with ⟨rfl, t1, hr, rfl⟩ | ⟨rfl, hr, rfl⟩
  · refine xa_ret (h := toH t) (h1 := toH (pL t1 149 0 w.toInt64)) (rv := some (.int 0)) (xt_runSW (n := 5) (As := [.ref (ad 0), .int (xs (i + 1)), .int (xs (i + 2)), .int (xs (i + 3)), .ref (ad 149)]) (rest := []) ⟨hx, hb, hml, hown, hg⟩ (wo_read SIM l hfl H.size (xs (i + 1)) (xs (i + 2)) (xs (i + 3)) hr) mw_1321 mw_1322 mw_0 mw_1323 rfl rfl (by decide +kernel) ⟨(Nat.le_of_ble_eq_true rfl), (Nat.le_of_ble_eq_true rfl)⟩ (xa_preN hno hK hN hC hP hD hS hA) rfl rfl hl.1 rfl (lv_room (Nat.le_of_ble_eq_true rfl)) d_law_514 ⟨by omega, by omega⟩) hD hS hA (fun H locs hP hD hS => ?_)
    exact tail H locs ls _ _ (by omega) (by omega) hP hD hS hl
  · refine xa_ret (h := toH ta) (h1 := toH ta) (rv := some (.int 1)) (xt_runSW (n := 5) (As := [.ref (ad 0), .int (xs (i + 1)), .int (xs (i + 2)), .int (xs (i + 3)), .ref (ad 149)]) (rest := []) ⟨hx, hb, hml, hown, hg⟩ (wx_read SIM l hfl H.size (xs (i + 1)) (xs (i + 2)) (xs (i + 3)) hr) mw_1321 mw_1322 mw_0 mw_1323 rfl rfl (by decide +kernel) ⟨(Nat.le_of_ble_eq_true rfl), (Nat.le_of_ble_eq_true rfl)⟩ (xa_preN hno hK hN hC hP hD hS hA) rfl rfl hl.1 rfl (lv_room (Nat.le_of_ble_eq_true rfl)) d_law_514 ⟨by omega, by omega⟩) hD hS hA (fun H locs hP hD hS => ?_)
    exact tail H locs ls _ _ (by omega) (by omega) hP hD hS hl
set_option maxHeartbeats 4000000 in
set_option maxRecDepth 100000 in
theorem Ar_copy (SIM : xSim kA ad kS D) : xArm kA ad kS D 574 := by
  intro p l e s m below meth c b L xs A Q B i hi hL cl sl hcl hsl n hn S t hw hB H locs ls hP hD hS hl kk
  obtain ⟨hfl, hx, hb, hml, hown, hg, hK, hN, hno, hC, hX, hbl, hA, hbA⟩ := B
  obtain ⟨r, hrr⟩ := y_copy_ex hw (xs (i + 1)) (xs (i + 2)) (xs (i + 3))
  obtain ⟨k, ta, w, t2, hk, hm, ⟨hu, hth, hB2⟩, ho, hwr⟩ := yA_1 (G := fun ta => fMo_copy 150 (xs (i + 1)) (xs (i + 2)) (xs (i + 3)) ta) (L_copy hw hn hB.1 41 (E := fun k => 2) rfl (xs (i + 1)) (xs (i + 2)) (xs (i + 3)) hrr) (Y_copy hrr) hB (fun ta h => M_copy hw h 0 (xs (i + 1)) (xs (i + 2)) (xs (i + 3)) hrr)
  have hw2 : yWf r.2.2 := W_copy hw (xs (i + 1)) (xs (i + 2)) (xs (i + 3)) hrr
  have tail : ∀ (H : Heap) (locs : List Loc) (ls : Array Slot) (c9 s9 : Nat), c9 ≤ cl + 1 → s9 ≤ sl + 6 → va_P D vC (aV kA ad ta) H → va_D A (aV kA ad ta) → va_S A s.heap H locs → lv_has ls 8 [(4, .int (nI i)), (3, .ref (ad 149)), (2, .ref (ad 67)), (1, .ref (ad 0)), (0, .ref b)] → W p l e room_1 s m #[Value.ref b] below meth c H locs c9 s9 Q (F0 m 597 ls [.int k]) := by
    intro H locs ls c9 s9 hc9 hs9 hP hD hS hl
    refine lv_istore (lv' := [(5, .int k), (4, .int (nI i)), (3, .ref (ad 149)), (2, .ref (ad 67)), (1, .ref (ad 0)), (0, .ref b)]) hx hb d_law_597 hl (by decide) rfl (fun ls hl => ?_)
    refine lv_aload_n hx hb d_law_599 rfl (lv_at hl 3 rfl) ?_
    refine lv_aload_n hx hb d_law_600 rfl (lv_at hl 5 rfl) ?_
    refine lv_iload hx hb d_law_601 (lv_at hl 1 rfl) ?_
    refine lv_iconst (v := nI 1) hx hb d_law_603 (by decide) ?_
    refine lv_iadd hx hb d_law_604 ?_
    refine lv_topi (fun y ey => ?_)
    replace ey : y = nI (i + 1) := ey.trans (nI_add i 1)
    subst ey
    refine xb_sld hx hb hX hbl hbA hS (k := i + 1) (by omega) hL d_law_605 ?_
    refine lv_aload_n hx hb d_law_606 rfl (lv_at hl 5 rfl) ?_
    refine lv_iload hx hb d_law_607 (lv_at hl 1 rfl) ?_
    refine lv_iconst (v := nI 2) hx hb d_law_609 (by decide) ?_
    refine lv_iadd hx hb d_law_610 ?_
    refine lv_topi (fun y ey => ?_)
    replace ey : y = nI (i + 2) := ey.trans (nI_add i 2)
    subst ey
    refine xb_sld hx hb hX hbl hbA hS (k := i + 2) (by omega) hL d_law_611 ?_
    refine lv_aload_n hx hb d_law_612 rfl (lv_at hl 5 rfl) ?_
    refine lv_iload hx hb d_law_613 (lv_at hl 1 rfl) ?_
    refine lv_iconst (v := nI 3) hx hb d_law_615 (by decide) ?_
    refine lv_iadd hx hb d_law_616 ?_
    refine lv_topi (fun y ey => ?_)
    replace ey : y = nI (i + 3) := ey.trans (nI_add i 3)
    subst ey
    refine xb_sld hx hb hX hbl hbA hS (k := i + 3) (by omega) hL d_law_617 ?_
    refine xa_call (rest := []) (rv := some (.int w)) (t1 := t2) SIM hfl hx hb hml hown hg 284 rfl rfl rfl mw_2307 67 13 (by decide) rfl rfl rfl [.int (xs (i + 1)), .int (xs (i + 2)), .int (xs (i + 3))] rfl (Nat.le_of_ble_eq_true rfl) hm 1 hu hK hN hC hP hD hS hA hl.1 rfl (Nat.le_of_ble_eq_true rfl) d_law_618 (Nat.le_of_ble_eq_true rfl) (Nat.le_of_ble_eq_true rfl) (by omega) (by omega) (fun H locs hP hD hS => ?_)
    refine W.eq (g2 := F0 m 621 ls [.int w]) rfl ?_
    refine lv_istore (lv' := [(6, .int w), (5, .int k), (4, .int (nI i)), (3, .ref (ad 149)), (2, .ref (ad 67)), (1, .ref (ad 0)), (0, .ref b)]) hx hb d_law_621 hl (by decide) rfl (fun ls hl => ?_)
    refine lv_aload_n hx hb d_law_623 rfl (lv_at hl 4 rfl) ?_
    refine xa_call (rest := []) (rv := some (.int (gI t2 67 0))) (t1 := t2) SIM hfl hx hb hml hown hg 187 rfl rfl rfl mw_1822 67 13 (by decide) rfl rfl rfl [] rfl (Nat.le_of_ble_eq_true rfl) (eMo_thrown 150 t2 _ rfl) 0 (Nat.le_refl _) hK hN hC hP hD hS hA hl.1 rfl (Nat.le_of_ble_eq_true rfl) d_law_624 (Nat.le_of_ble_eq_true rfl) (Nat.le_of_ble_eq_true rfl) (by omega) (by omega) (fun H locs hP hD hS => ?_)
    refine W.eq (g2 := F0 m 627 ls [.int k]) (by rw [hth]; rfl) ?_
    refine lv_iload hx hb d_law_627 (lv_at hl 1 rfl) ?_
    refine lv_icmp_eq (tgt := 634) hx hb d_law_629 (by decide) (fun cz => ?_) (fun cz => absurd rfl cz)
    refine lv_iload hx hb d_law_634 (lv_at hl 1 rfl) ?_
    by_cases hk0 : k = 0
    · subst hk0
      refine lv_if_ne (tgt := 651) hx hb d_law_636 (by decide) (fun cz => absurd rfl cz) (fun cz => ?_)
      refine lv_aload_n hx hb d_law_639 rfl (lv_at hl 3 rfl) ?_
      refine lv_iconst (v := nI 0) hx hb d_law_640 (by decide) ?_
      refine xa_lald hx hb hK hP d_law_641 ?_
      refine W.eq (g2 := F0 m 642 ls [.long w.toInt64]) (by rw [ho rfl]) ?_
      refine lv_iload hx hb d_law_642 (lv_at hl 0 rfl) ?_
      refine lv_i2l hx hb d_law_644 rfl ?_
      refine lv_topl (fun y ey => ?_)
      replace ey : y = w.toInt64 := ey.trans rfl
      subst ey
      refine xl_cmp hx hb rfl d_law_645 ?_
      refine lv_if_eq (tgt := 651) hx hb d_law_646 (by decide) (fun cz => ?_) (fun cz => absurd rfl cz)
      refine lv_goto (tgt := 1285) hx hb d_law_651 (by decide) ?_
      refine W.widen (k := cl + 2) (n := sl + 12) (by omega) (by omega) ?_
      exact kk _ t2 H locs ls hw2 hB2 hP hD hS (lv_sub hl [2, 3, 4, 5, 6] rfl)
    · refine lv_if_ne (tgt := 651) hx hb d_law_636 (by decide) (fun cz => ?_) (fun cz => by first | exact absurd cz hk0 | exact absurd hk0 cz)
      refine lv_goto (tgt := 1285) hx hb d_law_651 (by decide) ?_
      refine W.widen (k := cl + 2) (n := sl + 12) (by omega) (by omega) ?_
      exact kk _ t2 H locs ls hw2 hB2 hP hD hS (lv_sub hl [2, 3, 4, 5, 6] rfl)
  refine lv_aload_n hx hb d_law_574 rfl (lv_at hl 3 rfl) ?_
  refine lv_aload_n hx hb d_law_575 rfl (lv_at hl 4 rfl) ?_
  refine lv_iload hx hb d_law_576 (lv_at hl 0 rfl) ?_
  refine lv_iconst (v := nI 1) hx hb d_law_578 (by decide) ?_
  refine lv_iadd hx hb d_law_579 ?_
  refine lv_topi (fun y ey => ?_)
  replace ey : y = nI (i + 1) := ey.trans (nI_add i 1)
  subst ey
  refine xb_sld hx hb hX hbl hbA hS (k := i + 1) (by omega) hL d_law_580 ?_
  refine lv_aload_n hx hb d_law_581 rfl (lv_at hl 4 rfl) ?_
  refine lv_iload hx hb d_law_582 (lv_at hl 0 rfl) ?_
  refine lv_iconst (v := nI 2) hx hb d_law_584 (by decide) ?_
  refine lv_iadd hx hb d_law_585 ?_
  refine lv_topi (fun y ey => ?_)
  replace ey : y = nI (i + 2) := ey.trans (nI_add i 2)
  subst ey
  refine xb_sld hx hb hX hbl hbA hS (k := i + 2) (by omega) hL d_law_586 ?_
  refine lv_aload_n hx hb d_law_587 rfl (lv_at hl 4 rfl) ?_
  refine lv_iload hx hb d_law_588 (lv_at hl 0 rfl) ?_
  refine lv_iconst (v := nI 3) hx hb d_law_590 (by decide) ?_
  refine lv_iadd hx hb d_law_591 ?_
  refine lv_topi (fun y ey => ?_)
  replace ey : y = nI (i + 3) := ey.trans (nI_add i 3)
  subst ey
  refine xb_sld hx hb hX hbl hbA hS (k := i + 3) (by omega) hL d_law_592 ?_
  refine lv_aload_n hx hb d_law_593 rfl (lv_at hl 1 rfl) ?_
  rcases hk with ⟨rfl, t1, hr, rfl⟩ | ⟨rfl, hr, rfl⟩
  · refine xa_ret (h := toH t) (h1 := toH (pL t1 149 0 w.toInt64)) (rv := some (.int 0)) (xt_runSW (n := 5) (As := [.ref (ad 0), .int (xs (i + 1)), .int (xs (i + 2)), .int (xs (i + 3)), .ref (ad 149)]) (rest := []) ⟨hx, hb, hml, hown, hg⟩ (wo_copy SIM l hfl H.size (xs (i + 1)) (xs (i + 2)) (xs (i + 3)) hr) mw_1408 mw_1409 mw_0 mw_1410 rfl rfl (by decide +kernel) ⟨(Nat.le_of_ble_eq_true rfl), (Nat.le_of_ble_eq_true rfl)⟩ (xa_preN hno hK hN hC hP hD hS hA) rfl rfl hl.1 rfl (lv_room (Nat.le_of_ble_eq_true rfl)) d_law_594 ⟨by omega, by omega⟩) hD hS hA (fun H locs hP hD hS => ?_)
    exact tail H locs ls _ _ (by omega) (by omega) hP hD hS hl
  · refine xa_ret (h := toH ta) (h1 := toH ta) (rv := some (.int 1)) (xt_runSW (n := 5) (As := [.ref (ad 0), .int (xs (i + 1)), .int (xs (i + 2)), .int (xs (i + 3)), .ref (ad 149)]) (rest := []) ⟨hx, hb, hml, hown, hg⟩ (wx_copy SIM l hfl H.size (xs (i + 1)) (xs (i + 2)) (xs (i + 3)) hr) mw_1408 mw_1409 mw_0 mw_1410 rfl rfl (by decide +kernel) ⟨(Nat.le_of_ble_eq_true rfl), (Nat.le_of_ble_eq_true rfl)⟩ (xa_preN hno hK hN hC hP hD hS hA) rfl rfl hl.1 rfl (lv_room (Nat.le_of_ble_eq_true rfl)) d_law_594 ⟨by omega, by omega⟩) hD hS hA (fun H locs hP hD hS => ?_)
    exact tail H locs ls _ _ (by omega) (by omega) hP hD hS hl
set_option maxHeartbeats 4000000 in
set_option maxRecDepth 100000 in
theorem Ar_compact (SIM : xSim kA ad kS D) : xArm kA ad kS D 654 := by
  intro p l e s m below meth c b L xs A Q B i hi hL cl sl hcl hsl n hn S t hw hB H locs ls hP hD hS hl kk
  obtain ⟨hfl, hx, hb, hml, hown, hg, hK, hN, hno, hC, hX, hbl, hA, hbA⟩ := B
  obtain ⟨k, ta, w, t2, hk, hm, ⟨hu, hth, hB2⟩, ho, hwr⟩ := yA_1 (G := fun ta => fMo_compact 150 (xs (i + 1)) ta) (L_compact hw hn hB.1 89 (E := fun k => 2) rfl (xs (i + 1))) (Y_compact (xs (i + 1))) hB (fun ta h => M_compact hw h 89 (xs (i + 1)))
  have hw2 : yWf (y_compact (xs (i + 1)) S).2.2 := W_compact hw (xs (i + 1))
  have tail : ∀ (H : Heap) (locs : List Loc) (ls : Array Slot) (c9 s9 : Nat), c9 ≤ cl + 1 → s9 ≤ sl + 6 → va_P D vC (aV kA ad ta) H → va_D A (aV kA ad ta) → va_S A s.heap H locs → lv_has ls 8 [(4, .int (nI i)), (3, .ref (ad 149)), (2, .ref (ad 67)), (1, .ref (ad 0)), (0, .ref b)] → W p l e room_1 s m #[Value.ref b] below meth c H locs c9 s9 Q (F0 m 665 ls [.int k]) := by
    intro H locs ls c9 s9 hc9 hs9 hP hD hS hl
    refine lv_istore (lv' := [(5, .int k), (4, .int (nI i)), (3, .ref (ad 149)), (2, .ref (ad 67)), (1, .ref (ad 0)), (0, .ref b)]) hx hb d_law_665 hl (by decide) rfl (fun ls hl => ?_)
    refine lv_aload_n hx hb d_law_667 rfl (lv_at hl 3 rfl) ?_
    refine lv_aload_n hx hb d_law_668 rfl (lv_at hl 5 rfl) ?_
    refine lv_iload hx hb d_law_669 (lv_at hl 1 rfl) ?_
    refine lv_iconst (v := nI 1) hx hb d_law_671 (by decide) ?_
    refine lv_iadd hx hb d_law_672 ?_
    refine lv_topi (fun y ey => ?_)
    replace ey : y = nI (i + 1) := ey.trans (nI_add i 1)
    subst ey
    refine xb_sld hx hb hX hbl hbA hS (k := i + 1) (by omega) hL d_law_673 ?_
    refine xa_call (rest := []) (rv := some (.int w)) (t1 := t2) SIM hfl hx hb hml hown hg 286 rfl rfl rfl mw_2315 67 13 (by decide) rfl rfl rfl [.int (xs (i + 1))] rfl (Nat.le_of_ble_eq_true rfl) hm 1 hu hK hN hC hP hD hS hA hl.1 rfl (Nat.le_of_ble_eq_true rfl) d_law_674 (Nat.le_of_ble_eq_true rfl) (Nat.le_of_ble_eq_true rfl) (by omega) (by omega) (fun H locs hP hD hS => ?_)
    refine W.eq (g2 := F0 m 677 ls [.int w]) rfl ?_
    refine lv_istore (lv' := [(6, .int w), (5, .int k), (4, .int (nI i)), (3, .ref (ad 149)), (2, .ref (ad 67)), (1, .ref (ad 0)), (0, .ref b)]) hx hb d_law_677 hl (by decide) rfl (fun ls hl => ?_)
    refine lv_aload_n hx hb d_law_679 rfl (lv_at hl 4 rfl) ?_
    refine xa_call (rest := []) (rv := some (.int (gI t2 67 0))) (t1 := t2) SIM hfl hx hb hml hown hg 187 rfl rfl rfl mw_1822 67 13 (by decide) rfl rfl rfl [] rfl (Nat.le_of_ble_eq_true rfl) (eMo_thrown 150 t2 _ rfl) 0 (Nat.le_refl _) hK hN hC hP hD hS hA hl.1 rfl (Nat.le_of_ble_eq_true rfl) d_law_680 (Nat.le_of_ble_eq_true rfl) (Nat.le_of_ble_eq_true rfl) (by omega) (by omega) (fun H locs hP hD hS => ?_)
    refine W.eq (g2 := F0 m 683 ls [.int k]) (by rw [hth]; rfl) ?_
    refine lv_iload hx hb d_law_683 (lv_at hl 1 rfl) ?_
    refine lv_icmp_eq (tgt := 690) hx hb d_law_685 (by decide) (fun cz => ?_) (fun cz => absurd rfl cz)
    refine lv_iload hx hb d_law_690 (lv_at hl 1 rfl) ?_
    by_cases hk0 : k = 0
    · subst hk0
      refine lv_if_ne (tgt := 707) hx hb d_law_692 (by decide) (fun cz => absurd rfl cz) (fun cz => ?_)
      refine lv_aload_n hx hb d_law_695 rfl (lv_at hl 3 rfl) ?_
      refine lv_iconst (v := nI 0) hx hb d_law_696 (by decide) ?_
      refine xa_lald hx hb hK hP d_law_697 ?_
      refine W.eq (g2 := F0 m 698 ls [.long w.toInt64]) (by rw [ho rfl]) ?_
      refine lv_iload hx hb d_law_698 (lv_at hl 0 rfl) ?_
      refine lv_i2l hx hb d_law_700 rfl ?_
      refine lv_topl (fun y ey => ?_)
      replace ey : y = w.toInt64 := ey.trans rfl
      subst ey
      refine xl_cmp hx hb rfl d_law_701 ?_
      refine lv_if_eq (tgt := 707) hx hb d_law_702 (by decide) (fun cz => ?_) (fun cz => absurd rfl cz)
      refine lv_goto (tgt := 1285) hx hb d_law_707 (by decide) ?_
      refine W.widen (k := cl + 2) (n := sl + 12) (by omega) (by omega) ?_
      exact kk _ t2 H locs ls hw2 hB2 hP hD hS (lv_sub hl [2, 3, 4, 5, 6] rfl)
    · refine lv_if_ne (tgt := 707) hx hb d_law_692 (by decide) (fun cz => ?_) (fun cz => by first | exact absurd cz hk0 | exact absurd hk0 cz)
      refine lv_goto (tgt := 1285) hx hb d_law_707 (by decide) ?_
      refine W.widen (k := cl + 2) (n := sl + 12) (by omega) (by omega) ?_
      exact kk _ t2 H locs ls hw2 hB2 hP hD hS (lv_sub hl [2, 3, 4, 5, 6] rfl)
  refine lv_aload_n hx hb d_law_654 rfl (lv_at hl 3 rfl) ?_
  refine lv_aload_n hx hb d_law_655 rfl (lv_at hl 4 rfl) ?_
  refine lv_iload hx hb d_law_656 (lv_at hl 0 rfl) ?_
  refine lv_iconst (v := nI 1) hx hb d_law_658 (by decide) ?_
  refine lv_iadd hx hb d_law_659 ?_
  refine lv_topi (fun y ey => ?_)
  replace ey : y = nI (i + 1) := ey.trans (nI_add i 1)
  subst ey
  refine xb_sld hx hb hX hbl hbA hS (k := i + 1) (by omega) hL d_law_660 ?_
  refine lv_aload_n hx hb d_law_661 rfl (lv_at hl 1 rfl) ?_
  rcases hk with ⟨rfl, t1, hr, rfl⟩ | ⟨rfl, hr, rfl⟩
  · refine xa_ret (h := toH t) (h1 := toH (pL t1 149 0 w.toInt64)) (rv := some (.int 0)) (xt_runSW (n := 3) (As := [.ref (ad 0), .int (xs (i + 1)), .ref (ad 149)]) (rest := []) ⟨hx, hb, hml, hown, hg⟩ (wo_compact SIM l hfl H.size (xs (i + 1)) hr) mw_1424 mw_1425 mw_0 mw_1426 rfl rfl (by decide +kernel) ⟨(Nat.le_of_ble_eq_true rfl), (Nat.le_of_ble_eq_true rfl)⟩ (xa_preN hno hK hN hC hP hD hS hA) rfl rfl hl.1 rfl (lv_room (Nat.le_of_ble_eq_true rfl)) d_law_662 ⟨by omega, by omega⟩) hD hS hA (fun H locs hP hD hS => ?_)
    exact tail H locs ls _ _ (by omega) (by omega) hP hD hS hl
  · refine xa_ret (h := toH ta) (h1 := toH ta) (rv := some (.int 1)) (xt_runSW (n := 3) (As := [.ref (ad 0), .int (xs (i + 1)), .ref (ad 149)]) (rest := []) ⟨hx, hb, hml, hown, hg⟩ (wx_compact SIM l hfl H.size (xs (i + 1)) hr) mw_1424 mw_1425 mw_0 mw_1426 rfl rfl (by decide +kernel) ⟨(Nat.le_of_ble_eq_true rfl), (Nat.le_of_ble_eq_true rfl)⟩ (xa_preN hno hK hN hC hP hD hS hA) rfl rfl hl.1 rfl (lv_room (Nat.le_of_ble_eq_true rfl)) d_law_662 ⟨by omega, by omega⟩) hD hS hA (fun H locs hP hD hS => ?_)
    exact tail H locs ls _ _ (by omega) (by omega) hP hD hS hl
set_option maxHeartbeats 4000000 in
set_option maxRecDepth 100000 in
theorem Ar_clear (SIM : xSim kA ad kS D) : xArm kA ad kS D 710 := by
  intro p l e s m below meth c b L xs A Q B i hi hL cl sl hcl hsl n hn S t hw hB H locs ls hP hD hS hl kk
  obtain ⟨hfl, hx, hb, hml, hown, hg, hK, hN, hno, hC, hX, hbl, hA, hbA⟩ := B
  obtain ⟨k, ta, w, t2, hk, hm, ⟨hu, hth, hB2⟩, ho, hwr⟩ := yA_1 (G := fun ta => fMo_clear 150 (xs (i + 1)) ta) (L_clear hw hn hB.1 136 (E := fun k => 2) rfl (xs (i + 1))) (Y_clear (xs (i + 1))) hB (fun ta h => M_clear hw h 148 (xs (i + 1)))
  have hw2 : yWf (y_clear (xs (i + 1)) S).2.2 := W_clear hw (xs (i + 1))
  have tail : ∀ (H : Heap) (locs : List Loc) (ls : Array Slot) (c9 s9 : Nat), c9 ≤ cl + 1 → s9 ≤ sl + 6 → va_P D vC (aV kA ad ta) H → va_D A (aV kA ad ta) → va_S A s.heap H locs → lv_has ls 8 [(4, .int (nI i)), (3, .ref (ad 149)), (2, .ref (ad 67)), (1, .ref (ad 0)), (0, .ref b)] → W p l e room_1 s m #[Value.ref b] below meth c H locs c9 s9 Q (F0 m 721 ls [.int k]) := by
    intro H locs ls c9 s9 hc9 hs9 hP hD hS hl
    refine lv_istore (lv' := [(5, .int k), (4, .int (nI i)), (3, .ref (ad 149)), (2, .ref (ad 67)), (1, .ref (ad 0)), (0, .ref b)]) hx hb d_law_721 hl (by decide) rfl (fun ls hl => ?_)
    refine lv_aload_n hx hb d_law_723 rfl (lv_at hl 3 rfl) ?_
    refine lv_aload_n hx hb d_law_724 rfl (lv_at hl 5 rfl) ?_
    refine lv_iload hx hb d_law_725 (lv_at hl 1 rfl) ?_
    refine lv_iconst (v := nI 1) hx hb d_law_727 (by decide) ?_
    refine lv_iadd hx hb d_law_728 ?_
    refine lv_topi (fun y ey => ?_)
    replace ey : y = nI (i + 1) := ey.trans (nI_add i 1)
    subst ey
    refine xb_sld hx hb hX hbl hbA hS (k := i + 1) (by omega) hL d_law_729 ?_
    refine xa_call (rest := []) (rv := some (.int w)) (t1 := t2) SIM hfl hx hb hml hown hg 290 rfl rfl rfl mw_2331 67 13 (by decide) rfl rfl rfl [.int (xs (i + 1))] rfl (Nat.le_of_ble_eq_true rfl) hm 1 hu hK hN hC hP hD hS hA hl.1 rfl (Nat.le_of_ble_eq_true rfl) d_law_730 (Nat.le_of_ble_eq_true rfl) (Nat.le_of_ble_eq_true rfl) (by omega) (by omega) (fun H locs hP hD hS => ?_)
    refine W.eq (g2 := F0 m 733 ls [.int w]) rfl ?_
    refine lv_istore (lv' := [(6, .int w), (5, .int k), (4, .int (nI i)), (3, .ref (ad 149)), (2, .ref (ad 67)), (1, .ref (ad 0)), (0, .ref b)]) hx hb d_law_733 hl (by decide) rfl (fun ls hl => ?_)
    refine lv_aload_n hx hb d_law_735 rfl (lv_at hl 4 rfl) ?_
    refine xa_call (rest := []) (rv := some (.int (gI t2 67 0))) (t1 := t2) SIM hfl hx hb hml hown hg 187 rfl rfl rfl mw_1822 67 13 (by decide) rfl rfl rfl [] rfl (Nat.le_of_ble_eq_true rfl) (eMo_thrown 150 t2 _ rfl) 0 (Nat.le_refl _) hK hN hC hP hD hS hA hl.1 rfl (Nat.le_of_ble_eq_true rfl) d_law_736 (Nat.le_of_ble_eq_true rfl) (Nat.le_of_ble_eq_true rfl) (by omega) (by omega) (fun H locs hP hD hS => ?_)
    refine W.eq (g2 := F0 m 739 ls [.int k]) (by rw [hth]; rfl) ?_
    refine lv_iload hx hb d_law_739 (lv_at hl 1 rfl) ?_
    refine lv_icmp_eq (tgt := 746) hx hb d_law_741 (by decide) (fun cz => ?_) (fun cz => absurd rfl cz)
    refine lv_iload hx hb d_law_746 (lv_at hl 1 rfl) ?_
    by_cases hk0 : k = 0
    · subst hk0
      refine lv_if_ne (tgt := 763) hx hb d_law_748 (by decide) (fun cz => absurd rfl cz) (fun cz => ?_)
      refine lv_aload_n hx hb d_law_751 rfl (lv_at hl 3 rfl) ?_
      refine lv_iconst (v := nI 0) hx hb d_law_752 (by decide) ?_
      refine xa_lald hx hb hK hP d_law_753 ?_
      refine W.eq (g2 := F0 m 754 ls [.long w.toInt64]) (by rw [ho rfl]) ?_
      refine lv_iload hx hb d_law_754 (lv_at hl 0 rfl) ?_
      refine lv_i2l hx hb d_law_756 rfl ?_
      refine lv_topl (fun y ey => ?_)
      replace ey : y = w.toInt64 := ey.trans rfl
      subst ey
      refine xl_cmp hx hb rfl d_law_757 ?_
      refine lv_if_eq (tgt := 763) hx hb d_law_758 (by decide) (fun cz => ?_) (fun cz => absurd rfl cz)
      refine lv_goto (tgt := 1285) hx hb d_law_763 (by decide) ?_
      refine W.widen (k := cl + 2) (n := sl + 12) (by omega) (by omega) ?_
      exact kk _ t2 H locs ls hw2 hB2 hP hD hS (lv_sub hl [2, 3, 4, 5, 6] rfl)
    · refine lv_if_ne (tgt := 763) hx hb d_law_748 (by decide) (fun cz => ?_) (fun cz => by first | exact absurd cz hk0 | exact absurd hk0 cz)
      refine lv_goto (tgt := 1285) hx hb d_law_763 (by decide) ?_
      refine W.widen (k := cl + 2) (n := sl + 12) (by omega) (by omega) ?_
      exact kk _ t2 H locs ls hw2 hB2 hP hD hS (lv_sub hl [2, 3, 4, 5, 6] rfl)
  refine lv_aload_n hx hb d_law_710 rfl (lv_at hl 3 rfl) ?_
  refine lv_aload_n hx hb d_law_711 rfl (lv_at hl 4 rfl) ?_
  refine lv_iload hx hb d_law_712 (lv_at hl 0 rfl) ?_
  refine lv_iconst (v := nI 1) hx hb d_law_714 (by decide) ?_
  refine lv_iadd hx hb d_law_715 ?_
  refine lv_topi (fun y ey => ?_)
  replace ey : y = nI (i + 1) := ey.trans (nI_add i 1)
  subst ey
  refine xb_sld hx hb hX hbl hbA hS (k := i + 1) (by omega) hL d_law_716 ?_
  refine lv_aload_n hx hb d_law_717 rfl (lv_at hl 1 rfl) ?_
  rcases hk with ⟨rfl, t1, hr, rfl⟩ | ⟨rfl, hr, rfl⟩
  · refine xa_ret (h := toH t) (h1 := toH (pL t1 149 0 w.toInt64)) (rv := some (.int 0)) (xt_runSW (n := 3) (As := [.ref (ad 0), .int (xs (i + 1)), .ref (ad 149)]) (rest := []) ⟨hx, hb, hml, hown, hg⟩ (wo_clear SIM l hfl H.size (xs (i + 1)) hr) mw_1468 mw_1469 mw_0 mw_1470 rfl rfl (by decide +kernel) ⟨(Nat.le_of_ble_eq_true rfl), (Nat.le_of_ble_eq_true rfl)⟩ (xa_preN hno hK hN hC hP hD hS hA) rfl rfl hl.1 rfl (lv_room (Nat.le_of_ble_eq_true rfl)) d_law_718 ⟨by omega, by omega⟩) hD hS hA (fun H locs hP hD hS => ?_)
    exact tail H locs ls _ _ (by omega) (by omega) hP hD hS hl
  · refine xa_ret (h := toH ta) (h1 := toH ta) (rv := some (.int 1)) (xt_runSW (n := 3) (As := [.ref (ad 0), .int (xs (i + 1)), .ref (ad 149)]) (rest := []) ⟨hx, hb, hml, hown, hg⟩ (wx_clear SIM l hfl H.size (xs (i + 1)) hr) mw_1468 mw_1469 mw_0 mw_1470 rfl rfl (by decide +kernel) ⟨(Nat.le_of_ble_eq_true rfl), (Nat.le_of_ble_eq_true rfl)⟩ (xa_preN hno hK hN hC hP hD hS hA) rfl rfl hl.1 rfl (lv_room (Nat.le_of_ble_eq_true rfl)) d_law_718 ⟨by omega, by omega⟩) hD hS hA (fun H locs hP hD hS => ?_)
    exact tail H locs ls _ _ (by omega) (by omega) hP hD hS hl
end ArA2
