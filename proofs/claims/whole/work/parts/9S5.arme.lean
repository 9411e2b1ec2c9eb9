section ArA4
variable {kA : Nat → ClassId} {ad : Nat → Nat} {D : va_G} {kS : Nat → Nat}
set_option maxHeartbeats 4000000 in
set_option maxRecDepth 100000 in
theorem Ar_size (SIM : xSim kA ad kS D) : xArm kA ad kS D 1068 := by
  intro p l e s m below meth c b L xs A Q B i hi hL cl sl hcl hsl n hn S t hw hB H locs ls hP hD hS hl kk
  obtain ⟨hfl, hx, hb, hml, hown, hg, hK, hN, hno, hC, hX, hbl, hA, hbA⟩ := B
  obtain ⟨k, ta, w, t2, hk, hm, ⟨hu, hth, hB2⟩, ho, hwr⟩ := yA_1 (G := fun ta => fMo_size 150 (xs (i + 1)) ta) (L_size hB.1 149 (E := fun k => 1) rfl (xs (i + 1))) (Y_size (xs (i + 1))) hB (fun ta h => M_size h 149 (xs (i + 1)))
  have hw2 : yWf (y_size (xs (i + 1)) S).2.2 := by rw [show _ = S from Sk_size (xs (i + 1))]; exact hw
  have tail : ∀ (H : Heap) (locs : List Loc) (ls : Array Slot) (c9 s9 : Nat), c9 ≤ cl + 1 → s9 ≤ sl + 6 → va_P D vC (aV kA ad ta) H → va_D A (aV kA ad ta) → va_S A s.heap H locs → lv_has ls 8 [(4, .int (nI i)), (3, .ref (ad 149)), (2, .ref (ad 67)), (1, .ref (ad 0)), (0, .ref b)] → W p l e room_1 s m #[Value.ref b] below meth c H locs c9 s9 Q (F0 m 1079 ls [.int k]) := by
    intro H locs ls c9 s9 hc9 hs9 hP hD hS hl
    refine lv_istore (lv' := [(5, .int k), (4, .int (nI i)), (3, .ref (ad 149)), (2, .ref (ad 67)), (1, .ref (ad 0)), (0, .ref b)]) hx hb d_law_1079 hl (by decide) rfl (fun ls hl => ?_)
    refine lv_aload_n hx hb d_law_1081 rfl (lv_at hl 3 rfl) ?_
    refine lv_aload_n hx hb d_law_1082 rfl (lv_at hl 5 rfl) ?_
    refine lv_iload hx hb d_law_1083 (lv_at hl 1 rfl) ?_
    refine lv_iconst (v := nI 1) hx hb d_law_1085 (by decide) ?_
    refine lv_iadd hx hb d_law_1086 ?_
    refine lv_topi (fun y ey => ?_)
    replace ey : y = nI (i + 1) := ey.trans (nI_add i 1)
    subst ey
    refine xb_sld hx hb hX hbl hbA hS (k := i + 1) (by omega) hL d_law_1087 ?_
    refine xa_call (rest := []) (rv := some (.int w)) (t1 := t2) SIM hfl hx hb hml hown hg 296 rfl rfl rfl mw_2357 67 13 (by decide) rfl rfl rfl [.int (xs (i + 1))] rfl (Nat.le_of_ble_eq_true rfl) hm 1 hu hK hN hC hP hD hS hA hl.1 rfl (Nat.le_of_ble_eq_true rfl) d_law_1088 (Nat.le_of_ble_eq_true rfl) (Nat.le_of_ble_eq_true rfl) (by omega) (by omega) (fun H locs hP hD hS => ?_)
    refine W.eq (g2 := F0 m 1091 ls [.int w]) rfl ?_
    refine lv_istore (lv' := [(6, .int w), (5, .int k), (4, .int (nI i)), (3, .ref (ad 149)), (2, .ref (ad 67)), (1, .ref (ad 0)), (0, .ref b)]) hx hb d_law_1091 hl (by decide) rfl (fun ls hl => ?_)
    refine lv_aload_n hx hb d_law_1093 rfl (lv_at hl 4 rfl) ?_
    refine xa_call (rest := []) (rv := some (.int (gI t2 67 0))) (t1 := t2) SIM hfl hx hb hml hown hg 187 rfl rfl rfl mw_1822 67 13 (by decide) rfl rfl rfl [] rfl (Nat.le_of_ble_eq_true rfl) (eMo_thrown 150 t2 _ rfl) 0 (Nat.le_refl _) hK hN hC hP hD hS hA hl.1 rfl (Nat.le_of_ble_eq_true rfl) d_law_1094 (Nat.le_of_ble_eq_true rfl) (Nat.le_of_ble_eq_true rfl) (by omega) (by omega) (fun H locs hP hD hS => ?_)
    refine W.eq (g2 := F0 m 1097 ls [.int k]) (by rw [hth]; rfl) ?_
    refine lv_iload hx hb d_law_1097 (lv_at hl 1 rfl) ?_
    refine lv_icmp_eq (tgt := 1104) hx hb d_law_1099 (by decide) (fun cz => ?_) (fun cz => absurd rfl cz)
    refine lv_iload hx hb d_law_1104 (lv_at hl 1 rfl) ?_
    by_cases hk0 : k = 0
    · subst hk0
      refine lv_if_ne (tgt := 1121) hx hb d_law_1106 (by decide) (fun cz => absurd rfl cz) (fun cz => ?_)
      refine lv_aload_n hx hb d_law_1109 rfl (lv_at hl 3 rfl) ?_
      refine lv_iconst (v := nI 0) hx hb d_law_1110 (by decide) ?_
      refine xa_lald hx hb hK hP d_law_1111 ?_
      refine W.eq (g2 := F0 m 1112 ls [.long w.toInt64]) (by rw [ho rfl]) ?_
      refine lv_iload hx hb d_law_1112 (lv_at hl 0 rfl) ?_
      refine lv_i2l hx hb d_law_1114 rfl ?_
      refine lv_topl (fun y ey => ?_)
      replace ey : y = w.toInt64 := ey.trans rfl
      subst ey
      refine xl_cmp hx hb rfl d_law_1115 ?_
      refine lv_if_eq (tgt := 1121) hx hb d_law_1116 (by decide) (fun cz => ?_) (fun cz => absurd rfl cz)
      refine lv_goto (tgt := 1285) hx hb d_law_1121 (by decide) ?_
      refine W.widen (k := cl + 2) (n := sl + 12) (by omega) (by omega) ?_
      exact kk _ t2 H locs ls hw2 hB2 hP hD hS (lv_sub hl [2, 3, 4, 5, 6] rfl)
    · refine lv_if_ne (tgt := 1121) hx hb d_law_1106 (by decide) (fun cz => ?_) (fun cz => by first | exact absurd cz hk0 | exact absurd hk0 cz)
      refine lv_goto (tgt := 1285) hx hb d_law_1121 (by decide) ?_
      refine W.widen (k := cl + 2) (n := sl + 12) (by omega) (by omega) ?_
      exact kk _ t2 H locs ls hw2 hB2 hP hD hS (lv_sub hl [2, 3, 4, 5, 6] rfl)
  refine lv_aload_n hx hb d_law_1068 rfl (lv_at hl 3 rfl) ?_
  refine lv_aload_n hx hb d_law_1069 rfl (lv_at hl 4 rfl) ?_
  refine lv_iload hx hb d_law_1070 (lv_at hl 0 rfl) ?_
  refine lv_iconst (v := nI 1) hx hb d_law_1072 (by decide) ?_
  refine lv_iadd hx hb d_law_1073 ?_
  refine lv_topi (fun y ey => ?_)
  replace ey : y = nI (i + 1) := ey.trans (nI_add i 1)
  subst ey
  refine xb_sld hx hb hX hbl hbA hS (k := i + 1) (by omega) hL d_law_1074 ?_
  refine lv_aload_n hx hb d_law_1075 rfl (lv_at hl 1 rfl) ?_
  rcases hk with ⟨rfl, t1, hr, rfl⟩ | ⟨rfl, hr, rfl⟩
  · refine xa_ret (h := toH t) (h1 := toH (pL t1 149 0 w.toInt64)) (rv := some (.int 0)) (xt_runSW (n := 3) (As := [.ref (ad 0), .int (xs (i + 1)), .ref (ad 149)]) (rest := []) ⟨hx, hb, hml, hown, hg⟩ (wo_size SIM l hfl H.size (xs (i + 1)) hr) mw_1526 mw_1527 mw_0 mw_1528 rfl rfl (by decide +kernel) ⟨(Nat.le_of_ble_eq_true rfl), (Nat.le_of_ble_eq_true rfl)⟩ (xa_preN hno hK hN hC hP hD hS hA) rfl rfl hl.1 rfl (lv_room (Nat.le_of_ble_eq_true rfl)) d_law_1076 ⟨by omega, by omega⟩) hD hS hA (fun H locs hP hD hS => ?_)
    exact tail H locs ls _ _ (by omega) (by omega) hP hD hS hl
  · refine xa_ret (h := toH ta) (h1 := toH ta) (rv := some (.int 1)) (xt_runSW (n := 3) (As := [.ref (ad 0), .int (xs (i + 1)), .ref (ad 149)]) (rest := []) ⟨hx, hb, hml, hown, hg⟩ (wx_size SIM l hfl H.size (xs (i + 1)) hr) mw_1526 mw_1527 mw_0 mw_1528 rfl rfl (by decide +kernel) ⟨(Nat.le_of_ble_eq_true rfl), (Nat.le_of_ble_eq_true rfl)⟩ (xa_preN hno hK hN hC hP hD hS hA) rfl rfl hl.1 rfl (lv_room (Nat.le_of_ble_eq_true rfl)) d_law_1076 ⟨by omega, by omega⟩) hD hS hA (fun H locs hP hD hS => ?_)
    exact tail H locs ls _ _ (by omega) (by omega) hP hD hS hl
set_option maxHeartbeats 4000000 in
set_option maxRecDepth 100000 in
theorem Ar_file (SIM : xSim kA ad kS D) : xArm kA ad kS D 1124 := by
  intro p l e s m below meth c b L xs A Q B i hi hL cl sl hcl hsl n hn S t hw hB H locs ls hP hD hS hl kk
  obtain ⟨hfl, hx, hb, hml, hown, hg, hK, hN, hno, hC, hX, hbl, hA, hbA⟩ := B
  obtain ⟨k, ta, w, t2, hk, hm, ⟨hu, hth, hB2⟩, ho, hwr⟩ := yA_2 (G := fun ta => fMo_file 150 (xs (i + 1)) (xs (i + 2)) ta) (L_file hw hB.1 149 (E := fun k => if k = 1 then 2 else 1) ⟨rfl, rfl⟩ (xs (i + 1)) (xs (i + 2))) (Y_file (xs (i + 1)) (xs (i + 2))) hB (fun ta h => M_file hw h 149 (xs (i + 1)) (xs (i + 2)))
  have hw2 : yWf (y_file (xs (i + 1)) (xs (i + 2)) S).2.2 := by rw [show _ = S from Sk_file (xs (i + 1)) (xs (i + 2))]; exact hw
  have tail : ∀ (H : Heap) (locs : List Loc) (ls : Array Slot) (c9 s9 : Nat), c9 ≤ cl + 1 → s9 ≤ sl + 6 → va_P D vC (aV kA ad ta) H → va_D A (aV kA ad ta) → va_S A s.heap H locs → lv_has ls 8 [(4, .int (nI i)), (3, .ref (ad 149)), (2, .ref (ad 67)), (1, .ref (ad 0)), (0, .ref b)] → W p l e room_1 s m #[Value.ref b] below meth c H locs c9 s9 Q (F0 m 1141 ls [.int k]) := by
    intro H locs ls c9 s9 hc9 hs9 hP hD hS hl
    refine lv_istore (lv' := [(5, .int k), (4, .int (nI i)), (3, .ref (ad 149)), (2, .ref (ad 67)), (1, .ref (ad 0)), (0, .ref b)]) hx hb d_law_1141 hl (by decide) rfl (fun ls hl => ?_)
    refine lv_aload_n hx hb d_law_1143 rfl (lv_at hl 3 rfl) ?_
    refine lv_aload_n hx hb d_law_1144 rfl (lv_at hl 5 rfl) ?_
    refine lv_iload hx hb d_law_1145 (lv_at hl 1 rfl) ?_
    refine lv_iconst (v := nI 1) hx hb d_law_1147 (by decide) ?_
    refine lv_iadd hx hb d_law_1148 ?_
    refine lv_topi (fun y ey => ?_)
    replace ey : y = nI (i + 1) := ey.trans (nI_add i 1)
    subst ey
    refine xb_sld hx hb hX hbl hbA hS (k := i + 1) (by omega) hL d_law_1149 ?_
    refine lv_aload_n hx hb d_law_1150 rfl (lv_at hl 5 rfl) ?_
    refine lv_iload hx hb d_law_1151 (lv_at hl 1 rfl) ?_
    refine lv_iconst (v := nI 2) hx hb d_law_1153 (by decide) ?_
    refine lv_iadd hx hb d_law_1154 ?_
    refine lv_topi (fun y ey => ?_)
    replace ey : y = nI (i + 2) := ey.trans (nI_add i 2)
    subst ey
    refine xb_sld hx hb hX hbl hbA hS (k := i + 2) (by omega) hL d_law_1155 ?_
    refine xa_call (rest := []) (rv := some (.int w)) (t1 := t2) SIM hfl hx hb hml hown hg 297 rfl rfl rfl mw_2361 67 13 (by decide) rfl rfl rfl [.int (xs (i + 1)), .int (xs (i + 2))] rfl (Nat.le_of_ble_eq_true rfl) hm 1 hu hK hN hC hP hD hS hA hl.1 rfl (Nat.le_of_ble_eq_true rfl) d_law_1156 (Nat.le_of_ble_eq_true rfl) (Nat.le_of_ble_eq_true rfl) (by omega) (by omega) (fun H locs hP hD hS => ?_)
    refine W.eq (g2 := F0 m 1159 ls [.int w]) rfl ?_
    refine lv_istore (lv' := [(6, .int w), (5, .int k), (4, .int (nI i)), (3, .ref (ad 149)), (2, .ref (ad 67)), (1, .ref (ad 0)), (0, .ref b)]) hx hb d_law_1159 hl (by decide) rfl (fun ls hl => ?_)
    refine lv_aload_n hx hb d_law_1161 rfl (lv_at hl 4 rfl) ?_
    refine xa_call (rest := []) (rv := some (.int (gI t2 67 0))) (t1 := t2) SIM hfl hx hb hml hown hg 187 rfl rfl rfl mw_1822 67 13 (by decide) rfl rfl rfl [] rfl (Nat.le_of_ble_eq_true rfl) (eMo_thrown 150 t2 _ rfl) 0 (Nat.le_refl _) hK hN hC hP hD hS hA hl.1 rfl (Nat.le_of_ble_eq_true rfl) d_law_1162 (Nat.le_of_ble_eq_true rfl) (Nat.le_of_ble_eq_true rfl) (by omega) (by omega) (fun H locs hP hD hS => ?_)
    refine W.eq (g2 := F0 m 1165 ls [.int k]) (by rw [hth]; rfl) ?_
    refine lv_iload hx hb d_law_1165 (lv_at hl 1 rfl) ?_
    refine lv_icmp_eq (tgt := 1172) hx hb d_law_1167 (by decide) (fun cz => ?_) (fun cz => absurd rfl cz)
    refine lv_iload hx hb d_law_1172 (lv_at hl 1 rfl) ?_
    by_cases hk0 : k = 0
    · subst hk0
      refine lv_if_ne (tgt := 1189) hx hb d_law_1174 (by decide) (fun cz => absurd rfl cz) (fun cz => ?_)
      refine lv_aload_n hx hb d_law_1177 rfl (lv_at hl 3 rfl) ?_
      refine lv_iconst (v := nI 0) hx hb d_law_1178 (by decide) ?_
      refine xa_lald hx hb hK hP d_law_1179 ?_
      refine W.eq (g2 := F0 m 1180 ls [.long w.toInt64]) (by rw [ho rfl]) ?_
      refine lv_iload hx hb d_law_1180 (lv_at hl 0 rfl) ?_
      refine lv_i2l hx hb d_law_1182 rfl ?_
      refine lv_topl (fun y ey => ?_)
      replace ey : y = w.toInt64 := ey.trans rfl
      subst ey
      refine xl_cmp hx hb rfl d_law_1183 ?_
      refine lv_if_eq (tgt := 1189) hx hb d_law_1184 (by decide) (fun cz => ?_) (fun cz => absurd rfl cz)
      refine lv_goto (tgt := 1285) hx hb d_law_1189 (by decide) ?_
      refine W.widen (k := cl + 2) (n := sl + 12) (by omega) (by omega) ?_
      exact kk _ t2 H locs ls hw2 hB2 hP hD hS (lv_sub hl [2, 3, 4, 5, 6] rfl)
    · refine lv_if_ne (tgt := 1189) hx hb d_law_1174 (by decide) (fun cz => ?_) (fun cz => by first | exact absurd cz hk0 | exact absurd hk0 cz)
      refine lv_goto (tgt := 1285) hx hb d_law_1189 (by decide) ?_
      refine W.widen (k := cl + 2) (n := sl + 12) (by omega) (by omega) ?_
      exact kk _ t2 H locs ls hw2 hB2 hP hD hS (lv_sub hl [2, 3, 4, 5, 6] rfl)
  refine lv_aload_n hx hb d_law_1124 rfl (lv_at hl 3 rfl) ?_
  refine lv_aload_n hx hb d_law_1125 rfl (lv_at hl 4 rfl) ?_
  refine lv_iload hx hb d_law_1126 (lv_at hl 0 rfl) ?_
  refine lv_iconst (v := nI 1) hx hb d_law_1128 (by decide) ?_
  refine lv_iadd hx hb d_law_1129 ?_
  refine lv_topi (fun y ey => ?_)
  replace ey : y = nI (i + 1) := ey.trans (nI_add i 1)
  subst ey
  refine xb_sld hx hb hX hbl hbA hS (k := i + 1) (by omega) hL d_law_1130 ?_
  refine lv_aload_n hx hb d_law_1131 rfl (lv_at hl 4 rfl) ?_
  refine lv_iload hx hb d_law_1132 (lv_at hl 0 rfl) ?_
  refine lv_iconst (v := nI 2) hx hb d_law_1134 (by decide) ?_
  refine lv_iadd hx hb d_law_1135 ?_
  refine lv_topi (fun y ey => ?_)
  replace ey : y = nI (i + 2) := ey.trans (nI_add i 2)
  subst ey
  refine xb_sld hx hb hX hbl hbA hS (k := i + 2) (by omega) hL d_law_1136 ?_
  refine lv_aload_n hx hb d_law_1137 rfl (lv_at hl 1 rfl) ?_
  rcases hk with ⟨rfl, t1, hr, rfl⟩ | ⟨rfl, hr, rfl⟩ | ⟨rfl, hr, rfl⟩
  · refine xa_ret (h := toH t) (h1 := toH (pL t1 149 0 w.toInt64)) (rv := some (.int 0)) (xt_runSW (n := 4) (As := [.ref (ad 0), .int (xs (i + 1)), .int (xs (i + 2)), .ref (ad 149)]) (rest := []) ⟨hx, hb, hml, hown, hg⟩ (wo_file SIM l hfl H.size (xs (i + 1)) (xs (i + 2)) hr) mw_1533 mw_1534 mw_0 mw_1535 rfl rfl (by decide +kernel) ⟨(Nat.le_of_ble_eq_true rfl), (Nat.le_of_ble_eq_true rfl)⟩ (xa_preN hno hK hN hC hP hD hS hA) rfl rfl hl.1 rfl (lv_room (Nat.le_of_ble_eq_true rfl)) d_law_1138 ⟨by omega, by omega⟩) hD hS hA (fun H locs hP hD hS => ?_)
    exact tail H locs ls _ _ (by omega) (by omega) hP hD hS hl
  · refine xa_ret (h := toH ta) (h1 := toH ta) (rv := some (.int 1)) (xt_runSW (n := 4) (As := [.ref (ad 0), .int (xs (i + 1)), .int (xs (i + 2)), .ref (ad 149)]) (rest := []) ⟨hx, hb, hml, hown, hg⟩ (wx_file SIM l hfl H.size (xs (i + 1)) (xs (i + 2)) hr) mw_1533 mw_1534 mw_0 mw_1535 rfl rfl (by decide +kernel) ⟨(Nat.le_of_ble_eq_true rfl), (Nat.le_of_ble_eq_true rfl)⟩ (xa_preN hno hK hN hC hP hD hS hA) rfl rfl hl.1 rfl (lv_room (Nat.le_of_ble_eq_true rfl)) d_law_1138 ⟨by omega, by omega⟩) hD hS hA (fun H locs hP hD hS => ?_)
    exact tail H locs ls _ _ (by omega) (by omega) hP hD hS hl
  · refine xa_ret (h := toH ta) (h1 := toH ta) (rv := some (.int 2)) (xt_runSW (n := 4) (As := [.ref (ad 0), .int (xs (i + 1)), .int (xs (i + 2)), .ref (ad 149)]) (rest := []) ⟨hx, hb, hml, hown, hg⟩ (wx_file2 SIM l hfl H.size (xs (i + 1)) (xs (i + 2)) hr) mw_1533 mw_1534 mw_0 mw_1535 rfl rfl (by decide +kernel) ⟨(Nat.le_of_ble_eq_true rfl), (Nat.le_of_ble_eq_true rfl)⟩ (xa_preN hno hK hN hC hP hD hS hA) rfl rfl hl.1 rfl (lv_room (Nat.le_of_ble_eq_true rfl)) d_law_1138 ⟨by omega, by omega⟩) hD hS hA (fun H locs hP hD hS => ?_)
    exact tail H locs ls _ _ (by omega) (by omega) hP hD hS hl
set_option maxHeartbeats 4000000 in
set_option maxRecDepth 100000 in
theorem Ar_power (SIM : xSim kA ad kS D) : xArm kA ad kS D 1205 := by
  intro p l e s m below meth c b L xs A Q B i hi hL cl sl hcl hsl n hn S t hw hB H locs ls hP hD hS hl kk
  obtain ⟨hfl, hx, hb, hml, hown, hg, hK, hN, hno, hC, hX, hbl, hA, hbA⟩ := B
  obtain ⟨k, ta, t2, hk, hm, ⟨hu, hth, hB2⟩⟩ := yA_v (G := fun ta => fMo_power 150 (xs (i + 1)) ta) (L_power hB.1 150 (E := fun k => 1) rfl (xs (i + 1))) (Y_power (xs (i + 1))) hB (fun ta h => M_power h 149 (xs (i + 1)))
  have hw2 : yWf (y_power (xs (i + 1)) S).2 := W_power hw (xs (i + 1))
  have tail : ∀ (H : Heap) (locs : List Loc) (ls : Array Slot) (c9 s9 : Nat), c9 ≤ cl + 1 → s9 ≤ sl + 6 → va_P D vC (aV kA ad ta) H → va_D A (aV kA ad ta) → va_S A s.heap H locs → lv_has ls 8 [(4, .int (nI i)), (3, .ref (ad 149)), (2, .ref (ad 67)), (1, .ref (ad 0)), (0, .ref b)] → W p l e room_1 s m #[Value.ref b] below meth c H locs c9 s9 Q (F0 m 1215 ls [.int k]) := by
    intro H locs ls c9 s9 hc9 hs9 hP hD hS hl
    refine lv_istore (lv' := [(5, .int k), (4, .int (nI i)), (3, .ref (ad 149)), (2, .ref (ad 67)), (1, .ref (ad 0)), (0, .ref b)]) hx hb d_law_1215 hl (by decide) rfl (fun ls hl => ?_)
    refine lv_aload_n hx hb d_law_1217 rfl (lv_at hl 3 rfl) ?_
    refine lv_aload_n hx hb d_law_1218 rfl (lv_at hl 5 rfl) ?_
    refine lv_iload hx hb d_law_1219 (lv_at hl 1 rfl) ?_
    refine lv_iconst (v := nI 1) hx hb d_law_1221 (by decide) ?_
    refine lv_iadd hx hb d_law_1222 ?_
    refine lv_topi (fun y ey => ?_)
    replace ey : y = nI (i + 1) := ey.trans (nI_add i 1)
    subst ey
    refine xb_sld hx hb hX hbl hbA hS (k := i + 1) (by omega) hL d_law_1223 ?_
    refine xa_call (rest := []) (rv := none) (t1 := t2) SIM hfl hx hb hml hown hg 299 rfl rfl rfl mw_2369 67 13 (by decide) rfl rfl rfl [.int (xs (i + 1))] rfl (Nat.le_of_ble_eq_true rfl) hm 1 hu hK hN hC hP hD hS hA hl.1 rfl (Nat.le_of_ble_eq_true rfl) d_law_1224 (Nat.le_of_ble_eq_true rfl) (Nat.le_of_ble_eq_true rfl) (by omega) (by omega) (fun H locs hP hD hS => ?_)
    refine W.eq (g2 := F0 m 1227 ls []) rfl ?_
    refine lv_aload_n hx hb d_law_1227 rfl (lv_at hl 3 rfl) ?_
    refine xa_call (rest := []) (rv := some (.int (gI t2 67 0))) (t1 := t2) SIM hfl hx hb hml hown hg 187 rfl rfl rfl mw_1822 67 13 (by decide) rfl rfl rfl [] rfl (Nat.le_of_ble_eq_true rfl) (eMo_thrown 150 t2 _ rfl) 0 (Nat.le_refl _) hK hN hC hP hD hS hA hl.1 rfl (Nat.le_of_ble_eq_true rfl) d_law_1228 (Nat.le_of_ble_eq_true rfl) (Nat.le_of_ble_eq_true rfl) (by omega) (by omega) (fun H locs hP hD hS => ?_)
    refine W.eq (g2 := F0 m 1231 ls [.int k]) (by rw [hth]; rfl) ?_
    refine lv_iload hx hb d_law_1231 (lv_at hl 0 rfl) ?_
    refine lv_icmp_eq (tgt := 1238) hx hb d_law_1233 (by decide) (fun cz => ?_) (fun cz => absurd rfl cz)
    refine lv_goto (tgt := 1285) hx hb d_law_1238 (by decide) ?_
    refine W.widen (k := cl + 2) (n := sl + 12) (by omega) (by omega) ?_
    exact kk _ t2 H locs ls hw2 hB2 hP hD hS (lv_sub hl [1, 2, 3, 4, 5] rfl)
  refine lv_aload_n hx hb d_law_1205 rfl (lv_at hl 3 rfl) ?_
  refine lv_aload_n hx hb d_law_1206 rfl (lv_at hl 4 rfl) ?_
  refine lv_iload hx hb d_law_1207 (lv_at hl 0 rfl) ?_
  refine lv_iconst (v := nI 1) hx hb d_law_1209 (by decide) ?_
  refine lv_iadd hx hb d_law_1210 ?_
  refine lv_topi (fun y ey => ?_)
  replace ey : y = nI (i + 1) := ey.trans (nI_add i 1)
  subst ey
  refine xb_sld hx hb hX hbl hbA hS (k := i + 1) (by omega) hL d_law_1211 ?_
  rcases hk with ⟨rfl, hr⟩ | ⟨rfl, hr, rfl⟩
  · refine xa_ret (h := toH t) (h1 := toH ta) (rv := some (.int 0)) (xt_runSW (n := 2) (As := [.ref (ad 0), .int (xs (i + 1))]) (rest := []) ⟨hx, hb, hml, hown, hg⟩ (wo_power SIM l hfl H.size (xs (i + 1)) hr) mw_1541 mw_1542 mw_0 mw_1543 rfl rfl (by decide +kernel) ⟨(Nat.le_of_ble_eq_true rfl), (Nat.le_of_ble_eq_true rfl)⟩ (xa_preN hno hK hN hC hP hD hS hA) rfl rfl hl.1 rfl (lv_room (Nat.le_of_ble_eq_true rfl)) d_law_1212 ⟨by omega, by omega⟩) hD hS hA (fun H locs hP hD hS => ?_)
    exact tail H locs ls _ _ (by omega) (by omega) hP hD hS hl
  · refine xa_ret (h := toH ta) (h1 := toH ta) (rv := some (.int 1)) (xt_runSW (n := 2) (As := [.ref (ad 0), .int (xs (i + 1))]) (rest := []) ⟨hx, hb, hml, hown, hg⟩ (wx_power SIM l hfl H.size (xs (i + 1)) hr) mw_1541 mw_1542 mw_0 mw_1543 rfl rfl (by decide +kernel) ⟨(Nat.le_of_ble_eq_true rfl), (Nat.le_of_ble_eq_true rfl)⟩ (xa_preN hno hK hN hC hP hD hS hA) rfl rfl hl.1 rfl (lv_room (Nat.le_of_ble_eq_true rfl)) d_law_1212 ⟨by omega, by omega⟩) hD hS hA (fun H locs hP hD hS => ?_)
    exact tail H locs ls _ _ (by omega) (by omega) hP hD hS hl
set_option maxHeartbeats 4000000 in
set_option maxRecDepth 100000 in
theorem Ar_start (SIM : xSim kA ad kS D) : xArm kA ad kS D 1241 := by
  intro p l e s m below meth c b L xs A Q B i hi hL cl sl hcl hsl n hn S t hw hB H locs ls hP hD hS hl kk
  obtain ⟨hfl, hx, hb, hml, hown, hg, hK, hN, hno, hC, hX, hbl, hA, hbA⟩ := B
  obtain ⟨k, ta, w, t2, hk, hm, ⟨hu, hth, hB2⟩, ho, hwr⟩ := yA_1 (G := fun ta => fMo_start 150  ta) (L_start hw hn hB.1 59 (E := fun k => 0) rfl ) Y_start hB (fun ta h => M_start h 149 )
  have hw2 : yWf (y_start S).2.2 := W_start hw
  have tail : ∀ (H : Heap) (locs : List Loc) (ls : Array Slot) (c9 s9 : Nat), c9 ≤ cl + 1 → s9 ≤ sl + 6 → va_P D vC (aV kA ad ta) H → va_D A (aV kA ad ta) → va_S A s.heap H locs → lv_has ls 8 [(4, .int (nI i)), (3, .ref (ad 149)), (2, .ref (ad 67)), (1, .ref (ad 0)), (0, .ref b)] → W p l e room_1 s m #[Value.ref b] below meth c H locs c9 s9 Q (F0 m 1246 ls [.int k]) := by
    intro H locs ls c9 s9 hc9 hs9 hP hD hS hl
    refine lv_istore (lv' := [(5, .int k), (4, .int (nI i)), (3, .ref (ad 149)), (2, .ref (ad 67)), (1, .ref (ad 0)), (0, .ref b)]) hx hb d_law_1246 hl (by decide) rfl (fun ls hl => ?_)
    refine lv_aload_n hx hb d_law_1248 rfl (lv_at hl 3 rfl) ?_
    refine xa_call (rest := []) (rv := some (.int w)) (t1 := t2) SIM hfl hx hb hml hown hg 300 rfl rfl rfl mw_2373 67 13 (by decide) rfl rfl rfl [] rfl (Nat.le_of_ble_eq_true rfl) hm 1 hu hK hN hC hP hD hS hA hl.1 rfl (Nat.le_of_ble_eq_true rfl) d_law_1249 (Nat.le_of_ble_eq_true rfl) (Nat.le_of_ble_eq_true rfl) (by omega) (by omega) (fun H locs hP hD hS => ?_)
    refine W.eq (g2 := F0 m 1252 ls [.int w]) rfl ?_
    refine lv_istore (lv' := [(6, .int w), (5, .int k), (4, .int (nI i)), (3, .ref (ad 149)), (2, .ref (ad 67)), (1, .ref (ad 0)), (0, .ref b)]) hx hb d_law_1252 hl (by decide) rfl (fun ls hl => ?_)
    refine lv_aload_n hx hb d_law_1254 rfl (lv_at hl 4 rfl) ?_
    refine xa_call (rest := []) (rv := some (.int (gI t2 67 0))) (t1 := t2) SIM hfl hx hb hml hown hg 187 rfl rfl rfl mw_1822 67 13 (by decide) rfl rfl rfl [] rfl (Nat.le_of_ble_eq_true rfl) (eMo_thrown 150 t2 _ rfl) 0 (Nat.le_refl _) hK hN hC hP hD hS hA hl.1 rfl (Nat.le_of_ble_eq_true rfl) d_law_1255 (Nat.le_of_ble_eq_true rfl) (Nat.le_of_ble_eq_true rfl) (by omega) (by omega) (fun H locs hP hD hS => ?_)
    refine W.eq (g2 := F0 m 1258 ls [.int k]) (by rw [hth]; rfl) ?_
    refine lv_iload hx hb d_law_1258 (lv_at hl 1 rfl) ?_
    refine lv_icmp_eq (tgt := 1265) hx hb d_law_1260 (by decide) (fun cz => ?_) (fun cz => absurd rfl cz)
    refine lv_iload hx hb d_law_1265 (lv_at hl 1 rfl) ?_
    by_cases hk0 : k = 0
    · subst hk0
      refine lv_if_ne (tgt := 1282) hx hb d_law_1267 (by decide) (fun cz => absurd rfl cz) (fun cz => ?_)
      refine lv_aload_n hx hb d_law_1270 rfl (lv_at hl 3 rfl) ?_
      refine lv_iconst (v := nI 0) hx hb d_law_1271 (by decide) ?_
      refine xa_lald hx hb hK hP d_law_1272 ?_
      refine W.eq (g2 := F0 m 1273 ls [.long w.toInt64]) (by rw [ho rfl]) ?_
      refine lv_iload hx hb d_law_1273 (lv_at hl 0 rfl) ?_
      refine lv_i2l hx hb d_law_1275 rfl ?_
      refine lv_topl (fun y ey => ?_)
      replace ey : y = w.toInt64 := ey.trans rfl
      subst ey
      refine xl_cmp hx hb rfl d_law_1276 ?_
      refine lv_if_eq (tgt := 1282) hx hb d_law_1277 (by decide) (fun cz => ?_) (fun cz => absurd rfl cz)
      refine lv_goto (tgt := 1285) hx hb d_law_1282 (by decide) ?_
      refine W.widen (k := cl + 2) (n := sl + 12) (by omega) (by omega) ?_
      exact kk _ t2 H locs ls hw2 hB2 hP hD hS (lv_sub hl [2, 3, 4, 5, 6] rfl)
    · refine lv_if_ne (tgt := 1282) hx hb d_law_1267 (by decide) (fun cz => ?_) (fun cz => by first | exact absurd cz hk0 | exact absurd hk0 cz)
      refine lv_goto (tgt := 1285) hx hb d_law_1282 (by decide) ?_
      refine W.widen (k := cl + 2) (n := sl + 12) (by omega) (by omega) ?_
      exact kk _ t2 H locs ls hw2 hB2 hP hD hS (lv_sub hl [2, 3, 4, 5, 6] rfl)
  refine lv_aload_n hx hb d_law_1241 rfl (lv_at hl 3 rfl) ?_
  refine lv_aload_n hx hb d_law_1242 rfl (lv_at hl 1 rfl) ?_
  rcases hk with ⟨rfl, t1, hr, rfl⟩ | ⟨rfl, hr, rfl⟩
  · refine xa_ret (h := toH t) (h1 := toH (pL t1 149 0 w.toInt64)) (rv := some (.int 0)) (xt_runSW (n := 2) (As := [.ref (ad 0), .ref (ad 149)]) (rest := []) ⟨hx, hb, hml, hown, hg⟩ (wo_start SIM l hfl H.size  hr) mw_1549 mw_1550 mw_0 mw_1551 rfl rfl (by decide +kernel) ⟨(Nat.le_of_ble_eq_true rfl), (Nat.le_of_ble_eq_true rfl)⟩ (xa_preN hno hK hN hC hP hD hS hA) rfl rfl hl.1 rfl (lv_room (Nat.le_of_ble_eq_true rfl)) d_law_1243 ⟨by omega, by omega⟩) hD hS hA (fun H locs hP hD hS => ?_)
    exact tail H locs ls _ _ (by omega) (by omega) hP hD hS hl
  · refine xa_ret (h := toH ta) (h1 := toH ta) (rv := some (.int 1)) (xt_runSW (n := 2) (As := [.ref (ad 0), .ref (ad 149)]) (rest := []) ⟨hx, hb, hml, hown, hg⟩ (wx_start SIM l hfl H.size  hr) mw_1549 mw_1550 mw_0 mw_1551 rfl rfl (by decide +kernel) ⟨(Nat.le_of_ble_eq_true rfl), (Nat.le_of_ble_eq_true rfl)⟩ (xa_preN hno hK hN hC hP hD hS hA) rfl rfl hl.1 rfl (lv_room (Nat.le_of_ble_eq_true rfl)) d_law_1243 ⟨by omega, by omega⟩) hD hS hA (fun H locs hP hD hS => ?_)
    exact tail H locs ls _ _ (by omega) (by omega) hP hD hS hl
end ArA4
