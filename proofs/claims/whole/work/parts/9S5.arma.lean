section ArA0
variable {kA : Nat → ClassId} {ad : Nat → Nat} {D : va_G} {kS : Nat → Nat}
set_option maxHeartbeats 4000000 in
set_option maxRecDepth 100000 in
theorem Ar_feed (SIM : xSim kA ad kS D) : xArm kA ad kS D 136 := by
  intro p l e s m below meth c b L xs A Q B i hi hL cl sl hcl hsl n hn S t hw hB H locs ls hP hD hS hl kk
  obtain ⟨hfl, hx, hb, hml, hown, hg, hK, hN, hno, hC, hX, hbl, hA, hbA⟩ := B
  obtain ⟨k, ta, w, t2, hk, hm, ⟨hu, hth, hB2⟩, ho, hwr⟩ := yA_1 (G := fun ta => fMo_feed 150 (xs (i + 1)) (xs (i + 2)) (xs (i + 3)) (xs (i + 4)) (xs (i + 5)) ta) (L_feed hw hB.1 148 (E := fun k => 0) rfl (xs (i + 1)) (xs (i + 2)) (xs (i + 3)) (xs (i + 4)) (xs (i + 5))) (Y_feed (xs (i + 1)) (xs (i + 2)) (xs (i + 3)) (xs (i + 4)) (xs (i + 5))) hB (fun ta h => M_feed hw h 149 (xs (i + 1)) (xs (i + 2)) (xs (i + 3)) (xs (i + 4)) (xs (i + 5)))
  have hw2 : yWf (y_feed (xs (i + 1)) (xs (i + 2)) (xs (i + 3)) (xs (i + 4)) (xs (i + 5)) S).2.2 := W_feed hw (xs (i + 1)) (xs (i + 2)) (xs (i + 3)) (xs (i + 4)) (xs (i + 5))
  have tail : ∀ (H : Heap) (locs : List Loc) (ls : Array Slot) (c9 s9 : Nat), c9 ≤ cl + 1 → s9 ≤ sl + 6 → va_P D vC (aV kA ad ta) H → va_D A (aV kA ad ta) → va_S A s.heap H locs → lv_has ls 8 [(4, .int (nI i)), (3, .ref (ad 149)), (2, .ref (ad 67)), (1, .ref (ad 0)), (0, .ref b)] → W p l e room_1 s m #[Value.ref b] below meth c H locs c9 s9 Q (F0 m 171 ls [.int k]) := by
    intro H locs ls c9 s9 hc9 hs9 hP hD hS hl
    refine lv_istore (lv' := [(5, .int k), (4, .int (nI i)), (3, .ref (ad 149)), (2, .ref (ad 67)), (1, .ref (ad 0)), (0, .ref b)]) hx hb d_law_171 hl (by decide) rfl (fun ls hl => ?_)
    refine lv_aload_n hx hb d_law_173 rfl (lv_at hl 3 rfl) ?_
    refine lv_aload_n hx hb d_law_174 rfl (lv_at hl 5 rfl) ?_
    refine lv_iload hx hb d_law_175 (lv_at hl 1 rfl) ?_
    refine lv_iconst (v := nI 1) hx hb d_law_177 (by decide) ?_
    refine lv_iadd hx hb d_law_178 ?_
    refine lv_topi (fun y ey => ?_)
    replace ey : y = nI (i + 1) := ey.trans (nI_add i 1)
    subst ey
    refine xb_sld hx hb hX hbl hbA hS (k := i + 1) (by omega) hL d_law_179 ?_
    refine lv_aload_n hx hb d_law_180 rfl (lv_at hl 5 rfl) ?_
    refine lv_iload hx hb d_law_181 (lv_at hl 1 rfl) ?_
    refine lv_iconst (v := nI 2) hx hb d_law_183 (by decide) ?_
    refine lv_iadd hx hb d_law_184 ?_
    refine lv_topi (fun y ey => ?_)
    replace ey : y = nI (i + 2) := ey.trans (nI_add i 2)
    subst ey
    refine xb_sld hx hb hX hbl hbA hS (k := i + 2) (by omega) hL d_law_185 ?_
    refine lv_aload_n hx hb d_law_186 rfl (lv_at hl 5 rfl) ?_
    refine lv_iload hx hb d_law_187 (lv_at hl 1 rfl) ?_
    refine lv_iconst (v := nI 3) hx hb d_law_189 (by decide) ?_
    refine lv_iadd hx hb d_law_190 ?_
    refine lv_topi (fun y ey => ?_)
    replace ey : y = nI (i + 3) := ey.trans (nI_add i 3)
    subst ey
    refine xb_sld hx hb hX hbl hbA hS (k := i + 3) (by omega) hL d_law_191 ?_
    refine lv_aload_n hx hb d_law_192 rfl (lv_at hl 5 rfl) ?_
    refine lv_iload hx hb d_law_193 (lv_at hl 1 rfl) ?_
    refine lv_iconst (v := nI 4) hx hb d_law_195 (by decide) ?_
    refine lv_iadd hx hb d_law_196 ?_
    refine lv_topi (fun y ey => ?_)
    replace ey : y = nI (i + 4) := ey.trans (nI_add i 4)
    subst ey
    refine xb_sld hx hb hX hbl hbA hS (k := i + 4) (by omega) hL d_law_197 ?_
    refine lv_aload_n hx hb d_law_198 rfl (lv_at hl 5 rfl) ?_
    refine lv_iload hx hb d_law_199 (lv_at hl 1 rfl) ?_
    refine lv_iconst (v := nI 5) hx hb d_law_201 (by decide) ?_
    refine lv_iadd hx hb d_law_202 ?_
    refine lv_topi (fun y ey => ?_)
    replace ey : y = nI (i + 5) := ey.trans (nI_add i 5)
    subst ey
    refine xb_sld hx hb hX hbl hbA hS (k := i + 5) (by omega) hL d_law_203 ?_
    refine xa_call (rest := []) (rv := some (.int w)) (t1 := t2) SIM hfl hx hb hml hown hg 188 rfl rfl rfl mw_1826 67 13 (by decide) rfl rfl rfl [.int (xs (i + 1)), .int (xs (i + 2)), .int (xs (i + 3)), .int (xs (i + 4)), .int (xs (i + 5))] rfl (Nat.le_of_ble_eq_true rfl) hm 1 hu hK hN hC hP hD hS hA hl.1 rfl (Nat.le_of_ble_eq_true rfl) d_law_204 (Nat.le_of_ble_eq_true rfl) (Nat.le_of_ble_eq_true rfl) (by omega) (by omega) (fun H locs hP hD hS => ?_)
    refine W.eq (g2 := F0 m 207 ls [.int w]) rfl ?_
    refine lv_istore (lv' := [(6, .int w), (5, .int k), (4, .int (nI i)), (3, .ref (ad 149)), (2, .ref (ad 67)), (1, .ref (ad 0)), (0, .ref b)]) hx hb d_law_207 hl (by decide) rfl (fun ls hl => ?_)
    refine lv_aload_n hx hb d_law_209 rfl (lv_at hl 4 rfl) ?_
    refine xa_call (rest := []) (rv := some (.int (gI t2 67 0))) (t1 := t2) SIM hfl hx hb hml hown hg 187 rfl rfl rfl mw_1822 67 13 (by decide) rfl rfl rfl [] rfl (Nat.le_of_ble_eq_true rfl) (eMo_thrown 150 t2 _ rfl) 0 (Nat.le_refl _) hK hN hC hP hD hS hA hl.1 rfl (Nat.le_of_ble_eq_true rfl) d_law_210 (Nat.le_of_ble_eq_true rfl) (Nat.le_of_ble_eq_true rfl) (by omega) (by omega) (fun H locs hP hD hS => ?_)
    refine W.eq (g2 := F0 m 213 ls [.int k]) (by rw [hth]; rfl) ?_
    refine lv_iload hx hb d_law_213 (lv_at hl 1 rfl) ?_
    refine lv_icmp_eq (tgt := 220) hx hb d_law_215 (by decide) (fun cz => ?_) (fun cz => absurd rfl cz)
    refine lv_iload hx hb d_law_220 (lv_at hl 1 rfl) ?_
    by_cases hk0 : k = 0
    · subst hk0
      refine lv_if_ne (tgt := 237) hx hb d_law_222 (by decide) (fun cz => absurd rfl cz) (fun cz => ?_)
      refine lv_aload_n hx hb d_law_225 rfl (lv_at hl 3 rfl) ?_
      refine lv_iconst (v := nI 0) hx hb d_law_226 (by decide) ?_
      refine xa_lald hx hb hK hP d_law_227 ?_
      refine W.eq (g2 := F0 m 228 ls [.long w.toInt64]) (by rw [ho rfl]) ?_
      refine lv_iload hx hb d_law_228 (lv_at hl 0 rfl) ?_
      refine lv_i2l hx hb d_law_230 rfl ?_
      refine lv_topl (fun y ey => ?_)
      replace ey : y = w.toInt64 := ey.trans rfl
      subst ey
      refine xl_cmp hx hb rfl d_law_231 ?_
      refine lv_if_eq (tgt := 237) hx hb d_law_232 (by decide) (fun cz => ?_) (fun cz => absurd rfl cz)
      refine lv_goto (tgt := 1285) hx hb d_law_237 (by decide) ?_
      refine W.widen (k := cl + 2) (n := sl + 12) (by omega) (by omega) ?_
      exact kk _ t2 H locs ls hw2 hB2 hP hD hS (lv_sub hl [2, 3, 4, 5, 6] rfl)
    · refine lv_if_ne (tgt := 237) hx hb d_law_222 (by decide) (fun cz => ?_) (fun cz => by first | exact absurd cz hk0 | exact absurd hk0 cz)
      refine lv_goto (tgt := 1285) hx hb d_law_237 (by decide) ?_
      refine W.widen (k := cl + 2) (n := sl + 12) (by omega) (by omega) ?_
      exact kk _ t2 H locs ls hw2 hB2 hP hD hS (lv_sub hl [2, 3, 4, 5, 6] rfl)
  refine lv_aload_n hx hb d_law_136 rfl (lv_at hl 3 rfl) ?_
  refine lv_aload_n hx hb d_law_137 rfl (lv_at hl 4 rfl) ?_
  refine lv_iload hx hb d_law_138 (lv_at hl 0 rfl) ?_
  refine lv_iconst (v := nI 1) hx hb d_law_140 (by decide) ?_
  refine lv_iadd hx hb d_law_141 ?_
  refine lv_topi (fun y ey => ?_)
  replace ey : y = nI (i + 1) := ey.trans (nI_add i 1)
  subst ey
  refine xb_sld hx hb hX hbl hbA hS (k := i + 1) (by omega) hL d_law_142 ?_
  refine lv_aload_n hx hb d_law_143 rfl (lv_at hl 4 rfl) ?_
  refine lv_iload hx hb d_law_144 (lv_at hl 0 rfl) ?_
  refine lv_iconst (v := nI 2) hx hb d_law_146 (by decide) ?_
  refine lv_iadd hx hb d_law_147 ?_
  refine lv_topi (fun y ey => ?_)
  replace ey : y = nI (i + 2) := ey.trans (nI_add i 2)
  subst ey
  refine xb_sld hx hb hX hbl hbA hS (k := i + 2) (by omega) hL d_law_148 ?_
  refine lv_aload_n hx hb d_law_149 rfl (lv_at hl 4 rfl) ?_
  refine lv_iload hx hb d_law_150 (lv_at hl 0 rfl) ?_
  refine lv_iconst (v := nI 3) hx hb d_law_152 (by decide) ?_
  refine lv_iadd hx hb d_law_153 ?_
  refine lv_topi (fun y ey => ?_)
  replace ey : y = nI (i + 3) := ey.trans (nI_add i 3)
  subst ey
  refine xb_sld hx hb hX hbl hbA hS (k := i + 3) (by omega) hL d_law_154 ?_
  refine lv_aload_n hx hb d_law_155 rfl (lv_at hl 4 rfl) ?_
  refine lv_iload hx hb d_law_156 (lv_at hl 0 rfl) ?_
  refine lv_iconst (v := nI 4) hx hb d_law_158 (by decide) ?_
  refine lv_iadd hx hb d_law_159 ?_
  refine lv_topi (fun y ey => ?_)
  replace ey : y = nI (i + 4) := ey.trans (nI_add i 4)
  subst ey
  refine xb_sld hx hb hX hbl hbA hS (k := i + 4) (by omega) hL d_law_160 ?_
  refine lv_aload_n hx hb d_law_161 rfl (lv_at hl 4 rfl) ?_
  refine lv_iload hx hb d_law_162 (lv_at hl 0 rfl) ?_
  refine lv_iconst (v := nI 5) hx hb d_law_164 (by decide) ?_
  refine lv_iadd hx hb d_law_165 ?_
  refine lv_topi (fun y ey => ?_)
  replace ey : y = nI (i + 5) := ey.trans (nI_add i 5)
  subst ey
  refine xb_sld hx hb hX hbl hbA hS (k := i + 5) (by omega) hL d_law_166 ?_
  refine lv_aload_n hx hb d_law_167 rfl (lv_at hl 1 rfl) ?_
  rcases hk with ⟨rfl, t1, hr, rfl⟩ | ⟨rfl, hr, rfl⟩
  · refine xa_ret (h := toH t) (h1 := toH (pL t1 149 0 w.toInt64)) (rv := some (.int 0)) (xt_runSW (n := 7) (As := [.ref (ad 0), .int (xs (i + 1)), .int (xs (i + 2)), .int (xs (i + 3)), .int (xs (i + 4)), .int (xs (i + 5)), .ref (ad 149)]) (rest := []) ⟨hx, hb, hml, hown, hg⟩ (wo_feed SIM l hfl H.size (xs (i + 1)) (xs (i + 2)) (xs (i + 3)) (xs (i + 4)) (xs (i + 5)) hr) mw_966 mw_967 mw_0 mw_968 rfl rfl (by decide +kernel) ⟨(Nat.le_of_ble_eq_true rfl), (Nat.le_of_ble_eq_true rfl)⟩ (xa_preN hno hK hN hC hP hD hS hA) rfl rfl hl.1 rfl (lv_room (Nat.le_of_ble_eq_true rfl)) d_law_168 ⟨by omega, by omega⟩) hD hS hA (fun H locs hP hD hS => ?_)
    exact tail H locs ls _ _ (by omega) (by omega) hP hD hS hl
  · refine xa_ret (h := toH ta) (h1 := toH ta) (rv := some (.int 1)) (xt_runSW (n := 7) (As := [.ref (ad 0), .int (xs (i + 1)), .int (xs (i + 2)), .int (xs (i + 3)), .int (xs (i + 4)), .int (xs (i + 5)), .ref (ad 149)]) (rest := []) ⟨hx, hb, hml, hown, hg⟩ (wx_feed SIM l hfl H.size (xs (i + 1)) (xs (i + 2)) (xs (i + 3)) (xs (i + 4)) (xs (i + 5)) hr) mw_966 mw_967 mw_0 mw_968 rfl rfl (by decide +kernel) ⟨(Nat.le_of_ble_eq_true rfl), (Nat.le_of_ble_eq_true rfl)⟩ (xa_preN hno hK hN hC hP hD hS hA) rfl rfl hl.1 rfl (lv_room (Nat.le_of_ble_eq_true rfl)) d_law_168 ⟨by omega, by omega⟩) hD hS hA (fun H locs hP hD hS => ?_)
    exact tail H locs ls _ _ (by omega) (by omega) hP hD hS hl
set_option maxHeartbeats 4000000 in
set_option maxRecDepth 100000 in
theorem Ar_end (SIM : xSim kA ad kS D) : xArm kA ad kS D 240 := by
  intro p l e s m below meth c b L xs A Q B i hi hL cl sl hcl hsl n hn S t hw hB H locs ls hP hD hS hl kk
  obtain ⟨hfl, hx, hb, hml, hown, hg, hK, hN, hno, hC, hX, hbl, hA, hbA⟩ := B
  obtain ⟨k, ta, t2, hk, hm, ⟨hu, hth, hB2⟩⟩ := yA_v (G := fun ta => fMo_end 150 (xs (i + 1)) ta) (L_end hw hB.1 150 (E := fun k => 1) rfl (xs (i + 1))) (Y_end (xs (i + 1))) hB (fun ta h => M_end hw h 149 (xs (i + 1)))
  have hw2 : yWf (y_end (xs (i + 1)) S).2 := W_end hw (xs (i + 1))
  have tail : ∀ (H : Heap) (locs : List Loc) (ls : Array Slot) (c9 s9 : Nat), c9 ≤ cl + 1 → s9 ≤ sl + 6 → va_P D vC (aV kA ad ta) H → va_D A (aV kA ad ta) → va_S A s.heap H locs → lv_has ls 8 [(4, .int (nI i)), (3, .ref (ad 149)), (2, .ref (ad 67)), (1, .ref (ad 0)), (0, .ref b)] → W p l e room_1 s m #[Value.ref b] below meth c H locs c9 s9 Q (F0 m 250 ls [.int k]) := by
    intro H locs ls c9 s9 hc9 hs9 hP hD hS hl
    refine lv_istore (lv' := [(5, .int k), (4, .int (nI i)), (3, .ref (ad 149)), (2, .ref (ad 67)), (1, .ref (ad 0)), (0, .ref b)]) hx hb d_law_250 hl (by decide) rfl (fun ls hl => ?_)
    refine lv_aload_n hx hb d_law_252 rfl (lv_at hl 3 rfl) ?_
    refine lv_aload_n hx hb d_law_253 rfl (lv_at hl 5 rfl) ?_
    refine lv_iload hx hb d_law_254 (lv_at hl 1 rfl) ?_
    refine lv_iconst (v := nI 1) hx hb d_law_256 (by decide) ?_
    refine lv_iadd hx hb d_law_257 ?_
    refine lv_topi (fun y ey => ?_)
    replace ey : y = nI (i + 1) := ey.trans (nI_add i 1)
    subst ey
    refine xb_sld hx hb hX hbl hbA hS (k := i + 1) (by omega) hL d_law_258 ?_
    refine xa_call (rest := []) (rv := none) (t1 := t2) SIM hfl hx hb hml hown hg 191 rfl rfl rfl mw_1838 67 13 (by decide) rfl rfl rfl [.int (xs (i + 1))] rfl (Nat.le_of_ble_eq_true rfl) hm 1 hu hK hN hC hP hD hS hA hl.1 rfl (Nat.le_of_ble_eq_true rfl) d_law_259 (Nat.le_of_ble_eq_true rfl) (Nat.le_of_ble_eq_true rfl) (by omega) (by omega) (fun H locs hP hD hS => ?_)
    refine W.eq (g2 := F0 m 262 ls []) rfl ?_
    refine lv_aload_n hx hb d_law_262 rfl (lv_at hl 3 rfl) ?_
    refine xa_call (rest := []) (rv := some (.int (gI t2 67 0))) (t1 := t2) SIM hfl hx hb hml hown hg 187 rfl rfl rfl mw_1822 67 13 (by decide) rfl rfl rfl [] rfl (Nat.le_of_ble_eq_true rfl) (eMo_thrown 150 t2 _ rfl) 0 (Nat.le_refl _) hK hN hC hP hD hS hA hl.1 rfl (Nat.le_of_ble_eq_true rfl) d_law_263 (Nat.le_of_ble_eq_true rfl) (Nat.le_of_ble_eq_true rfl) (by omega) (by omega) (fun H locs hP hD hS => ?_)
    refine W.eq (g2 := F0 m 266 ls [.int k]) (by rw [hth]; rfl) ?_
    refine lv_iload hx hb d_law_266 (lv_at hl 0 rfl) ?_
    refine lv_icmp_eq (tgt := 273) hx hb d_law_268 (by decide) (fun cz => ?_) (fun cz => absurd rfl cz)
    refine lv_goto (tgt := 1285) hx hb d_law_273 (by decide) ?_
    refine W.widen (k := cl + 2) (n := sl + 12) (by omega) (by omega) ?_
    exact kk _ t2 H locs ls hw2 hB2 hP hD hS (lv_sub hl [1, 2, 3, 4, 5] rfl)
  refine lv_aload_n hx hb d_law_240 rfl (lv_at hl 3 rfl) ?_
  refine lv_aload_n hx hb d_law_241 rfl (lv_at hl 4 rfl) ?_
  refine lv_iload hx hb d_law_242 (lv_at hl 0 rfl) ?_
  refine lv_iconst (v := nI 1) hx hb d_law_244 (by decide) ?_
  refine lv_iadd hx hb d_law_245 ?_
  refine lv_topi (fun y ey => ?_)
  replace ey : y = nI (i + 1) := ey.trans (nI_add i 1)
  subst ey
  refine xb_sld hx hb hX hbl hbA hS (k := i + 1) (by omega) hL d_law_246 ?_
  rcases hk with ⟨rfl, hr⟩ | ⟨rfl, hr, rfl⟩
  · refine xa_ret (h := toH t) (h1 := toH ta) (rv := some (.int 0)) (xt_runSW (n := 2) (As := [.ref (ad 0), .int (xs (i + 1))]) (rest := []) ⟨hx, hb, hml, hown, hg⟩ (wo_end SIM l hfl H.size (xs (i + 1)) hr) mw_1045 mw_1046 mw_0 mw_1047 rfl rfl (by decide +kernel) ⟨(Nat.le_of_ble_eq_true rfl), (Nat.le_of_ble_eq_true rfl)⟩ (xa_preN hno hK hN hC hP hD hS hA) rfl rfl hl.1 rfl (lv_room (Nat.le_of_ble_eq_true rfl)) d_law_247 ⟨by omega, by omega⟩) hD hS hA (fun H locs hP hD hS => ?_)
    exact tail H locs ls _ _ (by omega) (by omega) hP hD hS hl
  · refine xa_ret (h := toH ta) (h1 := toH ta) (rv := some (.int 1)) (xt_runSW (n := 2) (As := [.ref (ad 0), .int (xs (i + 1))]) (rest := []) ⟨hx, hb, hml, hown, hg⟩ (wx_end SIM l hfl H.size (xs (i + 1)) hr) mw_1045 mw_1046 mw_0 mw_1047 rfl rfl (by decide +kernel) ⟨(Nat.le_of_ble_eq_true rfl), (Nat.le_of_ble_eq_true rfl)⟩ (xa_preN hno hK hN hC hP hD hS hA) rfl rfl hl.1 rfl (lv_room (Nat.le_of_ble_eq_true rfl)) d_law_247 ⟨by omega, by omega⟩) hD hS hA (fun H locs hP hD hS => ?_)
    exact tail H locs ls _ _ (by omega) (by omega) hP hD hS hl
set_option maxHeartbeats 4000000 in
set_option maxRecDepth 100000 in
theorem Ar_schema (SIM : xSim kA ad kS D) : xArm kA ad kS D 276 := by
  intro p l e s m below meth c b L xs A Q B i hi hL cl sl hcl hsl n hn S t hw hB H locs ls hP hD hS hl kk
  obtain ⟨hfl, hx, hb, hml, hown, hg, hK, hN, hno, hC, hX, hbl, hA, hbA⟩ := B
  obtain ⟨w, t1, t2, hrun, hm, hu, hB2⟩ := yA_0 (G := fun ta => fMo_schema 150 ta) (L_schema hw hB.1 59 (fun _ => 0) ) rfl hB (fun ta h => M_schema hw h 89 )
  refine lv_aload_n hx hb d_law_276 rfl (lv_at hl 3 rfl) ?_
  refine xa_call (rest := []) (rv := some (.int w)) (t1 := t1) SIM hfl hx hb hml hown hg 0 rfl rfl rfl mw_535 0 11 (by decide) rfl rfl rfl [] rfl (Nat.le_of_ble_eq_true rfl) hrun 0 (ev_u0 (by decide) (rfl : aTB 0 = some _) hrun) hK hN hC hP hD hS hA hl.1 rfl (Nat.le_of_ble_eq_true rfl) d_law_277 (Nat.le_of_ble_eq_true rfl) (Nat.le_of_ble_eq_true rfl) (by omega) (by omega) (fun H locs hP hD hS => ?_)
  refine W.eq (g2 := F0 m 280 ls [.int w]) rfl ?_
  refine lv_aload_n hx hb d_law_280 rfl (lv_at hl 2 rfl) ?_
  refine xa_call (rest := [.int w]) (rv := some (.int w)) (t1 := t2) SIM hfl hx hb hml hown hg 193 rfl rfl rfl mw_1845 67 13 (by decide) rfl rfl rfl [] rfl (Nat.le_of_ble_eq_true rfl) hm 1 hu hK hN hC hP hD hS hA hl.1 rfl (Nat.le_of_ble_eq_true rfl) d_law_281 (Nat.le_of_ble_eq_true rfl) (Nat.le_of_ble_eq_true rfl) (by omega) (by omega) (fun H locs hP hD hS => ?_)
  refine W.eq (g2 := F0 m 284 ls [.int w, .int w]) rfl ?_
  refine lv_icmp_eq (tgt := 1285) hx hb d_law_284 (by decide) (fun cz => ?_) (fun cz => absurd rfl cz)
  refine W.widen (k := cl + 2) (n := sl + 12) (by omega) (by omega) ?_
  exact kk _ t2 H locs ls (W_schema hw) hB2 hP hD hS hl
set_option maxHeartbeats 4000000 in
set_option maxRecDepth 100000 in
theorem Ar_place (SIM : xSim kA ad kS D) : xArm kA ad kS D 413 := by
  intro p l e s m below meth c b L xs A Q B i hi hL cl sl hcl hsl n hn S t hw hB H locs ls hP hD hS hl kk
  obtain ⟨hfl, hx, hb, hml, hown, hg, hK, hN, hno, hC, hX, hbl, hA, hbA⟩ := B
  obtain ⟨w, t1, t2, hrun, hm, hu, hB2⟩ := yA_0 (G := fun ta => fMo_place 150 ta) (L_place hB.1 150 (fun _ => 0) ) rfl hB (fun ta h => M_place h 150 )
  refine lv_aload_n hx hb d_law_413 rfl (lv_at hl 3 rfl) ?_
  refine xa_call (rest := []) (rv := some (.int w)) (t1 := t1) SIM hfl hx hb hml hown hg 80 rfl rfl rfl mw_958 0 11 (by decide) rfl rfl rfl [] rfl (Nat.le_of_ble_eq_true rfl) hrun 0 (ev_u0 (by decide) (rfl : aTB 80 = some _) hrun) hK hN hC hP hD hS hA hl.1 rfl (Nat.le_of_ble_eq_true rfl) d_law_414 (Nat.le_of_ble_eq_true rfl) (Nat.le_of_ble_eq_true rfl) (by omega) (by omega) (fun H locs hP hD hS => ?_)
  refine W.eq (g2 := F0 m 417 ls [.int w]) rfl ?_
  refine lv_aload_n hx hb d_law_417 rfl (lv_at hl 2 rfl) ?_
  refine xa_call (rest := [.int w]) (rv := some (.int w)) (t1 := t2) SIM hfl hx hb hml hown hg 266 rfl rfl rfl mw_2235 67 13 (by decide) rfl rfl rfl [] rfl (Nat.le_of_ble_eq_true rfl) hm 1 hu hK hN hC hP hD hS hA hl.1 rfl (Nat.le_of_ble_eq_true rfl) d_law_418 (Nat.le_of_ble_eq_true rfl) (Nat.le_of_ble_eq_true rfl) (by omega) (by omega) (fun H locs hP hD hS => ?_)
  refine W.eq (g2 := F0 m 421 ls [.int w, .int w]) rfl ?_
  refine lv_icmp_eq (tgt := 1285) hx hb d_law_421 (by decide) (fun cz => ?_) (fun cz => absurd rfl cz)
  refine W.widen (k := cl + 2) (n := sl + 12) (by omega) (by omega) ?_
  exact kk _ t2 H locs ls hw hB2 hP hD hS hl
set_option maxHeartbeats 4000000 in
set_option maxRecDepth 100000 in
theorem Ar_files (SIM : xSim kA ad kS D) : xArm kA ad kS D 1192 := by
  intro p l e s m below meth c b L xs A Q B i hi hL cl sl hcl hsl n hn S t hw hB H locs ls hP hD hS hl kk
  obtain ⟨hfl, hx, hb, hml, hown, hg, hK, hN, hno, hC, hX, hbl, hA, hbA⟩ := B
  obtain ⟨w, t1, t2, hrun, hm, hu, hB2⟩ := yA_0 (G := fun ta => fMo_files 150 ta) (L_files hB.1 150 (fun _ => 0) ) rfl hB (fun ta h => M_files h 150 )
  refine lv_aload_n hx hb d_law_1192 rfl (lv_at hl 3 rfl) ?_
  refine xa_call (rest := []) (rv := some (.int w)) (t1 := t1) SIM hfl hx hb hml hown hg 81 rfl rfl rfl mw_962 0 11 (by decide) rfl rfl rfl [] rfl (Nat.le_of_ble_eq_true rfl) hrun 0 (ev_u0 (by decide) (rfl : aTB 81 = some _) hrun) hK hN hC hP hD hS hA hl.1 rfl (Nat.le_of_ble_eq_true rfl) d_law_1193 (Nat.le_of_ble_eq_true rfl) (Nat.le_of_ble_eq_true rfl) (by omega) (by omega) (fun H locs hP hD hS => ?_)
  refine W.eq (g2 := F0 m 1196 ls [.int w]) rfl ?_
  refine lv_aload_n hx hb d_law_1196 rfl (lv_at hl 2 rfl) ?_
  refine xa_call (rest := [.int w]) (rv := some (.int w)) (t1 := t2) SIM hfl hx hb hml hown hg 298 rfl rfl rfl mw_2365 67 13 (by decide) rfl rfl rfl [] rfl (Nat.le_of_ble_eq_true rfl) hm 1 hu hK hN hC hP hD hS hA hl.1 rfl (Nat.le_of_ble_eq_true rfl) d_law_1197 (Nat.le_of_ble_eq_true rfl) (Nat.le_of_ble_eq_true rfl) (by omega) (by omega) (fun H locs hP hD hS => ?_)
  refine W.eq (g2 := F0 m 1200 ls [.int w, .int w]) rfl ?_
  refine lv_icmp_eq (tgt := 1285) hx hb d_law_1200 (by decide) (fun cz => ?_) (fun cz => absurd rfl cz)
  refine W.widen (k := cl + 2) (n := sl + 12) (by omega) (by omega) ?_
  exact kk _ t2 H locs ls hw hB2 hP hD hS hl
end ArA0
