section ArA3
variable {kA : Nat → ClassId} {ad : Nat → Nat} {D : va_G} {kS : Nat → Nat}
set_option maxHeartbeats 4000000 in
set_option maxRecDepth 100000 in
theorem Ar_fits (SIM : xSim kA ad kS D) : xArm kA ad kS D 766 := by
  intro p l e s m below meth c b L xs A Q B i hi hL cl sl hcl hsl n hn S t hw hB H locs ls hP hD hS hl kk
  obtain ⟨hfl, hx, hb, hml, hown, hg, hK, hN, hno, hC, hX, hbl, hA, hbA⟩ := B
  obtain ⟨k, ta, w, t2, hk, hm, ⟨hu, hth, hB2⟩, ho, hwr⟩ := yA_1 (G := fun ta => fMo_fits 150 (xs (i + 1)) (xs (i + 2)) (xs (i + 3)) (xs (i + 4)) ta) (L_fits hw hn hB.1 127 (E := fun k => 2) rfl (xs (i + 1)) (xs (i + 2)) (xs (i + 3)) (xs (i + 4))) (Y_fits (xs (i + 1)) (xs (i + 2)) (xs (i + 3)) (xs (i + 4))).1 hB (fun ta h => M_fits hw h 90 (xs (i + 1)) (xs (i + 2)) (xs (i + 3)) (xs (i + 4)))
  have hw2 : yWf (y_fits (xs (i + 1)) (xs (i + 2)) (xs (i + 3)) (xs (i + 4)) S).2.2 := by rw [show _ = S from Sk_fits (xs (i + 1)) (xs (i + 2)) (xs (i + 3)) (xs (i + 4))]; exact hw
  have tail : ∀ (H : Heap) (locs : List Loc) (ls : Array Slot) (c9 s9 : Nat), c9 ≤ cl + 1 → s9 ≤ sl + 6 → va_P D vC (aV kA ad ta) H → va_D A (aV kA ad ta) → va_S A s.heap H locs → lv_has ls 8 [(4, .int (nI i)), (3, .ref (ad 149)), (2, .ref (ad 67)), (1, .ref (ad 0)), (0, .ref b)] → W p l e room_1 s m #[Value.ref b] below meth c H locs c9 s9 Q (F0 m 795 ls [.int k]) := by
    intro H locs ls c9 s9 hc9 hs9 hP hD hS hl
    refine lv_istore (lv' := [(5, .int k), (4, .int (nI i)), (3, .ref (ad 149)), (2, .ref (ad 67)), (1, .ref (ad 0)), (0, .ref b)]) hx hb d_law_795 hl (by decide) rfl (fun ls hl => ?_)
    refine lv_aload_n hx hb d_law_797 rfl (lv_at hl 3 rfl) ?_
    refine lv_aload_n hx hb d_law_798 rfl (lv_at hl 5 rfl) ?_
    refine lv_iload hx hb d_law_799 (lv_at hl 1 rfl) ?_
    refine lv_iconst (v := nI 1) hx hb d_law_801 (by decide) ?_
    refine lv_iadd hx hb d_law_802 ?_
    refine lv_topi (fun y ey => ?_)
    replace ey : y = nI (i + 1) := ey.trans (nI_add i 1)
    subst ey
    refine xb_sld hx hb hX hbl hbA hS (k := i + 1) (by omega) hL d_law_803 ?_
    refine lv_aload_n hx hb d_law_804 rfl (lv_at hl 5 rfl) ?_
    refine lv_iload hx hb d_law_805 (lv_at hl 1 rfl) ?_
    refine lv_iconst (v := nI 2) hx hb d_law_807 (by decide) ?_
    refine lv_iadd hx hb d_law_808 ?_
    refine lv_topi (fun y ey => ?_)
    replace ey : y = nI (i + 2) := ey.trans (nI_add i 2)
    subst ey
    refine xb_sld hx hb hX hbl hbA hS (k := i + 2) (by omega) hL d_law_809 ?_
    refine lv_aload_n hx hb d_law_810 rfl (lv_at hl 5 rfl) ?_
    refine lv_iload hx hb d_law_811 (lv_at hl 1 rfl) ?_
    refine lv_iconst (v := nI 3) hx hb d_law_813 (by decide) ?_
    refine lv_iadd hx hb d_law_814 ?_
    refine lv_topi (fun y ey => ?_)
    replace ey : y = nI (i + 3) := ey.trans (nI_add i 3)
    subst ey
    refine xb_sld hx hb hX hbl hbA hS (k := i + 3) (by omega) hL d_law_815 ?_
    refine lv_aload_n hx hb d_law_816 rfl (lv_at hl 5 rfl) ?_
    refine lv_iload hx hb d_law_817 (lv_at hl 1 rfl) ?_
    refine lv_iconst (v := nI 4) hx hb d_law_819 (by decide) ?_
    refine lv_iadd hx hb d_law_820 ?_
    refine lv_topi (fun y ey => ?_)
    replace ey : y = nI (i + 4) := ey.trans (nI_add i 4)
    subst ey
    refine xb_sld hx hb hX hbl hbA hS (k := i + 4) (by omega) hL d_law_821 ?_
    refine xa_call (rest := []) (rv := some (.int w)) (t1 := t2) SIM hfl hx hb hml hown hg 269 rfl rfl rfl mw_2246 67 13 (by decide) rfl rfl rfl [.int (xs (i + 1)), .int (xs (i + 2)), .int (xs (i + 3)), .int (xs (i + 4))] rfl (Nat.le_of_ble_eq_true rfl) hm 1 hu hK hN hC hP hD hS hA hl.1 rfl (Nat.le_of_ble_eq_true rfl) d_law_822 (Nat.le_of_ble_eq_true rfl) (Nat.le_of_ble_eq_true rfl) (by omega) (by omega) (fun H locs hP hD hS => ?_)
    refine W.eq (g2 := F0 m 825 ls [.int w]) rfl ?_
    refine lv_istore (lv' := [(6, .int w), (5, .int k), (4, .int (nI i)), (3, .ref (ad 149)), (2, .ref (ad 67)), (1, .ref (ad 0)), (0, .ref b)]) hx hb d_law_825 hl (by decide) rfl (fun ls hl => ?_)
    refine lv_aload_n hx hb d_law_827 rfl (lv_at hl 4 rfl) ?_
    refine xa_call (rest := []) (rv := some (.int (gI t2 67 0))) (t1 := t2) SIM hfl hx hb hml hown hg 187 rfl rfl rfl mw_1822 67 13 (by decide) rfl rfl rfl [] rfl (Nat.le_of_ble_eq_true rfl) (eMo_thrown 150 t2 _ rfl) 0 (Nat.le_refl _) hK hN hC hP hD hS hA hl.1 rfl (Nat.le_of_ble_eq_true rfl) d_law_828 (Nat.le_of_ble_eq_true rfl) (Nat.le_of_ble_eq_true rfl) (by omega) (by omega) (fun H locs hP hD hS => ?_)
    refine W.eq (g2 := F0 m 831 ls [.int k]) (by rw [hth]; rfl) ?_
    refine lv_iload hx hb d_law_831 (lv_at hl 1 rfl) ?_
    refine lv_icmp_eq (tgt := 838) hx hb d_law_833 (by decide) (fun cz => ?_) (fun cz => absurd rfl cz)
    refine lv_iload hx hb d_law_838 (lv_at hl 1 rfl) ?_
    by_cases hk0 : k = 0
    · subst hk0
      refine lv_if_ne (tgt := 862) hx hb d_law_840 (by decide) (fun cz => absurd rfl cz) (fun cz => ?_)
      refine lv_aload_n hx hb d_law_843 rfl (lv_at hl 3 rfl) ?_
      refine lv_iconst (v := nI 0) hx hb d_law_844 (by decide) ?_
      refine xa_lald hx hb hK hP d_law_845 ?_
      refine W.eq (g2 := F0 m 846 ls [.long w.toInt64]) (by rw [ho rfl]) ?_
      refine lv_iload hx hb d_law_846 (lv_at hl 0 rfl) ?_
      have tl : W p l e room_1 s m #[Value.ref b] below meth c H locs (c9 + 1 + 0) (s9 + 6 * 1 + 6 * 0) Q (F0 m 856 ls [.long w.toInt64, .long w.toInt64]) := by
        refine xl_cmp hx hb rfl d_law_856 ?_
        refine lv_if_eq (tgt := 862) hx hb d_law_857 (by decide) (fun cz => ?_) (fun cz => absurd rfl cz)
        refine lv_goto (tgt := 1285) hx hb d_law_862 (by decide) ?_
        refine W.widen (k := cl + 2) (n := sl + 12) (by omega) (by omega) ?_
        exact kk _ t2 H locs ls hw2 hB2 hP hD hS (lv_sub hl [2, 3, 4, 5, 6] rfl)
      rcases hwr rfl ▸ (Y_fits (S := S) (xs (i + 1)) (xs (i + 2)) (xs (i + 3)) (xs (i + 4))).2 with e1 | e0
      · subst e1
        refine lv_if_eq (tgt := 855) hx hb d_law_848 (by decide) (fun cz => absurd cz (by decide)) (fun cz => ?_)
        refine lv_lconst (v := 1) hx hb d_law_851 (by decide) ?_
        refine lv_goto (tgt := 856) hx hb d_law_852 (by decide) ?_
        exact tl
      · subst e0
        refine lv_if_eq (tgt := 855) hx hb d_law_848 (by decide) (fun cz => ?_) (fun cz => absurd rfl cz)
        refine lv_lconst (v := 0) hx hb d_law_855 (by decide) ?_
        exact tl
    · refine lv_if_ne (tgt := 862) hx hb d_law_840 (by decide) (fun cz => ?_) (fun cz => by first | exact absurd cz hk0 | exact absurd hk0 cz)
      refine lv_goto (tgt := 1285) hx hb d_law_862 (by decide) ?_
      refine W.widen (k := cl + 2) (n := sl + 12) (by omega) (by omega) ?_
      exact kk _ t2 H locs ls hw2 hB2 hP hD hS (lv_sub hl [2, 3, 4, 5, 6] rfl)
  refine lv_aload_n hx hb d_law_766 rfl (lv_at hl 3 rfl) ?_
  refine lv_aload_n hx hb d_law_767 rfl (lv_at hl 4 rfl) ?_
  refine lv_iload hx hb d_law_768 (lv_at hl 0 rfl) ?_
  refine lv_iconst (v := nI 1) hx hb d_law_770 (by decide) ?_
  refine lv_iadd hx hb d_law_771 ?_
  refine lv_topi (fun y ey => ?_)
  replace ey : y = nI (i + 1) := ey.trans (nI_add i 1)
  subst ey
  refine xb_sld hx hb hX hbl hbA hS (k := i + 1) (by omega) hL d_law_772 ?_
  refine lv_aload_n hx hb d_law_773 rfl (lv_at hl 4 rfl) ?_
  refine lv_iload hx hb d_law_774 (lv_at hl 0 rfl) ?_
  refine lv_iconst (v := nI 2) hx hb d_law_776 (by decide) ?_
  refine lv_iadd hx hb d_law_777 ?_
  refine lv_topi (fun y ey => ?_)
  replace ey : y = nI (i + 2) := ey.trans (nI_add i 2)
  subst ey
  refine xb_sld hx hb hX hbl hbA hS (k := i + 2) (by omega) hL d_law_778 ?_
  refine lv_aload_n hx hb d_law_779 rfl (lv_at hl 4 rfl) ?_
  refine lv_iload hx hb d_law_780 (lv_at hl 0 rfl) ?_
  refine lv_iconst (v := nI 3) hx hb d_law_782 (by decide) ?_
  refine lv_iadd hx hb d_law_783 ?_
  refine lv_topi (fun y ey => ?_)
  replace ey : y = nI (i + 3) := ey.trans (nI_add i 3)
  subst ey
  refine xb_sld hx hb hX hbl hbA hS (k := i + 3) (by omega) hL d_law_784 ?_
  refine lv_aload_n hx hb d_law_785 rfl (lv_at hl 4 rfl) ?_
  refine lv_iload hx hb d_law_786 (lv_at hl 0 rfl) ?_
  refine lv_iconst (v := nI 4) hx hb d_law_788 (by decide) ?_
  refine lv_iadd hx hb d_law_789 ?_
  refine lv_topi (fun y ey => ?_)
  replace ey : y = nI (i + 4) := ey.trans (nI_add i 4)
  subst ey
  refine xb_sld hx hb hX hbl hbA hS (k := i + 4) (by omega) hL d_law_790 ?_
  refine lv_aload_n hx hb d_law_791 rfl (lv_at hl 1 rfl) ?_
  rcases hk with ⟨rfl, t1, hr, rfl⟩ | ⟨rfl, hr, rfl⟩
  · refine xa_ret (h := toH t) (h1 := toH (pL t1 149 0 w.toInt64)) (rv := some (.int 0)) (xt_runSW (n := 6) (As := [.ref (ad 0), .int (xs (i + 1)), .int (xs (i + 2)), .int (xs (i + 3)), .int (xs (i + 4)), .ref (ad 149)]) (rest := []) ⟨hx, hb, hml, hown, hg⟩ (wo_fits SIM l hfl H.size (xs (i + 1)) (xs (i + 2)) (xs (i + 3)) (xs (i + 4)) hr (hwr rfl ▸ (Y_fits (S := S) (xs (i + 1)) (xs (i + 2)) (xs (i + 3)) (xs (i + 4))).2)) mw_1483 mw_1484 mw_0 mw_1485 rfl rfl (by decide +kernel) ⟨(Nat.le_of_ble_eq_true rfl), (Nat.le_of_ble_eq_true rfl)⟩ (xa_preN hno hK hN hC hP hD hS hA) rfl rfl hl.1 rfl (lv_room (Nat.le_of_ble_eq_true rfl)) d_law_792 ⟨by omega, by omega⟩) hD hS hA (fun H locs hP hD hS => ?_)
    exact tail H locs ls _ _ (by omega) (by omega) hP hD hS hl
  · refine xa_ret (h := toH ta) (h1 := toH ta) (rv := some (.int 1)) (xt_runSW (n := 6) (As := [.ref (ad 0), .int (xs (i + 1)), .int (xs (i + 2)), .int (xs (i + 3)), .int (xs (i + 4)), .ref (ad 149)]) (rest := []) ⟨hx, hb, hml, hown, hg⟩ (wx_fits SIM l hfl H.size (xs (i + 1)) (xs (i + 2)) (xs (i + 3)) (xs (i + 4)) hr) mw_1483 mw_1484 mw_0 mw_1485 rfl rfl (by decide +kernel) ⟨(Nat.le_of_ble_eq_true rfl), (Nat.le_of_ble_eq_true rfl)⟩ (xa_preN hno hK hN hC hP hD hS hA) rfl rfl hl.1 rfl (lv_room (Nat.le_of_ble_eq_true rfl)) d_law_792 ⟨by omega, by omega⟩) hD hS hA (fun H locs hP hD hS => ?_)
    exact tail H locs ls _ _ (by omega) (by omega) hP hD hS hl
set_option maxHeartbeats 4000000 in
set_option maxRecDepth 100000 in
theorem Ar_count (SIM : xSim kA ad kS D) : xArm kA ad kS D 865 := by
  intro p l e s m below meth c b L xs A Q B i hi hL cl sl hcl hsl n hn S t hw hB H locs ls hP hD hS hl kk
  obtain ⟨hfl, hx, hb, hml, hown, hg, hK, hN, hno, hC, hX, hbl, hA, hbA⟩ := B
  obtain ⟨k, ta, w, t2, hk, hm, ⟨hu, hth, hB2⟩, ho, hwr⟩ := yA_2 (G := fun ta => fMo_count 150 (xs (i + 1)) (xs (i + 2)) ta) (L_count hw hB.1 147 (E := fun k => if k = 1 then 2 else 1) ⟨rfl, rfl⟩ (xs (i + 1)) (xs (i + 2))) (Y_count (xs (i + 1)) (xs (i + 2))) hB (fun ta h => M_count hw h 148 (xs (i + 1)) (xs (i + 2)))
  have hw2 : yWf (y_count (xs (i + 1)) (xs (i + 2)) S).2.2 := by rw [show _ = S from Sk_count (xs (i + 1)) (xs (i + 2))]; exact hw
  have tail : ∀ (H : Heap) (locs : List Loc) (ls : Array Slot) (c9 s9 : Nat), c9 ≤ cl + 1 → s9 ≤ sl + 6 → va_P D vC (aV kA ad ta) H → va_D A (aV kA ad ta) → va_S A s.heap H locs → lv_has ls 8 [(4, .int (nI i)), (3, .ref (ad 149)), (2, .ref (ad 67)), (1, .ref (ad 0)), (0, .ref b)] → W p l e room_1 s m #[Value.ref b] below meth c H locs c9 s9 Q (F0 m 882 ls [.int k]) := by
    intro H locs ls c9 s9 hc9 hs9 hP hD hS hl
    refine lv_istore (lv' := [(5, .int k), (4, .int (nI i)), (3, .ref (ad 149)), (2, .ref (ad 67)), (1, .ref (ad 0)), (0, .ref b)]) hx hb d_law_882 hl (by decide) rfl (fun ls hl => ?_)
    refine lv_aload_n hx hb d_law_884 rfl (lv_at hl 3 rfl) ?_
    refine lv_aload_n hx hb d_law_885 rfl (lv_at hl 5 rfl) ?_
    refine lv_iload hx hb d_law_886 (lv_at hl 1 rfl) ?_
    refine lv_iconst (v := nI 1) hx hb d_law_888 (by decide) ?_
    refine lv_iadd hx hb d_law_889 ?_
    refine lv_topi (fun y ey => ?_)
    replace ey : y = nI (i + 1) := ey.trans (nI_add i 1)
    subst ey
    refine xb_sld hx hb hX hbl hbA hS (k := i + 1) (by omega) hL d_law_890 ?_
    refine lv_aload_n hx hb d_law_891 rfl (lv_at hl 5 rfl) ?_
    refine lv_iload hx hb d_law_892 (lv_at hl 1 rfl) ?_
    refine lv_iconst (v := nI 2) hx hb d_law_894 (by decide) ?_
    refine lv_iadd hx hb d_law_895 ?_
    refine lv_topi (fun y ey => ?_)
    replace ey : y = nI (i + 2) := ey.trans (nI_add i 2)
    subst ey
    refine xb_sld hx hb hX hbl hbA hS (k := i + 2) (by omega) hL d_law_896 ?_
    refine xa_call (rest := []) (rv := some (.int w)) (t1 := t2) SIM hfl hx hb hml hown hg 291 rfl rfl rfl mw_2335 67 13 (by decide) rfl rfl rfl [.int (xs (i + 1)), .int (xs (i + 2))] rfl (Nat.le_of_ble_eq_true rfl) hm 1 hu hK hN hC hP hD hS hA hl.1 rfl (Nat.le_of_ble_eq_true rfl) d_law_897 (Nat.le_of_ble_eq_true rfl) (Nat.le_of_ble_eq_true rfl) (by omega) (by omega) (fun H locs hP hD hS => ?_)
    refine W.eq (g2 := F0 m 900 ls [.int w]) rfl ?_
    refine lv_istore (lv' := [(6, .int w), (5, .int k), (4, .int (nI i)), (3, .ref (ad 149)), (2, .ref (ad 67)), (1, .ref (ad 0)), (0, .ref b)]) hx hb d_law_900 hl (by decide) rfl (fun ls hl => ?_)
    refine lv_aload_n hx hb d_law_902 rfl (lv_at hl 4 rfl) ?_
    refine xa_call (rest := []) (rv := some (.int (gI t2 67 0))) (t1 := t2) SIM hfl hx hb hml hown hg 187 rfl rfl rfl mw_1822 67 13 (by decide) rfl rfl rfl [] rfl (Nat.le_of_ble_eq_true rfl) (eMo_thrown 150 t2 _ rfl) 0 (Nat.le_refl _) hK hN hC hP hD hS hA hl.1 rfl (Nat.le_of_ble_eq_true rfl) d_law_903 (Nat.le_of_ble_eq_true rfl) (Nat.le_of_ble_eq_true rfl) (by omega) (by omega) (fun H locs hP hD hS => ?_)
    refine W.eq (g2 := F0 m 906 ls [.int k]) (by rw [hth]; rfl) ?_
    refine lv_iload hx hb d_law_906 (lv_at hl 1 rfl) ?_
    refine lv_icmp_eq (tgt := 913) hx hb d_law_908 (by decide) (fun cz => ?_) (fun cz => absurd rfl cz)
    refine lv_iload hx hb d_law_913 (lv_at hl 1 rfl) ?_
    by_cases hk0 : k = 0
    · subst hk0
      refine lv_if_ne (tgt := 930) hx hb d_law_915 (by decide) (fun cz => absurd rfl cz) (fun cz => ?_)
      refine lv_aload_n hx hb d_law_918 rfl (lv_at hl 3 rfl) ?_
      refine lv_iconst (v := nI 0) hx hb d_law_919 (by decide) ?_
      refine xa_lald hx hb hK hP d_law_920 ?_
      refine W.eq (g2 := F0 m 921 ls [.long w.toInt64]) (by rw [ho rfl]) ?_
      refine lv_iload hx hb d_law_921 (lv_at hl 0 rfl) ?_
      refine lv_i2l hx hb d_law_923 rfl ?_
      refine lv_topl (fun y ey => ?_)
      replace ey : y = w.toInt64 := ey.trans rfl
      subst ey
      refine xl_cmp hx hb rfl d_law_924 ?_
      refine lv_if_eq (tgt := 930) hx hb d_law_925 (by decide) (fun cz => ?_) (fun cz => absurd rfl cz)
      refine lv_goto (tgt := 1285) hx hb d_law_930 (by decide) ?_
      refine W.widen (k := cl + 2) (n := sl + 12) (by omega) (by omega) ?_
      exact kk _ t2 H locs ls hw2 hB2 hP hD hS (lv_sub hl [2, 3, 4, 5, 6] rfl)
    · refine lv_if_ne (tgt := 930) hx hb d_law_915 (by decide) (fun cz => ?_) (fun cz => by first | exact absurd cz hk0 | exact absurd hk0 cz)
      refine lv_goto (tgt := 1285) hx hb d_law_930 (by decide) ?_
      refine W.widen (k := cl + 2) (n := sl + 12) (by omega) (by omega) ?_
      exact kk _ t2 H locs ls hw2 hB2 hP hD hS (lv_sub hl [2, 3, 4, 5, 6] rfl)
  refine lv_aload_n hx hb d_law_865 rfl (lv_at hl 3 rfl) ?_
  refine lv_aload_n hx hb d_law_866 rfl (lv_at hl 4 rfl) ?_
  refine lv_iload hx hb d_law_867 (lv_at hl 0 rfl) ?_
  refine lv_iconst (v := nI 1) hx hb d_law_869 (by decide) ?_
  refine lv_iadd hx hb d_law_870 ?_
  refine lv_topi (fun y ey => ?_)
  replace ey : y = nI (i + 1) := ey.trans (nI_add i 1)
  subst ey
  refine xb_sld hx hb hX hbl hbA hS (k := i + 1) (by omega) hL d_law_871 ?_
  refine lv_aload_n hx hb d_law_872 rfl (lv_at hl 4 rfl) ?_
  refine lv_iload hx hb d_law_873 (lv_at hl 0 rfl) ?_
  refine lv_iconst (v := nI 2) hx hb d_law_875 (by decide) ?_
  refine lv_iadd hx hb d_law_876 ?_
  refine lv_topi (fun y ey => ?_)
  replace ey : y = nI (i + 2) := ey.trans (nI_add i 2)
  subst ey
  refine xb_sld hx hb hX hbl hbA hS (k := i + 2) (by omega) hL d_law_877 ?_
  refine lv_aload_n hx hb d_law_878 rfl (lv_at hl 1 rfl) ?_
  rcases hk with ⟨rfl, t1, hr, rfl⟩ | ⟨rfl, hr, rfl⟩ | ⟨rfl, hr, rfl⟩
  · refine xa_ret (h := toH t) (h1 := toH (pL t1 149 0 w.toInt64)) (rv := some (.int 0)) (xt_runSW (n := 4) (As := [.ref (ad 0), .int (xs (i + 1)), .int (xs (i + 2)), .ref (ad 149)]) (rest := []) ⟨hx, hb, hml, hown, hg⟩ (wo_count SIM l hfl H.size (xs (i + 1)) (xs (i + 2)) hr) mw_1490 mw_1491 mw_0 mw_1492 rfl rfl (by decide +kernel) ⟨(Nat.le_of_ble_eq_true rfl), (Nat.le_of_ble_eq_true rfl)⟩ (xa_preN hno hK hN hC hP hD hS hA) rfl rfl hl.1 rfl (lv_room (Nat.le_of_ble_eq_true rfl)) d_law_879 ⟨by omega, by omega⟩) hD hS hA (fun H locs hP hD hS => ?_)
    exact tail H locs ls _ _ (by omega) (by omega) hP hD hS hl
  · refine xa_ret (h := toH ta) (h1 := toH ta) (rv := some (.int 1)) (xt_runSW (n := 4) (As := [.ref (ad 0), .int (xs (i + 1)), .int (xs (i + 2)), .ref (ad 149)]) (rest := []) ⟨hx, hb, hml, hown, hg⟩ (wx_count SIM l hfl H.size (xs (i + 1)) (xs (i + 2)) hr) mw_1490 mw_1491 mw_0 mw_1492 rfl rfl (by decide +kernel) ⟨(Nat.le_of_ble_eq_true rfl), (Nat.le_of_ble_eq_true rfl)⟩ (xa_preN hno hK hN hC hP hD hS hA) rfl rfl hl.1 rfl (lv_room (Nat.le_of_ble_eq_true rfl)) d_law_879 ⟨by omega, by omega⟩) hD hS hA (fun H locs hP hD hS => ?_)
    exact tail H locs ls _ _ (by omega) (by omega) hP hD hS hl
  · refine xa_ret (h := toH ta) (h1 := toH ta) (rv := some (.int 2)) (xt_runSW (n := 4) (As := [.ref (ad 0), .int (xs (i + 1)), .int (xs (i + 2)), .ref (ad 149)]) (rest := []) ⟨hx, hb, hml, hown, hg⟩ (wx_count2 SIM l hfl H.size (xs (i + 1)) (xs (i + 2)) hr) mw_1490 mw_1491 mw_0 mw_1492 rfl rfl (by decide +kernel) ⟨(Nat.le_of_ble_eq_true rfl), (Nat.le_of_ble_eq_true rfl)⟩ (xa_preN hno hK hN hC hP hD hS hA) rfl rfl hl.1 rfl (lv_room (Nat.le_of_ble_eq_true rfl)) d_law_879 ⟨by omega, by omega⟩) hD hS hA (fun H locs hP hD hS => ?_)
    exact tail H locs ls _ _ (by omega) (by omega) hP hD hS hl
set_option maxHeartbeats 4000000 in
set_option maxRecDepth 100000 in
theorem Ar_letter (SIM : xSim kA ad kS D) : xArm kA ad kS D 1000 := by
  intro p l e s m below meth c b L xs A Q B i hi hL cl sl hcl hsl n hn S t hw hB H locs ls hP hD hS hl kk
  obtain ⟨hfl, hx, hb, hml, hown, hg, hK, hN, hno, hC, hX, hbl, hA, hbA⟩ := B
  obtain ⟨k, ta, w, t2, hk, hm, ⟨hu, hth, hB2⟩, ho, hwr⟩ := yA_2 (G := fun ta => fMo_letter 150 (xs (i + 1)) (xs (i + 2)) ta) (L_letter hw hB.1 149 (E := fun k => if k = 1 then 2 else 1) ⟨rfl, rfl⟩ (xs (i + 1)) (xs (i + 2))) (Y_letter (xs (i + 1)) (xs (i + 2))) hB (fun ta h => M_letter hw h 149 (xs (i + 1)) (xs (i + 2)))
  have hw2 : yWf (y_letter (xs (i + 1)) (xs (i + 2)) S).2.2 := by rw [show _ = S from Sk_letter (xs (i + 1)) (xs (i + 2))]; exact hw
  have tail : ∀ (H : Heap) (locs : List Loc) (ls : Array Slot) (c9 s9 : Nat), c9 ≤ cl + 1 → s9 ≤ sl + 6 → va_P D vC (aV kA ad ta) H → va_D A (aV kA ad ta) → va_S A s.heap H locs → lv_has ls 8 [(4, .int (nI i)), (3, .ref (ad 149)), (2, .ref (ad 67)), (1, .ref (ad 0)), (0, .ref b)] → W p l e room_1 s m #[Value.ref b] below meth c H locs c9 s9 Q (F0 m 1017 ls [.int k]) := by
    intro H locs ls c9 s9 hc9 hs9 hP hD hS hl
    refine lv_istore (lv' := [(5, .int k), (4, .int (nI i)), (3, .ref (ad 149)), (2, .ref (ad 67)), (1, .ref (ad 0)), (0, .ref b)]) hx hb d_law_1017 hl (by decide) rfl (fun ls hl => ?_)
    refine lv_aload_n hx hb d_law_1019 rfl (lv_at hl 3 rfl) ?_
    refine lv_aload_n hx hb d_law_1020 rfl (lv_at hl 5 rfl) ?_
    refine lv_iload hx hb d_law_1021 (lv_at hl 1 rfl) ?_
    refine lv_iconst (v := nI 1) hx hb d_law_1023 (by decide) ?_
    refine lv_iadd hx hb d_law_1024 ?_
    refine lv_topi (fun y ey => ?_)
    replace ey : y = nI (i + 1) := ey.trans (nI_add i 1)
    subst ey
    refine xb_sld hx hb hX hbl hbA hS (k := i + 1) (by omega) hL d_law_1025 ?_
    refine lv_aload_n hx hb d_law_1026 rfl (lv_at hl 5 rfl) ?_
    refine lv_iload hx hb d_law_1027 (lv_at hl 1 rfl) ?_
    refine lv_iconst (v := nI 2) hx hb d_law_1029 (by decide) ?_
    refine lv_iadd hx hb d_law_1030 ?_
    refine lv_topi (fun y ey => ?_)
    replace ey : y = nI (i + 2) := ey.trans (nI_add i 2)
    subst ey
    refine xb_sld hx hb hX hbl hbA hS (k := i + 2) (by omega) hL d_law_1031 ?_
    refine xa_call (rest := []) (rv := some (.int w)) (t1 := t2) SIM hfl hx hb hml hown hg 295 rfl rfl rfl mw_2353 67 13 (by decide) rfl rfl rfl [.int (xs (i + 1)), .int (xs (i + 2))] rfl (Nat.le_of_ble_eq_true rfl) hm 1 hu hK hN hC hP hD hS hA hl.1 rfl (Nat.le_of_ble_eq_true rfl) d_law_1032 (Nat.le_of_ble_eq_true rfl) (Nat.le_of_ble_eq_true rfl) (by omega) (by omega) (fun H locs hP hD hS => ?_)
    refine W.eq (g2 := F0 m 1035 ls [.int w]) rfl ?_
    refine lv_istore (lv' := [(6, .int w), (5, .int k), (4, .int (nI i)), (3, .ref (ad 149)), (2, .ref (ad 67)), (1, .ref (ad 0)), (0, .ref b)]) hx hb d_law_1035 hl (by decide) rfl (fun ls hl => ?_)
    refine lv_aload_n hx hb d_law_1037 rfl (lv_at hl 4 rfl) ?_
    refine xa_call (rest := []) (rv := some (.int (gI t2 67 0))) (t1 := t2) SIM hfl hx hb hml hown hg 187 rfl rfl rfl mw_1822 67 13 (by decide) rfl rfl rfl [] rfl (Nat.le_of_ble_eq_true rfl) (eMo_thrown 150 t2 _ rfl) 0 (Nat.le_refl _) hK hN hC hP hD hS hA hl.1 rfl (Nat.le_of_ble_eq_true rfl) d_law_1038 (Nat.le_of_ble_eq_true rfl) (Nat.le_of_ble_eq_true rfl) (by omega) (by omega) (fun H locs hP hD hS => ?_)
    refine W.eq (g2 := F0 m 1041 ls [.int k]) (by rw [hth]; rfl) ?_
    refine lv_iload hx hb d_law_1041 (lv_at hl 1 rfl) ?_
    refine lv_icmp_eq (tgt := 1048) hx hb d_law_1043 (by decide) (fun cz => ?_) (fun cz => absurd rfl cz)
    refine lv_iload hx hb d_law_1048 (lv_at hl 1 rfl) ?_
    by_cases hk0 : k = 0
    · subst hk0
      refine lv_if_ne (tgt := 1065) hx hb d_law_1050 (by decide) (fun cz => absurd rfl cz) (fun cz => ?_)
      refine lv_aload_n hx hb d_law_1053 rfl (lv_at hl 3 rfl) ?_
      refine lv_iconst (v := nI 0) hx hb d_law_1054 (by decide) ?_
      refine xa_lald hx hb hK hP d_law_1055 ?_
      refine W.eq (g2 := F0 m 1056 ls [.long w.toInt64]) (by rw [ho rfl]) ?_
      refine lv_iload hx hb d_law_1056 (lv_at hl 0 rfl) ?_
      refine lv_i2l hx hb d_law_1058 rfl ?_
      refine lv_topl (fun y ey => ?_)
      replace ey : y = w.toInt64 := ey.trans rfl
      subst ey
      refine xl_cmp hx hb rfl d_law_1059 ?_
      refine lv_if_eq (tgt := 1065) hx hb d_law_1060 (by decide) (fun cz => ?_) (fun cz => absurd rfl cz)
      refine lv_goto (tgt := 1285) hx hb d_law_1065 (by decide) ?_
      refine W.widen (k := cl + 2) (n := sl + 12) (by omega) (by omega) ?_
      exact kk _ t2 H locs ls hw2 hB2 hP hD hS (lv_sub hl [2, 3, 4, 5, 6] rfl)
    · refine lv_if_ne (tgt := 1065) hx hb d_law_1050 (by decide) (fun cz => ?_) (fun cz => by first | exact absurd cz hk0 | exact absurd hk0 cz)
      refine lv_goto (tgt := 1285) hx hb d_law_1065 (by decide) ?_
      refine W.widen (k := cl + 2) (n := sl + 12) (by omega) (by omega) ?_
      exact kk _ t2 H locs ls hw2 hB2 hP hD hS (lv_sub hl [2, 3, 4, 5, 6] rfl)
  refine lv_aload_n hx hb d_law_1000 rfl (lv_at hl 3 rfl) ?_
  refine lv_aload_n hx hb d_law_1001 rfl (lv_at hl 4 rfl) ?_
  refine lv_iload hx hb d_law_1002 (lv_at hl 0 rfl) ?_
  refine lv_iconst (v := nI 1) hx hb d_law_1004 (by decide) ?_
  refine lv_iadd hx hb d_law_1005 ?_
  refine lv_topi (fun y ey => ?_)
  replace ey : y = nI (i + 1) := ey.trans (nI_add i 1)
  subst ey
  refine xb_sld hx hb hX hbl hbA hS (k := i + 1) (by omega) hL d_law_1006 ?_
  refine lv_aload_n hx hb d_law_1007 rfl (lv_at hl 4 rfl) ?_
  refine lv_iload hx hb d_law_1008 (lv_at hl 0 rfl) ?_
  refine lv_iconst (v := nI 2) hx hb d_law_1010 (by decide) ?_
  refine lv_iadd hx hb d_law_1011 ?_
  refine lv_topi (fun y ey => ?_)
  replace ey : y = nI (i + 2) := ey.trans (nI_add i 2)
  subst ey
  refine xb_sld hx hb hX hbl hbA hS (k := i + 2) (by omega) hL d_law_1012 ?_
  refine lv_aload_n hx hb d_law_1013 rfl (lv_at hl 1 rfl) ?_
  rcases hk with ⟨rfl, t1, hr, rfl⟩ | ⟨rfl, hr, rfl⟩ | ⟨rfl, hr, rfl⟩
  · refine xa_ret (h := toH t) (h1 := toH (pL t1 149 0 w.toInt64)) (rv := some (.int 0)) (xt_runSW (n := 4) (As := [.ref (ad 0), .int (xs (i + 1)), .int (xs (i + 2)), .ref (ad 149)]) (rest := []) ⟨hx, hb, hml, hown, hg⟩ (wo_letter SIM l hfl H.size (xs (i + 1)) (xs (i + 2)) hr) mw_1517 mw_1518 mw_0 mw_1519 rfl rfl (by decide +kernel) ⟨(Nat.le_of_ble_eq_true rfl), (Nat.le_of_ble_eq_true rfl)⟩ (xa_preN hno hK hN hC hP hD hS hA) rfl rfl hl.1 rfl (lv_room (Nat.le_of_ble_eq_true rfl)) d_law_1014 ⟨by omega, by omega⟩) hD hS hA (fun H locs hP hD hS => ?_)
    exact tail H locs ls _ _ (by omega) (by omega) hP hD hS hl
  · refine xa_ret (h := toH ta) (h1 := toH ta) (rv := some (.int 1)) (xt_runSW (n := 4) (As := [.ref (ad 0), .int (xs (i + 1)), .int (xs (i + 2)), .ref (ad 149)]) (rest := []) ⟨hx, hb, hml, hown, hg⟩ (wx_letter SIM l hfl H.size (xs (i + 1)) (xs (i + 2)) hr) mw_1517 mw_1518 mw_0 mw_1519 rfl rfl (by decide +kernel) ⟨(Nat.le_of_ble_eq_true rfl), (Nat.le_of_ble_eq_true rfl)⟩ (xa_preN hno hK hN hC hP hD hS hA) rfl rfl hl.1 rfl (lv_room (Nat.le_of_ble_eq_true rfl)) d_law_1014 ⟨by omega, by omega⟩) hD hS hA (fun H locs hP hD hS => ?_)
    exact tail H locs ls _ _ (by omega) (by omega) hP hD hS hl
  · refine xa_ret (h := toH ta) (h1 := toH ta) (rv := some (.int 2)) (xt_runSW (n := 4) (As := [.ref (ad 0), .int (xs (i + 1)), .int (xs (i + 2)), .ref (ad 149)]) (rest := []) ⟨hx, hb, hml, hown, hg⟩ (wx_letter2 SIM l hfl H.size (xs (i + 1)) (xs (i + 2)) hr) mw_1517 mw_1518 mw_0 mw_1519 rfl rfl (by decide +kernel) ⟨(Nat.le_of_ble_eq_true rfl), (Nat.le_of_ble_eq_true rfl)⟩ (xa_preN hno hK hN hC hP hD hS hA) rfl rfl hl.1 rfl (lv_room (Nat.le_of_ble_eq_true rfl)) d_law_1014 ⟨by omega, by omega⟩) hD hS hA (fun H locs hP hD hS => ?_)
    exact tail H locs ls _ _ (by omega) (by omega) hP hD hS hl
end ArA3
