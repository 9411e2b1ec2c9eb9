/-! RecordLake$Teller: what its pieces do -/
set_option maxRecDepth 20000 in
theorem eTe_open (d : Nat) (a1 : Nat) (x2 : Int32) (x3 : Int32) (s : aT) : ∀ r, (wM (pM2 s a1) (fun s1 => wI s1 52 0 x2 (fun s2 => wI s2 52 1 x3 (fun s3 => rV s3)))) = some r → fTe_open d a1 x2 x3 s = some r := by
  intro r hr
  show ev d q_140 0 [(0, .ref 52), (1, .ref a1), (2, .int x2), (3, .int x3)] [] s = some r
  refine ev_seg 2 (k' := 2) (L' := [(0, .ref 52), (1, .ref a1), (2, .int x2), (3, .int x3)]) (st' := [.ref a1, .ref 52]) rfl ?_
  refine ev_putM (c := 52) (v := a1) hr rfl rfl rfl rfl (RM2 _ _) (fun s1 hr => ?_)
  refine ev_seg 2 (k' := 5) (L' := [(0, .ref 52), (1, .ref a1), (2, .int x2), (3, .int x3)]) (st' := [.int x2, .ref 52]) rfl ?_
  refine ev_putI (c := 52) hr rfl rfl rfl (fun s2 hr => ?_)
  refine ev_seg 2 (k' := 8) (L' := [(0, .ref 52), (1, .ref a1), (2, .int x2), (3, .int x3)]) (st' := [.int x3, .ref 52]) rfl ?_
  refine ev_putI (c := 52) hr rfl rfl rfl (fun s3 hr => ?_)
  exact ev_vret hr rfl rfl
set_option maxRecDepth 20000 in
theorem eTe_skipRow (d : Nat) (x1 : Int32) (s : aT) : ∀ r, (cG (fTe_skip d x1 0 s) (kV fun s1 => rV s1)) = some r → fTe_skipRow (d + 1) x1 s = some r := by
  intro r hr
  show ev (d + 1) q_143 0 [(0, .ref 52), (1, .int x1)] [] s = some r
  refine ev_seg 3 (k' := 3) (L' := [(0, .ref 52), (1, .int x1)]) (st' := [.int 0, .int x1, .ref 52]) rfl ?_
  refine ev_callV (q' := q_144) (x := 144) (y := 8) (c := 52) (As := [.int x1, .int 0]) (rest := []) hr rfl rfl rfl rfl rfl rfl rfl rfl rfl rfl rfl rfl (fun rv s1 hq => ev_kV hq (fun e9 hr => ?_))
  subst e9
  refine ev_st (st' := []) rfl ?_
  exact ev_vret hr rfl rfl
set_option maxRecDepth 20000 in
theorem eTe_skip (d : Nat) (x1 : Int32) (x2 : Int32) (s : aT) : ∀ r, (if x2 < 32 then ldI 5254 s 23 x1 (fun v1 => if v1 = 0 then rV s else if v1 = 1 then wI s 52 0 ((gI s 52 0) + 1) (fun s4 => rV s4) else if v1 = 2 then cG (fTe_varint d s) (kL fun v7 s6 => rV s6) else if v1 = 3 then cG (fTe_varint d s) (kL fun v10 s9 => rV s9) else if v1 = 4 then cG (fTe_varint d s) (kL fun v13 s12 => wI s12 52 0 ((gI s12 52 0) + v13.toInt32) (fun s14 => rV s14)) else if v1 = 5 then cG (fTe_varint d s) (kL fun v17 s16 => wI s16 52 0 ((gI s16 52 0) + v17.toInt32) (fun s18 => rV s18)) else if v1 = 6 then cG (fTe_skipItems d x1 x2 s) (kV fun s20 => rV s20) else if v1 = 7 then cG (fTe_skipItems d x1 x2 s) (kV fun s22 => rV s22) else if v1 = 8 then cG (fTe_branchTold d x1 s) (kI fun v25 s24 => cG (fTe_skip d v25 (x2 + 1) s24) (kV fun s26 => rV s26)) else if v1 = 9 then ldI 5254 s 27 x1 (fun v28 => wI s 52 0 ((gI s 52 0) + v28) (fun s29 => rV s29)) else if v1 = 10 then cG (fTe_varint d s) (kL fun v32 s31 => rV s31) else if v1 = 11 then fTe_skip_51 (d + 1) x1 x2 0 s else cG (fTe_varint d s) (kL fun v35 s34 => rV s34)) else rV s) = some r → fTe_skip (d + 1) x1 x2 s = some r := by
  intro r hr
  show ev (d + 1) q_144 0 [(0, .ref 52), (1, .int x1), (2, .int x2)] [] s = some r
  refine ev_seg 2 (k' := 2) (L' := [(0, .ref 52), (1, .int x1), (2, .int x2)]) (st' := [.int 32, .int x2]) rfl ?_
  refine ev_br (P := x2 < 32) (L' := [(0, .ref 52), (1, .int x1), (2, .int x2)]) (st' := []) hr rfl rfl rfl (fun hr => ?_) (fun hr => ?_)
  · skip
    refine ev_seg 4 (k' := 8) (L' := [(0, .ref 52), (1, .int x1), (2, .int x2)]) (st' := [.int x1, .ref 23]) rfl ?_
    refine ev_ldI hr rfl rfl (fun v1 hr => ?_)
    refine ev_if hr (fun h2 hr => ?_) (fun h2 hr => ?_)
    · skip
      refine ev_tab (o := 64) (t := 10) rfl (by rw [h2]; rfl) rfl ?_
      exact ev_vret hr rfl rfl
    refine ev_if hr (fun h3 hr => ?_) (fun h3 hr => ?_)
    · skip
      refine ev_tab (o := 65) (t := 11) rfl (by rw [h3]; rfl) rfl ?_
      refine ev_seg 5 (k' := 16) (L' := [(0, .ref 52), (1, .int x1), (2, .int x2)]) (st' := [.int ((gI s 52 0) + 1), .ref 52]) rfl ?_
      refine ev_putI (c := 52) hr rfl rfl rfl (fun s4 hr => ?_)
      exact ev_vret hr rfl rfl
    refine ev_if hr (fun h5 hr => ?_) (fun h5 hr => ?_)
    · skip
      refine ev_tab (o := 173) (t := 76) rfl (by rw [h5]; rfl) rfl ?_
      refine ev_seg 1 (k' := 77) (L' := [(0, .ref 52), (1, .int x1), (2, .int x2)]) (st' := [.ref 52]) rfl ?_
      refine ev_callV (q' := q_145) (x := 145) (y := 8) (c := 52) (As := []) (rest := []) hr rfl rfl rfl rfl rfl rfl rfl rfl rfl rfl rfl rfl (fun rv s6 hq => ev_kL hq (fun v7 e9 hr => ?_))
      subst e9
      refine ev_st (st' := [.long v7]) rfl ?_
      refine ev_seg 1 (k' := 79) (L' := [(0, .ref 52), (1, .int x1), (2, .int x2)]) (st' := []) rfl ?_
      exact ev_vret hr rfl rfl
    refine ev_if hr (fun h8 hr => ?_) (fun h8 hr => ?_)
    · skip
      refine ev_tab (o := 173) (t := 76) rfl (by rw [h8]; rfl) rfl ?_
      refine ev_seg 1 (k' := 77) (L' := [(0, .ref 52), (1, .int x1), (2, .int x2)]) (st' := [.ref 52]) rfl ?_
      refine ev_callV (q' := q_145) (x := 145) (y := 8) (c := 52) (As := []) (rest := []) hr rfl rfl rfl rfl rfl rfl rfl rfl rfl rfl rfl rfl (fun rv s9 hq => ev_kL hq (fun v10 e9 hr => ?_))
      subst e9
      refine ev_st (st' := [.long v10]) rfl ?_
      refine ev_seg 1 (k' := 79) (L' := [(0, .ref 52), (1, .int x1), (2, .int x2)]) (st' := []) rfl ?_
      exact ev_vret hr rfl rfl
    refine ev_if hr (fun h11 hr => ?_) (fun h11 hr => ?_)
    · skip
      refine ev_tab (o := 76) (t := 18) rfl (by rw [h11]; rfl) rfl ?_
      refine ev_seg 1 (k' := 19) (L' := [(0, .ref 52), (1, .int x1), (2, .int x2)]) (st' := [.ref 52]) rfl ?_
      refine ev_callV (q' := q_145) (x := 145) (y := 8) (c := 52) (As := []) (rest := []) hr rfl rfl rfl rfl rfl rfl rfl rfl rfl rfl rfl rfl (fun rv s12 hq => ev_kL hq (fun v13 e9 hr => ?_))
      subst e9
      refine ev_st (st' := [.long v13]) rfl ?_
      refine ev_seg 7 (k' := 27) (L' := [(3, .int v13.toInt32), (0, .ref 52), (1, .int x1), (2, .int x2)]) (st' := [.int ((gI s12 52 0) + v13.toInt32), .ref 52]) rfl ?_
      refine ev_putI (c := 52) hr rfl rfl rfl (fun s14 hr => ?_)
      exact ev_vret hr rfl rfl
    refine ev_if hr (fun h15 hr => ?_) (fun h15 hr => ?_)
    · skip
      refine ev_tab (o := 76) (t := 18) rfl (by rw [h15]; rfl) rfl ?_
      refine ev_seg 1 (k' := 19) (L' := [(0, .ref 52), (1, .int x1), (2, .int x2)]) (st' := [.ref 52]) rfl ?_
      refine ev_callV (q' := q_145) (x := 145) (y := 8) (c := 52) (As := []) (rest := []) hr rfl rfl rfl rfl rfl rfl rfl rfl rfl rfl rfl rfl (fun rv s16 hq => ev_kL hq (fun v17 e9 hr => ?_))
      subst e9
      refine ev_st (st' := [.long v17]) rfl ?_
      refine ev_seg 7 (k' := 27) (L' := [(3, .int v17.toInt32), (0, .ref 52), (1, .int x1), (2, .int x2)]) (st' := [.int ((gI s16 52 0) + v17.toInt32), .ref 52]) rfl ?_
      refine ev_putI (c := 52) hr rfl rfl rfl (fun s18 hr => ?_)
      exact ev_vret hr rfl rfl
    refine ev_if hr (fun h19 hr => ?_) (fun h19 hr => ?_)
    · skip
      refine ev_tab (o := 166) (t := 71) rfl (by rw [h19]; rfl) rfl ?_
      refine ev_seg 3 (k' := 74) (L' := [(0, .ref 52), (1, .int x1), (2, .int x2)]) (st' := [.int x2, .int x1, .ref 52]) rfl ?_
      refine ev_callV (q' := q_147) (x := 147) (y := 8) (c := 52) (As := [.int x1, .int x2]) (rest := []) hr rfl rfl rfl rfl rfl rfl rfl rfl rfl rfl rfl rfl (fun rv s20 hq => ev_kV hq (fun e9 hr => ?_))
      subst e9
      refine ev_st (st' := []) rfl ?_
      exact ev_vret hr rfl rfl
    refine ev_if hr (fun h21 hr => ?_) (fun h21 hr => ?_)
    · skip
      refine ev_tab (o := 166) (t := 71) rfl (by rw [h21]; rfl) rfl ?_
      refine ev_seg 3 (k' := 74) (L' := [(0, .ref 52), (1, .int x1), (2, .int x2)]) (st' := [.int x2, .int x1, .ref 52]) rfl ?_
      refine ev_callV (q' := q_147) (x := 147) (y := 8) (c := 52) (As := [.int x1, .int x2]) (rest := []) hr rfl rfl rfl rfl rfl rfl rfl rfl rfl rfl rfl rfl (fun rv s22 hq => ev_kV hq (fun e9 hr => ?_))
      subst e9
      refine ev_st (st' := []) rfl ?_
      exact ev_vret hr rfl rfl
    refine ev_if hr (fun h23 hr => ?_) (fun h23 hr => ?_)
    · skip
      refine ev_tab (o := 112) (t := 40) rfl (by rw [h23]; rfl) rfl ?_
      refine ev_seg 3 (k' := 43) (L' := [(0, .ref 52), (1, .int x1), (2, .int x2)]) (st' := [.int x1, .ref 52, .ref 52]) rfl ?_
      refine ev_callV (q' := q_146) (x := 146) (y := 8) (c := 52) (As := [.int x1]) (rest := [.ref 52]) hr rfl rfl rfl rfl rfl rfl rfl rfl rfl rfl rfl rfl (fun rv s24 hq => ev_kI hq (fun v25 e9 hr => ?_))
      subst e9
      refine ev_st (st' := [.int v25, .ref 52]) rfl ?_
      refine ev_seg 3 (k' := 47) (L' := [(0, .ref 52), (1, .int x1), (2, .int x2)]) (st' := [.int (x2 + 1), .int v25, .ref 52]) rfl ?_
      refine ev_callV (q' := q_144) (x := 144) (y := 8) (c := 52) (As := [.int v25, .int (x2 + 1)]) (rest := []) hr rfl rfl rfl rfl rfl rfl rfl rfl rfl rfl rfl rfl (fun rv s26 hq => ev_kV hq (fun e9 hr => ?_))
      subst e9
      refine ev_st (st' := []) rfl ?_
      exact ev_vret hr rfl rfl
    refine ev_if hr (fun h27 hr => ?_) (fun h27 hr => ?_)
    · skip
      refine ev_tab (o := 93) (t := 29) rfl (by rw [h27]; rfl) rfl ?_
      refine ev_seg 7 (k' := 36) (L' := [(0, .ref 52), (1, .int x1), (2, .int x2)]) (st' := [.int x1, .ref 27, .int (gI s 52 0), .ref 52]) rfl ?_
      refine ev_ldI hr rfl rfl (fun v28 hr => ?_)
      refine ev_seg 1 (k' := 38) (L' := [(0, .ref 52), (1, .int x1), (2, .int x2)]) (st' := [.int ((gI s 52 0) + v28), .ref 52]) rfl ?_
      refine ev_putI (c := 52) hr rfl rfl rfl (fun s29 hr => ?_)
      exact ev_vret hr rfl rfl
    refine ev_if hr (fun h30 hr => ?_) (fun h30 hr => ?_)
    · skip
      refine ev_tab (o := 173) (t := 76) rfl (by rw [h30]; rfl) rfl ?_
      refine ev_seg 1 (k' := 77) (L' := [(0, .ref 52), (1, .int x1), (2, .int x2)]) (st' := [.ref 52]) rfl ?_
      refine ev_callV (q' := q_145) (x := 145) (y := 8) (c := 52) (As := []) (rest := []) hr rfl rfl rfl rfl rfl rfl rfl rfl rfl rfl rfl rfl (fun rv s31 hq => ev_kL hq (fun v32 e9 hr => ?_))
      subst e9
      refine ev_st (st' := [.long v32]) rfl ?_
      refine ev_seg 1 (k' := 79) (L' := [(0, .ref 52), (1, .int x1), (2, .int x2)]) (st' := []) rfl ?_
      exact ev_vret hr rfl rfl
    refine ev_if hr (fun h33 hr => ?_) (fun h33 hr => ?_)
    · skip
      refine ev_tab (o := 125) (t := 49) rfl (by rw [h33]; rfl) rfl ?_
      refine ev_seg 2 (k' := 51) (L' := [(4, .int 0), (0, .ref 52), (1, .int x1), (2, .int x2)]) (st' := []) rfl ?_
      refine ev_join (L' := [(0, .ref 52), (1, .int x1), (2, .int x2), (4, .int 0)]) [1, 2, 3, 0] [4, 0, 1, 2] [0, 1, 2, 4] rfl rfl (by decide) (by decide) rfl ?_
      exact hr
    refine ev_tab (o := 173) (t := 76) rfl (tab_in (by have e0 := i_neL (z := 0) (w := 0) rfl h2; have e1 := i_neL (z := 1) (w := 1) rfl h3; have e2 := i_neL (z := 2) (w := 2) rfl h5; have e3 := i_neL (z := 3) (w := 3) rfl h8; have e4 := i_neL (z := 4) (w := 4) rfl h11; have e5 := i_neL (z := 5) (w := 5) rfl h15; have e6 := i_neL (z := 6) (w := 6) rfl h19; have e7 := i_neL (z := 7) (w := 7) rfl h21; have e8 := i_neL (z := 8) (w := 8) rfl h23; have e9 := i_neL (z := 9) (w := 9) rfl h27; have e10 := i_neL (z := 10) (w := 10) rfl h30; have e11 := i_neL (z := 11) (w := 11) rfl h33; omega)) rfl ?_
    refine ev_seg 1 (k' := 77) (L' := [(0, .ref 52), (1, .int x1), (2, .int x2)]) (st' := [.ref 52]) rfl ?_
    refine ev_callV (q' := q_145) (x := 145) (y := 8) (c := 52) (As := []) (rest := []) hr rfl rfl rfl rfl rfl rfl rfl rfl rfl rfl rfl rfl (fun rv s34 hq => ev_kL hq (fun v35 e9 hr => ?_))
    subst e9
    refine ev_st (st' := [.long v35]) rfl ?_
    refine ev_seg 1 (k' := 79) (L' := [(0, .ref 52), (1, .int x1), (2, .int x2)]) (st' := []) rfl ?_
    exact ev_vret hr rfl rfl
  · skip
    exact ev_vret hr rfl rfl
set_option maxRecDepth 20000 in
theorem eTe_skip_51 (d : Nat) (x1 : Int32) (x2 : Int32) (z4 : Int32) (s : aT) : ∀ r, (ldI 5254 s 26 x1 (fun v1 => if v1 ≤ z4 then rV s else cG (fSc_partSchemaOf d x1 z4 s) (kI fun v3 s2 => cG (fTe_skip d v3 (x2 + 1) s2) (kV fun s4 => fTe_skip_51 (d + 1) x1 x2 (z4 + 1) s4)))) = some r → fTe_skip_51 (d + 1) x1 x2 z4 s = some r := by
  intro r hr
  show ev (d + 1) q_144 51 [(0, .ref 52), (1, .int x1), (2, .int x2), (4, .int z4)] [] s = some r
  refine ev_seg 5 (k' := 56) (L' := [(0, .ref 52), (1, .int x1), (2, .int x2), (4, .int z4)]) (st' := [.int x1, .ref 26, .int z4]) rfl ?_
  refine ev_ldI hr rfl rfl (fun v1 hr => ?_)
  refine ev_br (P := v1 ≤ z4) (L' := [(0, .ref 52), (1, .int x1), (2, .int x2), (4, .int z4)]) (st' := []) hr rfl rfl rfl (fun hr => ?_) (fun hr => ?_)
  · skip
    exact ev_vret hr rfl rfl
  · skip
    refine ev_seg 5 (k' := 63) (L' := [(0, .ref 52), (1, .int x1), (2, .int x2), (4, .int z4)]) (st' := [.int z4, .int x1, .ref 22, .ref 52]) rfl ?_
    refine ev_callV (q' := q_39) (x := 39) (y := 2) (c := 22) (As := [.int x1, .int z4]) (rest := [.ref 52]) hr rfl rfl rfl rfl rfl rfl rfl rfl rfl rfl rfl rfl (fun rv s2 hq => ev_kI hq (fun v3 e9 hr => ?_))
    subst e9
    refine ev_st (st' := [.int v3, .ref 52]) rfl ?_
    refine ev_seg 3 (k' := 67) (L' := [(0, .ref 52), (1, .int x1), (2, .int x2), (4, .int z4)]) (st' := [.int (x2 + 1), .int v3, .ref 52]) rfl ?_
    refine ev_callV (q' := q_144) (x := 144) (y := 8) (c := 52) (As := [.int v3, .int (x2 + 1)]) (rest := []) hr rfl rfl rfl rfl rfl rfl rfl rfl rfl rfl rfl rfl (fun rv s4 hq => ev_kV hq (fun e9 hr => ?_))
    subst e9
    refine ev_st (st' := []) rfl ?_
    refine ev_seg 2 (k' := 51) (L' := [(4, .int (z4 + 1)), (0, .ref 52), (1, .int x1), (2, .int x2)]) (st' := []) rfl ?_
    refine ev_join (L' := [(0, .ref 52), (1, .int x1), (2, .int x2), (4, .int (z4 + 1))]) [1, 2, 3, 0] [4, 0, 1, 2] [0, 1, 2, 4] rfl rfl (by decide) (by decide) rfl ?_
    exact hr
set_option maxRecDepth 20000 in
theorem eTe_varint (d : Nat) (s : aT) : ∀ r, (fTe_varint_4 d 0 0 s) = some r → fTe_varint d s = some r := by
  intro r hr
  show ev d q_145 0 [(0, .ref 52)] [] s = some r
  refine ev_seg 4 (k' := 4) (L' := [(3, .int 0), (1, .long 0), (0, .ref 52)]) (st' := []) rfl ?_
  refine ev_join (L' := [(0, .ref 52), (1, .long 0), (3, .int 0)]) [2, 1, 0] [3, 1, 0] [0, 1, 3] rfl rfl (by decide) (by decide) rfl ?_
  exact hr
set_option maxRecDepth 20000 in
theorem eTe_varint_4 (d : Nat) (l1 : Int64) (z3 : Int32) (s : aT) : ∀ r, (if 10 ≤ z3 then fTe_varint_43 d l1 s else if gI s 52 1 ≤ gI s 52 0 then fTe_varint_43 d l1 s else ldI (alen (gM2 s)) s (gM2 s) (gI s 52 0) (fun v1 => wI s 52 0 ((gI s 52 0) + 1) (fun s2 => if 128 ≤ v1 &&& 255 then fTe_varint_4 d (l1 ||| ((((v1 &&& 255) &&& 127).toInt64) <<< ((7 * z3).toInt64 &&& 63))) (z3 + 1) s2 else fTe_varint_43 d (l1 ||| ((((v1 &&& 255) &&& 127).toInt64) <<< ((7 * z3).toInt64 &&& 63))) s2))) = some r → fTe_varint_4 d l1 z3 s = some r := by
  intro r hr
  show ev d q_145 4 [(0, .ref 52), (1, .long l1), (3, .int z3)] [] s = some r
  refine ev_seg 2 (k' := 6) (L' := [(0, .ref 52), (1, .long l1), (3, .int z3)]) (st' := [.int 10, .int z3]) rfl ?_
  refine ev_br (P := 10 ≤ z3) (L' := [(0, .ref 52), (1, .long l1), (3, .int z3)]) (st' := []) hr rfl rfl rfl (fun hr => ?_) (fun hr => ?_)
  · skip
    refine ev_join (L' := [(1, .long l1)]) [1] [0, 1, 3] [1] rfl rfl (by decide) (by decide) rfl ?_
    exact hr
  · skip
    refine ev_seg 4 (k' := 11) (L' := [(0, .ref 52), (1, .long l1), (3, .int z3)]) (st' := [.int (gI s 52 1), .int (gI s 52 0)]) rfl ?_
    refine ev_br (P := gI s 52 1 ≤ gI s 52 0) (L' := [(0, .ref 52), (1, .long l1), (3, .int z3)]) (st' := []) hr rfl rfl rfl (fun hr => ?_) (fun hr => ?_)
    · skip
      refine ev_join (L' := [(1, .long l1)]) [1] [0, 1, 3] [1] rfl rfl (by decide) (by decide) rfl ?_
      exact hr
    · skip
      refine ev_seg 4 (k' := 16) (L' := [(0, .ref 52), (1, .long l1), (3, .int z3)]) (st' := [.int (gI s 52 0), .ref (gM2 s)]) rfl ?_
      refine ev_ldX hr rfl (fun v1 hr => ?_)
      refine ev_seg 8 (k' := 25) (L' := [(4, .int (v1 &&& 255)), (0, .ref 52), (1, .long l1), (3, .int z3)]) (st' := [.int ((gI s 52 0) + 1), .ref 52]) rfl ?_
      refine ev_putI (c := 52) hr rfl rfl rfl (fun s2 hr => ?_)
      refine ev_seg 13 (k' := 39) (L' := [(1, .long (l1 ||| ((((v1 &&& 255) &&& 127).toInt64) <<< ((7 * z3).toInt64 &&& 63)))), (4, .int (v1 &&& 255)), (0, .ref 52), (3, .int z3)]) (st' := [.int 128, .int (v1 &&& 255)]) rfl ?_
      refine ev_br (P := 128 ≤ v1 &&& 255) (L' := [(1, .long (l1 ||| ((((v1 &&& 255) &&& 127).toInt64) <<< ((7 * z3).toInt64 &&& 63)))), (4, .int (v1 &&& 255)), (0, .ref 52), (3, .int z3)]) (st' := []) hr rfl rfl rfl (fun hr => ?_) (fun hr => ?_)
      · skip
        refine ev_seg 2 (k' := 4) (L' := [(3, .int (z3 + 1)), (1, .long (l1 ||| ((((v1 &&& 255) &&& 127).toInt64) <<< ((7 * z3).toInt64 &&& 63)))), (4, .int (v1 &&& 255)), (0, .ref 52)]) (st' := []) rfl ?_
        refine ev_join (L' := [(0, .ref 52), (1, .long (l1 ||| ((((v1 &&& 255) &&& 127).toInt64) <<< ((7 * z3).toInt64 &&& 63)))), (3, .int (z3 + 1))]) [3, 1, 0] [3, 1, 4, 0] [0, 1, 3] rfl rfl (by decide) (by decide) rfl ?_
        exact hr
      · skip
        refine ev_seg 1 (k' := 43) (L' := [(1, .long (l1 ||| ((((v1 &&& 255) &&& 127).toInt64) <<< ((7 * z3).toInt64 &&& 63)))), (4, .int (v1 &&& 255)), (0, .ref 52), (3, .int z3)]) (st' := []) rfl ?_
        refine ev_join (L' := [(1, .long (l1 ||| ((((v1 &&& 255) &&& 127).toInt64) <<< ((7 * z3).toInt64 &&& 63))))]) [0] [1, 4, 0, 3] [1] rfl rfl (by decide) (by decide) rfl ?_
        exact hr
set_option maxRecDepth 20000 in
theorem eTe_varint_43 (d : Nat) (l1 : Int64) (s : aT) : ∀ r, (rL (((l1.toUInt64 >>> ((1 : Int32).toInt64.toUInt64 &&& Int64.toUInt64 63)).toInt64) ^^^ (-(l1 &&& 1))) s) = some r → fTe_varint_43 d l1 s = some r := by
  intro r hr
  show ev d q_145 43 [(1, .long l1)] [] s = some r
  refine ev_seg 8 (k' := 51) (L' := [(1, .long l1)]) (st' := [.long (((l1.toUInt64 >>> ((1 : Int32).toInt64.toUInt64 &&& Int64.toUInt64 63)).toInt64) ^^^ (-(l1 &&& 1)))]) rfl ?_
  exact ev_lret hr rfl rfl
set_option maxRecDepth 20000 in
theorem eTe_branchTold (d : Nat) (x1 : Int32) (s : aT) : ∀ r, (cG (fTe_varint d s) (kL fun v2 s1 => if aLcmp v2 0 < 0 then fTe_branchTold_18 (d + 1) x1 v2 s1 else ldI 5254 s1 26 x1 (fun v3 => if 0 ≤ aLcmp v2 v3.toInt64 then fTe_branchTold_18 (d + 1) x1 v2 s1 else fTe_branchTold_19 (d + 1) x1 v2 1 s1))) = some r → fTe_branchTold (d + 1) x1 s = some r := by
  intro r hr
  show ev (d + 1) q_146 0 [(0, .ref 52), (1, .int x1)] [] s = some r
  refine ev_seg 1 (k' := 1) (L' := [(0, .ref 52), (1, .int x1)]) (st' := [.ref 52]) rfl ?_
  refine ev_callV (q' := q_145) (x := 145) (y := 8) (c := 52) (As := []) (rest := []) hr rfl rfl rfl rfl rfl rfl rfl rfl rfl rfl rfl rfl (fun rv s1 hq => ev_kL hq (fun v2 e9 hr => ?_))
  subst e9
  refine ev_st (st' := [.long v2]) rfl ?_
  refine ev_seg 4 (k' := 6) (L' := [(2, .long v2), (0, .ref 52), (1, .int x1)]) (st' := [.int (aLcmp v2 0)]) rfl ?_
  refine ev_br (P := aLcmp v2 0 < 0) (L' := [(2, .long v2), (0, .ref 52), (1, .int x1)]) (st' := []) hr rfl rfl rfl (fun hr => ?_) (fun hr => ?_)
  · skip
    refine ev_join (L' := [(0, .ref 52), (1, .int x1), (2, .long v2)]) [1, 2, 0] [2, 0, 1] [0, 1, 2] rfl rfl (by decide) (by decide) rfl ?_
    exact hr
  · skip
    refine ev_seg 5 (k' := 12) (L' := [(2, .long v2), (0, .ref 52), (1, .int x1)]) (st' := [.int x1, .ref 26, .long v2]) rfl ?_
    refine ev_ldI hr rfl rfl (fun v3 hr => ?_)
    refine ev_seg 2 (k' := 15) (L' := [(2, .long v2), (0, .ref 52), (1, .int x1)]) (st' := [.int (aLcmp v2 v3.toInt64)]) rfl ?_
    refine ev_br (P := 0 ≤ aLcmp v2 v3.toInt64) (L' := [(2, .long v2), (0, .ref 52), (1, .int x1)]) (st' := []) hr rfl rfl rfl (fun hr => ?_) (fun hr => ?_)
    · skip
      refine ev_join (L' := [(0, .ref 52), (1, .int x1), (2, .long v2)]) [1, 2, 0] [2, 0, 1] [0, 1, 2] rfl rfl (by decide) (by decide) rfl ?_
      exact hr
    · skip
      refine ev_seg 2 (k' := 19) (L' := [(2, .long v2), (0, .ref 52), (1, .int x1)]) (st' := [.int 1]) rfl ?_
      refine ev_join (L' := [(0, .ref 52), (1, .int x1), (2, .long v2)]) [1, 2, 0] [2, 0, 1] [0, 1, 2] rfl rfl (by decide) (by decide) rfl ?_
      exact hr
set_option maxRecDepth 20000 in
theorem eTe_branchTold_18 (d : Nat) (x1 : Int32) (l2 : Int64) (s : aT) : ∀ r, (fTe_branchTold_19 (d + 1) x1 l2 0 s) = some r → fTe_branchTold_18 (d + 1) x1 l2 s = some r := by
  intro r hr
  show ev (d + 1) q_146 18 [(0, .ref 52), (1, .int x1), (2, .long l2)] [] s = some r
  refine ev_seg 1 (k' := 19) (L' := [(0, .ref 52), (1, .int x1), (2, .long l2)]) (st' := [.int 0]) rfl ?_
  exact hr
set_option maxRecDepth 20000 in
theorem eTe_branchTold_19 (d : Nat) (x1 : Int32) (l2 : Int64) (u0 : Int32) (s : aT) : ∀ r, (if u0 = 0 then rI 0 s else cG (fSc_partSchemaOf d x1 l2.toInt32 s) (kI fun v2 s1 => rI v2 s1)) = some r → fTe_branchTold_19 (d + 1) x1 l2 u0 s = some r := by
  intro r hr
  show ev (d + 1) q_146 19 [(0, .ref 52), (1, .int x1), (2, .long l2)] [.int u0] s = some r
  refine ev_seg 2 (k' := 21) (L' := [(4, .int u0), (0, .ref 52), (1, .int x1), (2, .long l2)]) (st' := [.int u0]) rfl ?_
  refine ev_br (P := u0 = 0) (L' := [(4, .int u0), (0, .ref 52), (1, .int x1), (2, .long l2)]) (st' := []) hr rfl rfl rfl (fun hr => ?_) (fun hr => ?_)
  · skip
    refine ev_seg 1 (k' := 30) (L' := [(4, .int u0), (0, .ref 52), (1, .int x1), (2, .long l2)]) (st' := [.int 0]) rfl ?_
    exact ev_iret hr rfl rfl rfl
  · skip
    refine ev_seg 5 (k' := 27) (L' := [(4, .int u0), (0, .ref 52), (1, .int x1), (2, .long l2)]) (st' := [.int l2.toInt32, .int x1, .ref 22]) rfl ?_
    refine ev_callV (q' := q_39) (x := 39) (y := 2) (c := 22) (As := [.int x1, .int l2.toInt32]) (rest := []) hr rfl rfl rfl rfl rfl rfl rfl rfl rfl rfl rfl rfl (fun rv s1 hq => ev_kI hq (fun v2 e9 hr => ?_))
    subst e9
    refine ev_st (st' := [.int v2]) rfl ?_
    refine ev_seg 1 (k' := 30) (L' := [(4, .int u0), (0, .ref 52), (1, .int x1), (2, .long l2)]) (st' := [.int v2]) rfl ?_
    exact ev_iret hr rfl rfl rfl
set_option maxRecDepth 20000 in
theorem eTe_skipItems (d : Nat) (x1 : Int32) (x2 : Int32) (s : aT) : ∀ r, (cG (fTe_varint d s) (kL fun v2 s1 => fTe_skipItems_5 (d + 1) x1 x2 v2 0 s1)) = some r → fTe_skipItems (d + 1) x1 x2 s = some r := by
  intro r hr
  show ev (d + 1) q_147 0 [(0, .ref 52), (1, .int x1), (2, .int x2)] [] s = some r
  refine ev_seg 1 (k' := 1) (L' := [(0, .ref 52), (1, .int x1), (2, .int x2)]) (st' := [.ref 52]) rfl ?_
  refine ev_callV (q' := q_145) (x := 145) (y := 8) (c := 52) (As := []) (rest := []) hr rfl rfl rfl rfl rfl rfl rfl rfl rfl rfl rfl rfl (fun rv s1 hq => ev_kL hq (fun v2 e9 hr => ?_))
  subst e9
  refine ev_st (st' := [.long v2]) rfl ?_
  refine ev_seg 3 (k' := 5) (L' := [(5, .int 0), (3, .long v2), (0, .ref 52), (1, .int x1), (2, .int x2)]) (st' := []) rfl ?_
  refine ev_join (L' := [(0, .ref 52), (1, .int x1), (2, .int x2), (3, .long v2), (5, .int 0)]) [2, 3, 4, 1, 0] [5, 3, 0, 1, 2] [0, 1, 2, 3, 5] rfl rfl (by decide) (by decide) rfl ?_
  exact hr
set_option maxRecDepth 20000 in
theorem eTe_skipItems_5 (d : Nat) (x1 : Int32) (x2 : Int32) (l3 : Int64) (z5 : Int32) (s : aT) : ∀ r, (if 0 ≤ aLcmp z5.toInt64 l3 then fTe_skipItems_36 (d + 1) l3 s else if 2000 ≤ z5 then fTe_skipItems_36 (d + 1) l3 s else ldI 5254 s 23 x1 (fun v1 => if ¬ v1 = 7 then fTe_skipItems_24 (d + 1) x1 x2 l3 z5 s else cG (fTe_skip d 5 x2 s) (kV fun s2 => fTe_skipItems_24 (d + 1) x1 x2 l3 z5 s2))) = some r → fTe_skipItems_5 (d + 1) x1 x2 l3 z5 s = some r := by
  intro r hr
  show ev (d + 1) q_147 5 [(0, .ref 52), (1, .int x1), (2, .int x2), (3, .long l3), (5, .int z5)] [] s = some r
  refine ev_seg 4 (k' := 9) (L' := [(0, .ref 52), (1, .int x1), (2, .int x2), (3, .long l3), (5, .int z5)]) (st' := [.int (aLcmp z5.toInt64 l3)]) rfl ?_
  refine ev_br (P := 0 ≤ aLcmp z5.toInt64 l3) (L' := [(0, .ref 52), (1, .int x1), (2, .int x2), (3, .long l3), (5, .int z5)]) (st' := []) hr rfl rfl rfl (fun hr => ?_) (fun hr => ?_)
  · skip
    refine ev_join (L' := [(0, .ref 52), (3, .long l3)]) [0, 3] [0, 1, 2, 3, 5] [0, 3] rfl rfl (by decide) (by decide) rfl ?_
    exact hr
  · skip
    refine ev_seg 2 (k' := 12) (L' := [(0, .ref 52), (1, .int x1), (2, .int x2), (3, .long l3), (5, .int z5)]) (st' := [.int 2000, .int z5]) rfl ?_
    refine ev_br (P := 2000 ≤ z5) (L' := [(0, .ref 52), (1, .int x1), (2, .int x2), (3, .long l3), (5, .int z5)]) (st' := []) hr rfl rfl rfl (fun hr => ?_) (fun hr => ?_)
    · skip
      refine ev_join (L' := [(0, .ref 52), (3, .long l3)]) [0, 3] [0, 1, 2, 3, 5] [0, 3] rfl rfl (by decide) (by decide) rfl ?_
      exact hr
    · skip
      refine ev_seg 4 (k' := 17) (L' := [(0, .ref 52), (1, .int x1), (2, .int x2), (3, .long l3), (5, .int z5)]) (st' := [.int x1, .ref 23]) rfl ?_
      refine ev_ldI hr rfl rfl (fun v1 hr => ?_)
      refine ev_seg 1 (k' := 19) (L' := [(0, .ref 52), (1, .int x1), (2, .int x2), (3, .long l3), (5, .int z5)]) (st' := [.int 7, .int v1]) rfl ?_
      refine ev_br (P := ¬ v1 = 7) (L' := [(0, .ref 52), (1, .int x1), (2, .int x2), (3, .long l3), (5, .int z5)]) (st' := []) hr rfl rfl rfl (fun hr => ?_) (fun hr => ?_)
      · skip
        exact hr
      · skip
        refine ev_seg 3 (k' := 23) (L' := [(0, .ref 52), (1, .int x1), (2, .int x2), (3, .long l3), (5, .int z5)]) (st' := [.int x2, .int 5, .ref 52]) rfl ?_
        refine ev_callV (q' := q_144) (x := 144) (y := 8) (c := 52) (As := [.int 5, .int x2]) (rest := []) hr rfl rfl rfl rfl rfl rfl rfl rfl rfl rfl rfl rfl (fun rv s2 hq => ev_kV hq (fun e9 hr => ?_))
        subst e9
        refine ev_st (st' := []) rfl ?_
        exact hr
set_option maxRecDepth 20000 in
theorem eTe_skipItems_36 (d : Nat) (l3 : Int64) (s : aT) : ∀ r, (if aLcmp l3 0 = 0 then rV s else cG (fTe_varint d s) (kL fun v2 s1 => rV s1)) = some r → fTe_skipItems_36 (d + 1) l3 s = some r := by
  intro r hr
  show ev (d + 1) q_147 36 [(0, .ref 52), (3, .long l3)] [] s = some r
  refine ev_seg 3 (k' := 39) (L' := [(0, .ref 52), (3, .long l3)]) (st' := [.int (aLcmp l3 0)]) rfl ?_
  refine ev_br (P := aLcmp l3 0 = 0) (L' := [(0, .ref 52), (3, .long l3)]) (st' := []) hr rfl rfl rfl (fun hr => ?_) (fun hr => ?_)
  · skip
    exact ev_vret hr rfl rfl
  · skip
    refine ev_seg 1 (k' := 41) (L' := [(0, .ref 52), (3, .long l3)]) (st' := [.ref 52]) rfl ?_
    refine ev_callV (q' := q_145) (x := 145) (y := 8) (c := 52) (As := []) (rest := []) hr rfl rfl rfl rfl rfl rfl rfl rfl rfl rfl rfl rfl (fun rv s1 hq => ev_kL hq (fun v2 e9 hr => ?_))
    subst e9
    refine ev_st (st' := [.long v2]) rfl ?_
    refine ev_seg 1 (k' := 43) (L' := [(0, .ref 52), (3, .long l3)]) (st' := []) rfl ?_
    exact ev_vret hr rfl rfl
set_option maxRecDepth 20000 in
theorem eTe_skipItems_24 (d : Nat) (x1 : Int32) (x2 : Int32) (l3 : Int64) (z5 : Int32) (s : aT) : ∀ r, (ldI 5254 s 27 x1 (fun v1 => cG (fTe_skip d v1 (x2 + 1) s) (kV fun s2 => fTe_skipItems_5 (d + 1) x1 x2 l3 (z5 + 1) s2))) = some r → fTe_skipItems_24 (d + 1) x1 x2 l3 z5 s = some r := by
  intro r hr
  show ev (d + 1) q_147 24 [(0, .ref 52), (1, .int x1), (2, .int x2), (3, .long l3), (5, .int z5)] [] s = some r
  refine ev_seg 5 (k' := 29) (L' := [(0, .ref 52), (1, .int x1), (2, .int x2), (3, .long l3), (5, .int z5)]) (st' := [.int x1, .ref 27, .ref 52]) rfl ?_
  refine ev_ldI hr rfl rfl (fun v1 hr => ?_)
  refine ev_seg 3 (k' := 33) (L' := [(0, .ref 52), (1, .int x1), (2, .int x2), (3, .long l3), (5, .int z5)]) (st' := [.int (x2 + 1), .int v1, .ref 52]) rfl ?_
  refine ev_callV (q' := q_144) (x := 144) (y := 8) (c := 52) (As := [.int v1, .int (x2 + 1)]) (rest := []) hr rfl rfl rfl rfl rfl rfl rfl rfl rfl rfl rfl rfl (fun rv s2 hq => ev_kV hq (fun e9 hr => ?_))
  subst e9
  refine ev_st (st' := []) rfl ?_
  refine ev_seg 2 (k' := 5) (L' := [(5, .int (z5 + 1)), (0, .ref 52), (1, .int x1), (2, .int x2), (3, .long l3)]) (st' := []) rfl ?_
  refine ev_join (L' := [(0, .ref 52), (1, .int x1), (2, .int x2), (3, .long l3), (5, .int (z5 + 1))]) [1, 2, 3, 4, 0] [5, 0, 1, 2, 3] [0, 1, 2, 3, 5] rfl rfl (by decide) (by decide) rfl ?_
  exact hr
set_option maxRecDepth 20000 in
theorem eTe_tell (d : Nat) (x1 : Int32) (x2 : Int32) (b3 : Nat) (s : aT) (hb3 : isB b3) : ∀ r, (wM (pM3 s b3) (fun s1 => cG (fTe_datum d x1 x2 0 s1) (kI fun v3 s2 => rI v3 s2))) = some r → fTe_tell (d + 1) x1 x2 b3 s = some r := by
  intro r hr
  show ev (d + 1) q_148 0 [(0, .ref 52), (1, .int x1), (2, .int x2), (3, .ref b3)] [] s = some r
  refine ev_seg 2 (k' := 2) (L' := [(0, .ref 52), (1, .int x1), (2, .int x2), (3, .ref b3)]) (st' := [.ref b3, .ref 52]) rfl ?_
  refine ev_putM (c := 52) (v := b3) hr rfl rfl rfl rfl (RM3 _ _) (fun s1 hr => ?_)
  refine ev_seg 4 (k' := 7) (L' := [(0, .ref 52), (1, .int x1), (2, .int x2), (3, .ref b3)]) (st' := [.int 0, .int x2, .int x1, .ref 52]) rfl ?_
  refine ev_callV (q' := q_149) (x := 149) (y := 8) (c := 52) (As := [.int x1, .int x2, .int 0]) (rest := []) hr rfl rfl rfl rfl rfl rfl rfl rfl rfl rfl rfl rfl (fun rv s2 hq => ev_kI hq (fun v3 e9 hr => ?_))
  subst e9
  refine ev_st (st' := [.int v3]) rfl ?_
  exact ev_iret hr rfl rfl rfl
set_option maxRecDepth 20000 in
theorem eTe_datum (d : Nat) (x1 : Int32) (x2 : Int32) (x3 : Int32) (s : aT) : ∀ r, (if x3 < 32 then ldI 5254 s 23 x1 (fun v1 => if ¬ v1 = 8 then ldI 5254 s 23 x2 (fun v2 => if ¬ v2 = 8 then fTe_datum_56 (d + 1) x1 x3 x2 s else cG (fMa_branchFor d x1 x2 s) (kI fun v4 s3 => if ¬ v4 = (-1) then gC (gM3 s3) 0 (cG (fBy_putVarint d (gM3 s3) v4.toInt64 s3) (kI fun v7 s6 => if ¬ v7 = 0 then cG (fSc_partSchemaOf d x2 v4 s6) (kI fun v9 s8 => fTe_datum_56 (d + 1) x1 x3 v9 s8) else rI (-31) s6)) else rI (-20) s3)) else cG (fTe_branchTold d x1 s) (kI fun v11 s10 => cG (fTe_datum d v11 x2 (x3 + 1) s10) (kI fun v13 s12 => rI v13 s12))) else rI (-20) s) = some r → fTe_datum (d + 1) x1 x2 x3 s = some r := by
  intro r hr
  show ev (d + 1) q_149 0 [(0, .ref 52), (1, .int x1), (2, .int x2), (3, .int x3)] [] s = some r
  refine ev_seg 2 (k' := 2) (L' := [(0, .ref 52), (1, .int x1), (2, .int x2), (3, .int x3)]) (st' := [.int 32, .int x3]) rfl ?_
  refine ev_br (P := x3 < 32) (L' := [(0, .ref 52), (1, .int x1), (2, .int x2), (3, .int x3)]) (st' := []) hr rfl rfl rfl (fun hr => ?_) (fun hr => ?_)
  · skip
    refine ev_seg 4 (k' := 9) (L' := [(0, .ref 52), (1, .int x1), (2, .int x2), (3, .int x3)]) (st' := [.int x1, .ref 23]) rfl ?_
    refine ev_ldI hr rfl rfl (fun v1 hr => ?_)
    refine ev_seg 1 (k' := 11) (L' := [(0, .ref 52), (1, .int x1), (2, .int x2), (3, .int x3)]) (st' := [.int 8, .int v1]) rfl ?_
    refine ev_br (P := ¬ v1 = 8) (L' := [(0, .ref 52), (1, .int x1), (2, .int x2), (3, .int x3)]) (st' := []) hr rfl rfl rfl (fun hr => ?_) (fun hr => ?_)
    · skip
      refine ev_seg 6 (k' := 28) (L' := [(4, .int x2), (0, .ref 52), (1, .int x1), (2, .int x2), (3, .int x3)]) (st' := [.int x2, .ref 23]) rfl ?_
      refine ev_ldI hr rfl rfl (fun v2 hr => ?_)
      refine ev_seg 1 (k' := 30) (L' := [(4, .int x2), (0, .ref 52), (1, .int x1), (2, .int x2), (3, .int x3)]) (st' := [.int 8, .int v2]) rfl ?_
      refine ev_br (P := ¬ v2 = 8) (L' := [(4, .int x2), (0, .ref 52), (1, .int x1), (2, .int x2), (3, .int x3)]) (st' := []) hr rfl rfl rfl (fun hr => ?_) (fun hr => ?_)
      · skip
        refine ev_join (L' := [(0, .ref 52), (1, .int x1), (3, .int x3), (4, .int x2)]) [1, 2, 4, 0] [4, 0, 1, 2, 3] [0, 1, 3, 4] rfl rfl (by decide) (by decide) rfl ?_
        exact hr
      · skip
        refine ev_seg 4 (k' := 35) (L' := [(4, .int x2), (0, .ref 52), (1, .int x1), (2, .int x2), (3, .int x3)]) (st' := [.int x2, .int x1, .ref 49]) rfl ?_
        refine ev_callV (q' := q_95) (x := 95) (y := 7) (c := 49) (As := [.int x1, .int x2]) (rest := []) hr rfl rfl rfl rfl rfl rfl rfl rfl rfl rfl rfl rfl (fun rv s3 hq => ev_kI hq (fun v4 e9 hr => ?_))
        subst e9
        refine ev_st (st' := [.int v4]) rfl ?_
        refine ev_seg 3 (k' := 39) (L' := [(5, .int v4), (4, .int x2), (0, .ref 52), (1, .int x1), (2, .int x2), (3, .int x3)]) (st' := [.int (-1), .int v4]) rfl ?_
        refine ev_br (P := ¬ v4 = (-1)) (L' := [(5, .int v4), (4, .int x2), (0, .ref 52), (1, .int x1), (2, .int x2), (3, .int x3)]) (st' := []) hr rfl rfl rfl (fun hr => ?_) (fun hr => ?_)
        · skip
          refine ev_seg 4 (k' := 46) (L' := [(5, .int v4), (4, .int x2), (0, .ref 52), (1, .int x1), (2, .int x2), (3, .int x3)]) (st' := [.long v4.toInt64, .ref (gM3 s3)]) rfl ?_
          refine ev_gC hr (fun h5 hr => ?_)
          refine ev_callV (q' := q_64) (x := 64) (y := 0) (c := (gM3 s3)) (As := [.long v4.toInt64]) (rest := []) hr rfl rfl rfl rfl rfl rfl h5 rfl rfl rfl rfl rfl (fun rv s6 hq => ev_kI hq (fun v7 e9 hr => ?_))
          subst e9
          refine ev_st (st' := [.int v7]) rfl ?_
          refine ev_br (P := ¬ v7 = 0) (L' := [(5, .int v4), (4, .int x2), (0, .ref 52), (1, .int x1), (2, .int x2), (3, .int x3)]) (st' := []) hr rfl rfl rfl (fun hr => ?_) (fun hr => ?_)
          · skip
            refine ev_seg 4 (k' := 54) (L' := [(5, .int v4), (4, .int x2), (0, .ref 52), (1, .int x1), (2, .int x2), (3, .int x3)]) (st' := [.int v4, .int x2, .ref 22]) rfl ?_
            refine ev_callV (q' := q_39) (x := 39) (y := 2) (c := 22) (As := [.int x2, .int v4]) (rest := []) hr rfl rfl rfl rfl rfl rfl rfl rfl rfl rfl rfl rfl (fun rv s8 hq => ev_kI hq (fun v9 e9 hr => ?_))
            subst e9
            refine ev_st (st' := [.int v9]) rfl ?_
            refine ev_seg 1 (k' := 56) (L' := [(4, .int v9), (5, .int v4), (0, .ref 52), (1, .int x1), (2, .int x2), (3, .int x3)]) (st' := []) rfl ?_
            refine ev_join (L' := [(0, .ref 52), (1, .int x1), (3, .int x3), (4, .int v9)]) [2, 3, 5, 0] [4, 5, 0, 1, 2, 3] [0, 1, 3, 4] rfl rfl (by decide) (by decide) rfl ?_
            exact hr
          · skip
            refine ev_seg 1 (k' := 49) (L' := [(5, .int v4), (4, .int x2), (0, .ref 52), (1, .int x1), (2, .int x2), (3, .int x3)]) (st' := [.int (-31)]) rfl ?_
            exact ev_iret hr rfl rfl rfl
        · skip
          refine ev_seg 1 (k' := 41) (L' := [(5, .int v4), (4, .int x2), (0, .ref 52), (1, .int x1), (2, .int x2), (3, .int x3)]) (st' := [.int (-20)]) rfl ?_
          exact ev_iret hr rfl rfl rfl
    · skip
      refine ev_seg 3 (k' := 15) (L' := [(0, .ref 52), (1, .int x1), (2, .int x2), (3, .int x3)]) (st' := [.int x1, .ref 52, .ref 52]) rfl ?_
      refine ev_callV (q' := q_146) (x := 146) (y := 8) (c := 52) (As := [.int x1]) (rest := [.ref 52]) hr rfl rfl rfl rfl rfl rfl rfl rfl rfl rfl rfl rfl (fun rv s10 hq => ev_kI hq (fun v11 e9 hr => ?_))
      subst e9
      refine ev_st (st' := [.int v11, .ref 52]) rfl ?_
      refine ev_seg 4 (k' := 20) (L' := [(0, .ref 52), (1, .int x1), (2, .int x2), (3, .int x3)]) (st' := [.int (x3 + 1), .int x2, .int v11, .ref 52]) rfl ?_
      refine ev_callV (q' := q_149) (x := 149) (y := 8) (c := 52) (As := [.int v11, .int x2, .int (x3 + 1)]) (rest := []) hr rfl rfl rfl rfl rfl rfl rfl rfl rfl rfl rfl rfl (fun rv s12 hq => ev_kI hq (fun v13 e9 hr => ?_))
      subst e9
      refine ev_st (st' := [.int v13]) rfl ?_
      exact ev_iret hr rfl rfl rfl
  · skip
    refine ev_seg 1 (k' := 4) (L' := [(0, .ref 52), (1, .int x1), (2, .int x2), (3, .int x3)]) (st' := [.int (-20)]) rfl ?_
    exact ev_iret hr rfl rfl rfl
set_option maxRecDepth 20000 in
theorem eTe_datum_56 (d : Nat) (x1 : Int32) (x3 : Int32) (z4 : Int32) (s : aT) : ∀ r, (cG (fMa_isAlike d x1 z4 s) (kI fun v2 s1 => if ¬ v2 = 0 then ldI 5254 s1 23 x1 (fun v3 => if v3 = 6 then cG (fTe_items d x1 z4 x3 s1) (kI fun v6 s5 => rI v6 s5) else if v3 = 7 then cG (fTe_items d x1 z4 x3 s1) (kI fun v9 s8 => rI v9 s8) else if v3 = 8 then cG (fTe_asItIs d x1 s1) (kI fun v12 s11 => rI v12 s11) else if v3 = 9 then cG (fTe_asItIs d x1 s1) (kI fun v15 s14 => rI v15 s14) else if v3 = 10 then cG (fTe_symbol d x1 z4 s1) (kI fun v18 s17 => rI v18 s17) else if v3 = 11 then cG (fTe_fields d x1 z4 x3 s1) (kI fun v21 s20 => rI v21 s20) else cG (fTe_asItIs d x1 s1) (kI fun v23 s22 => rI v23 s22)) else rI (-20) s1)) = some r → fTe_datum_56 (d + 1) x1 x3 z4 s = some r := by
  intro r hr
  show ev (d + 1) q_149 56 [(0, .ref 52), (1, .int x1), (3, .int x3), (4, .int z4)] [] s = some r
  refine ev_seg 4 (k' := 60) (L' := [(0, .ref 52), (1, .int x1), (3, .int x3), (4, .int z4)]) (st' := [.int z4, .int x1, .ref 49]) rfl ?_
  refine ev_callV (q' := q_97) (x := 97) (y := 7) (c := 49) (As := [.int x1, .int z4]) (rest := []) hr rfl rfl rfl rfl rfl rfl rfl rfl rfl rfl rfl rfl (fun rv s1 hq => ev_kI hq (fun v2 e9 hr => ?_))
  subst e9
  refine ev_st (st' := [.int v2]) rfl ?_
  refine ev_br (P := ¬ v2 = 0) (L' := [(0, .ref 52), (1, .int x1), (3, .int x3), (4, .int z4)]) (st' := []) hr rfl rfl rfl (fun hr => ?_) (fun hr => ?_)
  · skip
    refine ev_seg 4 (k' := 68) (L' := [(0, .ref 52), (1, .int x1), (3, .int x3), (4, .int z4)]) (st' := [.int x1, .ref 23]) rfl ?_
    refine ev_ldI hr rfl rfl (fun v3 hr => ?_)
    refine ev_if hr (fun h4 hr => ?_) (fun h4 hr => ?_)
    · skip
      refine ev_tab (o := 54) (t := 81) rfl (by rw [h4]; rfl) rfl ?_
      refine ev_seg 4 (k' := 85) (L' := [(0, .ref 52), (1, .int x1), (3, .int x3), (4, .int z4)]) (st' := [.int x3, .int z4, .int x1, .ref 52]) rfl ?_
      refine ev_callV (q' := q_153) (x := 153) (y := 8) (c := 52) (As := [.int x1, .int z4, .int x3]) (rest := []) hr rfl rfl rfl rfl rfl rfl rfl rfl rfl rfl rfl rfl (fun rv s5 hq => ev_kI hq (fun v6 e9 hr => ?_))
      subst e9
      refine ev_st (st' := [.int v6]) rfl ?_
      exact ev_iret hr rfl rfl rfl
    refine ev_if hr (fun h7 hr => ?_) (fun h7 hr => ?_)
    · skip
      refine ev_tab (o := 54) (t := 81) rfl (by rw [h7]; rfl) rfl ?_
      refine ev_seg 4 (k' := 85) (L' := [(0, .ref 52), (1, .int x1), (3, .int x3), (4, .int z4)]) (st' := [.int x3, .int z4, .int x1, .ref 52]) rfl ?_
      refine ev_callV (q' := q_153) (x := 153) (y := 8) (c := 52) (As := [.int x1, .int z4, .int x3]) (rest := []) hr rfl rfl rfl rfl rfl rfl rfl rfl rfl rfl rfl rfl (fun rv s8 hq => ev_kI hq (fun v9 e9 hr => ?_))
      subst e9
      refine ev_st (st' := [.int v9]) rfl ?_
      exact ev_iret hr rfl rfl rfl
    refine ev_if hr (fun h10 hr => ?_) (fun h10 hr => ?_)
    · skip
      refine ev_tab (o := 63) (t := 87) rfl (by rw [h10]; rfl) rfl ?_
      refine ev_seg 2 (k' := 89) (L' := [(0, .ref 52), (1, .int x1), (3, .int x3), (4, .int z4)]) (st' := [.int x1, .ref 52]) rfl ?_
      refine ev_callV (q' := q_154) (x := 154) (y := 8) (c := 52) (As := [.int x1]) (rest := []) hr rfl rfl rfl rfl rfl rfl rfl rfl rfl rfl rfl rfl (fun rv s11 hq => ev_kI hq (fun v12 e9 hr => ?_))
      subst e9
      refine ev_st (st' := [.int v12]) rfl ?_
      exact ev_iret hr rfl rfl rfl
    refine ev_if hr (fun h13 hr => ?_) (fun h13 hr => ?_)
    · skip
      refine ev_tab (o := 63) (t := 87) rfl (by rw [h13]; rfl) rfl ?_
      refine ev_seg 2 (k' := 89) (L' := [(0, .ref 52), (1, .int x1), (3, .int x3), (4, .int z4)]) (st' := [.int x1, .ref 52]) rfl ?_
      refine ev_callV (q' := q_154) (x := 154) (y := 8) (c := 52) (As := [.int x1]) (rest := []) hr rfl rfl rfl rfl rfl rfl rfl rfl rfl rfl rfl rfl (fun rv s14 hq => ev_kI hq (fun v15 e9 hr => ?_))
      subst e9
      refine ev_st (st' := [.int v15]) rfl ?_
      exact ev_iret hr rfl rfl rfl
    refine ev_if hr (fun h16 hr => ?_) (fun h16 hr => ?_)
    · skip
      refine ev_tab (o := 37) (t := 70) rfl (by rw [h16]; rfl) rfl ?_
      refine ev_seg 3 (k' := 73) (L' := [(0, .ref 52), (1, .int x1), (3, .int x3), (4, .int z4)]) (st' := [.int z4, .int x1, .ref 52]) rfl ?_
      refine ev_callV (q' := q_150) (x := 150) (y := 8) (c := 52) (As := [.int x1, .int z4]) (rest := []) hr rfl rfl rfl rfl rfl rfl rfl rfl rfl rfl rfl rfl (fun rv s17 hq => ev_kI hq (fun v18 e9 hr => ?_))
      subst e9
      refine ev_st (st' := [.int v18]) rfl ?_
      exact ev_iret hr rfl rfl rfl
    refine ev_if hr (fun h19 hr => ?_) (fun h19 hr => ?_)
    · skip
      refine ev_tab (o := 45) (t := 75) rfl (by rw [h19]; rfl) rfl ?_
      refine ev_seg 4 (k' := 79) (L' := [(0, .ref 52), (1, .int x1), (3, .int x3), (4, .int z4)]) (st' := [.int x3, .int z4, .int x1, .ref 52]) rfl ?_
      refine ev_callV (q' := q_151) (x := 151) (y := 8) (c := 52) (As := [.int x1, .int z4, .int x3]) (rest := []) hr rfl rfl rfl rfl rfl rfl rfl rfl rfl rfl rfl rfl (fun rv s20 hq => ev_kI hq (fun v21 e9 hr => ?_))
      subst e9
      refine ev_st (st' := [.int v21]) rfl ?_
      exact ev_iret hr rfl rfl rfl
    refine ev_tab (o := 63) (t := 87) rfl (tab_in (by have e0 := i_neL (z := 6) (w := 6) rfl h4; have e1 := i_neL (z := 7) (w := 7) rfl h7; have e2 := i_neL (z := 8) (w := 8) rfl h10; have e3 := i_neL (z := 9) (w := 9) rfl h13; have e4 := i_neL (z := 10) (w := 10) rfl h16; have e5 := i_neL (z := 11) (w := 11) rfl h19; omega)) rfl ?_
    refine ev_seg 2 (k' := 89) (L' := [(0, .ref 52), (1, .int x1), (3, .int x3), (4, .int z4)]) (st' := [.int x1, .ref 52]) rfl ?_
    refine ev_callV (q' := q_154) (x := 154) (y := 8) (c := 52) (As := [.int x1]) (rest := []) hr rfl rfl rfl rfl rfl rfl rfl rfl rfl rfl rfl rfl (fun rv s22 hq => ev_kI hq (fun v23 e9 hr => ?_))
    subst e9
    refine ev_st (st' := [.int v23]) rfl ?_
    exact ev_iret hr rfl rfl rfl
  · skip
    refine ev_seg 1 (k' := 63) (L' := [(0, .ref 52), (1, .int x1), (3, .int x3), (4, .int z4)]) (st' := [.int (-20)]) rfl ?_
    exact ev_iret hr rfl rfl rfl
set_option maxRecDepth 20000 in
theorem eTe_symbol (d : Nat) (x1 : Int32) (x2 : Int32) (s : aT) : ∀ r, (cG (fTe_varint d s) (kL fun v2 s1 => if aLcmp v2 0 < 0 then rI (-20) s1 else ldI 5254 s1 26 x1 (fun v3 => if aLcmp v2 v3.toInt64 < 0 then ldI 5254 s1 25 x1 (fun v4 => cG (fSc_partLike d x2 (v4 + v2.toInt32) s1) (kI fun v6 s5 => if ¬ v6 = (-1) then fTe_symbol_41 (d + 1) v6 s5 else ldI 5254 s5 27 x2 (fun v7 => fTe_symbol_41 (d + 1) v7 s5))) else rI (-20) s1))) = some r → fTe_symbol (d + 1) x1 x2 s = some r := by
  intro r hr
  show ev (d + 1) q_150 0 [(0, .ref 52), (1, .int x1), (2, .int x2)] [] s = some r
  refine ev_seg 1 (k' := 1) (L' := [(0, .ref 52), (1, .int x1), (2, .int x2)]) (st' := [.ref 52]) rfl ?_
  refine ev_callV (q' := q_145) (x := 145) (y := 8) (c := 52) (As := []) (rest := []) hr rfl rfl rfl rfl rfl rfl rfl rfl rfl rfl rfl rfl (fun rv s1 hq => ev_kL hq (fun v2 e9 hr => ?_))
  subst e9
  refine ev_st (st' := [.long v2]) rfl ?_
  refine ev_seg 4 (k' := 6) (L' := [(3, .long v2), (0, .ref 52), (1, .int x1), (2, .int x2)]) (st' := [.int (aLcmp v2 0)]) rfl ?_
  refine ev_br (P := aLcmp v2 0 < 0) (L' := [(3, .long v2), (0, .ref 52), (1, .int x1), (2, .int x2)]) (st' := []) hr rfl rfl rfl (fun hr => ?_) (fun hr => ?_)
  · skip
    refine ev_seg 1 (k' := 17) (L' := [(3, .long v2), (0, .ref 52), (1, .int x1), (2, .int x2)]) (st' := [.int (-20)]) rfl ?_
    exact ev_iret hr rfl rfl rfl
  · skip
    refine ev_seg 5 (k' := 12) (L' := [(3, .long v2), (0, .ref 52), (1, .int x1), (2, .int x2)]) (st' := [.int x1, .ref 26, .long v2]) rfl ?_
    refine ev_ldI hr rfl rfl (fun v3 hr => ?_)
    refine ev_seg 2 (k' := 15) (L' := [(3, .long v2), (0, .ref 52), (1, .int x1), (2, .int x2)]) (st' := [.int (aLcmp v2 v3.toInt64)]) rfl ?_
    refine ev_br (P := aLcmp v2 v3.toInt64 < 0) (L' := [(3, .long v2), (0, .ref 52), (1, .int x1), (2, .int x2)]) (st' := []) hr rfl rfl rfl (fun hr => ?_) (fun hr => ?_)
    · skip
      refine ev_seg 7 (k' := 25) (L' := [(3, .long v2), (0, .ref 52), (1, .int x1), (2, .int x2)]) (st' := [.int x1, .ref 25, .int x2, .ref 22]) rfl ?_
      refine ev_ldI hr rfl rfl (fun v4 hr => ?_)
      refine ev_seg 3 (k' := 29) (L' := [(3, .long v2), (0, .ref 52), (1, .int x1), (2, .int x2)]) (st' := [.int (v4 + v2.toInt32), .int x2, .ref 22]) rfl ?_
      refine ev_callV (q' := q_102) (x := 102) (y := 2) (c := 22) (As := [.int x2, .int (v4 + v2.toInt32)]) (rest := []) hr rfl rfl rfl rfl rfl rfl rfl rfl rfl rfl rfl rfl (fun rv s5 hq => ev_kI hq (fun v6 e9 hr => ?_))
      subst e9
      refine ev_st (st' := [.int v6]) rfl ?_
      refine ev_seg 3 (k' := 33) (L' := [(5, .int v6), (3, .long v2), (0, .ref 52), (1, .int x1), (2, .int x2)]) (st' := [.int (-1), .int v6]) rfl ?_
      refine ev_br (P := ¬ v6 = (-1)) (L' := [(5, .int v6), (3, .long v2), (0, .ref 52), (1, .int x1), (2, .int x2)]) (st' := []) hr rfl rfl rfl (fun hr => ?_) (fun hr => ?_)
      · skip
        refine ev_seg 1 (k' := 41) (L' := [(5, .int v6), (3, .long v2), (0, .ref 52), (1, .int x1), (2, .int x2)]) (st' := [.int v6]) rfl ?_
        refine ev_join (L' := [(0, .ref 52)]) [2] [5, 3, 0, 1, 2] [0] rfl rfl (by decide) (by decide) rfl ?_
        exact hr
      · skip
        refine ev_seg 4 (k' := 38) (L' := [(5, .int v6), (3, .long v2), (0, .ref 52), (1, .int x1), (2, .int x2)]) (st' := [.int x2, .ref 27]) rfl ?_
        refine ev_ldI hr rfl rfl (fun v7 hr => ?_)
        refine ev_seg 1 (k' := 41) (L' := [(5, .int v6), (3, .long v2), (0, .ref 52), (1, .int x1), (2, .int x2)]) (st' := [.int v7]) rfl ?_
        refine ev_join (L' := [(0, .ref 52)]) [2] [5, 3, 0, 1, 2] [0] rfl rfl (by decide) (by decide) rfl ?_
        exact hr
    · skip
      refine ev_seg 1 (k' := 17) (L' := [(3, .long v2), (0, .ref 52), (1, .int x1), (2, .int x2)]) (st' := [.int (-20)]) rfl ?_
      exact ev_iret hr rfl rfl rfl
set_option maxRecDepth 20000 in
theorem eTe_symbol_41 (d : Nat) (u0 : Int32) (s : aT) : ∀ r, (if ¬ u0 = (-1) then gC (gM3 s) 0 (cG (fBy_putVarint d (gM3 s) u0.toInt64 s) (kI fun v3 s2 => if v3 = 0 then rI (-31) s2 else rI 0 s2)) else rI (-20) s) = some r → fTe_symbol_41 (d + 1) u0 s = some r := by
  intro r hr
  show ev (d + 1) q_150 41 [(0, .ref 52)] [.int u0] s = some r
  refine ev_seg 3 (k' := 44) (L' := [(6, .int u0), (0, .ref 52)]) (st' := [.int (-1), .int u0]) rfl ?_
  refine ev_br (P := ¬ u0 = (-1)) (L' := [(6, .int u0), (0, .ref 52)]) (st' := []) hr rfl rfl rfl (fun hr => ?_) (fun hr => ?_)
  · skip
    refine ev_seg 4 (k' := 51) (L' := [(6, .int u0), (0, .ref 52)]) (st' := [.long u0.toInt64, .ref (gM3 s)]) rfl ?_
    refine ev_gC hr (fun h1 hr => ?_)
    refine ev_callV (q' := q_64) (x := 64) (y := 0) (c := (gM3 s)) (As := [.long u0.toInt64]) (rest := []) hr rfl rfl rfl rfl rfl rfl h1 rfl rfl rfl rfl rfl (fun rv s2 hq => ev_kI hq (fun v3 e9 hr => ?_))
    subst e9
    refine ev_st (st' := [.int v3]) rfl ?_
    refine ev_br (P := v3 = 0) (L' := [(6, .int u0), (0, .ref 52)]) (st' := []) hr rfl rfl rfl (fun hr => ?_) (fun hr => ?_)
    · skip
      refine ev_seg 1 (k' := 56) (L' := [(6, .int u0), (0, .ref 52)]) (st' := [.int (-31)]) rfl ?_
      exact ev_iret hr rfl rfl rfl
    · skip
      refine ev_seg 2 (k' := 56) (L' := [(6, .int u0), (0, .ref 52)]) (st' := [.int 0]) rfl ?_
      exact ev_iret hr rfl rfl rfl
  · skip
    refine ev_seg 1 (k' := 46) (L' := [(6, .int u0), (0, .ref 52)]) (st' := [.int (-20)]) rfl ?_
    exact ev_iret hr rfl rfl rfl
set_option maxRecDepth 20000 in
theorem eTe_fields (d : Nat) (x1 : Int32) (x2 : Int32) (x3 : Int32) (s : aT) : ∀ r, (fTe_fields_6 (d + 1) x1 x2 x3 (x3 * 32) 0 s) = some r → fTe_fields (d + 1) x1 x2 x3 s = some r := by
  intro r hr
  show ev (d + 1) q_151 0 [(0, .ref 52), (1, .int x1), (2, .int x2), (3, .int x3)] [] s = some r
  refine ev_seg 6 (k' := 6) (L' := [(5, .int 0), (4, .int (x3 * 32)), (0, .ref 52), (1, .int x1), (2, .int x2), (3, .int x3)]) (st' := []) rfl ?_
  refine ev_join (L' := [(0, .ref 52), (1, .int x1), (2, .int x2), (3, .int x3), (4, .int (x3 * 32)), (5, .int 0)]) [2, 3, 4, 5, 1, 0] [5, 4, 0, 1, 2, 3] [0, 1, 2, 3, 4, 5] rfl rfl (by decide) (by decide) rfl ?_
  exact hr
set_option maxRecDepth 20000 in
theorem eTe_fields_6 (d : Nat) (x1 : Int32) (x2 : Int32) (x3 : Int32) (z4 : Int32) (z5 : Int32) (s : aT) : ∀ r, (ldI 5254 s 26 x1 (fun v1 => if v1 ≤ z5 then fTe_fields_38 (d + 1) x1 x2 x3 z4 (gI s 52 0) 0 s else stI 1024 s 53 (z4 + z5) (gI s 52 0) (fun s2 => cG (fSc_partSchemaOf d x1 z5 s2) (kI fun v4 s3 => cG (fTe_skip d v4 (x3 + 1) s3) (kV fun s5 => fTe_fields_6 (d + 1) x1 x2 x3 z4 (z5 + 1) s5))))) = some r → fTe_fields_6 (d + 1) x1 x2 x3 z4 z5 s = some r := by
  intro r hr
  show ev (d + 1) q_151 6 [(0, .ref 52), (1, .int x1), (2, .int x2), (3, .int x3), (4, .int z4), (5, .int z5)] [] s = some r
  refine ev_seg 5 (k' := 11) (L' := [(0, .ref 52), (1, .int x1), (2, .int x2), (3, .int x3), (4, .int z4), (5, .int z5)]) (st' := [.int x1, .ref 26, .int z5]) rfl ?_
  refine ev_ldI hr rfl rfl (fun v1 hr => ?_)
  refine ev_br (P := v1 ≤ z5) (L' := [(0, .ref 52), (1, .int x1), (2, .int x2), (3, .int x3), (4, .int z4), (5, .int z5)]) (st' := []) hr rfl rfl rfl (fun hr => ?_) (fun hr => ?_)
  · skip
    refine ev_seg 5 (k' := 38) (L' := [(6, .int 0), (5, .int (gI s 52 0)), (0, .ref 52), (1, .int x1), (2, .int x2), (3, .int x3), (4, .int z4)]) (st' := []) rfl ?_
    refine ev_join (L' := [(0, .ref 52), (1, .int x1), (2, .int x2), (3, .int x3), (4, .int z4), (5, .int (gI s 52 0)), (6, .int 0)]) [2, 3, 4, 5, 6, 1, 0] [6, 5, 0, 1, 2, 3, 4] [0, 1, 2, 3, 4, 5, 6] rfl rfl (by decide) (by decide) rfl ?_
    exact hr
  · skip
    refine ev_seg 7 (k' := 20) (L' := [(0, .ref 52), (1, .int x1), (2, .int x2), (3, .int x3), (4, .int z4), (5, .int z5)]) (st' := [.int (gI s 52 0), .int (z4 + z5), .ref 53]) rfl ?_
    refine ev_stI hr rfl rfl (fun s2 hr => ?_)
    refine ev_seg 5 (k' := 26) (L' := [(0, .ref 52), (1, .int x1), (2, .int x2), (3, .int x3), (4, .int z4), (5, .int z5)]) (st' := [.int z5, .int x1, .ref 22, .ref 52]) rfl ?_
    refine ev_callV (q' := q_39) (x := 39) (y := 2) (c := 22) (As := [.int x1, .int z5]) (rest := [.ref 52]) hr rfl rfl rfl rfl rfl rfl rfl rfl rfl rfl rfl rfl (fun rv s3 hq => ev_kI hq (fun v4 e9 hr => ?_))
    subst e9
    refine ev_st (st' := [.int v4, .ref 52]) rfl ?_
    refine ev_seg 3 (k' := 30) (L' := [(0, .ref 52), (1, .int x1), (2, .int x2), (3, .int x3), (4, .int z4), (5, .int z5)]) (st' := [.int (x3 + 1), .int v4, .ref 52]) rfl ?_
    refine ev_callV (q' := q_144) (x := 144) (y := 8) (c := 52) (As := [.int v4, .int (x3 + 1)]) (rest := []) hr rfl rfl rfl rfl rfl rfl rfl rfl rfl rfl rfl rfl (fun rv s5 hq => ev_kV hq (fun e9 hr => ?_))
    subst e9
    refine ev_st (st' := []) rfl ?_
    refine ev_seg 2 (k' := 6) (L' := [(5, .int (z5 + 1)), (0, .ref 52), (1, .int x1), (2, .int x2), (3, .int x3), (4, .int z4)]) (st' := []) rfl ?_
    refine ev_join (L' := [(0, .ref 52), (1, .int x1), (2, .int x2), (3, .int x3), (4, .int z4), (5, .int (z5 + 1))]) [1, 2, 3, 4, 5, 0] [5, 0, 1, 2, 3, 4] [0, 1, 2, 3, 4, 5] rfl rfl (by decide) (by decide) rfl ?_
    exact hr
set_option maxRecDepth 20000 in
theorem eTe_fields_38 (d : Nat) (x1 : Int32) (x2 : Int32) (x3 : Int32) (z4 : Int32) (z5 : Int32) (z6 : Int32) (s : aT) : ∀ r, (ldI 5254 s 26 x2 (fun v1 => if v1 ≤ z6 then wI s 52 0 z5 (fun s2 => rI 0 s2) else ldI 5254 s 25 x2 (fun v3 => cG (fSc_partLike d x1 (v3 + z6) s) (kI fun v5 s4 => if ¬ v5 = (-1) then ldI 1024 s4 53 (z4 + v5) (fun v6 => wI s4 52 0 v6 (fun s7 => cG (fSc_partSchemaOf d x1 v5 s7) (kI fun v9 s8 => ldI 10112 s8 29 (v3 + z6) (fun v10 => cG (fTe_datum d v9 v10 (x3 + 1) s8) (kI fun v12 s11 => fTe_fields_91 (d + 1) x1 x2 x3 z4 z5 z6 v12 s11))))) else cG (fTe_defaultOf d (v3 + z6) s4) (kI fun v14 s13 => fTe_fields_91 (d + 1) x1 x2 x3 z4 z5 z6 v14 s13))))) = some r → fTe_fields_38 (d + 1) x1 x2 x3 z4 z5 z6 s = some r := by
  intro r hr
  show ev (d + 1) q_151 38 [(0, .ref 52), (1, .int x1), (2, .int x2), (3, .int x3), (4, .int z4), (5, .int z5), (6, .int z6)] [] s = some r
  refine ev_seg 5 (k' := 43) (L' := [(0, .ref 52), (1, .int x1), (2, .int x2), (3, .int x3), (4, .int z4), (5, .int z5), (6, .int z6)]) (st' := [.int x2, .ref 26, .int z6]) rfl ?_
  refine ev_ldI hr rfl rfl (fun v1 hr => ?_)
  refine ev_br (P := v1 ≤ z6) (L' := [(0, .ref 52), (1, .int x1), (2, .int x2), (3, .int x3), (4, .int z4), (5, .int z5), (6, .int z6)]) (st' := []) hr rfl rfl rfl (fun hr => ?_) (fun hr => ?_)
  · skip
    refine ev_seg 2 (k' := 99) (L' := [(0, .ref 52), (1, .int x1), (2, .int x2), (3, .int x3), (4, .int z4), (5, .int z5), (6, .int z6)]) (st' := [.int z5, .ref 52]) rfl ?_
    refine ev_putI (c := 52) hr rfl rfl rfl (fun s2 hr => ?_)
    refine ev_seg 1 (k' := 101) (L' := [(0, .ref 52), (1, .int x1), (2, .int x2), (3, .int x3), (4, .int z4), (5, .int z5), (6, .int z6)]) (st' := [.int 0]) rfl ?_
    exact ev_iret hr rfl rfl rfl
  · skip
    refine ev_seg 4 (k' := 49) (L' := [(0, .ref 52), (1, .int x1), (2, .int x2), (3, .int x3), (4, .int z4), (5, .int z5), (6, .int z6)]) (st' := [.int x2, .ref 25]) rfl ?_
    refine ev_ldI hr rfl rfl (fun v3 hr => ?_)
    refine ev_seg 7 (k' := 57) (L' := [(7, .int (v3 + z6)), (0, .ref 52), (1, .int x1), (2, .int x2), (3, .int x3), (4, .int z4), (5, .int z5), (6, .int z6)]) (st' := [.int (v3 + z6), .int x1, .ref 22]) rfl ?_
    refine ev_callV (q' := q_102) (x := 102) (y := 2) (c := 22) (As := [.int x1, .int (v3 + z6)]) (rest := []) hr rfl rfl rfl rfl rfl rfl rfl rfl rfl rfl rfl rfl (fun rv s4 hq => ev_kI hq (fun v5 e9 hr => ?_))
    subst e9
    refine ev_st (st' := [.int v5]) rfl ?_
    refine ev_seg 3 (k' := 61) (L' := [(8, .int v5), (7, .int (v3 + z6)), (0, .ref 52), (1, .int x1), (2, .int x2), (3, .int x3), (4, .int z4), (5, .int z5), (6, .int z6)]) (st' := [.int (-1), .int v5]) rfl ?_
    refine ev_br (P := ¬ v5 = (-1)) (L' := [(8, .int v5), (7, .int (v3 + z6)), (0, .ref 52), (1, .int x1), (2, .int x2), (3, .int x3), (4, .int z4), (5, .int z5), (6, .int z6)]) (st' := []) hr rfl rfl rfl (fun hr => ?_) (fun hr => ?_)
    · skip
      refine ev_seg 6 (k' := 73) (L' := [(8, .int v5), (7, .int (v3 + z6)), (0, .ref 52), (1, .int x1), (2, .int x2), (3, .int x3), (4, .int z4), (5, .int z5), (6, .int z6)]) (st' := [.int (z4 + v5), .ref 53, .ref 52]) rfl ?_
      refine ev_ldI hr rfl rfl (fun v6 hr => ?_)
      refine ev_putI (c := 52) hr rfl rfl rfl (fun s7 hr => ?_)
      refine ev_seg 5 (k' := 80) (L' := [(8, .int v5), (7, .int (v3 + z6)), (0, .ref 52), (1, .int x1), (2, .int x2), (3, .int x3), (4, .int z4), (5, .int z5), (6, .int z6)]) (st' := [.int v5, .int x1, .ref 22, .ref 52]) rfl ?_
      refine ev_callV (q' := q_39) (x := 39) (y := 2) (c := 22) (As := [.int x1, .int v5]) (rest := [.ref 52]) hr rfl rfl rfl rfl rfl rfl rfl rfl rfl rfl rfl rfl (fun rv s8 hq => ev_kI hq (fun v9 e9 hr => ?_))
      subst e9
      refine ev_st (st' := [.int v9, .ref 52]) rfl ?_
      refine ev_seg 4 (k' := 85) (L' := [(8, .int v5), (7, .int (v3 + z6)), (0, .ref 52), (1, .int x1), (2, .int x2), (3, .int x3), (4, .int z4), (5, .int z5), (6, .int z6)]) (st' := [.int (v3 + z6), .ref 29, .int v9, .ref 52]) rfl ?_
      refine ev_ldI hr rfl rfl (fun v10 hr => ?_)
      refine ev_seg 3 (k' := 89) (L' := [(8, .int v5), (7, .int (v3 + z6)), (0, .ref 52), (1, .int x1), (2, .int x2), (3, .int x3), (4, .int z4), (5, .int z5), (6, .int z6)]) (st' := [.int (x3 + 1), .int v10, .int v9, .ref 52]) rfl ?_
      refine ev_callV (q' := q_149) (x := 149) (y := 8) (c := 52) (As := [.int v9, .int v10, .int (x3 + 1)]) (rest := []) hr rfl rfl rfl rfl rfl rfl rfl rfl rfl rfl rfl rfl (fun rv s11 hq => ev_kI hq (fun v12 e9 hr => ?_))
      subst e9
      refine ev_st (st' := [.int v12]) rfl ?_
      refine ev_seg 1 (k' := 91) (L' := [(9, .int v12), (8, .int v5), (7, .int (v3 + z6)), (0, .ref 52), (1, .int x1), (2, .int x2), (3, .int x3), (4, .int z4), (5, .int z5), (6, .int z6)]) (st' := []) rfl ?_
      refine ev_join (L' := [(0, .ref 52), (1, .int x1), (2, .int x2), (3, .int x3), (4, .int z4), (5, .int z5), (6, .int z6), (9, .int v12)]) [3, 4, 5, 6, 7, 8, 9, 0] [9, 8, 7, 0, 1, 2, 3, 4, 5, 6] [0, 1, 2, 3, 4, 5, 6, 9] rfl rfl (by decide) (by decide) rfl ?_
      exact hr
    · skip
      refine ev_seg 2 (k' := 64) (L' := [(8, .int v5), (7, .int (v3 + z6)), (0, .ref 52), (1, .int x1), (2, .int x2), (3, .int x3), (4, .int z4), (5, .int z5), (6, .int z6)]) (st' := [.int (v3 + z6), .ref 52]) rfl ?_
      refine ev_callV (q' := q_152) (x := 152) (y := 8) (c := 52) (As := [.int (v3 + z6)]) (rest := []) hr rfl rfl rfl rfl rfl rfl rfl rfl rfl rfl rfl rfl (fun rv s13 hq => ev_kI hq (fun v14 e9 hr => ?_))
      subst e9
      refine ev_st (st' := [.int v14]) rfl ?_
      refine ev_seg 2 (k' := 91) (L' := [(9, .int v14), (8, .int v5), (7, .int (v3 + z6)), (0, .ref 52), (1, .int x1), (2, .int x2), (3, .int x3), (4, .int z4), (5, .int z5), (6, .int z6)]) (st' := []) rfl ?_
      refine ev_join (L' := [(0, .ref 52), (1, .int x1), (2, .int x2), (3, .int x3), (4, .int z4), (5, .int z5), (6, .int z6), (9, .int v14)]) [3, 4, 5, 6, 7, 8, 9, 0] [9, 8, 7, 0, 1, 2, 3, 4, 5, 6] [0, 1, 2, 3, 4, 5, 6, 9] rfl rfl (by decide) (by decide) rfl ?_
      exact hr
set_option maxRecDepth 20000 in
theorem eTe_fields_91 (d : Nat) (x1 : Int32) (x2 : Int32) (x3 : Int32) (z4 : Int32) (z5 : Int32) (z6 : Int32) (z9 : Int32) (s : aT) : ∀ r, (if z9 = 0 then fTe_fields_38 (d + 1) x1 x2 x3 z4 z5 (z6 + 1) s else rI z9 s) = some r → fTe_fields_91 (d + 1) x1 x2 x3 z4 z5 z6 z9 s = some r := by
  intro r hr
  show ev (d + 1) q_151 91 [(0, .ref 52), (1, .int x1), (2, .int x2), (3, .int x3), (4, .int z4), (5, .int z5), (6, .int z6), (9, .int z9)] [] s = some r
  refine ev_seg 1 (k' := 92) (L' := [(0, .ref 52), (1, .int x1), (2, .int x2), (3, .int x3), (4, .int z4), (5, .int z5), (6, .int z6), (9, .int z9)]) (st' := [.int z9]) rfl ?_
  refine ev_br (P := z9 = 0) (L' := [(0, .ref 52), (1, .int x1), (2, .int x2), (3, .int x3), (4, .int z4), (5, .int z5), (6, .int z6), (9, .int z9)]) (st' := []) hr rfl rfl rfl (fun hr => ?_) (fun hr => ?_)
  · skip
    refine ev_seg 2 (k' := 38) (L' := [(6, .int (z6 + 1)), (0, .ref 52), (1, .int x1), (2, .int x2), (3, .int x3), (4, .int z4), (5, .int z5), (9, .int z9)]) (st' := []) rfl ?_
    refine ev_join (L' := [(0, .ref 52), (1, .int x1), (2, .int x2), (3, .int x3), (4, .int z4), (5, .int z5), (6, .int (z6 + 1))]) [1, 2, 3, 4, 5, 6, 0] [6, 0, 1, 2, 3, 4, 5, 9] [0, 1, 2, 3, 4, 5, 6] rfl rfl (by decide) (by decide) rfl ?_
    exact hr
  · skip
    refine ev_seg 1 (k' := 94) (L' := [(0, .ref 52), (1, .int x1), (2, .int x2), (3, .int x3), (4, .int z4), (5, .int z5), (6, .int z6), (9, .int z9)]) (st' := [.int z9]) rfl ?_
    exact ev_iret hr rfl rfl rfl
set_option maxRecDepth 20000 in
theorem eTe_defaultOf (d : Nat) (x1 : Int32) (s : aT) : ∀ r, (ldI 10112 s 30 x1 (fun v1 => if ¬ v1 = (-1) then ldI 10112 s 30 x1 (fun v2 => ldI 10112 s 31 x1 (fun v3 => gC (gM3 s) 0 (cG (fBy_putRow d (gM3 s) 33 v2 v3 s) (kI fun v6 s5 => if v6 = 0 then rI (-31) s5 else rI 0 s5)))) else rI (-20) s)) = some r → fTe_defaultOf (d + 1) x1 s = some r := by
  intro r hr
  show ev (d + 1) q_152 0 [(0, .ref 52), (1, .int x1)] [] s = some r
  refine ev_seg 4 (k' := 4) (L' := [(0, .ref 52), (1, .int x1)]) (st' := [.int x1, .ref 30]) rfl ?_
  refine ev_ldI hr rfl rfl (fun v1 hr => ?_)
  refine ev_seg 1 (k' := 6) (L' := [(0, .ref 52), (1, .int x1)]) (st' := [.int (-1), .int v1]) rfl ?_
  refine ev_br (P := ¬ v1 = (-1)) (L' := [(0, .ref 52), (1, .int x1)]) (st' := []) hr rfl rfl rfl (fun hr => ?_) (fun hr => ?_)
  · skip
    refine ev_seg 10 (k' := 19) (L' := [(0, .ref 52), (1, .int x1)]) (st' := [.int x1, .ref 30, .ref 33, .ref (gM3 s)]) rfl ?_
    refine ev_ldI hr rfl rfl (fun v2 hr => ?_)
    refine ev_seg 4 (k' := 24) (L' := [(0, .ref 52), (1, .int x1)]) (st' := [.int x1, .ref 31, .int v2, .ref 33, .ref (gM3 s)]) rfl ?_
    refine ev_ldI hr rfl rfl (fun v3 hr => ?_)
    refine ev_gC hr (fun h4 hr => ?_)
    refine ev_callV (q' := q_48) (x := 48) (y := 0) (c := (gM3 s)) (As := [.ref 33, .int v2, .int v3]) (rest := []) hr rfl rfl rfl rfl rfl rfl h4 rfl rfl rfl rfl rfl (fun rv s5 hq => ev_kI hq (fun v6 e9 hr => ?_))
    subst e9
    refine ev_st (st' := [.int v6]) rfl ?_
    refine ev_br (P := v6 = 0) (L' := [(0, .ref 52), (1, .int x1)]) (st' := []) hr rfl rfl rfl (fun hr => ?_) (fun hr => ?_)
    · skip
      refine ev_seg 1 (k' := 30) (L' := [(0, .ref 52), (1, .int x1)]) (st' := [.int (-31)]) rfl ?_
      exact ev_iret hr rfl rfl rfl
    · skip
      refine ev_seg 2 (k' := 30) (L' := [(0, .ref 52), (1, .int x1)]) (st' := [.int 0]) rfl ?_
      exact ev_iret hr rfl rfl rfl
  · skip
    refine ev_seg 1 (k' := 8) (L' := [(0, .ref 52), (1, .int x1)]) (st' := [.int (-20)]) rfl ?_
    exact ev_iret hr rfl rfl rfl
set_option maxRecDepth 20000 in
theorem eTe_items (d : Nat) (x1 : Int32) (x2 : Int32) (x3 : Int32) (s : aT) : ∀ r, (cG (fTe_varint d s) (kL fun v2 s1 => gC (gM3 s1) 0 (cG (fBy_putVarint d (gM3 s1) v2 s1) (kI fun v5 s4 => if ¬ v5 = 0 then if ¬ aLcmp v2 0 = 0 then fTe_items_18 (d + 1) x1 x2 x3 v2 0 s4 else rI 0 s4 else rI (-31) s4)))) = some r → fTe_items (d + 1) x1 x2 x3 s = some r := by
  intro r hr
  show ev (d + 1) q_153 0 [(0, .ref 52), (1, .int x1), (2, .int x2), (3, .int x3)] [] s = some r
  refine ev_seg 1 (k' := 1) (L' := [(0, .ref 52), (1, .int x1), (2, .int x2), (3, .int x3)]) (st' := [.ref 52]) rfl ?_
  refine ev_callV (q' := q_145) (x := 145) (y := 8) (c := 52) (As := []) (rest := []) hr rfl rfl rfl rfl rfl rfl rfl rfl rfl rfl rfl rfl (fun rv s1 hq => ev_kL hq (fun v2 e9 hr => ?_))
  subst e9
  refine ev_st (st' := [.long v2]) rfl ?_
  refine ev_seg 4 (k' := 6) (L' := [(4, .long v2), (0, .ref 52), (1, .int x1), (2, .int x2), (3, .int x3)]) (st' := [.long v2, .ref (gM3 s1)]) rfl ?_
  refine ev_gC hr (fun h3 hr => ?_)
  refine ev_callV (q' := q_64) (x := 64) (y := 0) (c := (gM3 s1)) (As := [.long v2]) (rest := []) hr rfl rfl rfl rfl rfl rfl h3 rfl rfl rfl rfl rfl (fun rv s4 hq => ev_kI hq (fun v5 e9 hr => ?_))
  subst e9
  refine ev_st (st' := [.int v5]) rfl ?_
  refine ev_br (P := ¬ v5 = 0) (L' := [(4, .long v2), (0, .ref 52), (1, .int x1), (2, .int x2), (3, .int x3)]) (st' := []) hr rfl rfl rfl (fun hr => ?_) (fun hr => ?_)
  · skip
    refine ev_seg 3 (k' := 13) (L' := [(4, .long v2), (0, .ref 52), (1, .int x1), (2, .int x2), (3, .int x3)]) (st' := [.int (aLcmp v2 0)]) rfl ?_
    refine ev_br (P := ¬ aLcmp v2 0 = 0) (L' := [(4, .long v2), (0, .ref 52), (1, .int x1), (2, .int x2), (3, .int x3)]) (st' := []) hr rfl rfl rfl (fun hr => ?_) (fun hr => ?_)
    · skip
      refine ev_seg 2 (k' := 18) (L' := [(6, .int 0), (4, .long v2), (0, .ref 52), (1, .int x1), (2, .int x2), (3, .int x3)]) (st' := []) rfl ?_
      refine ev_join (L' := [(0, .ref 52), (1, .int x1), (2, .int x2), (3, .int x3), (4, .long v2), (6, .int 0)]) [2, 3, 4, 5, 1, 0] [6, 4, 0, 1, 2, 3] [0, 1, 2, 3, 4, 6] rfl rfl (by decide) (by decide) rfl ?_
      exact hr
    · skip
      refine ev_seg 1 (k' := 15) (L' := [(4, .long v2), (0, .ref 52), (1, .int x1), (2, .int x2), (3, .int x3)]) (st' := [.int 0]) rfl ?_
      exact ev_iret hr rfl rfl rfl
  · skip
    refine ev_seg 1 (k' := 9) (L' := [(4, .long v2), (0, .ref 52), (1, .int x1), (2, .int x2), (3, .int x3)]) (st' := [.int (-31)]) rfl ?_
    exact ev_iret hr rfl rfl rfl
set_option maxRecDepth 20000 in
theorem eTe_items_18 (d : Nat) (x1 : Int32) (x2 : Int32) (x3 : Int32) (l4 : Int64) (z6 : Int32) (s : aT) : ∀ r, (if 0 ≤ aLcmp z6.toInt64 l4 then fTe_items_63 (d + 1) s else if 2000 ≤ z6 then fTe_items_63 (d + 1) s else ldI 5254 s 23 x1 (fun v1 => if ¬ v1 = 7 then fTe_items_38 (d + 1) x1 x2 x3 l4 z6 0 s else cG (fTe_asItIs d 5 s) (kI fun v3 s2 => fTe_items_38 (d + 1) x1 x2 x3 l4 z6 v3 s2))) = some r → fTe_items_18 (d + 1) x1 x2 x3 l4 z6 s = some r := by
  intro r hr
  show ev (d + 1) q_153 18 [(0, .ref 52), (1, .int x1), (2, .int x2), (3, .int x3), (4, .long l4), (6, .int z6)] [] s = some r
  refine ev_seg 4 (k' := 22) (L' := [(0, .ref 52), (1, .int x1), (2, .int x2), (3, .int x3), (4, .long l4), (6, .int z6)]) (st' := [.int (aLcmp z6.toInt64 l4)]) rfl ?_
  refine ev_br (P := 0 ≤ aLcmp z6.toInt64 l4) (L' := [(0, .ref 52), (1, .int x1), (2, .int x2), (3, .int x3), (4, .long l4), (6, .int z6)]) (st' := []) hr rfl rfl rfl (fun hr => ?_) (fun hr => ?_)
  · skip
    refine ev_join (L' := [(0, .ref 52)]) [0] [0, 1, 2, 3, 4, 6] [0] rfl rfl (by decide) (by decide) rfl ?_
    exact hr
  · skip
    refine ev_seg 2 (k' := 25) (L' := [(0, .ref 52), (1, .int x1), (2, .int x2), (3, .int x3), (4, .long l4), (6, .int z6)]) (st' := [.int 2000, .int z6]) rfl ?_
    refine ev_br (P := 2000 ≤ z6) (L' := [(0, .ref 52), (1, .int x1), (2, .int x2), (3, .int x3), (4, .long l4), (6, .int z6)]) (st' := []) hr rfl rfl rfl (fun hr => ?_) (fun hr => ?_)
    · skip
      refine ev_join (L' := [(0, .ref 52)]) [0] [0, 1, 2, 3, 4, 6] [0] rfl rfl (by decide) (by decide) rfl ?_
      exact hr
    · skip
      refine ev_seg 4 (k' := 30) (L' := [(0, .ref 52), (1, .int x1), (2, .int x2), (3, .int x3), (4, .long l4), (6, .int z6)]) (st' := [.int x1, .ref 23]) rfl ?_
      refine ev_ldI hr rfl rfl (fun v1 hr => ?_)
      refine ev_seg 1 (k' := 32) (L' := [(0, .ref 52), (1, .int x1), (2, .int x2), (3, .int x3), (4, .long l4), (6, .int z6)]) (st' := [.int 7, .int v1]) rfl ?_
      refine ev_br (P := ¬ v1 = 7) (L' := [(0, .ref 52), (1, .int x1), (2, .int x2), (3, .int x3), (4, .long l4), (6, .int z6)]) (st' := []) hr rfl rfl rfl (fun hr => ?_) (fun hr => ?_)
      · skip
        refine ev_seg 1 (k' := 38) (L' := [(0, .ref 52), (1, .int x1), (2, .int x2), (3, .int x3), (4, .long l4), (6, .int z6)]) (st' := [.int 0]) rfl ?_
        exact hr
      · skip
        refine ev_seg 2 (k' := 35) (L' := [(0, .ref 52), (1, .int x1), (2, .int x2), (3, .int x3), (4, .long l4), (6, .int z6)]) (st' := [.int 5, .ref 52]) rfl ?_
        refine ev_callV (q' := q_154) (x := 154) (y := 8) (c := 52) (As := [.int 5]) (rest := []) hr rfl rfl rfl rfl rfl rfl rfl rfl rfl rfl rfl rfl (fun rv s2 hq => ev_kI hq (fun v3 e9 hr => ?_))
        subst e9
        refine ev_st (st' := [.int v3]) rfl ?_
        refine ev_seg 1 (k' := 38) (L' := [(0, .ref 52), (1, .int x1), (2, .int x2), (3, .int x3), (4, .long l4), (6, .int z6)]) (st' := [.int v3]) rfl ?_
        exact hr
set_option maxRecDepth 20000 in
theorem eTe_items_63 (d : Nat) (s : aT) : ∀ r, (cG (fTe_varint d s) (kL fun v2 s1 => gC (gM3 s1) 0 (cG (fBy_putVarint d (gM3 s1) 0 s1) (kI fun v5 s4 => if v5 = 0 then rI (-31) s4 else rI 0 s4)))) = some r → fTe_items_63 (d + 1) s = some r := by
  intro r hr
  show ev (d + 1) q_153 63 [(0, .ref 52)] [] s = some r
  refine ev_seg 1 (k' := 64) (L' := [(0, .ref 52)]) (st' := [.ref 52]) rfl ?_
  refine ev_callV (q' := q_145) (x := 145) (y := 8) (c := 52) (As := []) (rest := []) hr rfl rfl rfl rfl rfl rfl rfl rfl rfl rfl rfl rfl (fun rv s1 hq => ev_kL hq (fun v2 e9 hr => ?_))
  subst e9
  refine ev_st (st' := [.long v2]) rfl ?_
  refine ev_seg 4 (k' := 69) (L' := [(0, .ref 52)]) (st' := [.long 0, .ref (gM3 s1)]) rfl ?_
  refine ev_gC hr (fun h3 hr => ?_)
  refine ev_callV (q' := q_64) (x := 64) (y := 0) (c := (gM3 s1)) (As := [.long 0]) (rest := []) hr rfl rfl rfl rfl rfl rfl h3 rfl rfl rfl rfl rfl (fun rv s4 hq => ev_kI hq (fun v5 e9 hr => ?_))
  subst e9
  refine ev_st (st' := [.int v5]) rfl ?_
  refine ev_br (P := v5 = 0) (L' := [(0, .ref 52)]) (st' := []) hr rfl rfl rfl (fun hr => ?_) (fun hr => ?_)
  · skip
    refine ev_seg 1 (k' := 74) (L' := [(0, .ref 52)]) (st' := [.int (-31)]) rfl ?_
    exact ev_iret hr rfl rfl rfl
  · skip
    refine ev_seg 2 (k' := 74) (L' := [(0, .ref 52)]) (st' := [.int 0]) rfl ?_
    exact ev_iret hr rfl rfl rfl
set_option maxRecDepth 20000 in
theorem eTe_items_38 (d : Nat) (x1 : Int32) (x2 : Int32) (x3 : Int32) (l4 : Int64) (z6 : Int32) (u0 : Int32) (s : aT) : ∀ r, (if ¬ u0 = 0 then fTe_items_57 (d + 1) x1 x2 x3 l4 z6 u0 s else ldI 5254 s 27 x1 (fun v1 => ldI 5254 s 27 x2 (fun v2 => cG (fTe_datum d v1 v2 (x3 + 1) s) (kI fun v4 s3 => fTe_items_57 (d + 1) x1 x2 x3 l4 z6 v4 s3)))) = some r → fTe_items_38 (d + 1) x1 x2 x3 l4 z6 u0 s = some r := by
  intro r hr
  show ev (d + 1) q_153 38 [(0, .ref 52), (1, .int x1), (2, .int x2), (3, .int x3), (4, .long l4), (6, .int z6)] [.int u0] s = some r
  refine ev_seg 2 (k' := 40) (L' := [(7, .int u0), (0, .ref 52), (1, .int x1), (2, .int x2), (3, .int x3), (4, .long l4), (6, .int z6)]) (st' := [.int u0]) rfl ?_
  refine ev_br (P := ¬ u0 = 0) (L' := [(7, .int u0), (0, .ref 52), (1, .int x1), (2, .int x2), (3, .int x3), (4, .long l4), (6, .int z6)]) (st' := []) hr rfl rfl rfl (fun hr => ?_) (fun hr => ?_)
  · skip
    refine ev_join (L' := [(0, .ref 52), (1, .int x1), (2, .int x2), (3, .int x3), (4, .long l4), (6, .int z6), (7, .int u0)]) [1, 2, 3, 4, 5, 6, 0] [7, 0, 1, 2, 3, 4, 6] [0, 1, 2, 3, 4, 6, 7] rfl rfl (by decide) (by decide) rfl ?_
    exact hr
  · skip
    refine ev_seg 5 (k' := 46) (L' := [(7, .int u0), (0, .ref 52), (1, .int x1), (2, .int x2), (3, .int x3), (4, .long l4), (6, .int z6)]) (st' := [.int x1, .ref 27, .ref 52]) rfl ?_
    refine ev_ldI hr rfl rfl (fun v1 hr => ?_)
    refine ev_seg 4 (k' := 51) (L' := [(7, .int u0), (0, .ref 52), (1, .int x1), (2, .int x2), (3, .int x3), (4, .long l4), (6, .int z6)]) (st' := [.int x2, .ref 27, .int v1, .ref 52]) rfl ?_
    refine ev_ldI hr rfl rfl (fun v2 hr => ?_)
    refine ev_seg 3 (k' := 55) (L' := [(7, .int u0), (0, .ref 52), (1, .int x1), (2, .int x2), (3, .int x3), (4, .long l4), (6, .int z6)]) (st' := [.int (x3 + 1), .int v2, .int v1, .ref 52]) rfl ?_
    refine ev_callV (q' := q_149) (x := 149) (y := 8) (c := 52) (As := [.int v1, .int v2, .int (x3 + 1)]) (rest := []) hr rfl rfl rfl rfl rfl rfl rfl rfl rfl rfl rfl rfl (fun rv s3 hq => ev_kI hq (fun v4 e9 hr => ?_))
    subst e9
    refine ev_st (st' := [.int v4]) rfl ?_
    refine ev_seg 1 (k' := 57) (L' := [(7, .int v4), (0, .ref 52), (1, .int x1), (2, .int x2), (3, .int x3), (4, .long l4), (6, .int z6)]) (st' := []) rfl ?_
    refine ev_join (L' := [(0, .ref 52), (1, .int x1), (2, .int x2), (3, .int x3), (4, .long l4), (6, .int z6), (7, .int v4)]) [1, 2, 3, 4, 5, 6, 0] [7, 0, 1, 2, 3, 4, 6] [0, 1, 2, 3, 4, 6, 7] rfl rfl (by decide) (by decide) rfl ?_
    exact hr
set_option maxRecDepth 20000 in
theorem eTe_items_57 (d : Nat) (x1 : Int32) (x2 : Int32) (x3 : Int32) (l4 : Int64) (z6 : Int32) (z7 : Int32) (s : aT) : ∀ r, (if z7 = 0 then fTe_items_18 (d + 1) x1 x2 x3 l4 (z6 + 1) s else rI z7 s) = some r → fTe_items_57 (d + 1) x1 x2 x3 l4 z6 z7 s = some r := by
  intro r hr
  show ev (d + 1) q_153 57 [(0, .ref 52), (1, .int x1), (2, .int x2), (3, .int x3), (4, .long l4), (6, .int z6), (7, .int z7)] [] s = some r
  refine ev_seg 1 (k' := 58) (L' := [(0, .ref 52), (1, .int x1), (2, .int x2), (3, .int x3), (4, .long l4), (6, .int z6), (7, .int z7)]) (st' := [.int z7]) rfl ?_
  refine ev_br (P := z7 = 0) (L' := [(0, .ref 52), (1, .int x1), (2, .int x2), (3, .int x3), (4, .long l4), (6, .int z6), (7, .int z7)]) (st' := []) hr rfl rfl rfl (fun hr => ?_) (fun hr => ?_)
  · skip
    refine ev_seg 2 (k' := 18) (L' := [(6, .int (z6 + 1)), (0, .ref 52), (1, .int x1), (2, .int x2), (3, .int x3), (4, .long l4), (7, .int z7)]) (st' := []) rfl ?_
    refine ev_join (L' := [(0, .ref 52), (1, .int x1), (2, .int x2), (3, .int x3), (4, .long l4), (6, .int (z6 + 1))]) [1, 2, 3, 4, 5, 0] [6, 0, 1, 2, 3, 4, 7] [0, 1, 2, 3, 4, 6] rfl rfl (by decide) (by decide) rfl ?_
    exact hr
  · skip
    refine ev_seg 1 (k' := 60) (L' := [(0, .ref 52), (1, .int x1), (2, .int x2), (3, .int x3), (4, .long l4), (6, .int z6), (7, .int z7)]) (st' := [.int z7]) rfl ?_
    exact ev_iret hr rfl rfl rfl
set_option maxRecDepth 20000 in
theorem eTe_asItIs (d : Nat) (x1 : Int32) (s : aT) : ∀ r, (cG (fTe_skip d x1 0 s) (kV fun s1 => gC (gM3 s1) 0 (cG (fBy_putRow d (gM3 s1) (gM2 s1) (gI s 52 0) ((gI s1 52 0) - (gI s 52 0)) s1) (kI fun v4 s3 => if v4 = 0 then rI (-31) s3 else rI 0 s3)))) = some r → fTe_asItIs (d + 1) x1 s = some r := by
  intro r hr
  show ev (d + 1) q_154 0 [(0, .ref 52), (1, .int x1)] [] s = some r
  refine ev_seg 6 (k' := 6) (L' := [(2, .int (gI s 52 0)), (0, .ref 52), (1, .int x1)]) (st' := [.int 0, .int x1, .ref 52]) rfl ?_
  refine ev_callV (q' := q_144) (x := 144) (y := 8) (c := 52) (As := [.int x1, .int 0]) (rest := []) hr rfl rfl rfl rfl rfl rfl rfl rfl rfl rfl rfl rfl (fun rv s1 hq => ev_kV hq (fun e9 hr => ?_))
  subst e9
  refine ev_st (st' := []) rfl ?_
  refine ev_seg 9 (k' := 16) (L' := [(2, .int (gI s 52 0)), (0, .ref 52), (1, .int x1)]) (st' := [.int ((gI s1 52 0) - (gI s 52 0)), .int (gI s 52 0), .ref (gM2 s1), .ref (gM3 s1)]) rfl ?_
  refine ev_gC hr (fun h2 hr => ?_)
  refine ev_callV (q' := q_48) (x := 48) (y := 0) (c := (gM3 s1)) (As := [.ref (gM2 s1), .int (gI s 52 0), .int ((gI s1 52 0) - (gI s 52 0))]) (rest := []) hr rfl rfl rfl rfl rfl rfl h2 rfl rfl rfl rfl rfl (fun rv s3 hq => ev_kI hq (fun v4 e9 hr => ?_))
  subst e9
  refine ev_st (st' := [.int v4]) rfl ?_
  refine ev_br (P := v4 = 0) (L' := [(2, .int (gI s 52 0)), (0, .ref 52), (1, .int x1)]) (st' := []) hr rfl rfl rfl (fun hr => ?_) (fun hr => ?_)
  · skip
    refine ev_seg 1 (k' := 21) (L' := [(2, .int (gI s 52 0)), (0, .ref 52), (1, .int x1)]) (st' := [.int (-31)]) rfl ?_
    exact ev_iret hr rfl rfl rfl
  · skip
    refine ev_seg 2 (k' := 21) (L' := [(2, .int (gI s 52 0)), (0, .ref 52), (1, .int x1)]) (st' := [.int 0]) rfl ?_
    exact ev_iret hr rfl rfl rfl
