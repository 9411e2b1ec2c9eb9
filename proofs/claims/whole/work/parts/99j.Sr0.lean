/-! RecordLake$SchemaReader: what its pieces do -/
set_option maxRecDepth 20000 in
theorem eSr_readSchema (d : Nat) (s : aT) : ∀ r, (cG (fSc_open d s) (kV fun s1 => cG (fDf_forget d s1) (kV fun s2 => wI s2 37 5 0 (fun s3 => wI s3 37 0 0 (fun s4 => wI s4 37 1 (-1) (fun s5 => if ¬ gI s5 13 8 = (-1) then cG (fSr_schemaOf d (gI s5 13 8) 0 0 s5) (kI fun v7 s6 => if ¬ v7 = (-1) then cG (fDf_take d s6) (kI fun v9 s8 => if ¬ v9 = (-1) then cG (fSr_fail d 12 v9 s8) (kI fun v11 s10 => rI v11 s10) else rI v7 s8) else rI (-1) s6) else wI s5 37 0 1 (fun s12 => wI s12 37 1 (gI s12 13 10) (fun s13 => rI (-1) s13)))))))) = some r → fSr_readSchema (d + 1) s = some r := by
  intro r hr
  show ev (d + 1) q_25 0 [(0, .ref 37)] [] s = some r
  refine ev_seg 2 (k' := 2) (L' := [(0, .ref 37)]) (st' := [.ref 22]) rfl ?_
  refine ev_callV (q' := q_26) (x := 26) (y := 2) (c := 22) (As := []) (rest := []) hr rfl rfl rfl rfl rfl rfl rfl rfl rfl rfl rfl rfl (fun rv s1 hq => ev_kV hq (fun e9 hr => ?_))
  subst e9
  refine ev_st (st' := []) rfl ?_
  refine ev_seg 2 (k' := 5) (L' := [(0, .ref 37)]) (st' := [.ref 38]) rfl ?_
  refine ev_callV (q' := q_27) (x := 27) (y := 4) (c := 38) (As := []) (rest := []) hr rfl rfl rfl rfl rfl rfl rfl rfl rfl rfl rfl rfl (fun rv s2 hq => ev_kV hq (fun e9 hr => ?_))
  subst e9
  refine ev_st (st' := []) rfl ?_
  refine ev_seg 2 (k' := 8) (L' := [(0, .ref 37)]) (st' := [.int 0, .ref 37]) rfl ?_
  refine ev_putI (c := 37) hr rfl rfl rfl (fun s3 hr => ?_)
  refine ev_seg 2 (k' := 11) (L' := [(0, .ref 37)]) (st' := [.int 0, .ref 37]) rfl ?_
  refine ev_putI (c := 37) hr rfl rfl rfl (fun s4 hr => ?_)
  refine ev_seg 2 (k' := 14) (L' := [(0, .ref 37)]) (st' := [.int (-1), .ref 37]) rfl ?_
  refine ev_putI (c := 37) hr rfl rfl rfl (fun s5 hr => ?_)
  refine ev_seg 4 (k' := 19) (L' := [(0, .ref 37)]) (st' := [.int (-1), .int (gI s5 13 8)]) rfl ?_
  refine ev_br (P := ¬ gI s5 13 8 = (-1)) (L' := [(0, .ref 37)]) (st' := []) hr rfl rfl rfl (fun hr => ?_) (fun hr => ?_)
  · skip
    refine ev_seg 6 (k' := 36) (L' := [(0, .ref 37)]) (st' := [.int 0, .int 0, .int (gI s5 13 8), .ref 37]) rfl ?_
    refine ev_callV (q' := q_28) (x := 28) (y := 3) (c := 37) (As := [.int (gI s5 13 8), .int 0, .int 0]) (rest := []) hr rfl rfl rfl rfl rfl rfl rfl rfl rfl rfl rfl rfl (fun rv s6 hq => ev_kI hq (fun v7 e9 hr => ?_))
    subst e9
    refine ev_st (st' := [.int v7]) rfl ?_
    refine ev_seg 3 (k' := 40) (L' := [(1, .int v7), (0, .ref 37)]) (st' := [.int (-1), .int v7]) rfl ?_
    refine ev_br (P := ¬ v7 = (-1)) (L' := [(1, .int v7), (0, .ref 37)]) (st' := []) hr rfl rfl rfl (fun hr => ?_) (fun hr => ?_)
    · skip
      refine ev_seg 2 (k' := 45) (L' := [(1, .int v7), (0, .ref 37)]) (st' := [.ref 38]) rfl ?_
      refine ev_callV (q' := q_56) (x := 56) (y := 4) (c := 38) (As := []) (rest := []) hr rfl rfl rfl rfl rfl rfl rfl rfl rfl rfl rfl rfl (fun rv s8 hq => ev_kI hq (fun v9 e9 hr => ?_))
      subst e9
      refine ev_st (st' := [.int v9]) rfl ?_
      refine ev_seg 3 (k' := 49) (L' := [(2, .int v9), (1, .int v7), (0, .ref 37)]) (st' := [.int (-1), .int v9]) rfl ?_
      refine ev_br (P := ¬ v9 = (-1)) (L' := [(2, .int v9), (1, .int v7), (0, .ref 37)]) (st' := []) hr rfl rfl rfl (fun hr => ?_) (fun hr => ?_)
      · skip
        refine ev_seg 3 (k' := 55) (L' := [(2, .int v9), (1, .int v7), (0, .ref 37)]) (st' := [.int v9, .int 12, .ref 37]) rfl ?_
        refine ev_callV (q' := q_29) (x := 29) (y := 3) (c := 37) (As := [.int 12, .int v9]) (rest := []) hr rfl rfl rfl rfl rfl rfl rfl rfl rfl rfl rfl rfl (fun rv s10 hq => ev_kI hq (fun v11 e9 hr => ?_))
        subst e9
        refine ev_st (st' := [.int v11]) rfl ?_
        exact ev_iret hr rfl rfl rfl
      · skip
        refine ev_seg 2 (k' := 56) (L' := [(2, .int v9), (1, .int v7), (0, .ref 37)]) (st' := [.int v7]) rfl ?_
        exact ev_iret hr rfl rfl rfl
    · skip
      refine ev_seg 1 (k' := 42) (L' := [(1, .int v7), (0, .ref 37)]) (st' := [.int (-1)]) rfl ?_
      exact ev_iret hr rfl rfl rfl
  · skip
    refine ev_seg 2 (k' := 22) (L' := [(0, .ref 37)]) (st' := [.int 1, .ref 37]) rfl ?_
    refine ev_putI (c := 37) hr rfl rfl rfl (fun s12 hr => ?_)
    refine ev_seg 4 (k' := 27) (L' := [(0, .ref 37)]) (st' := [.int (gI s12 13 10), .ref 37]) rfl ?_
    refine ev_putI (c := 37) hr rfl rfl rfl (fun s13 hr => ?_)
    refine ev_seg 1 (k' := 29) (L' := [(0, .ref 37)]) (st' := [.int (-1)]) rfl ?_
    exact ev_iret hr rfl rfl rfl
set_option maxRecDepth 20000 in
theorem eSr_schemaOf (d : Nat) (x1 : Int32) (x2 : Int32) (x3 : Int32) (s : aT) : ∀ r, (if gI s 37 5 < 128 then wI s 37 5 ((gI s 37 5) + 1) (fun s1 => if x2 < 16 then ldI 4096 s1 14 x1 (fun v2 => if v2 = 0 then cG (fSr_object d x1 x2 s1) (kI fun v5 s4 => rI v5 s4) else if v2 = 1 then if x3 = 0 then cG (fSr_union d x1 x2 s1) (kI fun v8 s7 => rI v8 s7) else cG (fSr_fail d 4 x1 s1) (kI fun v10 s9 => rI v10 s9) else if v2 = 2 then cG (fSr_known d x1 s1) (kI fun v13 s12 => rI v13 s12) else cG (fSr_fail d 2 x1 s1) (kI fun v15 s14 => rI v15 s14)) else cG (fSr_fail d 14 x1 s1) (kI fun v17 s16 => rI v17 s16)) else cG (fSr_fail d 13 x1 s) (kI fun v19 s18 => rI v19 s18)) = some r → fSr_schemaOf (d + 1) x1 x2 x3 s = some r := by
  intro r hr
  show ev (d + 1) q_28 0 [(0, .ref 37), (1, .int x1), (2, .int x2), (3, .int x3)] [] s = some r
  refine ev_seg 3 (k' := 3) (L' := [(0, .ref 37), (1, .int x1), (2, .int x2), (3, .int x3)]) (st' := [.int 128, .int (gI s 37 5)]) rfl ?_
  refine ev_br (P := gI s 37 5 < 128) (L' := [(0, .ref 37), (1, .int x1), (2, .int x2), (3, .int x3)]) (st' := []) hr rfl rfl rfl (fun hr => ?_) (fun hr => ?_)
  · skip
    refine ev_seg 5 (k' := 14) (L' := [(0, .ref 37), (1, .int x1), (2, .int x2), (3, .int x3)]) (st' := [.int ((gI s 37 5) + 1), .ref 37]) rfl ?_
    refine ev_putI (c := 37) hr rfl rfl rfl (fun s1 hr => ?_)
    refine ev_seg 2 (k' := 17) (L' := [(0, .ref 37), (1, .int x1), (2, .int x2), (3, .int x3)]) (st' := [.int 16, .int x2]) rfl ?_
    refine ev_br (P := x2 < 16) (L' := [(0, .ref 37), (1, .int x1), (2, .int x2), (3, .int x3)]) (st' := []) hr rfl rfl rfl (fun hr => ?_) (fun hr => ?_)
    · skip
      refine ev_seg 4 (k' := 27) (L' := [(0, .ref 37), (1, .int x1), (2, .int x2), (3, .int x3)]) (st' := [.int x1, .ref 14]) rfl ?_
      refine ev_ldI hr rfl rfl (fun v2 hr => ?_)
      refine ev_if hr (fun h3 hr => ?_) (fun h3 hr => ?_)
      · skip
        refine ev_tab (o := 51) (t := 45) rfl (by rw [h3]; rfl) rfl ?_
        refine ev_seg 3 (k' := 48) (L' := [(0, .ref 37), (1, .int x1), (2, .int x2), (3, .int x3)]) (st' := [.int x2, .int x1, .ref 37]) rfl ?_
        refine ev_callV (q' := q_40) (x := 40) (y := 3) (c := 37) (As := [.int x1, .int x2]) (rest := []) hr rfl rfl rfl rfl rfl rfl rfl rfl rfl rfl rfl rfl (fun rv s4 hq => ev_kI hq (fun v5 e9 hr => ?_))
        subst e9
        refine ev_st (st' := [.int v5]) rfl ?_
        exact ev_iret hr rfl rfl rfl
      refine ev_if hr (fun h6 hr => ?_) (fun h6 hr => ?_)
      · skip
        refine ev_tab (o := 31) (t := 33) rfl (by rw [h6]; rfl) rfl ?_
        refine ev_seg 1 (k' := 34) (L' := [(0, .ref 37), (1, .int x1), (2, .int x2), (3, .int x3)]) (st' := [.int x3]) rfl ?_
        refine ev_br (P := x3 = 0) (L' := [(0, .ref 37), (1, .int x1), (2, .int x2), (3, .int x3)]) (st' := []) hr rfl rfl rfl (fun hr => ?_) (fun hr => ?_)
        · skip
          refine ev_seg 3 (k' := 43) (L' := [(0, .ref 37), (1, .int x1), (2, .int x2), (3, .int x3)]) (st' := [.int x2, .int x1, .ref 37]) rfl ?_
          refine ev_callV (q' := q_34) (x := 34) (y := 3) (c := 37) (As := [.int x1, .int x2]) (rest := []) hr rfl rfl rfl rfl rfl rfl rfl rfl rfl rfl rfl rfl (fun rv s7 hq => ev_kI hq (fun v8 e9 hr => ?_))
          subst e9
          refine ev_st (st' := [.int v8]) rfl ?_
          exact ev_iret hr rfl rfl rfl
        · skip
          refine ev_seg 3 (k' := 38) (L' := [(0, .ref 37), (1, .int x1), (2, .int x2), (3, .int x3)]) (st' := [.int x1, .int 4, .ref 37]) rfl ?_
          refine ev_callV (q' := q_29) (x := 29) (y := 3) (c := 37) (As := [.int 4, .int x1]) (rest := []) hr rfl rfl rfl rfl rfl rfl rfl rfl rfl rfl rfl rfl (fun rv s9 hq => ev_kI hq (fun v10 e9 hr => ?_))
          subst e9
          refine ev_st (st' := [.int v10]) rfl ?_
          refine ev_seg 1 (k' := 44) (L' := [(0, .ref 37), (1, .int x1), (2, .int x2), (3, .int x3)]) (st' := [.int v10]) rfl ?_
          exact ev_iret hr rfl rfl rfl
      refine ev_if hr (fun h11 hr => ?_) (fun h11 hr => ?_)
      · skip
        refine ev_tab (o := 25) (t := 29) rfl (by rw [h11]; rfl) rfl ?_
        refine ev_seg 2 (k' := 31) (L' := [(0, .ref 37), (1, .int x1), (2, .int x2), (3, .int x3)]) (st' := [.int x1, .ref 37]) rfl ?_
        refine ev_callV (q' := q_30) (x := 30) (y := 3) (c := 37) (As := [.int x1]) (rest := []) hr rfl rfl rfl rfl rfl rfl rfl rfl rfl rfl rfl rfl (fun rv s12 hq => ev_kI hq (fun v13 e9 hr => ?_))
        subst e9
        refine ev_st (st' := [.int v13]) rfl ?_
        exact ev_iret hr rfl rfl rfl
      refine ev_tab (o := 58) (t := 50) rfl (tab_in (by have e0 := i_neL (z := 0) (w := 0) rfl h3; have e1 := i_neL (z := 1) (w := 1) rfl h6; have e2 := i_neL (z := 2) (w := 2) rfl h11; omega)) rfl ?_
      refine ev_seg 3 (k' := 53) (L' := [(0, .ref 37), (1, .int x1), (2, .int x2), (3, .int x3)]) (st' := [.int x1, .int 2, .ref 37]) rfl ?_
      refine ev_callV (q' := q_29) (x := 29) (y := 3) (c := 37) (As := [.int 2, .int x1]) (rest := []) hr rfl rfl rfl rfl rfl rfl rfl rfl rfl rfl rfl rfl (fun rv s14 hq => ev_kI hq (fun v15 e9 hr => ?_))
      subst e9
      refine ev_st (st' := [.int v15]) rfl ?_
      exact ev_iret hr rfl rfl rfl
    · skip
      refine ev_seg 3 (k' := 21) (L' := [(0, .ref 37), (1, .int x1), (2, .int x2), (3, .int x3)]) (st' := [.int x1, .int 14, .ref 37]) rfl ?_
      refine ev_callV (q' := q_29) (x := 29) (y := 3) (c := 37) (As := [.int 14, .int x1]) (rest := []) hr rfl rfl rfl rfl rfl rfl rfl rfl rfl rfl rfl rfl (fun rv s16 hq => ev_kI hq (fun v17 e9 hr => ?_))
      subst e9
      refine ev_st (st' := [.int v17]) rfl ?_
      exact ev_iret hr rfl rfl rfl
  · skip
    refine ev_seg 3 (k' := 7) (L' := [(0, .ref 37), (1, .int x1), (2, .int x2), (3, .int x3)]) (st' := [.int x1, .int 13, .ref 37]) rfl ?_
    refine ev_callV (q' := q_29) (x := 29) (y := 3) (c := 37) (As := [.int 13, .int x1]) (rest := []) hr rfl rfl rfl rfl rfl rfl rfl rfl rfl rfl rfl rfl (fun rv s18 hq => ev_kI hq (fun v19 e9 hr => ?_))
    subst e9
    refine ev_st (st' := [.int v19]) rfl ?_
    exact ev_iret hr rfl rfl rfl
set_option maxRecDepth 20000 in
theorem eSr_fail (d : Nat) (x1 : Int32) (x2 : Int32) (s : aT) : ∀ r, (wI s 37 0 x1 (fun s1 => ldI 4096 s1 15 x2 (fun v2 => wI s1 37 1 v2 (fun s3 => rI (-1) s3)))) = some r → fSr_fail d x1 x2 s = some r := by
  intro r hr
  show ev d q_29 0 [(0, .ref 37), (1, .int x1), (2, .int x2)] [] s = some r
  refine ev_seg 2 (k' := 2) (L' := [(0, .ref 37), (1, .int x1), (2, .int x2)]) (st' := [.int x1, .ref 37]) rfl ?_
  refine ev_putI (c := 37) hr rfl rfl rfl (fun s1 hr => ?_)
  refine ev_seg 5 (k' := 8) (L' := [(0, .ref 37), (1, .int x1), (2, .int x2)]) (st' := [.int x2, .ref 15, .ref 37]) rfl ?_
  refine ev_ldI hr rfl rfl (fun v2 hr => ?_)
  refine ev_putI (c := 37) hr rfl rfl rfl (fun s3 hr => ?_)
  refine ev_seg 1 (k' := 11) (L' := [(0, .ref 37), (1, .int x1), (2, .int x2)]) (st' := [.int (-1)]) rfl ?_
  exact ev_iret hr rfl rfl rfl
set_option maxRecDepth 20000 in
theorem eSr_known (d : Nat) (x1 : Int32) (s : aT) : ∀ r, (fSr_known_2 (d + 1) x1 0 s) = some r → fSr_known (d + 1) x1 s = some r := by
  intro r hr
  show ev (d + 1) q_30 0 [(0, .ref 37), (1, .int x1)] [] s = some r
  refine ev_seg 2 (k' := 2) (L' := [(2, .int 0), (0, .ref 37), (1, .int x1)]) (st' := []) rfl ?_
  refine ev_join (L' := [(0, .ref 37), (1, .int x1), (2, .int 0)]) [1, 2, 0] [2, 0, 1] [0, 1, 2] rfl rfl (by decide) (by decide) rfl ?_
  exact hr
set_option maxRecDepth 20000 in
theorem eSr_known_2 (d : Nat) (x1 : Int32) (z2 : Int32) (s : aT) : ∀ r, (if 6 ≤ z2 then cG (fSc_defined d x1 s) (kI fun v2 s1 => if ¬ v2 = (-1) then rI v2 s1 else cG (fSr_fail d 3 x1 s1) (kI fun v4 s3 => rI v4 s3)) else cG (fSc_wordOf d z2 s) (kA fun v6 s5 => cG (fTx_tells d x1 v6 s5) (kI fun v8 s7 => if v8 = 0 then fSr_known_2 (d + 1) x1 (z2 + 1) s7 else rI z2 s7))) = some r → fSr_known_2 (d + 1) x1 z2 s = some r := by
  intro r hr
  show ev (d + 1) q_30 2 [(0, .ref 37), (1, .int x1), (2, .int z2)] [] s = some r
  refine ev_seg 2 (k' := 4) (L' := [(0, .ref 37), (1, .int x1), (2, .int z2)]) (st' := [.int 6, .int z2]) rfl ?_
  refine ev_br (P := 6 ≤ z2) (L' := [(0, .ref 37), (1, .int x1), (2, .int z2)]) (st' := []) hr rfl rfl rfl (fun hr => ?_) (fun hr => ?_)
  · skip
    refine ev_seg 5 (k' := 21) (L' := [(0, .ref 37), (1, .int x1), (2, .int z2)]) (st' := [.int x1, .ref 13, .ref 22]) rfl ?_
    refine ev_callV (q' := q_33) (x := 33) (y := 2) (c := 22) (As := [.ref 13, .int x1]) (rest := []) hr rfl rfl rfl rfl rfl rfl rfl rfl rfl rfl rfl rfl (fun rv s1 hq => ev_kI hq (fun v2 e9 hr => ?_))
    subst e9
    refine ev_st (st' := [.int v2]) rfl ?_
    refine ev_seg 3 (k' := 25) (L' := [(2, .int v2), (0, .ref 37), (1, .int x1)]) (st' := [.int (-1), .int v2]) rfl ?_
    refine ev_br (P := ¬ v2 = (-1)) (L' := [(2, .int v2), (0, .ref 37), (1, .int x1)]) (st' := []) hr rfl rfl rfl (fun hr => ?_) (fun hr => ?_)
    · skip
      refine ev_seg 1 (k' := 32) (L' := [(2, .int v2), (0, .ref 37), (1, .int x1)]) (st' := [.int v2]) rfl ?_
      exact ev_iret hr rfl rfl rfl
    · skip
      refine ev_seg 3 (k' := 29) (L' := [(2, .int v2), (0, .ref 37), (1, .int x1)]) (st' := [.int x1, .int 3, .ref 37]) rfl ?_
      refine ev_callV (q' := q_29) (x := 29) (y := 3) (c := 37) (As := [.int 3, .int x1]) (rest := []) hr rfl rfl rfl rfl rfl rfl rfl rfl rfl rfl rfl rfl (fun rv s3 hq => ev_kI hq (fun v4 e9 hr => ?_))
      subst e9
      refine ev_st (st' := [.int v4]) rfl ?_
      refine ev_seg 1 (k' := 32) (L' := [(2, .int v2), (0, .ref 37), (1, .int x1)]) (st' := [.int v4]) rfl ?_
      exact ev_iret hr rfl rfl rfl
  · skip
    refine ev_seg 4 (k' := 9) (L' := [(0, .ref 37), (1, .int x1), (2, .int z2)]) (st' := [.int z2, .int x1, .ref 13]) rfl ?_
    refine ev_callS (q' := q_31) (x := 31) (vs := [.int z2]) (rest := [.int x1, .ref 13]) hr rfl rfl rfl rfl rfl rfl rfl rfl rfl rfl (fun rv s5 hq => ev_kA hq (fun v6 e9 hr => ?_))
    subst e9
    refine ev_st (st' := [.ref v6, .int x1, .ref 13]) rfl ?_
    refine ev_callV (q' := q_32) (x := 32) (y := 1) (c := 13) (As := [.int x1, .ref v6]) (rest := []) hr rfl rfl rfl rfl rfl rfl rfl rfl rfl rfl rfl rfl (fun rv s7 hq => ev_kI hq (fun v8 e9 hr => ?_))
    subst e9
    refine ev_st (st' := [.int v8]) rfl ?_
    refine ev_br (P := v8 = 0) (L' := [(0, .ref 37), (1, .int x1), (2, .int z2)]) (st' := []) hr rfl rfl rfl (fun hr => ?_) (fun hr => ?_)
    · skip
      refine ev_seg 2 (k' := 2) (L' := [(2, .int (z2 + 1)), (0, .ref 37), (1, .int x1)]) (st' := []) rfl ?_
      refine ev_join (L' := [(0, .ref 37), (1, .int x1), (2, .int (z2 + 1))]) [1, 2, 0] [2, 0, 1] [0, 1, 2] rfl rfl (by decide) (by decide) rfl ?_
      exact hr
    · skip
      refine ev_seg 1 (k' := 13) (L' := [(0, .ref 37), (1, .int x1), (2, .int z2)]) (st' := [.int z2]) rfl ?_
      exact ev_iret hr rfl rfl rfl
set_option maxRecDepth 20000 in
theorem eSr_union (d : Nat) (x1 : Int32) (x2 : Int32) (s : aT) : ∀ r, (ldI 4096 s 17 x1 (fun v1 => if v1 < 1 then fSr_union_12 (d + 1) x1 s else if v1 ≤ 16 then cG (fSr_add d 8 x1 v1 s) (kI fun v3 s2 => ldI 4096 s2 16 x1 (fun v4 => fSr_union_31 (d + 1) x2 v1 v3 v4 0 s2)) else fSr_union_12 (d + 1) x1 s)) = some r → fSr_union (d + 1) x1 x2 s = some r := by
  intro r hr
  show ev (d + 1) q_34 0 [(0, .ref 37), (1, .int x1), (2, .int x2)] [] s = some r
  refine ev_seg 4 (k' := 4) (L' := [(0, .ref 37), (1, .int x1), (2, .int x2)]) (st' := [.int x1, .ref 17]) rfl ?_
  refine ev_ldI hr rfl rfl (fun v1 hr => ?_)
  refine ev_seg 3 (k' := 8) (L' := [(3, .int v1), (0, .ref 37), (1, .int x1), (2, .int x2)]) (st' := [.int 1, .int v1]) rfl ?_
  refine ev_br (P := v1 < 1) (L' := [(3, .int v1), (0, .ref 37), (1, .int x1), (2, .int x2)]) (st' := []) hr rfl rfl rfl (fun hr => ?_) (fun hr => ?_)
  · skip
    refine ev_join (L' := [(0, .ref 37), (1, .int x1)]) [1, 2] [3, 0, 1, 2] [0, 1] rfl rfl (by decide) (by decide) rfl ?_
    exact hr
  · skip
    refine ev_seg 2 (k' := 11) (L' := [(3, .int v1), (0, .ref 37), (1, .int x1), (2, .int x2)]) (st' := [.int 16, .int v1]) rfl ?_
    refine ev_br (P := v1 ≤ 16) (L' := [(3, .int v1), (0, .ref 37), (1, .int x1), (2, .int x2)]) (st' := []) hr rfl rfl rfl (fun hr => ?_) (fun hr => ?_)
    · skip
      refine ev_seg 4 (k' := 21) (L' := [(3, .int v1), (0, .ref 37), (1, .int x1), (2, .int x2)]) (st' := [.int v1, .int x1, .int 8, .ref 37]) rfl ?_
      refine ev_callV (q' := q_35) (x := 35) (y := 3) (c := 37) (As := [.int 8, .int x1, .int v1]) (rest := []) hr rfl rfl rfl rfl rfl rfl rfl rfl rfl rfl rfl rfl (fun rv s2 hq => ev_kI hq (fun v3 e9 hr => ?_))
      subst e9
      refine ev_st (st' := [.int v3]) rfl ?_
      refine ev_seg 5 (k' := 27) (L' := [(4, .int v3), (3, .int v1), (0, .ref 37), (1, .int x1), (2, .int x2)]) (st' := [.int x1, .ref 16]) rfl ?_
      refine ev_ldI hr rfl rfl (fun v4 hr => ?_)
      refine ev_seg 3 (k' := 31) (L' := [(6, .int 0), (5, .int v4), (4, .int v3), (3, .int v1), (0, .ref 37), (1, .int x1), (2, .int x2)]) (st' := []) rfl ?_
      refine ev_join (L' := [(0, .ref 37), (2, .int x2), (3, .int v1), (4, .int v3), (5, .int v4), (6, .int 0)]) [4, 6, 3, 2, 1, 0] [6, 5, 4, 3, 0, 1, 2] [0, 2, 3, 4, 5, 6] rfl rfl (by decide) (by decide) rfl ?_
      exact hr
    · skip
      refine ev_join (L' := [(0, .ref 37), (1, .int x1)]) [1, 2] [3, 0, 1, 2] [0, 1] rfl rfl (by decide) (by decide) rfl ?_
      exact hr
set_option maxRecDepth 20000 in
theorem eSr_union_12 (d : Nat) (x1 : Int32) (s : aT) : ∀ r, (cG (fSr_fail d 5 x1 s) (kI fun v2 s1 => rI v2 s1)) = some r → fSr_union_12 (d + 1) x1 s = some r := by
  intro r hr
  show ev (d + 1) q_34 12 [(0, .ref 37), (1, .int x1)] [] s = some r
  refine ev_seg 3 (k' := 15) (L' := [(0, .ref 37), (1, .int x1)]) (st' := [.int x1, .int 5, .ref 37]) rfl ?_
  refine ev_callV (q' := q_29) (x := 29) (y := 3) (c := 37) (As := [.int 5, .int x1]) (rest := []) hr rfl rfl rfl rfl rfl rfl rfl rfl rfl rfl rfl rfl (fun rv s1 hq => ev_kI hq (fun v2 e9 hr => ?_))
  subst e9
  refine ev_st (st' := [.int v2]) rfl ?_
  exact ev_iret hr rfl rfl rfl
set_option maxRecDepth 20000 in
theorem eSr_union_31 (d : Nat) (x2 : Int32) (z3 : Int32) (z4 : Int32) (z5 : Int32) (z6 : Int32) (s : aT) : ∀ r, (if z4 = (-1) then rI z4 s else if z3 ≤ z6 then rI z4 s else cG (fSr_schemaOf d z5 (x2 + 1) 1 s) (kI fun v2 s1 => if ¬ v2 = (-1) then cG (fSr_hasBranchAs d z4 z6 v2 s1) (kI fun v4 s3 => if v4 = 0 then ldI 5254 s3 25 z4 (fun v5 => stI 10112 s3 29 (v5 + z6) v2 (fun s6 => ldI 4096 s6 18 z5 (fun v7 => fSr_union_31 (d + 1) x2 z3 z4 v7 (z6 + 1) s6))) else cG (fSr_fail d 6 z5 s3) (kI fun v9 s8 => rI v9 s8)) else rI (-1) s1)) = some r → fSr_union_31 (d + 1) x2 z3 z4 z5 z6 s = some r := by
  intro r hr
  show ev (d + 1) q_34 31 [(0, .ref 37), (2, .int x2), (3, .int z3), (4, .int z4), (5, .int z5), (6, .int z6)] [] s = some r
  refine ev_seg 2 (k' := 33) (L' := [(0, .ref 37), (2, .int x2), (3, .int z3), (4, .int z4), (5, .int z5), (6, .int z6)]) (st' := [.int (-1), .int z4]) rfl ?_
  refine ev_br (P := z4 = (-1)) (L' := [(0, .ref 37), (2, .int x2), (3, .int z3), (4, .int z4), (5, .int z5), (6, .int z6)]) (st' := []) hr rfl rfl rfl (fun hr => ?_) (fun hr => ?_)
  · skip
    refine ev_seg 1 (k' := 82) (L' := [(0, .ref 37), (2, .int x2), (3, .int z3), (4, .int z4), (5, .int z5), (6, .int z6)]) (st' := [.int z4]) rfl ?_
    exact ev_iret hr rfl rfl rfl
  · skip
    refine ev_seg 2 (k' := 36) (L' := [(0, .ref 37), (2, .int x2), (3, .int z3), (4, .int z4), (5, .int z5), (6, .int z6)]) (st' := [.int z3, .int z6]) rfl ?_
    refine ev_br (P := z3 ≤ z6) (L' := [(0, .ref 37), (2, .int x2), (3, .int z3), (4, .int z4), (5, .int z5), (6, .int z6)]) (st' := []) hr rfl rfl rfl (fun hr => ?_) (fun hr => ?_)
    · skip
      refine ev_seg 1 (k' := 82) (L' := [(0, .ref 37), (2, .int x2), (3, .int z3), (4, .int z4), (5, .int z5), (6, .int z6)]) (st' := [.int z4]) rfl ?_
      exact ev_iret hr rfl rfl rfl
    · skip
      refine ev_seg 6 (k' := 43) (L' := [(0, .ref 37), (2, .int x2), (3, .int z3), (4, .int z4), (5, .int z5), (6, .int z6)]) (st' := [.int 1, .int (x2 + 1), .int z5, .ref 37]) rfl ?_
      refine ev_callV (q' := q_28) (x := 28) (y := 3) (c := 37) (As := [.int z5, .int (x2 + 1), .int 1]) (rest := []) hr rfl rfl rfl rfl rfl rfl rfl rfl rfl rfl rfl rfl (fun rv s1 hq => ev_kI hq (fun v2 e9 hr => ?_))
      subst e9
      refine ev_st (st' := [.int v2]) rfl ?_
      refine ev_seg 3 (k' := 47) (L' := [(7, .int v2), (0, .ref 37), (2, .int x2), (3, .int z3), (4, .int z4), (5, .int z5), (6, .int z6)]) (st' := [.int (-1), .int v2]) rfl ?_
      refine ev_br (P := ¬ v2 = (-1)) (L' := [(7, .int v2), (0, .ref 37), (2, .int x2), (3, .int z3), (4, .int z4), (5, .int z5), (6, .int z6)]) (st' := []) hr rfl rfl rfl (fun hr => ?_) (fun hr => ?_)
      · skip
        refine ev_seg 4 (k' := 54) (L' := [(7, .int v2), (0, .ref 37), (2, .int x2), (3, .int z3), (4, .int z4), (5, .int z5), (6, .int z6)]) (st' := [.int v2, .int z6, .int z4, .ref 37]) rfl ?_
        refine ev_callV (q' := q_38) (x := 38) (y := 3) (c := 37) (As := [.int z4, .int z6, .int v2]) (rest := []) hr rfl rfl rfl rfl rfl rfl rfl rfl rfl rfl rfl rfl (fun rv s3 hq => ev_kI hq (fun v4 e9 hr => ?_))
        subst e9
        refine ev_st (st' := [.int v4]) rfl ?_
        refine ev_br (P := v4 = 0) (L' := [(7, .int v2), (0, .ref 37), (2, .int x2), (3, .int z3), (4, .int z4), (5, .int z5), (6, .int z6)]) (st' := []) hr rfl rfl rfl (fun hr => ?_) (fun hr => ?_)
        · skip
          refine ev_seg 7 (k' := 68) (L' := [(7, .int v2), (0, .ref 37), (2, .int x2), (3, .int z3), (4, .int z4), (5, .int z5), (6, .int z6)]) (st' := [.int z4, .ref 25, .ref 29]) rfl ?_
          refine ev_ldI hr rfl rfl (fun v5 hr => ?_)
          refine ev_seg 3 (k' := 72) (L' := [(7, .int v2), (0, .ref 37), (2, .int x2), (3, .int z3), (4, .int z4), (5, .int z5), (6, .int z6)]) (st' := [.int v2, .int (v5 + z6), .ref 29]) rfl ?_
          refine ev_stI hr rfl rfl (fun s6 hr => ?_)
          refine ev_seg 4 (k' := 77) (L' := [(7, .int v2), (0, .ref 37), (2, .int x2), (3, .int z3), (4, .int z4), (5, .int z5), (6, .int z6)]) (st' := [.int z5, .ref 18]) rfl ?_
          refine ev_ldI hr rfl rfl (fun v7 hr => ?_)
          refine ev_seg 3 (k' := 31) (L' := [(6, .int (z6 + 1)), (5, .int v7), (7, .int v2), (0, .ref 37), (2, .int x2), (3, .int z3), (4, .int z4)]) (st' := []) rfl ?_
          refine ev_join (L' := [(0, .ref 37), (2, .int x2), (3, .int z3), (4, .int z4), (5, .int v7), (6, .int (z6 + 1))]) [3, 4, 5, 6, 1, 0] [6, 5, 7, 0, 2, 3, 4] [0, 2, 3, 4, 5, 6] rfl rfl (by decide) (by decide) rfl ?_
          exact hr
        · skip
          refine ev_seg 3 (k' := 59) (L' := [(7, .int v2), (0, .ref 37), (2, .int x2), (3, .int z3), (4, .int z4), (5, .int z5), (6, .int z6)]) (st' := [.int z5, .int 6, .ref 37]) rfl ?_
          refine ev_callV (q' := q_29) (x := 29) (y := 3) (c := 37) (As := [.int 6, .int z5]) (rest := []) hr rfl rfl rfl rfl rfl rfl rfl rfl rfl rfl rfl rfl (fun rv s8 hq => ev_kI hq (fun v9 e9 hr => ?_))
          subst e9
          refine ev_st (st' := [.int v9]) rfl ?_
          exact ev_iret hr rfl rfl rfl
      · skip
        refine ev_seg 1 (k' := 49) (L' := [(7, .int v2), (0, .ref 37), (2, .int x2), (3, .int z3), (4, .int z4), (5, .int z5), (6, .int z6)]) (st' := [.int (-1)]) rfl ?_
        exact ev_iret hr rfl rfl rfl
set_option maxRecDepth 20000 in
theorem eSr_add (d : Nat) (x1 : Int32) (x2 : Int32) (x3 : Int32) (s : aT) : ∀ r, (cG (fSc_add d x1 s) (kI fun v2 s1 => if v2 = (-1) then fSr_add_16 (d + 1) x2 s1 else cG (fSc_addParts d v2 x3 s1) (kI fun v4 s3 => if v4 = 0 then fSr_add_16 (d + 1) x2 s3 else rI v2 s3))) = some r → fSr_add (d + 1) x1 x2 x3 s = some r := by
  intro r hr
  show ev (d + 1) q_35 0 [(0, .ref 37), (1, .int x1), (2, .int x2), (3, .int x3)] [] s = some r
  refine ev_seg 3 (k' := 3) (L' := [(0, .ref 37), (1, .int x1), (2, .int x2), (3, .int x3)]) (st' := [.int x1, .ref 22]) rfl ?_
  refine ev_callV (q' := q_36) (x := 36) (y := 2) (c := 22) (As := [.int x1]) (rest := []) hr rfl rfl rfl rfl rfl rfl rfl rfl rfl rfl rfl rfl (fun rv s1 hq => ev_kI hq (fun v2 e9 hr => ?_))
  subst e9
  refine ev_st (st' := [.int v2]) rfl ?_
  refine ev_seg 3 (k' := 7) (L' := [(4, .int v2), (0, .ref 37), (1, .int x1), (2, .int x2), (3, .int x3)]) (st' := [.int (-1), .int v2]) rfl ?_
  refine ev_br (P := v2 = (-1)) (L' := [(4, .int v2), (0, .ref 37), (1, .int x1), (2, .int x2), (3, .int x3)]) (st' := []) hr rfl rfl rfl (fun hr => ?_) (fun hr => ?_)
  · skip
    refine ev_join (L' := [(0, .ref 37), (2, .int x2)]) [1, 3] [4, 0, 1, 2, 3] [0, 2] rfl rfl (by decide) (by decide) rfl ?_
    exact hr
  · skip
    refine ev_seg 4 (k' := 12) (L' := [(4, .int v2), (0, .ref 37), (1, .int x1), (2, .int x2), (3, .int x3)]) (st' := [.int x3, .int v2, .ref 22]) rfl ?_
    refine ev_callV (q' := q_37) (x := 37) (y := 2) (c := 22) (As := [.int v2, .int x3]) (rest := []) hr rfl rfl rfl rfl rfl rfl rfl rfl rfl rfl rfl rfl (fun rv s3 hq => ev_kI hq (fun v4 e9 hr => ?_))
    subst e9
    refine ev_st (st' := [.int v4]) rfl ?_
    refine ev_br (P := v4 = 0) (L' := [(4, .int v2), (0, .ref 37), (1, .int x1), (2, .int x2), (3, .int x3)]) (st' := []) hr rfl rfl rfl (fun hr => ?_) (fun hr => ?_)
    · skip
      refine ev_join (L' := [(0, .ref 37), (2, .int x2)]) [1, 3] [4, 0, 1, 2, 3] [0, 2] rfl rfl (by decide) (by decide) rfl ?_
      exact hr
    · skip
      refine ev_seg 2 (k' := 20) (L' := [(4, .int v2), (0, .ref 37), (1, .int x1), (2, .int x2), (3, .int x3)]) (st' := [.int v2]) rfl ?_
      exact ev_iret hr rfl rfl rfl
set_option maxRecDepth 20000 in
theorem eSr_add_16 (d : Nat) (x2 : Int32) (s : aT) : ∀ r, (cG (fSr_fail d 13 x2 s) (kI fun v2 s1 => rI v2 s1)) = some r → fSr_add_16 (d + 1) x2 s = some r := by
  intro r hr
  show ev (d + 1) q_35 16 [(0, .ref 37), (2, .int x2)] [] s = some r
  refine ev_seg 3 (k' := 19) (L' := [(0, .ref 37), (2, .int x2)]) (st' := [.int x2, .int 13, .ref 37]) rfl ?_
  refine ev_callV (q' := q_29) (x := 29) (y := 3) (c := 37) (As := [.int 13, .int x2]) (rest := []) hr rfl rfl rfl rfl rfl rfl rfl rfl rfl rfl rfl rfl (fun rv s1 hq => ev_kI hq (fun v2 e9 hr => ?_))
  subst e9
  refine ev_st (st' := [.int v2]) rfl ?_
  exact ev_iret hr rfl rfl rfl
set_option maxRecDepth 20000 in
theorem eSr_hasBranchAs (d : Nat) (x1 : Int32) (x2 : Int32) (x3 : Int32) (s : aT) : ∀ r, (ldI 5254 s 23 x3 (fun v1 => fSr_hasBranchAs_8 (d + 1) x1 x2 x3 v1 0 s)) = some r → fSr_hasBranchAs (d + 1) x1 x2 x3 s = some r := by
  intro r hr
  show ev (d + 1) q_38 0 [(0, .ref 37), (1, .int x1), (2, .int x2), (3, .int x3)] [] s = some r
  refine ev_seg 4 (k' := 4) (L' := [(0, .ref 37), (1, .int x1), (2, .int x2), (3, .int x3)]) (st' := [.int x3, .ref 23]) rfl ?_
  refine ev_ldI hr rfl rfl (fun v1 hr => ?_)
  refine ev_seg 3 (k' := 8) (L' := [(5, .int 0), (4, .int v1), (0, .ref 37), (1, .int x1), (2, .int x2), (3, .int x3)]) (st' := []) rfl ?_
  refine ev_join (L' := [(0, .ref 37), (1, .int x1), (2, .int x2), (3, .int x3), (4, .int v1), (5, .int 0)]) [2, 3, 4, 5, 1, 0] [5, 4, 0, 1, 2, 3] [0, 1, 2, 3, 4, 5] rfl rfl (by decide) (by decide) rfl ?_
  exact hr
set_option maxRecDepth 20000 in
theorem eSr_hasBranchAs_8 (d : Nat) (x1 : Int32) (x2 : Int32) (x3 : Int32) (z4 : Int32) (z5 : Int32) (s : aT) : ∀ r, (if x2 ≤ z5 then rI 0 s else cG (fSc_partSchemaOf d x1 z5 s) (kI fun v2 s1 => if z4 = 6 then fSr_hasBranchAs_23 (d + 1) x1 x2 x3 z4 z5 v2 s1 else if ¬ z4 = 7 then fSr_hasBranchAs_26 (d + 1) x1 x2 x3 z4 z5 v2 0 s1 else fSr_hasBranchAs_23 (d + 1) x1 x2 x3 z4 z5 v2 s1)) = some r → fSr_hasBranchAs_8 (d + 1) x1 x2 x3 z4 z5 s = some r := by
  intro r hr
  show ev (d + 1) q_38 8 [(0, .ref 37), (1, .int x1), (2, .int x2), (3, .int x3), (4, .int z4), (5, .int z5)] [] s = some r
  refine ev_seg 2 (k' := 10) (L' := [(0, .ref 37), (1, .int x1), (2, .int x2), (3, .int x3), (4, .int z4), (5, .int z5)]) (st' := [.int x2, .int z5]) rfl ?_
  refine ev_br (P := x2 ≤ z5) (L' := [(0, .ref 37), (1, .int x1), (2, .int x2), (3, .int x3), (4, .int z4), (5, .int z5)]) (st' := []) hr rfl rfl rfl (fun hr => ?_) (fun hr => ?_)
  · skip
    refine ev_seg 1 (k' := 44) (L' := [(0, .ref 37), (1, .int x1), (2, .int x2), (3, .int x3), (4, .int z4), (5, .int z5)]) (st' := [.int 0]) rfl ?_
    exact ev_iret hr rfl rfl rfl
  · skip
    refine ev_seg 4 (k' := 15) (L' := [(0, .ref 37), (1, .int x1), (2, .int x2), (3, .int x3), (4, .int z4), (5, .int z5)]) (st' := [.int z5, .int x1, .ref 22]) rfl ?_
    refine ev_callV (q' := q_39) (x := 39) (y := 2) (c := 22) (As := [.int x1, .int z5]) (rest := []) hr rfl rfl rfl rfl rfl rfl rfl rfl rfl rfl rfl rfl (fun rv s1 hq => ev_kI hq (fun v2 e9 hr => ?_))
    subst e9
    refine ev_st (st' := [.int v2]) rfl ?_
    refine ev_seg 3 (k' := 19) (L' := [(6, .int v2), (0, .ref 37), (1, .int x1), (2, .int x2), (3, .int x3), (4, .int z4), (5, .int z5)]) (st' := [.int 6, .int z4]) rfl ?_
    refine ev_br (P := z4 = 6) (L' := [(6, .int v2), (0, .ref 37), (1, .int x1), (2, .int x2), (3, .int x3), (4, .int z4), (5, .int z5)]) (st' := []) hr rfl rfl rfl (fun hr => ?_) (fun hr => ?_)
    · skip
      refine ev_join (L' := [(0, .ref 37), (1, .int x1), (2, .int x2), (3, .int x3), (4, .int z4), (5, .int z5), (6, .int v2)]) [1, 2, 3, 4, 5, 6, 0] [6, 0, 1, 2, 3, 4, 5] [0, 1, 2, 3, 4, 5, 6] rfl rfl (by decide) (by decide) rfl ?_
      exact hr
    · skip
      refine ev_seg 2 (k' := 22) (L' := [(6, .int v2), (0, .ref 37), (1, .int x1), (2, .int x2), (3, .int x3), (4, .int z4), (5, .int z5)]) (st' := [.int 7, .int z4]) rfl ?_
      refine ev_br (P := ¬ z4 = 7) (L' := [(6, .int v2), (0, .ref 37), (1, .int x1), (2, .int x2), (3, .int x3), (4, .int z4), (5, .int z5)]) (st' := []) hr rfl rfl rfl (fun hr => ?_) (fun hr => ?_)
      · skip
        refine ev_seg 1 (k' := 26) (L' := [(6, .int v2), (0, .ref 37), (1, .int x1), (2, .int x2), (3, .int x3), (4, .int z4), (5, .int z5)]) (st' := [.int 0]) rfl ?_
        refine ev_join (L' := [(0, .ref 37), (1, .int x1), (2, .int x2), (3, .int x3), (4, .int z4), (5, .int z5), (6, .int v2)]) [1, 2, 3, 4, 5, 6, 0] [6, 0, 1, 2, 3, 4, 5] [0, 1, 2, 3, 4, 5, 6] rfl rfl (by decide) (by decide) rfl ?_
        exact hr
      · skip
        refine ev_join (L' := [(0, .ref 37), (1, .int x1), (2, .int x2), (3, .int x3), (4, .int z4), (5, .int z5), (6, .int v2)]) [1, 2, 3, 4, 5, 6, 0] [6, 0, 1, 2, 3, 4, 5] [0, 1, 2, 3, 4, 5, 6] rfl rfl (by decide) (by decide) rfl ?_
        exact hr
set_option maxRecDepth 20000 in
theorem eSr_hasBranchAs_23 (d : Nat) (x1 : Int32) (x2 : Int32) (x3 : Int32) (z4 : Int32) (z5 : Int32) (z6 : Int32) (s : aT) : ∀ r, (fSr_hasBranchAs_26 (d + 1) x1 x2 x3 z4 z5 z6 1 s) = some r → fSr_hasBranchAs_23 (d + 1) x1 x2 x3 z4 z5 z6 s = some r := by
  intro r hr
  show ev (d + 1) q_38 23 [(0, .ref 37), (1, .int x1), (2, .int x2), (3, .int x3), (4, .int z4), (5, .int z5), (6, .int z6)] [] s = some r
  refine ev_seg 2 (k' := 26) (L' := [(0, .ref 37), (1, .int x1), (2, .int x2), (3, .int x3), (4, .int z4), (5, .int z5), (6, .int z6)]) (st' := [.int 1]) rfl ?_
  exact hr
set_option maxRecDepth 20000 in
theorem eSr_hasBranchAs_26 (d : Nat) (x1 : Int32) (x2 : Int32) (x3 : Int32) (z4 : Int32) (z5 : Int32) (z6 : Int32) (u0 : Int32) (s : aT) : ∀ r, (if z6 = x3 then rI 1 s else if u0 = 0 then fSr_hasBranchAs_41 (d + 1) x1 x2 x3 z4 z5 s else ldI 5254 s 23 z6 (fun v1 => if ¬ v1 = z4 then fSr_hasBranchAs_41 (d + 1) x1 x2 x3 z4 z5 s else rI 1 s)) = some r → fSr_hasBranchAs_26 (d + 1) x1 x2 x3 z4 z5 z6 u0 s = some r := by
  intro r hr
  show ev (d + 1) q_38 26 [(0, .ref 37), (1, .int x1), (2, .int x2), (3, .int x3), (4, .int z4), (5, .int z5), (6, .int z6)] [.int u0] s = some r
  refine ev_seg 3 (k' := 29) (L' := [(7, .int u0), (0, .ref 37), (1, .int x1), (2, .int x2), (3, .int x3), (4, .int z4), (5, .int z5), (6, .int z6)]) (st' := [.int x3, .int z6]) rfl ?_
  refine ev_br (P := z6 = x3) (L' := [(7, .int u0), (0, .ref 37), (1, .int x1), (2, .int x2), (3, .int x3), (4, .int z4), (5, .int z5), (6, .int z6)]) (st' := []) hr rfl rfl rfl (fun hr => ?_) (fun hr => ?_)
  · skip
    refine ev_seg 1 (k' := 40) (L' := [(7, .int u0), (0, .ref 37), (1, .int x1), (2, .int x2), (3, .int x3), (4, .int z4), (5, .int z5), (6, .int z6)]) (st' := [.int 1]) rfl ?_
    exact ev_iret hr rfl rfl rfl
  · skip
    refine ev_seg 1 (k' := 31) (L' := [(7, .int u0), (0, .ref 37), (1, .int x1), (2, .int x2), (3, .int x3), (4, .int z4), (5, .int z5), (6, .int z6)]) (st' := [.int u0]) rfl ?_
    refine ev_br (P := u0 = 0) (L' := [(7, .int u0), (0, .ref 37), (1, .int x1), (2, .int x2), (3, .int x3), (4, .int z4), (5, .int z5), (6, .int z6)]) (st' := []) hr rfl rfl rfl (fun hr => ?_) (fun hr => ?_)
    · skip
      refine ev_join (L' := [(0, .ref 37), (1, .int x1), (2, .int x2), (3, .int x3), (4, .int z4), (5, .int z5)]) [1, 2, 3, 4, 5, 6] [7, 0, 1, 2, 3, 4, 5, 6] [0, 1, 2, 3, 4, 5] rfl rfl (by decide) (by decide) rfl ?_
      exact hr
    · skip
      refine ev_seg 4 (k' := 36) (L' := [(7, .int u0), (0, .ref 37), (1, .int x1), (2, .int x2), (3, .int x3), (4, .int z4), (5, .int z5), (6, .int z6)]) (st' := [.int z6, .ref 23]) rfl ?_
      refine ev_ldI hr rfl rfl (fun v1 hr => ?_)
      refine ev_seg 1 (k' := 38) (L' := [(7, .int u0), (0, .ref 37), (1, .int x1), (2, .int x2), (3, .int x3), (4, .int z4), (5, .int z5), (6, .int z6)]) (st' := [.int z4, .int v1]) rfl ?_
      refine ev_br (P := ¬ v1 = z4) (L' := [(7, .int u0), (0, .ref 37), (1, .int x1), (2, .int x2), (3, .int x3), (4, .int z4), (5, .int z5), (6, .int z6)]) (st' := []) hr rfl rfl rfl (fun hr => ?_) (fun hr => ?_)
      · skip
        refine ev_join (L' := [(0, .ref 37), (1, .int x1), (2, .int x2), (3, .int x3), (4, .int z4), (5, .int z5)]) [1, 2, 3, 4, 5, 6] [7, 0, 1, 2, 3, 4, 5, 6] [0, 1, 2, 3, 4, 5] rfl rfl (by decide) (by decide) rfl ?_
        exact hr
      · skip
        refine ev_seg 1 (k' := 40) (L' := [(7, .int u0), (0, .ref 37), (1, .int x1), (2, .int x2), (3, .int x3), (4, .int z4), (5, .int z5), (6, .int z6)]) (st' := [.int 1]) rfl ?_
        exact ev_iret hr rfl rfl rfl
set_option maxRecDepth 20000 in
theorem eSr_hasBranchAs_41 (d : Nat) (x1 : Int32) (x2 : Int32) (x3 : Int32) (z4 : Int32) (z5 : Int32) (s : aT) : ∀ r, (fSr_hasBranchAs_8 (d + 1) x1 x2 x3 z4 (z5 + 1) s) = some r → fSr_hasBranchAs_41 (d + 1) x1 x2 x3 z4 z5 s = some r := by
  intro r hr
  show ev (d + 1) q_38 41 [(0, .ref 37), (1, .int x1), (2, .int x2), (3, .int x3), (4, .int z4), (5, .int z5)] [] s = some r
  refine ev_seg 2 (k' := 8) (L' := [(5, .int (z5 + 1)), (0, .ref 37), (1, .int x1), (2, .int x2), (3, .int x3), (4, .int z4)]) (st' := []) rfl ?_
  refine ev_join (L' := [(0, .ref 37), (1, .int x1), (2, .int x2), (3, .int x3), (4, .int z4), (5, .int (z5 + 1))]) [1, 2, 3, 4, 5, 0] [5, 0, 1, 2, 3, 4] [0, 1, 2, 3, 4, 5] rfl rfl (by decide) (by decide) rfl ?_
  exact hr
set_option maxRecDepth 20000 in
theorem eSr_object (d : Nat) (x1 : Int32) (x2 : Int32) (s : aT) : ∀ r, (cG (fTx_member d x1 1015 s) (kI fun v2 s1 => if v2 = (-1) then fSr_object_16 (d + 1) x1 s1 else ldI 4096 s1 14 v2 (fun v3 => if v3 = 2 then cG (fSr_kindTold d v2 s1) (kI fun v5 s4 => if v5 = 6 then cG (fSr_collection d x1 v5 1016 x2 s4) (kI fun v8 s7 => rI v8 s7) else if v5 = 7 then cG (fSr_collection d x1 v5 1017 x2 s4) (kI fun v11 s10 => rI v11 s10) else if v5 = 8 then cG (fSr_known d v2 s4) (kI fun v14 s13 => rI v14 s13) else if v5 = 9 then cG (fSr_named d x1 v5 x2 s4) (kI fun v17 s16 => rI v17 s16) else if v5 = 10 then cG (fSr_named d x1 v5 x2 s4) (kI fun v20 s19 => rI v20 s19) else if v5 = 11 then cG (fSr_named d x1 v5 x2 s4) (kI fun v23 s22 => rI v23 s22) else cG (fSr_known d v2 s4) (kI fun v25 s24 => rI v25 s24)) else fSr_object_16 (d + 1) x1 s1))) = some r → fSr_object (d + 1) x1 x2 s = some r := by
  intro r hr
  show ev (d + 1) q_40 0 [(0, .ref 37), (1, .int x1), (2, .int x2)] [] s = some r
  refine ev_seg 4 (k' := 4) (L' := [(0, .ref 37), (1, .int x1), (2, .int x2)]) (st' := [.ref 1015, .int x1, .ref 13]) rfl ?_
  refine ev_callV (q' := q_41) (x := 41) (y := 1) (c := 13) (As := [.int x1, .ref 1015]) (rest := []) hr rfl rfl rfl rfl rfl rfl rfl rfl rfl rfl rfl rfl (fun rv s1 hq => ev_kI hq (fun v2 e9 hr => ?_))
  subst e9
  refine ev_st (st' := [.int v2]) rfl ?_
  refine ev_seg 3 (k' := 8) (L' := [(3, .int v2), (0, .ref 37), (1, .int x1), (2, .int x2)]) (st' := [.int (-1), .int v2]) rfl ?_
  refine ev_br (P := v2 = (-1)) (L' := [(3, .int v2), (0, .ref 37), (1, .int x1), (2, .int x2)]) (st' := []) hr rfl rfl rfl (fun hr => ?_) (fun hr => ?_)
  · skip
    refine ev_join (L' := [(0, .ref 37), (1, .int x1)]) [1, 2] [3, 0, 1, 2] [0, 1] rfl rfl (by decide) (by decide) rfl ?_
    exact hr
  · skip
    refine ev_seg 4 (k' := 13) (L' := [(3, .int v2), (0, .ref 37), (1, .int x1), (2, .int x2)]) (st' := [.int v2, .ref 14]) rfl ?_
    refine ev_ldI hr rfl rfl (fun v3 hr => ?_)
    refine ev_seg 1 (k' := 15) (L' := [(3, .int v2), (0, .ref 37), (1, .int x1), (2, .int x2)]) (st' := [.int 2, .int v3]) rfl ?_
    refine ev_br (P := v3 = 2) (L' := [(3, .int v2), (0, .ref 37), (1, .int x1), (2, .int x2)]) (st' := []) hr rfl rfl rfl (fun hr => ?_) (fun hr => ?_)
    · skip
      refine ev_seg 2 (k' := 23) (L' := [(3, .int v2), (0, .ref 37), (1, .int x1), (2, .int x2)]) (st' := [.int v2, .ref 37]) rfl ?_
      refine ev_callV (q' := q_42) (x := 42) (y := 3) (c := 37) (As := [.int v2]) (rest := []) hr rfl rfl rfl rfl rfl rfl rfl rfl rfl rfl rfl rfl (fun rv s4 hq => ev_kI hq (fun v5 e9 hr => ?_))
      subst e9
      refine ev_st (st' := [.int v5]) rfl ?_
      refine ev_seg 2 (k' := 26) (L' := [(4, .int v5), (3, .int v2), (0, .ref 37), (1, .int x1), (2, .int x2)]) (st' := [.int v5]) rfl ?_
      refine ev_if hr (fun h6 hr => ?_) (fun h6 hr => ?_)
      · skip
        refine ev_tab (o := 38) (t := 27) rfl (by rw [h6]; rfl) rfl ?_
        refine ev_seg 5 (k' := 32) (L' := [(4, .int v5), (3, .int v2), (0, .ref 37), (1, .int x1), (2, .int x2)]) (st' := [.int x2, .ref 1016, .int v5, .int x1, .ref 37]) rfl ?_
        refine ev_callV (q' := q_43) (x := 43) (y := 3) (c := 37) (As := [.int x1, .int v5, .ref 1016, .int x2]) (rest := []) hr rfl rfl rfl rfl rfl rfl rfl rfl rfl rfl rfl rfl (fun rv s7 hq => ev_kI hq (fun v8 e9 hr => ?_))
        subst e9
        refine ev_st (st' := [.int v8]) rfl ?_
        exact ev_iret hr rfl rfl rfl
      refine ev_if hr (fun h9 hr => ?_) (fun h9 hr => ?_)
      · skip
        refine ev_tab (o := 49) (t := 34) rfl (by rw [h9]; rfl) rfl ?_
        refine ev_seg 5 (k' := 39) (L' := [(4, .int v5), (3, .int v2), (0, .ref 37), (1, .int x1), (2, .int x2)]) (st' := [.int x2, .ref 1017, .int v5, .int x1, .ref 37]) rfl ?_
        refine ev_callV (q' := q_43) (x := 43) (y := 3) (c := 37) (As := [.int x1, .int v5, .ref 1017, .int x2]) (rest := []) hr rfl rfl rfl rfl rfl rfl rfl rfl rfl rfl rfl rfl (fun rv s10 hq => ev_kI hq (fun v11 e9 hr => ?_))
        subst e9
        refine ev_st (st' := [.int v11]) rfl ?_
        exact ev_iret hr rfl rfl rfl
      refine ev_if hr (fun h12 hr => ?_) (fun h12 hr => ?_)
      · skip
        refine ev_tab (o := 69) (t := 47) rfl (by rw [h12]; rfl) rfl ?_
        refine ev_seg 2 (k' := 49) (L' := [(4, .int v5), (3, .int v2), (0, .ref 37), (1, .int x1), (2, .int x2)]) (st' := [.int v2, .ref 37]) rfl ?_
        refine ev_callV (q' := q_30) (x := 30) (y := 3) (c := 37) (As := [.int v2]) (rest := []) hr rfl rfl rfl rfl rfl rfl rfl rfl rfl rfl rfl rfl (fun rv s13 hq => ev_kI hq (fun v14 e9 hr => ?_))
        subst e9
        refine ev_st (st' := [.int v14]) rfl ?_
        exact ev_iret hr rfl rfl rfl
      refine ev_if hr (fun h15 hr => ?_) (fun h15 hr => ?_)
      · skip
        refine ev_tab (o := 60) (t := 41) rfl (by rw [h15]; rfl) rfl ?_
        refine ev_seg 4 (k' := 45) (L' := [(4, .int v5), (3, .int v2), (0, .ref 37), (1, .int x1), (2, .int x2)]) (st' := [.int x2, .int v5, .int x1, .ref 37]) rfl ?_
        refine ev_callV (q' := q_44) (x := 44) (y := 3) (c := 37) (As := [.int x1, .int v5, .int x2]) (rest := []) hr rfl rfl rfl rfl rfl rfl rfl rfl rfl rfl rfl rfl (fun rv s16 hq => ev_kI hq (fun v17 e9 hr => ?_))
        subst e9
        refine ev_st (st' := [.int v17]) rfl ?_
        exact ev_iret hr rfl rfl rfl
      refine ev_if hr (fun h18 hr => ?_) (fun h18 hr => ?_)
      · skip
        refine ev_tab (o := 60) (t := 41) rfl (by rw [h18]; rfl) rfl ?_
        refine ev_seg 4 (k' := 45) (L' := [(4, .int v5), (3, .int v2), (0, .ref 37), (1, .int x1), (2, .int x2)]) (st' := [.int x2, .int v5, .int x1, .ref 37]) rfl ?_
        refine ev_callV (q' := q_44) (x := 44) (y := 3) (c := 37) (As := [.int x1, .int v5, .int x2]) (rest := []) hr rfl rfl rfl rfl rfl rfl rfl rfl rfl rfl rfl rfl (fun rv s19 hq => ev_kI hq (fun v20 e9 hr => ?_))
        subst e9
        refine ev_st (st' := [.int v20]) rfl ?_
        exact ev_iret hr rfl rfl rfl
      refine ev_if hr (fun h21 hr => ?_) (fun h21 hr => ?_)
      · skip
        refine ev_tab (o := 60) (t := 41) rfl (by rw [h21]; rfl) rfl ?_
        refine ev_seg 4 (k' := 45) (L' := [(4, .int v5), (3, .int v2), (0, .ref 37), (1, .int x1), (2, .int x2)]) (st' := [.int x2, .int v5, .int x1, .ref 37]) rfl ?_
        refine ev_callV (q' := q_44) (x := 44) (y := 3) (c := 37) (As := [.int x1, .int v5, .int x2]) (rest := []) hr rfl rfl rfl rfl rfl rfl rfl rfl rfl rfl rfl rfl (fun rv s22 hq => ev_kI hq (fun v23 e9 hr => ?_))
        subst e9
        refine ev_st (st' := [.int v23]) rfl ?_
        exact ev_iret hr rfl rfl rfl
      refine ev_tab (o := 69) (t := 47) rfl (tab_in (by have e0 := i_neL (z := 6) (w := 6) rfl h6; have e1 := i_neL (z := 7) (w := 7) rfl h9; have e2 := i_neL (z := 8) (w := 8) rfl h12; have e3 := i_neL (z := 9) (w := 9) rfl h15; have e4 := i_neL (z := 10) (w := 10) rfl h18; have e5 := i_neL (z := 11) (w := 11) rfl h21; omega)) rfl ?_
      refine ev_seg 2 (k' := 49) (L' := [(4, .int v5), (3, .int v2), (0, .ref 37), (1, .int x1), (2, .int x2)]) (st' := [.int v2, .ref 37]) rfl ?_
      refine ev_callV (q' := q_30) (x := 30) (y := 3) (c := 37) (As := [.int v2]) (rest := []) hr rfl rfl rfl rfl rfl rfl rfl rfl rfl rfl rfl rfl (fun rv s24 hq => ev_kI hq (fun v25 e9 hr => ?_))
      subst e9
      refine ev_st (st' := [.int v25]) rfl ?_
      exact ev_iret hr rfl rfl rfl
    · skip
      refine ev_join (L' := [(0, .ref 37), (1, .int x1)]) [1, 2] [3, 0, 1, 2] [0, 1] rfl rfl (by decide) (by decide) rfl ?_
      exact hr
set_option maxRecDepth 20000 in
theorem eSr_object_16 (d : Nat) (x1 : Int32) (s : aT) : ∀ r, (cG (fSr_fail d 7 x1 s) (kI fun v2 s1 => rI v2 s1)) = some r → fSr_object_16 (d + 1) x1 s = some r := by
  intro r hr
  show ev (d + 1) q_40 16 [(0, .ref 37), (1, .int x1)] [] s = some r
  refine ev_seg 3 (k' := 19) (L' := [(0, .ref 37), (1, .int x1)]) (st' := [.int x1, .int 7, .ref 37]) rfl ?_
  refine ev_callV (q' := q_29) (x := 29) (y := 3) (c := 37) (As := [.int 7, .int x1]) (rest := []) hr rfl rfl rfl rfl rfl rfl rfl rfl rfl rfl rfl rfl (fun rv s1 hq => ev_kI hq (fun v2 e9 hr => ?_))
  subst e9
  refine ev_st (st' := [.int v2]) rfl ?_
  exact ev_iret hr rfl rfl rfl
set_option maxRecDepth 20000 in
theorem eSr_kindTold (d : Nat) (x1 : Int32) (s : aT) : ∀ r, (fSr_kindTold_2 (d + 1) x1 0 s) = some r → fSr_kindTold (d + 1) x1 s = some r := by
  intro r hr
  show ev (d + 1) q_42 0 [(0, .ref 37), (1, .int x1)] [] s = some r
  refine ev_seg 2 (k' := 2) (L' := [(2, .int 0), (0, .ref 37), (1, .int x1)]) (st' := []) rfl ?_
  refine ev_join (L' := [(0, .ref 37), (1, .int x1), (2, .int 0)]) [1, 2, 0] [2, 0, 1] [0, 1, 2] rfl rfl (by decide) (by decide) rfl ?_
  exact hr
set_option maxRecDepth 20000 in
theorem eSr_kindTold_2 (d : Nat) (x1 : Int32) (z2 : Int32) (s : aT) : ∀ r, (if 12 ≤ z2 then rI (-1) s else if z2 = 8 then fSr_kindTold_17 (d + 1) x1 z2 s else cG (fSc_wordOf d z2 s) (kA fun v2 s1 => cG (fTx_tells d x1 v2 s1) (kI fun v4 s3 => if v4 = 0 then fSr_kindTold_17 (d + 1) x1 z2 s3 else rI z2 s3))) = some r → fSr_kindTold_2 (d + 1) x1 z2 s = some r := by
  intro r hr
  show ev (d + 1) q_42 2 [(0, .ref 37), (1, .int x1), (2, .int z2)] [] s = some r
  refine ev_seg 2 (k' := 4) (L' := [(0, .ref 37), (1, .int x1), (2, .int z2)]) (st' := [.int 12, .int z2]) rfl ?_
  refine ev_br (P := 12 ≤ z2) (L' := [(0, .ref 37), (1, .int x1), (2, .int z2)]) (st' := []) hr rfl rfl rfl (fun hr => ?_) (fun hr => ?_)
  · skip
    refine ev_seg 1 (k' := 20) (L' := [(0, .ref 37), (1, .int x1), (2, .int z2)]) (st' := [.int (-1)]) rfl ?_
    exact ev_iret hr rfl rfl rfl
  · skip
    refine ev_seg 2 (k' := 7) (L' := [(0, .ref 37), (1, .int x1), (2, .int z2)]) (st' := [.int 8, .int z2]) rfl ?_
    refine ev_br (P := z2 = 8) (L' := [(0, .ref 37), (1, .int x1), (2, .int z2)]) (st' := []) hr rfl rfl rfl (fun hr => ?_) (fun hr => ?_)
    · skip
      exact hr
    · skip
      refine ev_seg 4 (k' := 12) (L' := [(0, .ref 37), (1, .int x1), (2, .int z2)]) (st' := [.int z2, .int x1, .ref 13]) rfl ?_
      refine ev_callS (q' := q_31) (x := 31) (vs := [.int z2]) (rest := [.int x1, .ref 13]) hr rfl rfl rfl rfl rfl rfl rfl rfl rfl rfl (fun rv s1 hq => ev_kA hq (fun v2 e9 hr => ?_))
      subst e9
      refine ev_st (st' := [.ref v2, .int x1, .ref 13]) rfl ?_
      refine ev_callV (q' := q_32) (x := 32) (y := 1) (c := 13) (As := [.int x1, .ref v2]) (rest := []) hr rfl rfl rfl rfl rfl rfl rfl rfl rfl rfl rfl rfl (fun rv s3 hq => ev_kI hq (fun v4 e9 hr => ?_))
      subst e9
      refine ev_st (st' := [.int v4]) rfl ?_
      refine ev_br (P := v4 = 0) (L' := [(0, .ref 37), (1, .int x1), (2, .int z2)]) (st' := []) hr rfl rfl rfl (fun hr => ?_) (fun hr => ?_)
      · skip
        exact hr
      · skip
        refine ev_seg 1 (k' := 16) (L' := [(0, .ref 37), (1, .int x1), (2, .int z2)]) (st' := [.int z2]) rfl ?_
        exact ev_iret hr rfl rfl rfl
set_option maxRecDepth 20000 in
theorem eSr_kindTold_17 (d : Nat) (x1 : Int32) (z2 : Int32) (s : aT) : ∀ r, (fSr_kindTold_2 (d + 1) x1 (z2 + 1) s) = some r → fSr_kindTold_17 (d + 1) x1 z2 s = some r := by
  intro r hr
  show ev (d + 1) q_42 17 [(0, .ref 37), (1, .int x1), (2, .int z2)] [] s = some r
  refine ev_seg 2 (k' := 2) (L' := [(2, .int (z2 + 1)), (0, .ref 37), (1, .int x1)]) (st' := []) rfl ?_
  refine ev_join (L' := [(0, .ref 37), (1, .int x1), (2, .int (z2 + 1))]) [1, 2, 0] [2, 0, 1] [0, 1, 2] rfl rfl (by decide) (by decide) rfl ?_
  exact hr
set_option maxRecDepth 20000 in
theorem eSr_collection (d : Nat) (x1 : Int32) (x2 : Int32) (w3 : Nat) (x4 : Int32) (s : aT) : ∀ r, (cG (fTx_member d x1 w3 s) (kI fun v2 s1 => if ¬ v2 = (-1) then cG (fSr_add d x2 x1 0 s1) (kI fun v4 s3 => if ¬ v4 = (-1) then cG (fSr_schemaOf d v2 (x4 + 1) 0 s3) (kI fun v6 s5 => fSr_collection_32 (d + 1) v4 v6 s5) else fSr_collection_32 (d + 1) v4 (-1) s3) else cG (fSr_fail d 8 x1 s1) (kI fun v8 s7 => rI v8 s7))) = some r → fSr_collection (d + 1) x1 x2 w3 x4 s = some r := by
  intro r hr
  show ev (d + 1) q_43 0 [(0, .ref 37), (1, .int x1), (2, .int x2), (3, .ref w3), (4, .int x4)] [] s = some r
  refine ev_seg 4 (k' := 4) (L' := [(0, .ref 37), (1, .int x1), (2, .int x2), (3, .ref w3), (4, .int x4)]) (st' := [.ref w3, .int x1, .ref 13]) rfl ?_
  refine ev_callV (q' := q_41) (x := 41) (y := 1) (c := 13) (As := [.int x1, .ref w3]) (rest := []) hr rfl rfl rfl rfl rfl rfl rfl rfl rfl rfl rfl rfl (fun rv s1 hq => ev_kI hq (fun v2 e9 hr => ?_))
  subst e9
  refine ev_st (st' := [.int v2]) rfl ?_
  refine ev_seg 3 (k' := 8) (L' := [(5, .int v2), (0, .ref 37), (1, .int x1), (2, .int x2), (3, .ref w3), (4, .int x4)]) (st' := [.int (-1), .int v2]) rfl ?_
  refine ev_br (P := ¬ v2 = (-1)) (L' := [(5, .int v2), (0, .ref 37), (1, .int x1), (2, .int x2), (3, .ref w3), (4, .int x4)]) (st' := []) hr rfl rfl rfl (fun hr => ?_) (fun hr => ?_)
  · skip
    refine ev_seg 4 (k' := 18) (L' := [(5, .int v2), (0, .ref 37), (1, .int x1), (2, .int x2), (3, .ref w3), (4, .int x4)]) (st' := [.int 0, .int x1, .int x2, .ref 37]) rfl ?_
    refine ev_callV (q' := q_35) (x := 35) (y := 3) (c := 37) (As := [.int x2, .int x1, .int 0]) (rest := []) hr rfl rfl rfl rfl rfl rfl rfl rfl rfl rfl rfl rfl (fun rv s3 hq => ev_kI hq (fun v4 e9 hr => ?_))
    subst e9
    refine ev_st (st' := [.int v4]) rfl ?_
    refine ev_seg 3 (k' := 22) (L' := [(6, .int v4), (5, .int v2), (0, .ref 37), (1, .int x1), (2, .int x2), (3, .ref w3), (4, .int x4)]) (st' := [.int (-1), .int v4]) rfl ?_
    refine ev_br (P := ¬ v4 = (-1)) (L' := [(6, .int v4), (5, .int v2), (0, .ref 37), (1, .int x1), (2, .int x2), (3, .ref w3), (4, .int x4)]) (st' := []) hr rfl rfl rfl (fun hr => ?_) (fun hr => ?_)
    · skip
      refine ev_seg 6 (k' := 31) (L' := [(6, .int v4), (5, .int v2), (0, .ref 37), (1, .int x1), (2, .int x2), (3, .ref w3), (4, .int x4)]) (st' := [.int 0, .int (x4 + 1), .int v2, .ref 37]) rfl ?_
      refine ev_callV (q' := q_28) (x := 28) (y := 3) (c := 37) (As := [.int v2, .int (x4 + 1), .int 0]) (rest := []) hr rfl rfl rfl rfl rfl rfl rfl rfl rfl rfl rfl rfl (fun rv s5 hq => ev_kI hq (fun v6 e9 hr => ?_))
      subst e9
      refine ev_st (st' := [.int v6]) rfl ?_
      refine ev_join (L' := [(0, .ref 37), (6, .int v4)]) [2, 0] [6, 5, 0, 1, 2, 3, 4] [0, 6] rfl rfl (by decide) (by decide) rfl ?_
      exact hr
    · skip
      refine ev_seg 2 (k' := 32) (L' := [(6, .int v4), (5, .int v2), (0, .ref 37), (1, .int x1), (2, .int x2), (3, .ref w3), (4, .int x4)]) (st' := [.int (-1)]) rfl ?_
      refine ev_join (L' := [(0, .ref 37), (6, .int v4)]) [2, 0] [6, 5, 0, 1, 2, 3, 4] [0, 6] rfl rfl (by decide) (by decide) rfl ?_
      exact hr
  · skip
    refine ev_seg 3 (k' := 12) (L' := [(5, .int v2), (0, .ref 37), (1, .int x1), (2, .int x2), (3, .ref w3), (4, .int x4)]) (st' := [.int x1, .int 8, .ref 37]) rfl ?_
    refine ev_callV (q' := q_29) (x := 29) (y := 3) (c := 37) (As := [.int 8, .int x1]) (rest := []) hr rfl rfl rfl rfl rfl rfl rfl rfl rfl rfl rfl rfl (fun rv s7 hq => ev_kI hq (fun v8 e9 hr => ?_))
    subst e9
    refine ev_st (st' := [.int v8]) rfl ?_
    exact ev_iret hr rfl rfl rfl
set_option maxRecDepth 20000 in
theorem eSr_collection_32 (d : Nat) (z6 : Int32) (u0 : Int32) (s : aT) : ∀ r, (if ¬ u0 = (-1) then stI 5254 s 27 z6 u0 (fun s1 => rI z6 s1) else rI (-1) s) = some r → fSr_collection_32 (d + 1) z6 u0 s = some r := by
  intro r hr
  show ev (d + 1) q_43 32 [(0, .ref 37), (6, .int z6)] [.int u0] s = some r
  refine ev_seg 3 (k' := 35) (L' := [(7, .int u0), (0, .ref 37), (6, .int z6)]) (st' := [.int (-1), .int u0]) rfl ?_
  refine ev_br (P := ¬ u0 = (-1)) (L' := [(7, .int u0), (0, .ref 37), (6, .int z6)]) (st' := []) hr rfl rfl rfl (fun hr => ?_) (fun hr => ?_)
  · skip
    refine ev_seg 5 (k' := 43) (L' := [(7, .int u0), (0, .ref 37), (6, .int z6)]) (st' := [.int u0, .int z6, .ref 27]) rfl ?_
    refine ev_stI hr rfl rfl (fun s1 hr => ?_)
    refine ev_seg 1 (k' := 45) (L' := [(7, .int u0), (0, .ref 37), (6, .int z6)]) (st' := [.int z6]) rfl ?_
    exact ev_iret hr rfl rfl rfl
  · skip
    refine ev_seg 1 (k' := 37) (L' := [(7, .int u0), (0, .ref 37), (6, .int z6)]) (st' := [.int (-1)]) rfl ?_
    exact ev_iret hr rfl rfl rfl
set_option maxRecDepth 20000 in
theorem eSr_named (d : Nat) (x1 : Int32) (x2 : Int32) (x3 : Int32) (s : aT) : ∀ r, (cG (fTx_member d x1 1018 s) (kI fun v2 s1 => if v2 = (-1) then fSr_named_16 (d + 1) x1 s1 else ldI 4096 s1 14 v2 (fun v3 => if v3 = 2 then cG (fSr_isName d v2 s1) (kI fun v5 s4 => if v5 = 0 then fSr_named_38 (d + 1) v2 s4 else cG (fSr_kindTold d v2 s4) (kI fun v7 s6 => if ¬ v7 = (-1) then fSr_named_38 (d + 1) v2 s6 else cG (fSc_defined d v2 s6) (kI fun v9 s8 => if v9 = (-1) then cG (fSr_add d x2 x1 0 s8) (kI fun v11 s10 => if ¬ v11 = (-1) then cG (fSc_addName d v2 s10) (kI fun v13 s12 => stI 5254 s12 24 v11 v13 (fun s14 => if x2 = 9 then cG (fSr_fixed d x1 v11 s14) (kI fun v17 s16 => rI v17 s16) else if x2 = 10 then cG (fSr_symbols d x1 v11 s14) (kI fun v20 s19 => rI v20 s19) else cG (fSr_fields d x1 v11 x3 s14) (kI fun v22 s21 => rI v22 s21))) else rI (-1) s10) else fSr_named_38 (d + 1) v2 s8))) else fSr_named_16 (d + 1) x1 s1))) = some r → fSr_named (d + 1) x1 x2 x3 s = some r := by
  intro r hr
  show ev (d + 1) q_44 0 [(0, .ref 37), (1, .int x1), (2, .int x2), (3, .int x3)] [] s = some r
  refine ev_seg 4 (k' := 4) (L' := [(0, .ref 37), (1, .int x1), (2, .int x2), (3, .int x3)]) (st' := [.ref 1018, .int x1, .ref 13]) rfl ?_
  refine ev_callV (q' := q_41) (x := 41) (y := 1) (c := 13) (As := [.int x1, .ref 1018]) (rest := []) hr rfl rfl rfl rfl rfl rfl rfl rfl rfl rfl rfl rfl (fun rv s1 hq => ev_kI hq (fun v2 e9 hr => ?_))
  subst e9
  refine ev_st (st' := [.int v2]) rfl ?_
  refine ev_seg 3 (k' := 8) (L' := [(4, .int v2), (0, .ref 37), (1, .int x1), (2, .int x2), (3, .int x3)]) (st' := [.int (-1), .int v2]) rfl ?_
  refine ev_br (P := v2 = (-1)) (L' := [(4, .int v2), (0, .ref 37), (1, .int x1), (2, .int x2), (3, .int x3)]) (st' := []) hr rfl rfl rfl (fun hr => ?_) (fun hr => ?_)
  · skip
    refine ev_join (L' := [(0, .ref 37), (1, .int x1)]) [1, 2] [4, 0, 1, 2, 3] [0, 1] rfl rfl (by decide) (by decide) rfl ?_
    exact hr
  · skip
    refine ev_seg 4 (k' := 13) (L' := [(4, .int v2), (0, .ref 37), (1, .int x1), (2, .int x2), (3, .int x3)]) (st' := [.int v2, .ref 14]) rfl ?_
    refine ev_ldI hr rfl rfl (fun v3 hr => ?_)
    refine ev_seg 1 (k' := 15) (L' := [(4, .int v2), (0, .ref 37), (1, .int x1), (2, .int x2), (3, .int x3)]) (st' := [.int 2, .int v3]) rfl ?_
    refine ev_br (P := v3 = 2) (L' := [(4, .int v2), (0, .ref 37), (1, .int x1), (2, .int x2), (3, .int x3)]) (st' := []) hr rfl rfl rfl (fun hr => ?_) (fun hr => ?_)
    · skip
      refine ev_seg 2 (k' := 23) (L' := [(4, .int v2), (0, .ref 37), (1, .int x1), (2, .int x2), (3, .int x3)]) (st' := [.int v2, .ref 37]) rfl ?_
      refine ev_callV (q' := q_45) (x := 45) (y := 3) (c := 37) (As := [.int v2]) (rest := []) hr rfl rfl rfl rfl rfl rfl rfl rfl rfl rfl rfl rfl (fun rv s4 hq => ev_kI hq (fun v5 e9 hr => ?_))
      subst e9
      refine ev_st (st' := [.int v5]) rfl ?_
      refine ev_br (P := v5 = 0) (L' := [(4, .int v2), (0, .ref 37), (1, .int x1), (2, .int x2), (3, .int x3)]) (st' := []) hr rfl rfl rfl (fun hr => ?_) (fun hr => ?_)
      · skip
        refine ev_join (L' := [(0, .ref 37), (4, .int v2)]) [1, 0] [4, 0, 1, 2, 3] [0, 4] rfl rfl (by decide) (by decide) rfl ?_
        exact hr
      · skip
        refine ev_seg 2 (k' := 27) (L' := [(4, .int v2), (0, .ref 37), (1, .int x1), (2, .int x2), (3, .int x3)]) (st' := [.int v2, .ref 37]) rfl ?_
        refine ev_callV (q' := q_42) (x := 42) (y := 3) (c := 37) (As := [.int v2]) (rest := []) hr rfl rfl rfl rfl rfl rfl rfl rfl rfl rfl rfl rfl (fun rv s6 hq => ev_kI hq (fun v7 e9 hr => ?_))
        subst e9
        refine ev_st (st' := [.int v7]) rfl ?_
        refine ev_seg 1 (k' := 29) (L' := [(4, .int v2), (0, .ref 37), (1, .int x1), (2, .int x2), (3, .int x3)]) (st' := [.int (-1), .int v7]) rfl ?_
        refine ev_br (P := ¬ v7 = (-1)) (L' := [(4, .int v2), (0, .ref 37), (1, .int x1), (2, .int x2), (3, .int x3)]) (st' := []) hr rfl rfl rfl (fun hr => ?_) (fun hr => ?_)
        · skip
          refine ev_join (L' := [(0, .ref 37), (4, .int v2)]) [1, 0] [4, 0, 1, 2, 3] [0, 4] rfl rfl (by decide) (by decide) rfl ?_
          exact hr
        · skip
          refine ev_seg 5 (k' := 35) (L' := [(4, .int v2), (0, .ref 37), (1, .int x1), (2, .int x2), (3, .int x3)]) (st' := [.int v2, .ref 13, .ref 22]) rfl ?_
          refine ev_callV (q' := q_33) (x := 33) (y := 2) (c := 22) (As := [.ref 13, .int v2]) (rest := []) hr rfl rfl rfl rfl rfl rfl rfl rfl rfl rfl rfl rfl (fun rv s8 hq => ev_kI hq (fun v9 e9 hr => ?_))
          subst e9
          refine ev_st (st' := [.int v9]) rfl ?_
          refine ev_seg 1 (k' := 37) (L' := [(4, .int v2), (0, .ref 37), (1, .int x1), (2, .int x2), (3, .int x3)]) (st' := [.int (-1), .int v9]) rfl ?_
          refine ev_br (P := v9 = (-1)) (L' := [(4, .int v2), (0, .ref 37), (1, .int x1), (2, .int x2), (3, .int x3)]) (st' := []) hr rfl rfl rfl (fun hr => ?_) (fun hr => ?_)
          · skip
            refine ev_seg 4 (k' := 47) (L' := [(4, .int v2), (0, .ref 37), (1, .int x1), (2, .int x2), (3, .int x3)]) (st' := [.int 0, .int x1, .int x2, .ref 37]) rfl ?_
            refine ev_callV (q' := q_35) (x := 35) (y := 3) (c := 37) (As := [.int x2, .int x1, .int 0]) (rest := []) hr rfl rfl rfl rfl rfl rfl rfl rfl rfl rfl rfl rfl (fun rv s10 hq => ev_kI hq (fun v11 e9 hr => ?_))
            subst e9
            refine ev_st (st' := [.int v11]) rfl ?_
            refine ev_seg 3 (k' := 51) (L' := [(5, .int v11), (4, .int v2), (0, .ref 37), (1, .int x1), (2, .int x2), (3, .int x3)]) (st' := [.int (-1), .int v11]) rfl ?_
            refine ev_br (P := ¬ v11 = (-1)) (L' := [(5, .int v11), (4, .int v2), (0, .ref 37), (1, .int x1), (2, .int x2), (3, .int x3)]) (st' := []) hr rfl rfl rfl (fun hr => ?_) (fun hr => ?_)
            · skip
              refine ev_seg 9 (k' := 63) (L' := [(5, .int v11), (4, .int v2), (0, .ref 37), (1, .int x1), (2, .int x2), (3, .int x3)]) (st' := [.int v2, .ref 13, .ref 22, .int v11, .ref 24]) rfl ?_
              refine ev_callV (q' := q_47) (x := 47) (y := 2) (c := 22) (As := [.ref 13, .int v2]) (rest := [.int v11, .ref 24]) hr rfl rfl rfl rfl rfl rfl rfl rfl rfl rfl rfl rfl (fun rv s12 hq => ev_kI hq (fun v13 e9 hr => ?_))
              subst e9
              refine ev_st (st' := [.int v13, .int v11, .ref 24]) rfl ?_
              refine ev_stI hr rfl rfl (fun s14 hr => ?_)
              refine ev_seg 1 (k' := 66) (L' := [(5, .int v11), (4, .int v2), (0, .ref 37), (1, .int x1), (2, .int x2), (3, .int x3)]) (st' := [.int x2]) rfl ?_
              refine ev_if hr (fun h15 hr => ?_) (fun h15 hr => ?_)
              · skip
                refine ev_look (o := 26) (t := 67) rfl rfl (by rw [h15]; rfl) rfl ?_
                refine ev_seg 3 (k' := 70) (L' := [(5, .int v11), (4, .int v2), (0, .ref 37), (1, .int x1), (2, .int x2), (3, .int x3)]) (st' := [.int v11, .int x1, .ref 37]) rfl ?_
                refine ev_callV (q' := q_49) (x := 49) (y := 3) (c := 37) (As := [.int x1, .int v11]) (rest := []) hr rfl rfl rfl rfl rfl rfl rfl rfl rfl rfl rfl rfl (fun rv s16 hq => ev_kI hq (fun v17 e9 hr => ?_))
                subst e9
                refine ev_st (st' := [.int v17]) rfl ?_
                exact ev_iret hr rfl rfl rfl
              refine ev_if hr (fun h18 hr => ?_) (fun h18 hr => ?_)
              · skip
                refine ev_look (o := 34) (t := 72) rfl rfl (by rw [h18]; rfl) rfl ?_
                refine ev_seg 3 (k' := 75) (L' := [(5, .int v11), (4, .int v2), (0, .ref 37), (1, .int x1), (2, .int x2), (3, .int x3)]) (st' := [.int v11, .int x1, .ref 37]) rfl ?_
                refine ev_callV (q' := q_50) (x := 50) (y := 3) (c := 37) (As := [.int x1, .int v11]) (rest := []) hr rfl rfl rfl rfl rfl rfl rfl rfl rfl rfl rfl rfl (fun rv s19 hq => ev_kI hq (fun v20 e9 hr => ?_))
                subst e9
                refine ev_st (st' := [.int v20]) rfl ?_
                exact ev_iret hr rfl rfl rfl
              refine ev_look (o := 42) (t := 77) rfl rfl (by have e0 := i_neL (z := 9) (w := 9) rfl h15; have e1 := i_neL (z := 10) (w := 10) rfl h18; simp only [Op.lookupswitch.offset, if_neg (Ne.symm e0), if_neg (Ne.symm e1)]) rfl ?_
              refine ev_seg 4 (k' := 81) (L' := [(5, .int v11), (4, .int v2), (0, .ref 37), (1, .int x1), (2, .int x2), (3, .int x3)]) (st' := [.int x3, .int v11, .int x1, .ref 37]) rfl ?_
              refine ev_callV (q' := q_53) (x := 53) (y := 3) (c := 37) (As := [.int x1, .int v11, .int x3]) (rest := []) hr rfl rfl rfl rfl rfl rfl rfl rfl rfl rfl rfl rfl (fun rv s21 hq => ev_kI hq (fun v22 e9 hr => ?_))
              subst e9
              refine ev_st (st' := [.int v22]) rfl ?_
              exact ev_iret hr rfl rfl rfl
            · skip
              refine ev_seg 1 (k' := 53) (L' := [(5, .int v11), (4, .int v2), (0, .ref 37), (1, .int x1), (2, .int x2), (3, .int x3)]) (st' := [.int (-1)]) rfl ?_
              exact ev_iret hr rfl rfl rfl
          · skip
            refine ev_join (L' := [(0, .ref 37), (4, .int v2)]) [1, 0] [4, 0, 1, 2, 3] [0, 4] rfl rfl (by decide) (by decide) rfl ?_
            exact hr
    · skip
      refine ev_join (L' := [(0, .ref 37), (1, .int x1)]) [1, 2] [4, 0, 1, 2, 3] [0, 1] rfl rfl (by decide) (by decide) rfl ?_
      exact hr
set_option maxRecDepth 20000 in
theorem eSr_named_16 (d : Nat) (x1 : Int32) (s : aT) : ∀ r, (cG (fSr_fail d 8 x1 s) (kI fun v2 s1 => rI v2 s1)) = some r → fSr_named_16 (d + 1) x1 s = some r := by
  intro r hr
  show ev (d + 1) q_44 16 [(0, .ref 37), (1, .int x1)] [] s = some r
  refine ev_seg 3 (k' := 19) (L' := [(0, .ref 37), (1, .int x1)]) (st' := [.int x1, .int 8, .ref 37]) rfl ?_
  refine ev_callV (q' := q_29) (x := 29) (y := 3) (c := 37) (As := [.int 8, .int x1]) (rest := []) hr rfl rfl rfl rfl rfl rfl rfl rfl rfl rfl rfl rfl (fun rv s1 hq => ev_kI hq (fun v2 e9 hr => ?_))
  subst e9
  refine ev_st (st' := [.int v2]) rfl ?_
  exact ev_iret hr rfl rfl rfl
set_option maxRecDepth 20000 in
theorem eSr_named_38 (d : Nat) (z4 : Int32) (s : aT) : ∀ r, (cG (fSr_fail d 9 z4 s) (kI fun v2 s1 => rI v2 s1)) = some r → fSr_named_38 (d + 1) z4 s = some r := by
  intro r hr
  show ev (d + 1) q_44 38 [(0, .ref 37), (4, .int z4)] [] s = some r
  refine ev_seg 3 (k' := 41) (L' := [(0, .ref 37), (4, .int z4)]) (st' := [.int z4, .int 9, .ref 37]) rfl ?_
  refine ev_callV (q' := q_29) (x := 29) (y := 3) (c := 37) (As := [.int 9, .int z4]) (rest := []) hr rfl rfl rfl rfl rfl rfl rfl rfl rfl rfl rfl rfl (fun rv s1 hq => ev_kI hq (fun v2 e9 hr => ?_))
  subst e9
  refine ev_st (st' := [.int v2]) rfl ?_
  exact ev_iret hr rfl rfl rfl
set_option maxRecDepth 20000 in
theorem eSr_isName (d : Nat) (x1 : Int32) (s : aT) : ∀ r, (ldI 4096 s 17 x1 (fun v1 => ldI 4096 s 14 x1 (fun v2 => if ¬ v2 = 2 then rI 0 s else if v1 < 1 then rI 0 s else if v1 ≤ 32 then fSr_isName_23 (d + 1) x1 v1 0 s else rI 0 s))) = some r → fSr_isName (d + 1) x1 s = some r := by
  intro r hr
  show ev (d + 1) q_45 0 [(0, .ref 37), (1, .int x1)] [] s = some r
  refine ev_seg 4 (k' := 4) (L' := [(0, .ref 37), (1, .int x1)]) (st' := [.int x1, .ref 17]) rfl ?_
  refine ev_ldI hr rfl rfl (fun v1 hr => ?_)
  refine ev_seg 5 (k' := 10) (L' := [(2, .int v1), (0, .ref 37), (1, .int x1)]) (st' := [.int x1, .ref 14]) rfl ?_
  refine ev_ldI hr rfl rfl (fun v2 hr => ?_)
  refine ev_seg 1 (k' := 12) (L' := [(2, .int v1), (0, .ref 37), (1, .int x1)]) (st' := [.int 2, .int v2]) rfl ?_
  refine ev_br (P := ¬ v2 = 2) (L' := [(2, .int v1), (0, .ref 37), (1, .int x1)]) (st' := []) hr rfl rfl rfl (fun hr => ?_) (fun hr => ?_)
  · skip
    refine ev_seg 1 (k' := 20) (L' := [(2, .int v1), (0, .ref 37), (1, .int x1)]) (st' := [.int 0]) rfl ?_
    exact ev_iret hr rfl rfl rfl
  · skip
    refine ev_seg 2 (k' := 15) (L' := [(2, .int v1), (0, .ref 37), (1, .int x1)]) (st' := [.int 1, .int v1]) rfl ?_
    refine ev_br (P := v1 < 1) (L' := [(2, .int v1), (0, .ref 37), (1, .int x1)]) (st' := []) hr rfl rfl rfl (fun hr => ?_) (fun hr => ?_)
    · skip
      refine ev_seg 1 (k' := 20) (L' := [(2, .int v1), (0, .ref 37), (1, .int x1)]) (st' := [.int 0]) rfl ?_
      exact ev_iret hr rfl rfl rfl
    · skip
      refine ev_seg 2 (k' := 18) (L' := [(2, .int v1), (0, .ref 37), (1, .int x1)]) (st' := [.int 32, .int v1]) rfl ?_
      refine ev_br (P := v1 ≤ 32) (L' := [(2, .int v1), (0, .ref 37), (1, .int x1)]) (st' := []) hr rfl rfl rfl (fun hr => ?_) (fun hr => ?_)
      · skip
        refine ev_seg 2 (k' := 23) (L' := [(3, .int 0), (2, .int v1), (0, .ref 37), (1, .int x1)]) (st' := []) rfl ?_
        refine ev_join (L' := [(0, .ref 37), (1, .int x1), (2, .int v1), (3, .int 0)]) [2, 3, 1, 0] [3, 2, 0, 1] [0, 1, 2, 3] rfl rfl (by decide) (by decide) rfl ?_
        exact hr
      · skip
        refine ev_seg 1 (k' := 20) (L' := [(2, .int v1), (0, .ref 37), (1, .int x1)]) (st' := [.int 0]) rfl ?_
        exact ev_iret hr rfl rfl rfl
set_option maxRecDepth 20000 in
theorem eSr_isName_23 (d : Nat) (x1 : Int32) (z2 : Int32) (z3 : Int32) (s : aT) : ∀ r, (if z2 ≤ z3 then rI 1 s else ldI 4096 s 16 x1 (fun v1 => cG (fBy_at d 20 (v1 + z3) s) (kI fun v3 s2 => if v3 < 97 then fSr_isName_44 (d + 1) x1 z2 z3 v3 s2 else if v3 ≤ 122 then fSr_isName_53 (d + 1) x1 z2 z3 v3 s2 else fSr_isName_44 (d + 1) x1 z2 z3 v3 s2))) = some r → fSr_isName_23 (d + 1) x1 z2 z3 s = some r := by
  intro r hr
  show ev (d + 1) q_45 23 [(0, .ref 37), (1, .int x1), (2, .int z2), (3, .int z3)] [] s = some r
  refine ev_seg 2 (k' := 25) (L' := [(0, .ref 37), (1, .int x1), (2, .int z2), (3, .int z3)]) (st' := [.int z2, .int z3]) rfl ?_
  refine ev_br (P := z2 ≤ z3) (L' := [(0, .ref 37), (1, .int x1), (2, .int z2), (3, .int z3)]) (st' := []) hr rfl rfl rfl (fun hr => ?_) (fun hr => ?_)
  · skip
    refine ev_seg 1 (k' := 78) (L' := [(0, .ref 37), (1, .int x1), (2, .int z2), (3, .int z3)]) (st' := [.int 1]) rfl ?_
    exact ev_iret hr rfl rfl rfl
  · skip
    refine ev_seg 7 (k' := 33) (L' := [(0, .ref 37), (1, .int x1), (2, .int z2), (3, .int z3)]) (st' := [.int x1, .ref 16, .ref 20]) rfl ?_
    refine ev_ldI hr rfl rfl (fun v1 hr => ?_)
    refine ev_seg 2 (k' := 36) (L' := [(0, .ref 37), (1, .int x1), (2, .int z2), (3, .int z3)]) (st' := [.int (v1 + z3), .ref 20]) rfl ?_
    refine ev_callV (q' := q_46) (x := 46) (y := 0) (c := 20) (As := [.int (v1 + z3)]) (rest := []) hr rfl rfl rfl rfl rfl rfl rfl rfl rfl rfl rfl rfl (fun rv s2 hq => ev_kI hq (fun v3 e9 hr => ?_))
    subst e9
    refine ev_st (st' := [.int v3]) rfl ?_
    refine ev_seg 3 (k' := 40) (L' := [(4, .int v3), (0, .ref 37), (1, .int x1), (2, .int z2), (3, .int z3)]) (st' := [.int 97, .int v3]) rfl ?_
    refine ev_br (P := v3 < 97) (L' := [(4, .int v3), (0, .ref 37), (1, .int x1), (2, .int z2), (3, .int z3)]) (st' := []) hr rfl rfl rfl (fun hr => ?_) (fun hr => ?_)
    · skip
      refine ev_join (L' := [(0, .ref 37), (1, .int x1), (2, .int z2), (3, .int z3), (4, .int v3)]) [1, 2, 3, 4, 0] [4, 0, 1, 2, 3] [0, 1, 2, 3, 4] rfl rfl (by decide) (by decide) rfl ?_
      exact hr
    · skip
      refine ev_seg 2 (k' := 43) (L' := [(4, .int v3), (0, .ref 37), (1, .int x1), (2, .int z2), (3, .int z3)]) (st' := [.int 122, .int v3]) rfl ?_
      refine ev_br (P := v3 ≤ 122) (L' := [(4, .int v3), (0, .ref 37), (1, .int x1), (2, .int z2), (3, .int z3)]) (st' := []) hr rfl rfl rfl (fun hr => ?_) (fun hr => ?_)
      · skip
        refine ev_join (L' := [(0, .ref 37), (1, .int x1), (2, .int z2), (3, .int z3), (4, .int v3)]) [1, 2, 3, 4, 0] [4, 0, 1, 2, 3] [0, 1, 2, 3, 4] rfl rfl (by decide) (by decide) rfl ?_
        exact hr
      · skip
        refine ev_join (L' := [(0, .ref 37), (1, .int x1), (2, .int z2), (3, .int z3), (4, .int v3)]) [1, 2, 3, 4, 0] [4, 0, 1, 2, 3] [0, 1, 2, 3, 4] rfl rfl (by decide) (by decide) rfl ?_
        exact hr
set_option maxRecDepth 20000 in
theorem eSr_isName_44 (d : Nat) (x1 : Int32) (z2 : Int32) (z3 : Int32) (z4 : Int32) (s : aT) : ∀ r, (if z4 < 65 then fSr_isName_50 (d + 1) x1 z2 z3 z4 s else if z4 ≤ 90 then fSr_isName_53 (d + 1) x1 z2 z3 z4 s else fSr_isName_50 (d + 1) x1 z2 z3 z4 s) = some r → fSr_isName_44 (d + 1) x1 z2 z3 z4 s = some r := by
  intro r hr
  show ev (d + 1) q_45 44 [(0, .ref 37), (1, .int x1), (2, .int z2), (3, .int z3), (4, .int z4)] [] s = some r
  refine ev_seg 2 (k' := 46) (L' := [(0, .ref 37), (1, .int x1), (2, .int z2), (3, .int z3), (4, .int z4)]) (st' := [.int 65, .int z4]) rfl ?_
  refine ev_br (P := z4 < 65) (L' := [(0, .ref 37), (1, .int x1), (2, .int z2), (3, .int z3), (4, .int z4)]) (st' := []) hr rfl rfl rfl (fun hr => ?_) (fun hr => ?_)
  · skip
    exact hr
  · skip
    refine ev_seg 2 (k' := 49) (L' := [(0, .ref 37), (1, .int x1), (2, .int z2), (3, .int z3), (4, .int z4)]) (st' := [.int 90, .int z4]) rfl ?_
    refine ev_br (P := z4 ≤ 90) (L' := [(0, .ref 37), (1, .int x1), (2, .int z2), (3, .int z3), (4, .int z4)]) (st' := []) hr rfl rfl rfl (fun hr => ?_) (fun hr => ?_)
    · skip
      exact hr
    · skip
      exact hr
set_option maxRecDepth 20000 in
theorem eSr_isName_53 (d : Nat) (x1 : Int32) (z2 : Int32) (z3 : Int32) (z4 : Int32) (s : aT) : ∀ r, (fSr_isName_56 (d + 1) x1 z2 z3 z4 1 s) = some r → fSr_isName_53 (d + 1) x1 z2 z3 z4 s = some r := by
  intro r hr
  show ev (d + 1) q_45 53 [(0, .ref 37), (1, .int x1), (2, .int z2), (3, .int z3), (4, .int z4)] [] s = some r
  refine ev_seg 2 (k' := 56) (L' := [(0, .ref 37), (1, .int x1), (2, .int z2), (3, .int z3), (4, .int z4)]) (st' := [.int 1]) rfl ?_
  exact hr
set_option maxRecDepth 20000 in
theorem eSr_isName_50 (d : Nat) (x1 : Int32) (z2 : Int32) (z3 : Int32) (z4 : Int32) (s : aT) : ∀ r, (if ¬ z4 = 95 then fSr_isName_56 (d + 1) x1 z2 z3 z4 0 s else fSr_isName_53 (d + 1) x1 z2 z3 z4 s) = some r → fSr_isName_50 (d + 1) x1 z2 z3 z4 s = some r := by
  intro r hr
  show ev (d + 1) q_45 50 [(0, .ref 37), (1, .int x1), (2, .int z2), (3, .int z3), (4, .int z4)] [] s = some r
  refine ev_seg 2 (k' := 52) (L' := [(0, .ref 37), (1, .int x1), (2, .int z2), (3, .int z3), (4, .int z4)]) (st' := [.int 95, .int z4]) rfl ?_
  refine ev_br (P := ¬ z4 = 95) (L' := [(0, .ref 37), (1, .int x1), (2, .int z2), (3, .int z3), (4, .int z4)]) (st' := []) hr rfl rfl rfl (fun hr => ?_) (fun hr => ?_)
  · skip
    refine ev_seg 1 (k' := 56) (L' := [(0, .ref 37), (1, .int x1), (2, .int z2), (3, .int z3), (4, .int z4)]) (st' := [.int 0]) rfl ?_
    exact hr
  · skip
    exact hr
set_option maxRecDepth 20000 in
theorem eSr_isName_56 (d : Nat) (x1 : Int32) (z2 : Int32) (z3 : Int32) (z4 : Int32) (u0 : Int32) (s : aT) : ∀ r, (if z4 < 48 then fSr_isName_65 (d + 1) x1 z2 z3 u0 s else if 57 < z4 then fSr_isName_65 (d + 1) x1 z2 z3 u0 s else fSr_isName_66 (d + 1) x1 z2 z3 u0 1 s) = some r → fSr_isName_56 (d + 1) x1 z2 z3 z4 u0 s = some r := by
  intro r hr
  show ev (d + 1) q_45 56 [(0, .ref 37), (1, .int x1), (2, .int z2), (3, .int z3), (4, .int z4)] [.int u0] s = some r
  refine ev_seg 3 (k' := 59) (L' := [(5, .int u0), (0, .ref 37), (1, .int x1), (2, .int z2), (3, .int z3), (4, .int z4)]) (st' := [.int 48, .int z4]) rfl ?_
  refine ev_br (P := z4 < 48) (L' := [(5, .int u0), (0, .ref 37), (1, .int x1), (2, .int z2), (3, .int z3), (4, .int z4)]) (st' := []) hr rfl rfl rfl (fun hr => ?_) (fun hr => ?_)
  · skip
    refine ev_join (L' := [(0, .ref 37), (1, .int x1), (2, .int z2), (3, .int z3), (5, .int u0)]) [1, 2, 3, 4, 0] [5, 0, 1, 2, 3, 4] [0, 1, 2, 3, 5] rfl rfl (by decide) (by decide) rfl ?_
    exact hr
  · skip
    refine ev_seg 2 (k' := 62) (L' := [(5, .int u0), (0, .ref 37), (1, .int x1), (2, .int z2), (3, .int z3), (4, .int z4)]) (st' := [.int 57, .int z4]) rfl ?_
    refine ev_br (P := 57 < z4) (L' := [(5, .int u0), (0, .ref 37), (1, .int x1), (2, .int z2), (3, .int z3), (4, .int z4)]) (st' := []) hr rfl rfl rfl (fun hr => ?_) (fun hr => ?_)
    · skip
      refine ev_join (L' := [(0, .ref 37), (1, .int x1), (2, .int z2), (3, .int z3), (5, .int u0)]) [1, 2, 3, 4, 0] [5, 0, 1, 2, 3, 4] [0, 1, 2, 3, 5] rfl rfl (by decide) (by decide) rfl ?_
      exact hr
    · skip
      refine ev_seg 2 (k' := 66) (L' := [(5, .int u0), (0, .ref 37), (1, .int x1), (2, .int z2), (3, .int z3), (4, .int z4)]) (st' := [.int 1]) rfl ?_
      refine ev_join (L' := [(0, .ref 37), (1, .int x1), (2, .int z2), (3, .int z3), (5, .int u0)]) [1, 2, 3, 4, 0] [5, 0, 1, 2, 3, 4] [0, 1, 2, 3, 5] rfl rfl (by decide) (by decide) rfl ?_
      exact hr
set_option maxRecDepth 20000 in
theorem eSr_isName_65 (d : Nat) (x1 : Int32) (z2 : Int32) (z3 : Int32) (z5 : Int32) (s : aT) : ∀ r, (fSr_isName_66 (d + 1) x1 z2 z3 z5 0 s) = some r → fSr_isName_65 (d + 1) x1 z2 z3 z5 s = some r := by
  intro r hr
  show ev (d + 1) q_45 65 [(0, .ref 37), (1, .int x1), (2, .int z2), (3, .int z3), (5, .int z5)] [] s = some r
  refine ev_seg 1 (k' := 66) (L' := [(0, .ref 37), (1, .int x1), (2, .int z2), (3, .int z3), (5, .int z5)]) (st' := [.int 0]) rfl ?_
  exact hr
set_option maxRecDepth 20000 in
theorem eSr_isName_66 (d : Nat) (x1 : Int32) (z2 : Int32) (z3 : Int32) (z5 : Int32) (u0 : Int32) (s : aT) : ∀ r, (if ¬ z5 = 0 then fSr_isName_75 (d + 1) x1 z2 z3 s else if u0 = 0 then rI 0 s else if ¬ z3 = 0 then fSr_isName_75 (d + 1) x1 z2 z3 s else rI 0 s) = some r → fSr_isName_66 (d + 1) x1 z2 z3 z5 u0 s = some r := by
  intro r hr
  show ev (d + 1) q_45 66 [(0, .ref 37), (1, .int x1), (2, .int z2), (3, .int z3), (5, .int z5)] [.int u0] s = some r
  refine ev_seg 2 (k' := 68) (L' := [(6, .int u0), (0, .ref 37), (1, .int x1), (2, .int z2), (3, .int z3), (5, .int z5)]) (st' := [.int z5]) rfl ?_
  refine ev_br (P := ¬ z5 = 0) (L' := [(6, .int u0), (0, .ref 37), (1, .int x1), (2, .int z2), (3, .int z3), (5, .int z5)]) (st' := []) hr rfl rfl rfl (fun hr => ?_) (fun hr => ?_)
  · skip
    refine ev_join (L' := [(0, .ref 37), (1, .int x1), (2, .int z2), (3, .int z3)]) [1, 2, 3, 4] [6, 0, 1, 2, 3, 5] [0, 1, 2, 3] rfl rfl (by decide) (by decide) rfl ?_
    exact hr
  · skip
    refine ev_seg 1 (k' := 70) (L' := [(6, .int u0), (0, .ref 37), (1, .int x1), (2, .int z2), (3, .int z3), (5, .int z5)]) (st' := [.int u0]) rfl ?_
    refine ev_br (P := u0 = 0) (L' := [(6, .int u0), (0, .ref 37), (1, .int x1), (2, .int z2), (3, .int z3), (5, .int z5)]) (st' := []) hr rfl rfl rfl (fun hr => ?_) (fun hr => ?_)
    · skip
      refine ev_seg 1 (k' := 74) (L' := [(6, .int u0), (0, .ref 37), (1, .int x1), (2, .int z2), (3, .int z3), (5, .int z5)]) (st' := [.int 0]) rfl ?_
      exact ev_iret hr rfl rfl rfl
    · skip
      refine ev_seg 1 (k' := 72) (L' := [(6, .int u0), (0, .ref 37), (1, .int x1), (2, .int z2), (3, .int z3), (5, .int z5)]) (st' := [.int z3]) rfl ?_
      refine ev_br (P := ¬ z3 = 0) (L' := [(6, .int u0), (0, .ref 37), (1, .int x1), (2, .int z2), (3, .int z3), (5, .int z5)]) (st' := []) hr rfl rfl rfl (fun hr => ?_) (fun hr => ?_)
      · skip
        refine ev_join (L' := [(0, .ref 37), (1, .int x1), (2, .int z2), (3, .int z3)]) [1, 2, 3, 4] [6, 0, 1, 2, 3, 5] [0, 1, 2, 3] rfl rfl (by decide) (by decide) rfl ?_
        exact hr
      · skip
        refine ev_seg 1 (k' := 74) (L' := [(6, .int u0), (0, .ref 37), (1, .int x1), (2, .int z2), (3, .int z3), (5, .int z5)]) (st' := [.int 0]) rfl ?_
        exact ev_iret hr rfl rfl rfl
set_option maxRecDepth 20000 in
theorem eSr_isName_75 (d : Nat) (x1 : Int32) (z2 : Int32) (z3 : Int32) (s : aT) : ∀ r, (fSr_isName_23 (d + 1) x1 z2 (z3 + 1) s) = some r → fSr_isName_75 (d + 1) x1 z2 z3 s = some r := by
  intro r hr
  show ev (d + 1) q_45 75 [(0, .ref 37), (1, .int x1), (2, .int z2), (3, .int z3)] [] s = some r
  refine ev_seg 2 (k' := 23) (L' := [(3, .int (z3 + 1)), (0, .ref 37), (1, .int x1), (2, .int z2)]) (st' := []) rfl ?_
  refine ev_join (L' := [(0, .ref 37), (1, .int x1), (2, .int z2), (3, .int (z3 + 1))]) [1, 2, 3, 0] [3, 0, 1, 2] [0, 1, 2, 3] rfl rfl (by decide) (by decide) rfl ?_
  exact hr
set_option maxRecDepth 20000 in
theorem eSr_fixed (d : Nat) (x1 : Int32) (x2 : Int32) (s : aT) : ∀ r, (cG (fTx_member d x1 1019 s) (kI fun v2 s1 => if ¬ v2 = (-1) then ldI 4096 s1 14 v2 (fun v3 => if ¬ v3 = 3 then fSr_fixed_37 (d + 1) v2 s1 else ldL 4096 s1 19 v2 (fun v4 => if aLcmp v4 0 < 0 then fSr_fixed_37 (d + 1) v2 s1 else ldL 4096 s1 19 v2 (fun v5 => if aLcmp v5 64 ≤ 0 then ldL 4096 s1 19 v2 (fun v6 => stI 5254 s1 27 x2 v6.toInt32 (fun s7 => rI x2 s7)) else fSr_fixed_37 (d + 1) v2 s1))) else cG (fSr_fail d 8 x1 s1) (kI fun v9 s8 => rI v9 s8))) = some r → fSr_fixed (d + 1) x1 x2 s = some r := by
  intro r hr
  show ev (d + 1) q_49 0 [(0, .ref 37), (1, .int x1), (2, .int x2)] [] s = some r
  refine ev_seg 4 (k' := 4) (L' := [(0, .ref 37), (1, .int x1), (2, .int x2)]) (st' := [.ref 1019, .int x1, .ref 13]) rfl ?_
  refine ev_callV (q' := q_41) (x := 41) (y := 1) (c := 13) (As := [.int x1, .ref 1019]) (rest := []) hr rfl rfl rfl rfl rfl rfl rfl rfl rfl rfl rfl rfl (fun rv s1 hq => ev_kI hq (fun v2 e9 hr => ?_))
  subst e9
  refine ev_st (st' := [.int v2]) rfl ?_
  refine ev_seg 3 (k' := 8) (L' := [(3, .int v2), (0, .ref 37), (1, .int x1), (2, .int x2)]) (st' := [.int (-1), .int v2]) rfl ?_
  refine ev_br (P := ¬ v2 = (-1)) (L' := [(3, .int v2), (0, .ref 37), (1, .int x1), (2, .int x2)]) (st' := []) hr rfl rfl rfl (fun hr => ?_) (fun hr => ?_)
  · skip
    refine ev_seg 4 (k' := 18) (L' := [(3, .int v2), (0, .ref 37), (1, .int x1), (2, .int x2)]) (st' := [.int v2, .ref 14]) rfl ?_
    refine ev_ldI hr rfl rfl (fun v3 hr => ?_)
    refine ev_seg 1 (k' := 20) (L' := [(3, .int v2), (0, .ref 37), (1, .int x1), (2, .int x2)]) (st' := [.int 3, .int v3]) rfl ?_
    refine ev_br (P := ¬ v3 = 3) (L' := [(3, .int v2), (0, .ref 37), (1, .int x1), (2, .int x2)]) (st' := []) hr rfl rfl rfl (fun hr => ?_) (fun hr => ?_)
    · skip
      refine ev_join (L' := [(0, .ref 37), (3, .int v2)]) [1, 0] [3, 0, 1, 2] [0, 3] rfl rfl (by decide) (by decide) rfl ?_
      exact hr
    · skip
      refine ev_seg 4 (k' := 25) (L' := [(3, .int v2), (0, .ref 37), (1, .int x1), (2, .int x2)]) (st' := [.int v2, .ref 19]) rfl ?_
      refine ev_ldL hr rfl rfl (fun v4 hr => ?_)
      refine ev_seg 2 (k' := 28) (L' := [(3, .int v2), (0, .ref 37), (1, .int x1), (2, .int x2)]) (st' := [.int (aLcmp v4 0)]) rfl ?_
      refine ev_br (P := aLcmp v4 0 < 0) (L' := [(3, .int v2), (0, .ref 37), (1, .int x1), (2, .int x2)]) (st' := []) hr rfl rfl rfl (fun hr => ?_) (fun hr => ?_)
      · skip
        refine ev_join (L' := [(0, .ref 37), (3, .int v2)]) [1, 0] [3, 0, 1, 2] [0, 3] rfl rfl (by decide) (by decide) rfl ?_
        exact hr
      · skip
        refine ev_seg 4 (k' := 33) (L' := [(3, .int v2), (0, .ref 37), (1, .int x1), (2, .int x2)]) (st' := [.int v2, .ref 19]) rfl ?_
        refine ev_ldL hr rfl rfl (fun v5 hr => ?_)
        refine ev_seg 2 (k' := 36) (L' := [(3, .int v2), (0, .ref 37), (1, .int x1), (2, .int x2)]) (st' := [.int (aLcmp v5 64)]) rfl ?_
        refine ev_br (P := aLcmp v5 64 ≤ 0) (L' := [(3, .int v2), (0, .ref 37), (1, .int x1), (2, .int x2)]) (st' := []) hr rfl rfl rfl (fun hr => ?_) (fun hr => ?_)
        · skip
          refine ev_seg 8 (k' := 50) (L' := [(3, .int v2), (0, .ref 37), (1, .int x1), (2, .int x2)]) (st' := [.int v2, .ref 19, .int x2, .ref 27]) rfl ?_
          refine ev_ldL hr rfl rfl (fun v6 hr => ?_)
          refine ev_seg 1 (k' := 52) (L' := [(3, .int v2), (0, .ref 37), (1, .int x1), (2, .int x2)]) (st' := [.int v6.toInt32, .int x2, .ref 27]) rfl ?_
          refine ev_stI hr rfl rfl (fun s7 hr => ?_)
          refine ev_seg 1 (k' := 54) (L' := [(3, .int v2), (0, .ref 37), (1, .int x1), (2, .int x2)]) (st' := [.int x2]) rfl ?_
          exact ev_iret hr rfl rfl rfl
        · skip
          refine ev_join (L' := [(0, .ref 37), (3, .int v2)]) [1, 0] [3, 0, 1, 2] [0, 3] rfl rfl (by decide) (by decide) rfl ?_
          exact hr
  · skip
    refine ev_seg 3 (k' := 12) (L' := [(3, .int v2), (0, .ref 37), (1, .int x1), (2, .int x2)]) (st' := [.int x1, .int 8, .ref 37]) rfl ?_
    refine ev_callV (q' := q_29) (x := 29) (y := 3) (c := 37) (As := [.int 8, .int x1]) (rest := []) hr rfl rfl rfl rfl rfl rfl rfl rfl rfl rfl rfl rfl (fun rv s8 hq => ev_kI hq (fun v9 e9 hr => ?_))
    subst e9
    refine ev_st (st' := [.int v9]) rfl ?_
    exact ev_iret hr rfl rfl rfl
set_option maxRecDepth 20000 in
theorem eSr_fixed_37 (d : Nat) (z3 : Int32) (s : aT) : ∀ r, (cG (fSr_fail d 10 z3 s) (kI fun v2 s1 => rI v2 s1)) = some r → fSr_fixed_37 (d + 1) z3 s = some r := by
  intro r hr
  show ev (d + 1) q_49 37 [(0, .ref 37), (3, .int z3)] [] s = some r
  refine ev_seg 3 (k' := 40) (L' := [(0, .ref 37), (3, .int z3)]) (st' := [.int z3, .int 10, .ref 37]) rfl ?_
  refine ev_callV (q' := q_29) (x := 29) (y := 3) (c := 37) (As := [.int 10, .int z3]) (rest := []) hr rfl rfl rfl rfl rfl rfl rfl rfl rfl rfl rfl rfl (fun rv s1 hq => ev_kI hq (fun v2 e9 hr => ?_))
  subst e9
  refine ev_st (st' := [.int v2]) rfl ?_
  exact ev_iret hr rfl rfl rfl
set_option maxRecDepth 20000 in
theorem eSr_symbols (d : Nat) (x1 : Int32) (x2 : Int32) (s : aT) : ∀ r, (cG (fTx_member d x1 1020 s) (kI fun v2 s1 => if ¬ v2 = (-1) then ldI 4096 s1 17 v2 (fun v3 => ldI 4096 s1 14 v2 (fun v4 => if ¬ v4 = 1 then fSr_symbols_33 (d + 1) v2 s1 else if v3 < 1 then fSr_symbols_33 (d + 1) v2 s1 else if v3 ≤ 32 then cG (fSc_addParts d x2 v3 s1) (kI fun v6 s5 => if ¬ v6 = 0 then ldI 4096 s5 16 v2 (fun v7 => fSr_symbols_57 (d + 1) x1 x2 v3 v7 0 s5) else cG (fSr_fail d 13 x1 s5) (kI fun v9 s8 => rI v9 s8)) else fSr_symbols_33 (d + 1) v2 s1)) else cG (fSr_fail d 8 x1 s1) (kI fun v11 s10 => rI v11 s10))) = some r → fSr_symbols (d + 1) x1 x2 s = some r := by
  intro r hr
  show ev (d + 1) q_50 0 [(0, .ref 37), (1, .int x1), (2, .int x2)] [] s = some r
  refine ev_seg 4 (k' := 4) (L' := [(0, .ref 37), (1, .int x1), (2, .int x2)]) (st' := [.ref 1020, .int x1, .ref 13]) rfl ?_
  refine ev_callV (q' := q_41) (x := 41) (y := 1) (c := 13) (As := [.int x1, .ref 1020]) (rest := []) hr rfl rfl rfl rfl rfl rfl rfl rfl rfl rfl rfl rfl (fun rv s1 hq => ev_kI hq (fun v2 e9 hr => ?_))
  subst e9
  refine ev_st (st' := [.int v2]) rfl ?_
  refine ev_seg 3 (k' := 8) (L' := [(3, .int v2), (0, .ref 37), (1, .int x1), (2, .int x2)]) (st' := [.int (-1), .int v2]) rfl ?_
  refine ev_br (P := ¬ v2 = (-1)) (L' := [(3, .int v2), (0, .ref 37), (1, .int x1), (2, .int x2)]) (st' := []) hr rfl rfl rfl (fun hr => ?_) (fun hr => ?_)
  · skip
    refine ev_seg 4 (k' := 18) (L' := [(3, .int v2), (0, .ref 37), (1, .int x1), (2, .int x2)]) (st' := [.int v2, .ref 17]) rfl ?_
    refine ev_ldI hr rfl rfl (fun v3 hr => ?_)
    refine ev_seg 5 (k' := 24) (L' := [(4, .int v3), (3, .int v2), (0, .ref 37), (1, .int x1), (2, .int x2)]) (st' := [.int v2, .ref 14]) rfl ?_
    refine ev_ldI hr rfl rfl (fun v4 hr => ?_)
    refine ev_seg 1 (k' := 26) (L' := [(4, .int v3), (3, .int v2), (0, .ref 37), (1, .int x1), (2, .int x2)]) (st' := [.int 1, .int v4]) rfl ?_
    refine ev_br (P := ¬ v4 = 1) (L' := [(4, .int v3), (3, .int v2), (0, .ref 37), (1, .int x1), (2, .int x2)]) (st' := []) hr rfl rfl rfl (fun hr => ?_) (fun hr => ?_)
    · skip
      refine ev_join (L' := [(0, .ref 37), (3, .int v2)]) [2, 1] [4, 3, 0, 1, 2] [0, 3] rfl rfl (by decide) (by decide) rfl ?_
      exact hr
    · skip
      refine ev_seg 2 (k' := 29) (L' := [(4, .int v3), (3, .int v2), (0, .ref 37), (1, .int x1), (2, .int x2)]) (st' := [.int 1, .int v3]) rfl ?_
      refine ev_br (P := v3 < 1) (L' := [(4, .int v3), (3, .int v2), (0, .ref 37), (1, .int x1), (2, .int x2)]) (st' := []) hr rfl rfl rfl (fun hr => ?_) (fun hr => ?_)
      · skip
        refine ev_join (L' := [(0, .ref 37), (3, .int v2)]) [2, 1] [4, 3, 0, 1, 2] [0, 3] rfl rfl (by decide) (by decide) rfl ?_
        exact hr
      · skip
        refine ev_seg 2 (k' := 32) (L' := [(4, .int v3), (3, .int v2), (0, .ref 37), (1, .int x1), (2, .int x2)]) (st' := [.int 32, .int v3]) rfl ?_
        refine ev_br (P := v3 ≤ 32) (L' := [(4, .int v3), (3, .int v2), (0, .ref 37), (1, .int x1), (2, .int x2)]) (st' := []) hr rfl rfl rfl (fun hr => ?_) (fun hr => ?_)
        · skip
          refine ev_seg 4 (k' := 42) (L' := [(4, .int v3), (3, .int v2), (0, .ref 37), (1, .int x1), (2, .int x2)]) (st' := [.int v3, .int x2, .ref 22]) rfl ?_
          refine ev_callV (q' := q_37) (x := 37) (y := 2) (c := 22) (As := [.int x2, .int v3]) (rest := []) hr rfl rfl rfl rfl rfl rfl rfl rfl rfl rfl rfl rfl (fun rv s5 hq => ev_kI hq (fun v6 e9 hr => ?_))
          subst e9
          refine ev_st (st' := [.int v6]) rfl ?_
          refine ev_br (P := ¬ v6 = 0) (L' := [(4, .int v3), (3, .int v2), (0, .ref 37), (1, .int x1), (2, .int x2)]) (st' := []) hr rfl rfl rfl (fun hr => ?_) (fun hr => ?_)
          · skip
            refine ev_seg 4 (k' := 53) (L' := [(4, .int v3), (3, .int v2), (0, .ref 37), (1, .int x1), (2, .int x2)]) (st' := [.int v2, .ref 16]) rfl ?_
            refine ev_ldI hr rfl rfl (fun v7 hr => ?_)
            refine ev_seg 3 (k' := 57) (L' := [(6, .int 0), (5, .int v7), (4, .int v3), (3, .int v2), (0, .ref 37), (1, .int x1), (2, .int x2)]) (st' := []) rfl ?_
            refine ev_join (L' := [(0, .ref 37), (1, .int x1), (2, .int x2), (4, .int v3), (5, .int v7), (6, .int 0)]) [4, 5, 6, 2, 1, 0] [6, 5, 4, 3, 0, 1, 2] [0, 1, 2, 4, 5, 6] rfl rfl (by decide) (by decide) rfl ?_
            exact hr
          · skip
            refine ev_seg 3 (k' := 47) (L' := [(4, .int v3), (3, .int v2), (0, .ref 37), (1, .int x1), (2, .int x2)]) (st' := [.int x1, .int 13, .ref 37]) rfl ?_
            refine ev_callV (q' := q_29) (x := 29) (y := 3) (c := 37) (As := [.int 13, .int x1]) (rest := []) hr rfl rfl rfl rfl rfl rfl rfl rfl rfl rfl rfl rfl (fun rv s8 hq => ev_kI hq (fun v9 e9 hr => ?_))
            subst e9
            refine ev_st (st' := [.int v9]) rfl ?_
            exact ev_iret hr rfl rfl rfl
        · skip
          refine ev_join (L' := [(0, .ref 37), (3, .int v2)]) [2, 1] [4, 3, 0, 1, 2] [0, 3] rfl rfl (by decide) (by decide) rfl ?_
          exact hr
  · skip
    refine ev_seg 3 (k' := 12) (L' := [(3, .int v2), (0, .ref 37), (1, .int x1), (2, .int x2)]) (st' := [.int x1, .int 8, .ref 37]) rfl ?_
    refine ev_callV (q' := q_29) (x := 29) (y := 3) (c := 37) (As := [.int 8, .int x1]) (rest := []) hr rfl rfl rfl rfl rfl rfl rfl rfl rfl rfl rfl rfl (fun rv s10 hq => ev_kI hq (fun v11 e9 hr => ?_))
    subst e9
    refine ev_st (st' := [.int v11]) rfl ?_
    exact ev_iret hr rfl rfl rfl
set_option maxRecDepth 20000 in
theorem eSr_symbols_33 (d : Nat) (z3 : Int32) (s : aT) : ∀ r, (cG (fSr_fail d 11 z3 s) (kI fun v2 s1 => rI v2 s1)) = some r → fSr_symbols_33 (d + 1) z3 s = some r := by
  intro r hr
  show ev (d + 1) q_50 33 [(0, .ref 37), (3, .int z3)] [] s = some r
  refine ev_seg 3 (k' := 36) (L' := [(0, .ref 37), (3, .int z3)]) (st' := [.int z3, .int 11, .ref 37]) rfl ?_
  refine ev_callV (q' := q_29) (x := 29) (y := 3) (c := 37) (As := [.int 11, .int z3]) (rest := []) hr rfl rfl rfl rfl rfl rfl rfl rfl rfl rfl rfl rfl (fun rv s1 hq => ev_kI hq (fun v2 e9 hr => ?_))
  subst e9
  refine ev_st (st' := [.int v2]) rfl ?_
  exact ev_iret hr rfl rfl rfl
set_option maxRecDepth 20000 in
theorem eSr_symbols_57 (d : Nat) (x1 : Int32) (x2 : Int32) (z4 : Int32) (z5 : Int32) (z6 : Int32) (s : aT) : ∀ r, (if z4 ≤ z6 then cG (fSr_defaultSymbol d x1 x2 s) (kI fun v2 s1 => rI v2 s1) else cG (fSr_isName d z5 s) (kI fun v4 s3 => if v4 = 0 then fSr_symbols_74 (d + 1) z5 s3 else cG (fSc_partTold d x2 z6 z5 s3) (kI fun v6 s5 => if v6 = (-1) then ldI 5254 s5 25 x2 (fun v7 => cG (fSc_addName d z5 s5) (kI fun v9 s8 => stI 10112 s8 28 (v7 + z6) v9 (fun s10 => ldI 4096 s10 18 z5 (fun v11 => fSr_symbols_57 (d + 1) x1 x2 z4 v11 (z6 + 1) s10)))) else fSr_symbols_74 (d + 1) z5 s5))) = some r → fSr_symbols_57 (d + 1) x1 x2 z4 z5 z6 s = some r := by
  intro r hr
  show ev (d + 1) q_50 57 [(0, .ref 37), (1, .int x1), (2, .int x2), (4, .int z4), (5, .int z5), (6, .int z6)] [] s = some r
  refine ev_seg 2 (k' := 59) (L' := [(0, .ref 37), (1, .int x1), (2, .int x2), (4, .int z4), (5, .int z5), (6, .int z6)]) (st' := [.int z4, .int z6]) rfl ?_
  refine ev_br (P := z4 ≤ z6) (L' := [(0, .ref 37), (1, .int x1), (2, .int x2), (4, .int z4), (5, .int z5), (6, .int z6)]) (st' := []) hr rfl rfl rfl (fun hr => ?_) (fun hr => ?_)
  · skip
    refine ev_seg 3 (k' := 107) (L' := [(0, .ref 37), (1, .int x1), (2, .int x2), (4, .int z4), (5, .int z5), (6, .int z6)]) (st' := [.int x2, .int x1, .ref 37]) rfl ?_
    refine ev_callV (q' := q_52) (x := 52) (y := 3) (c := 37) (As := [.int x1, .int x2]) (rest := []) hr rfl rfl rfl rfl rfl rfl rfl rfl rfl rfl rfl rfl (fun rv s1 hq => ev_kI hq (fun v2 e9 hr => ?_))
    subst e9
    refine ev_st (st' := [.int v2]) rfl ?_
    exact ev_iret hr rfl rfl rfl
  · skip
    refine ev_seg 2 (k' := 62) (L' := [(0, .ref 37), (1, .int x1), (2, .int x2), (4, .int z4), (5, .int z5), (6, .int z6)]) (st' := [.int z5, .ref 37]) rfl ?_
    refine ev_callV (q' := q_45) (x := 45) (y := 3) (c := 37) (As := [.int z5]) (rest := []) hr rfl rfl rfl rfl rfl rfl rfl rfl rfl rfl rfl rfl (fun rv s3 hq => ev_kI hq (fun v4 e9 hr => ?_))
    subst e9
    refine ev_st (st' := [.int v4]) rfl ?_
    refine ev_br (P := v4 = 0) (L' := [(0, .ref 37), (1, .int x1), (2, .int x2), (4, .int z4), (5, .int z5), (6, .int z6)]) (st' := []) hr rfl rfl rfl (fun hr => ?_) (fun hr => ?_)
    · skip
      refine ev_join (L' := [(0, .ref 37), (5, .int z5)]) [0, 4] [0, 1, 2, 4, 5, 6] [0, 5] rfl rfl (by decide) (by decide) rfl ?_
      exact hr
    · skip
      refine ev_seg 7 (k' := 71) (L' := [(0, .ref 37), (1, .int x1), (2, .int x2), (4, .int z4), (5, .int z5), (6, .int z6)]) (st' := [.int z5, .ref 13, .int z6, .int x2, .ref 22]) rfl ?_
      refine ev_callV (q' := q_51) (x := 51) (y := 2) (c := 22) (As := [.int x2, .int z6, .ref 13, .int z5]) (rest := []) hr rfl rfl rfl rfl rfl rfl rfl rfl rfl rfl rfl rfl (fun rv s5 hq => ev_kI hq (fun v6 e9 hr => ?_))
      subst e9
      refine ev_st (st' := [.int v6]) rfl ?_
      refine ev_seg 1 (k' := 73) (L' := [(0, .ref 37), (1, .int x1), (2, .int x2), (4, .int z4), (5, .int z5), (6, .int z6)]) (st' := [.int (-1), .int v6]) rfl ?_
      refine ev_br (P := v6 = (-1)) (L' := [(0, .ref 37), (1, .int x1), (2, .int x2), (4, .int z4), (5, .int z5), (6, .int z6)]) (st' := []) hr rfl rfl rfl (fun hr => ?_) (fun hr => ?_)
      · skip
        refine ev_seg 7 (k' := 86) (L' := [(0, .ref 37), (1, .int x1), (2, .int x2), (4, .int z4), (5, .int z5), (6, .int z6)]) (st' := [.int x2, .ref 25, .ref 28]) rfl ?_
        refine ev_ldI hr rfl rfl (fun v7 hr => ?_)
        refine ev_seg 7 (k' := 94) (L' := [(0, .ref 37), (1, .int x1), (2, .int x2), (4, .int z4), (5, .int z5), (6, .int z6)]) (st' := [.int z5, .ref 13, .ref 22, .int (v7 + z6), .ref 28]) rfl ?_
        refine ev_callV (q' := q_47) (x := 47) (y := 2) (c := 22) (As := [.ref 13, .int z5]) (rest := [.int (v7 + z6), .ref 28]) hr rfl rfl rfl rfl rfl rfl rfl rfl rfl rfl rfl rfl (fun rv s8 hq => ev_kI hq (fun v9 e9 hr => ?_))
        subst e9
        refine ev_st (st' := [.int v9, .int (v7 + z6), .ref 28]) rfl ?_
        refine ev_stI hr rfl rfl (fun s10 hr => ?_)
        refine ev_seg 4 (k' := 100) (L' := [(0, .ref 37), (1, .int x1), (2, .int x2), (4, .int z4), (5, .int z5), (6, .int z6)]) (st' := [.int z5, .ref 18]) rfl ?_
        refine ev_ldI hr rfl rfl (fun v11 hr => ?_)
        refine ev_seg 3 (k' := 57) (L' := [(6, .int (z6 + 1)), (5, .int v11), (0, .ref 37), (1, .int x1), (2, .int x2), (4, .int z4)]) (st' := []) rfl ?_
        refine ev_join (L' := [(0, .ref 37), (1, .int x1), (2, .int x2), (4, .int z4), (5, .int v11), (6, .int (z6 + 1))]) [2, 3, 4, 5, 1, 0] [6, 5, 0, 1, 2, 4] [0, 1, 2, 4, 5, 6] rfl rfl (by decide) (by decide) rfl ?_
        exact hr
      · skip
        refine ev_join (L' := [(0, .ref 37), (5, .int z5)]) [0, 4] [0, 1, 2, 4, 5, 6] [0, 5] rfl rfl (by decide) (by decide) rfl ?_
        exact hr
set_option maxRecDepth 20000 in
theorem eSr_symbols_74 (d : Nat) (z5 : Int32) (s : aT) : ∀ r, (cG (fSr_fail d 11 z5 s) (kI fun v2 s1 => rI v2 s1)) = some r → fSr_symbols_74 (d + 1) z5 s = some r := by
  intro r hr
  show ev (d + 1) q_50 74 [(0, .ref 37), (5, .int z5)] [] s = some r
  refine ev_seg 3 (k' := 77) (L' := [(0, .ref 37), (5, .int z5)]) (st' := [.int z5, .int 11, .ref 37]) rfl ?_
  refine ev_callV (q' := q_29) (x := 29) (y := 3) (c := 37) (As := [.int 11, .int z5]) (rest := []) hr rfl rfl rfl rfl rfl rfl rfl rfl rfl rfl rfl rfl (fun rv s1 hq => ev_kI hq (fun v2 e9 hr => ?_))
  subst e9
  refine ev_st (st' := [.int v2]) rfl ?_
  exact ev_iret hr rfl rfl rfl
set_option maxRecDepth 20000 in
theorem eSr_defaultSymbol (d : Nat) (x1 : Int32) (x2 : Int32) (s : aT) : ∀ r, (cG (fTx_member d x1 1021 s) (kI fun v2 s1 => if ¬ v2 = (-1) then ldI 5254 s1 26 x2 (fun v3 => cG (fSc_partTold d x2 v3 v2 s1) (kI fun v5 s4 => if ¬ v5 = (-1) then stI 5254 s4 27 x2 v5 (fun s6 => rI x2 s6) else cG (fSr_fail d 12 v2 s4) (kI fun v8 s7 => rI v8 s7))) else rI x2 s1)) = some r → fSr_defaultSymbol (d + 1) x1 x2 s = some r := by
  intro r hr
  show ev (d + 1) q_52 0 [(0, .ref 37), (1, .int x1), (2, .int x2)] [] s = some r
  refine ev_seg 4 (k' := 4) (L' := [(0, .ref 37), (1, .int x1), (2, .int x2)]) (st' := [.ref 1021, .int x1, .ref 13]) rfl ?_
  refine ev_callV (q' := q_41) (x := 41) (y := 1) (c := 13) (As := [.int x1, .ref 1021]) (rest := []) hr rfl rfl rfl rfl rfl rfl rfl rfl rfl rfl rfl rfl (fun rv s1 hq => ev_kI hq (fun v2 e9 hr => ?_))
  subst e9
  refine ev_st (st' := [.int v2]) rfl ?_
  refine ev_seg 3 (k' := 8) (L' := [(3, .int v2), (0, .ref 37), (1, .int x1), (2, .int x2)]) (st' := [.int (-1), .int v2]) rfl ?_
  refine ev_br (P := ¬ v2 = (-1)) (L' := [(3, .int v2), (0, .ref 37), (1, .int x1), (2, .int x2)]) (st' := []) hr rfl rfl rfl (fun hr => ?_) (fun hr => ?_)
  · skip
    refine ev_seg 7 (k' := 18) (L' := [(3, .int v2), (0, .ref 37), (1, .int x1), (2, .int x2)]) (st' := [.int x2, .ref 26, .int x2, .ref 22]) rfl ?_
    refine ev_ldI hr rfl rfl (fun v3 hr => ?_)
    refine ev_seg 3 (k' := 22) (L' := [(3, .int v2), (0, .ref 37), (1, .int x1), (2, .int x2)]) (st' := [.int v2, .ref 13, .int v3, .int x2, .ref 22]) rfl ?_
    refine ev_callV (q' := q_51) (x := 51) (y := 2) (c := 22) (As := [.int x2, .int v3, .ref 13, .int v2]) (rest := []) hr rfl rfl rfl rfl rfl rfl rfl rfl rfl rfl rfl rfl (fun rv s4 hq => ev_kI hq (fun v5 e9 hr => ?_))
    subst e9
    refine ev_st (st' := [.int v5]) rfl ?_
    refine ev_seg 3 (k' := 26) (L' := [(4, .int v5), (3, .int v2), (0, .ref 37), (1, .int x1), (2, .int x2)]) (st' := [.int (-1), .int v5]) rfl ?_
    refine ev_br (P := ¬ v5 = (-1)) (L' := [(4, .int v5), (3, .int v2), (0, .ref 37), (1, .int x1), (2, .int x2)]) (st' := []) hr rfl rfl rfl (fun hr => ?_) (fun hr => ?_)
    · skip
      refine ev_seg 5 (k' := 37) (L' := [(4, .int v5), (3, .int v2), (0, .ref 37), (1, .int x1), (2, .int x2)]) (st' := [.int v5, .int x2, .ref 27]) rfl ?_
      refine ev_stI hr rfl rfl (fun s6 hr => ?_)
      refine ev_seg 1 (k' := 39) (L' := [(4, .int v5), (3, .int v2), (0, .ref 37), (1, .int x1), (2, .int x2)]) (st' := [.int x2]) rfl ?_
      exact ev_iret hr rfl rfl rfl
    · skip
      refine ev_seg 3 (k' := 30) (L' := [(4, .int v5), (3, .int v2), (0, .ref 37), (1, .int x1), (2, .int x2)]) (st' := [.int v2, .int 12, .ref 37]) rfl ?_
      refine ev_callV (q' := q_29) (x := 29) (y := 3) (c := 37) (As := [.int 12, .int v2]) (rest := []) hr rfl rfl rfl rfl rfl rfl rfl rfl rfl rfl rfl rfl (fun rv s7 hq => ev_kI hq (fun v8 e9 hr => ?_))
      subst e9
      refine ev_st (st' := [.int v8]) rfl ?_
      exact ev_iret hr rfl rfl rfl
  · skip
    refine ev_seg 1 (k' := 10) (L' := [(3, .int v2), (0, .ref 37), (1, .int x1), (2, .int x2)]) (st' := [.int x2]) rfl ?_
    exact ev_iret hr rfl rfl rfl
set_option maxRecDepth 20000 in
theorem eSr_fields (d : Nat) (x1 : Int32) (x2 : Int32) (x3 : Int32) (s : aT) : ∀ r, (cG (fTx_member d x1 1022 s) (kI fun v2 s1 => if ¬ v2 = (-1) then ldI 4096 s1 17 v2 (fun v3 => ldI 4096 s1 14 v2 (fun v4 => if ¬ v4 = 1 then fSr_fields_30 (d + 1) v2 s1 else if v3 ≤ 32 then cG (fSc_addParts d x2 v3 s1) (kI fun v6 s5 => if ¬ v6 = 0 then ldI 4096 s5 16 v2 (fun v7 => fSr_fields_54 (d + 1) x2 x3 v3 v7 0 s5) else cG (fSr_fail d 13 x1 s5) (kI fun v9 s8 => rI v9 s8)) else fSr_fields_30 (d + 1) v2 s1)) else cG (fSr_fail d 8 x1 s1) (kI fun v11 s10 => rI v11 s10))) = some r → fSr_fields (d + 1) x1 x2 x3 s = some r := by
  intro r hr
  show ev (d + 1) q_53 0 [(0, .ref 37), (1, .int x1), (2, .int x2), (3, .int x3)] [] s = some r
  refine ev_seg 4 (k' := 4) (L' := [(0, .ref 37), (1, .int x1), (2, .int x2), (3, .int x3)]) (st' := [.ref 1022, .int x1, .ref 13]) rfl ?_
  refine ev_callV (q' := q_41) (x := 41) (y := 1) (c := 13) (As := [.int x1, .ref 1022]) (rest := []) hr rfl rfl rfl rfl rfl rfl rfl rfl rfl rfl rfl rfl (fun rv s1 hq => ev_kI hq (fun v2 e9 hr => ?_))
  subst e9
  refine ev_st (st' := [.int v2]) rfl ?_
  refine ev_seg 3 (k' := 8) (L' := [(4, .int v2), (0, .ref 37), (1, .int x1), (2, .int x2), (3, .int x3)]) (st' := [.int (-1), .int v2]) rfl ?_
  refine ev_br (P := ¬ v2 = (-1)) (L' := [(4, .int v2), (0, .ref 37), (1, .int x1), (2, .int x2), (3, .int x3)]) (st' := []) hr rfl rfl rfl (fun hr => ?_) (fun hr => ?_)
  · skip
    refine ev_seg 4 (k' := 18) (L' := [(4, .int v2), (0, .ref 37), (1, .int x1), (2, .int x2), (3, .int x3)]) (st' := [.int v2, .ref 17]) rfl ?_
    refine ev_ldI hr rfl rfl (fun v3 hr => ?_)
    refine ev_seg 5 (k' := 24) (L' := [(5, .int v3), (4, .int v2), (0, .ref 37), (1, .int x1), (2, .int x2), (3, .int x3)]) (st' := [.int v2, .ref 14]) rfl ?_
    refine ev_ldI hr rfl rfl (fun v4 hr => ?_)
    refine ev_seg 1 (k' := 26) (L' := [(5, .int v3), (4, .int v2), (0, .ref 37), (1, .int x1), (2, .int x2), (3, .int x3)]) (st' := [.int 1, .int v4]) rfl ?_
    refine ev_br (P := ¬ v4 = 1) (L' := [(5, .int v3), (4, .int v2), (0, .ref 37), (1, .int x1), (2, .int x2), (3, .int x3)]) (st' := []) hr rfl rfl rfl (fun hr => ?_) (fun hr => ?_)
    · skip
      refine ev_join (L' := [(0, .ref 37), (4, .int v2)]) [2, 1] [5, 4, 0, 1, 2, 3] [0, 4] rfl rfl (by decide) (by decide) rfl ?_
      exact hr
    · skip
      refine ev_seg 2 (k' := 29) (L' := [(5, .int v3), (4, .int v2), (0, .ref 37), (1, .int x1), (2, .int x2), (3, .int x3)]) (st' := [.int 32, .int v3]) rfl ?_
      refine ev_br (P := v3 ≤ 32) (L' := [(5, .int v3), (4, .int v2), (0, .ref 37), (1, .int x1), (2, .int x2), (3, .int x3)]) (st' := []) hr rfl rfl rfl (fun hr => ?_) (fun hr => ?_)
      · skip
        refine ev_seg 4 (k' := 39) (L' := [(5, .int v3), (4, .int v2), (0, .ref 37), (1, .int x1), (2, .int x2), (3, .int x3)]) (st' := [.int v3, .int x2, .ref 22]) rfl ?_
        refine ev_callV (q' := q_37) (x := 37) (y := 2) (c := 22) (As := [.int x2, .int v3]) (rest := []) hr rfl rfl rfl rfl rfl rfl rfl rfl rfl rfl rfl rfl (fun rv s5 hq => ev_kI hq (fun v6 e9 hr => ?_))
        subst e9
        refine ev_st (st' := [.int v6]) rfl ?_
        refine ev_br (P := ¬ v6 = 0) (L' := [(5, .int v3), (4, .int v2), (0, .ref 37), (1, .int x1), (2, .int x2), (3, .int x3)]) (st' := []) hr rfl rfl rfl (fun hr => ?_) (fun hr => ?_)
        · skip
          refine ev_seg 4 (k' := 50) (L' := [(5, .int v3), (4, .int v2), (0, .ref 37), (1, .int x1), (2, .int x2), (3, .int x3)]) (st' := [.int v2, .ref 16]) rfl ?_
          refine ev_ldI hr rfl rfl (fun v7 hr => ?_)
          refine ev_seg 3 (k' := 54) (L' := [(7, .int 0), (6, .int v7), (5, .int v3), (4, .int v2), (0, .ref 37), (1, .int x1), (2, .int x2), (3, .int x3)]) (st' := []) rfl ?_
          refine ev_join (L' := [(0, .ref 37), (2, .int x2), (3, .int x3), (5, .int v3), (6, .int v7), (7, .int 0)]) [4, 6, 7, 2, 1, 0] [7, 6, 5, 4, 0, 1, 2, 3] [0, 2, 3, 5, 6, 7] rfl rfl (by decide) (by decide) rfl ?_
          exact hr
        · skip
          refine ev_seg 3 (k' := 44) (L' := [(5, .int v3), (4, .int v2), (0, .ref 37), (1, .int x1), (2, .int x2), (3, .int x3)]) (st' := [.int x1, .int 13, .ref 37]) rfl ?_
          refine ev_callV (q' := q_29) (x := 29) (y := 3) (c := 37) (As := [.int 13, .int x1]) (rest := []) hr rfl rfl rfl rfl rfl rfl rfl rfl rfl rfl rfl rfl (fun rv s8 hq => ev_kI hq (fun v9 e9 hr => ?_))
          subst e9
          refine ev_st (st' := [.int v9]) rfl ?_
          exact ev_iret hr rfl rfl rfl
      · skip
        refine ev_join (L' := [(0, .ref 37), (4, .int v2)]) [2, 1] [5, 4, 0, 1, 2, 3] [0, 4] rfl rfl (by decide) (by decide) rfl ?_
        exact hr
  · skip
    refine ev_seg 3 (k' := 12) (L' := [(4, .int v2), (0, .ref 37), (1, .int x1), (2, .int x2), (3, .int x3)]) (st' := [.int x1, .int 8, .ref 37]) rfl ?_
    refine ev_callV (q' := q_29) (x := 29) (y := 3) (c := 37) (As := [.int 8, .int x1]) (rest := []) hr rfl rfl rfl rfl rfl rfl rfl rfl rfl rfl rfl rfl (fun rv s10 hq => ev_kI hq (fun v11 e9 hr => ?_))
    subst e9
    refine ev_st (st' := [.int v11]) rfl ?_
    exact ev_iret hr rfl rfl rfl
set_option maxRecDepth 20000 in
theorem eSr_fields_30 (d : Nat) (z4 : Int32) (s : aT) : ∀ r, (cG (fSr_fail d 11 z4 s) (kI fun v2 s1 => rI v2 s1)) = some r → fSr_fields_30 (d + 1) z4 s = some r := by
  intro r hr
  show ev (d + 1) q_53 30 [(0, .ref 37), (4, .int z4)] [] s = some r
  refine ev_seg 3 (k' := 33) (L' := [(0, .ref 37), (4, .int z4)]) (st' := [.int z4, .int 11, .ref 37]) rfl ?_
  refine ev_callV (q' := q_29) (x := 29) (y := 3) (c := 37) (As := [.int 11, .int z4]) (rest := []) hr rfl rfl rfl rfl rfl rfl rfl rfl rfl rfl rfl rfl (fun rv s1 hq => ev_kI hq (fun v2 e9 hr => ?_))
  subst e9
  refine ev_st (st' := [.int v2]) rfl ?_
  exact ev_iret hr rfl rfl rfl
set_option maxRecDepth 20000 in
theorem eSr_fields_54 (d : Nat) (x2 : Int32) (x3 : Int32) (z5 : Int32) (z6 : Int32) (z7 : Int32) (s : aT) : ∀ r, (if z5 ≤ z7 then rI x2 s else cG (fSr_isField d z6 x2 z7 x3 s) (kI fun v2 s1 => if ¬ v2 = 0 then ldI 4096 s1 18 z6 (fun v3 => fSr_fields_54 (d + 1) x2 x3 z5 v3 (z7 + 1) s1) else rI (-1) s1)) = some r → fSr_fields_54 (d + 1) x2 x3 z5 z6 z7 s = some r := by
  intro r hr
  show ev (d + 1) q_53 54 [(0, .ref 37), (2, .int x2), (3, .int x3), (5, .int z5), (6, .int z6), (7, .int z7)] [] s = some r
  refine ev_seg 2 (k' := 56) (L' := [(0, .ref 37), (2, .int x2), (3, .int x3), (5, .int z5), (6, .int z6), (7, .int z7)]) (st' := [.int z5, .int z7]) rfl ?_
  refine ev_br (P := z5 ≤ z7) (L' := [(0, .ref 37), (2, .int x2), (3, .int x3), (5, .int z5), (6, .int z6), (7, .int z7)]) (st' := []) hr rfl rfl rfl (fun hr => ?_) (fun hr => ?_)
  · skip
    refine ev_seg 1 (k' := 75) (L' := [(0, .ref 37), (2, .int x2), (3, .int x3), (5, .int z5), (6, .int z6), (7, .int z7)]) (st' := [.int x2]) rfl ?_
    exact ev_iret hr rfl rfl rfl
  · skip
    refine ev_seg 5 (k' := 62) (L' := [(0, .ref 37), (2, .int x2), (3, .int x3), (5, .int z5), (6, .int z6), (7, .int z7)]) (st' := [.int x3, .int z7, .int x2, .int z6, .ref 37]) rfl ?_
    refine ev_callV (q' := q_54) (x := 54) (y := 3) (c := 37) (As := [.int z6, .int x2, .int z7, .int x3]) (rest := []) hr rfl rfl rfl rfl rfl rfl rfl rfl rfl rfl rfl rfl (fun rv s1 hq => ev_kI hq (fun v2 e9 hr => ?_))
    subst e9
    refine ev_st (st' := [.int v2]) rfl ?_
    refine ev_br (P := ¬ v2 = 0) (L' := [(0, .ref 37), (2, .int x2), (3, .int x3), (5, .int z5), (6, .int z6), (7, .int z7)]) (st' := []) hr rfl rfl rfl (fun hr => ?_) (fun hr => ?_)
    · skip
      refine ev_seg 4 (k' := 70) (L' := [(0, .ref 37), (2, .int x2), (3, .int x3), (5, .int z5), (6, .int z6), (7, .int z7)]) (st' := [.int z6, .ref 18]) rfl ?_
      refine ev_ldI hr rfl rfl (fun v3 hr => ?_)
      refine ev_seg 3 (k' := 54) (L' := [(7, .int (z7 + 1)), (6, .int v3), (0, .ref 37), (2, .int x2), (3, .int x3), (5, .int z5)]) (st' := []) rfl ?_
      refine ev_join (L' := [(0, .ref 37), (2, .int x2), (3, .int x3), (5, .int z5), (6, .int v3), (7, .int (z7 + 1))]) [2, 3, 4, 5, 1, 0] [7, 6, 0, 2, 3, 5] [0, 2, 3, 5, 6, 7] rfl rfl (by decide) (by decide) rfl ?_
      exact hr
    · skip
      refine ev_seg 1 (k' := 65) (L' := [(0, .ref 37), (2, .int x2), (3, .int x3), (5, .int z5), (6, .int z6), (7, .int z7)]) (st' := [.int (-1)]) rfl ?_
      exact ev_iret hr rfl rfl rfl
set_option maxRecDepth 20000 in
theorem eSr_isField (d : Nat) (x1 : Int32) (x2 : Int32) (x3 : Int32) (x4 : Int32) (s : aT) : ∀ r, (ldI 4096 s 14 x1 (fun v1 => if v1 = 0 then cG (fTx_member d x1 1018 s) (kI fun v3 s2 => if v3 = (-1) then fSr_isField_32 (d + 1) x1 s2 else ldI 4096 s2 14 v3 (fun v4 => if v4 = 2 then cG (fSr_isName d v3 s2) (kI fun v6 s5 => if v6 = 0 then fSr_isField_56 (d + 1) v3 s5 else cG (fSc_partTold d x2 x3 v3 s5) (kI fun v8 s7 => if v8 = (-1) then cG (fTx_member d x1 1015 s7) (kI fun v10 s9 => if ¬ v10 = (-1) then ldI 5254 s9 25 x2 (fun v11 => cG (fSc_addName d v3 s9) (kI fun v13 s12 => stI 10112 s12 28 (v11 + x3) v13 (fun s14 => cG (fSr_schemaOf d v10 (x4 + 1) 0 s14) (kI fun v16 s15 => stI 10112 s15 29 (v11 + x3) v16 (fun s17 => ldI 10112 s17 29 (v11 + x3) (fun v18 => if ¬ v18 = (-1) then cG (fTx_member d x1 1021 s17) (kI fun v20 s19 => cG (fDf_add d (v11 + x3) v20 s19) (kV fun s21 => rI 1 s21)) else rI 0 s17)))))) else cG (fSr_fail d 8 x1 s9) (kI fun v23 s22 => if v23 = (-1) then rI 0 s22 else rI 1 s22)) else fSr_isField_56 (d + 1) v3 s7)) else fSr_isField_32 (d + 1) x1 s2)) else cG (fSr_fail d 11 x1 s) (kI fun v25 s24 => if v25 = (-1) then rI 0 s24 else rI 1 s24))) = some r → fSr_isField (d + 1) x1 x2 x3 x4 s = some r := by
  intro r hr
  show ev (d + 1) q_54 0 [(0, .ref 37), (1, .int x1), (2, .int x2), (3, .int x3), (4, .int x4)] [] s = some r
  refine ev_seg 4 (k' := 4) (L' := [(0, .ref 37), (1, .int x1), (2, .int x2), (3, .int x3), (4, .int x4)]) (st' := [.int x1, .ref 14]) rfl ?_
  refine ev_ldI hr rfl rfl (fun v1 hr => ?_)
  refine ev_br (P := v1 = 0) (L' := [(0, .ref 37), (1, .int x1), (2, .int x2), (3, .int x3), (4, .int x4)]) (st' := []) hr rfl rfl rfl (fun hr => ?_) (fun hr => ?_)
  · skip
    refine ev_seg 4 (k' := 20) (L' := [(0, .ref 37), (1, .int x1), (2, .int x2), (3, .int x3), (4, .int x4)]) (st' := [.ref 1018, .int x1, .ref 13]) rfl ?_
    refine ev_callV (q' := q_41) (x := 41) (y := 1) (c := 13) (As := [.int x1, .ref 1018]) (rest := []) hr rfl rfl rfl rfl rfl rfl rfl rfl rfl rfl rfl rfl (fun rv s2 hq => ev_kI hq (fun v3 e9 hr => ?_))
    subst e9
    refine ev_st (st' := [.int v3]) rfl ?_
    refine ev_seg 3 (k' := 24) (L' := [(5, .int v3), (0, .ref 37), (1, .int x1), (2, .int x2), (3, .int x3), (4, .int x4)]) (st' := [.int (-1), .int v3]) rfl ?_
    refine ev_br (P := v3 = (-1)) (L' := [(5, .int v3), (0, .ref 37), (1, .int x1), (2, .int x2), (3, .int x3), (4, .int x4)]) (st' := []) hr rfl rfl rfl (fun hr => ?_) (fun hr => ?_)
    · skip
      refine ev_join (L' := [(0, .ref 37), (1, .int x1)]) [1, 2] [5, 0, 1, 2, 3, 4] [0, 1] rfl rfl (by decide) (by decide) rfl ?_
      exact hr
    · skip
      refine ev_seg 4 (k' := 29) (L' := [(5, .int v3), (0, .ref 37), (1, .int x1), (2, .int x2), (3, .int x3), (4, .int x4)]) (st' := [.int v3, .ref 14]) rfl ?_
      refine ev_ldI hr rfl rfl (fun v4 hr => ?_)
      refine ev_seg 1 (k' := 31) (L' := [(5, .int v3), (0, .ref 37), (1, .int x1), (2, .int x2), (3, .int x3), (4, .int x4)]) (st' := [.int 2, .int v4]) rfl ?_
      refine ev_br (P := v4 = 2) (L' := [(5, .int v3), (0, .ref 37), (1, .int x1), (2, .int x2), (3, .int x3), (4, .int x4)]) (st' := []) hr rfl rfl rfl (fun hr => ?_) (fun hr => ?_)
      · skip
        refine ev_seg 2 (k' := 44) (L' := [(5, .int v3), (0, .ref 37), (1, .int x1), (2, .int x2), (3, .int x3), (4, .int x4)]) (st' := [.int v3, .ref 37]) rfl ?_
        refine ev_callV (q' := q_45) (x := 45) (y := 3) (c := 37) (As := [.int v3]) (rest := []) hr rfl rfl rfl rfl rfl rfl rfl rfl rfl rfl rfl rfl (fun rv s5 hq => ev_kI hq (fun v6 e9 hr => ?_))
        subst e9
        refine ev_st (st' := [.int v6]) rfl ?_
        refine ev_br (P := v6 = 0) (L' := [(5, .int v3), (0, .ref 37), (1, .int x1), (2, .int x2), (3, .int x3), (4, .int x4)]) (st' := []) hr rfl rfl rfl (fun hr => ?_) (fun hr => ?_)
        · skip
          refine ev_join (L' := [(0, .ref 37), (5, .int v3)]) [1, 0] [5, 0, 1, 2, 3, 4] [0, 5] rfl rfl (by decide) (by decide) rfl ?_
          exact hr
        · skip
          refine ev_seg 7 (k' := 53) (L' := [(5, .int v3), (0, .ref 37), (1, .int x1), (2, .int x2), (3, .int x3), (4, .int x4)]) (st' := [.int v3, .ref 13, .int x3, .int x2, .ref 22]) rfl ?_
          refine ev_callV (q' := q_51) (x := 51) (y := 2) (c := 22) (As := [.int x2, .int x3, .ref 13, .int v3]) (rest := []) hr rfl rfl rfl rfl rfl rfl rfl rfl rfl rfl rfl rfl (fun rv s7 hq => ev_kI hq (fun v8 e9 hr => ?_))
          subst e9
          refine ev_st (st' := [.int v8]) rfl ?_
          refine ev_seg 1 (k' := 55) (L' := [(5, .int v3), (0, .ref 37), (1, .int x1), (2, .int x2), (3, .int x3), (4, .int x4)]) (st' := [.int (-1), .int v8]) rfl ?_
          refine ev_br (P := v8 = (-1)) (L' := [(5, .int v3), (0, .ref 37), (1, .int x1), (2, .int x2), (3, .int x3), (4, .int x4)]) (st' := []) hr rfl rfl rfl (fun hr => ?_) (fun hr => ?_)
          · skip
            refine ev_seg 4 (k' := 70) (L' := [(5, .int v3), (0, .ref 37), (1, .int x1), (2, .int x2), (3, .int x3), (4, .int x4)]) (st' := [.ref 1015, .int x1, .ref 13]) rfl ?_
            refine ev_callV (q' := q_41) (x := 41) (y := 1) (c := 13) (As := [.int x1, .ref 1015]) (rest := []) hr rfl rfl rfl rfl rfl rfl rfl rfl rfl rfl rfl rfl (fun rv s9 hq => ev_kI hq (fun v10 e9 hr => ?_))
            subst e9
            refine ev_st (st' := [.int v10]) rfl ?_
            refine ev_seg 3 (k' := 74) (L' := [(6, .int v10), (5, .int v3), (0, .ref 37), (1, .int x1), (2, .int x2), (3, .int x3), (4, .int x4)]) (st' := [.int (-1), .int v10]) rfl ?_
            refine ev_br (P := ¬ v10 = (-1)) (L' := [(6, .int v10), (5, .int v3), (0, .ref 37), (1, .int x1), (2, .int x2), (3, .int x3), (4, .int x4)]) (st' := []) hr rfl rfl rfl (fun hr => ?_) (fun hr => ?_)
            · skip
              refine ev_seg 4 (k' := 89) (L' := [(6, .int v10), (5, .int v3), (0, .ref 37), (1, .int x1), (2, .int x2), (3, .int x3), (4, .int x4)]) (st' := [.int x2, .ref 25]) rfl ?_
              refine ev_ldI hr rfl rfl (fun v11 hr => ?_)
              refine ev_seg 12 (k' := 102) (L' := [(7, .int (v11 + x3)), (6, .int v10), (5, .int v3), (0, .ref 37), (1, .int x1), (2, .int x2), (3, .int x3), (4, .int x4)]) (st' := [.int v3, .ref 13, .ref 22, .int (v11 + x3), .ref 28]) rfl ?_
              refine ev_callV (q' := q_47) (x := 47) (y := 2) (c := 22) (As := [.ref 13, .int v3]) (rest := [.int (v11 + x3), .ref 28]) hr rfl rfl rfl rfl rfl rfl rfl rfl rfl rfl rfl rfl (fun rv s12 hq => ev_kI hq (fun v13 e9 hr => ?_))
              subst e9
              refine ev_st (st' := [.int v13, .int (v11 + x3), .ref 28]) rfl ?_
              refine ev_stI hr rfl rfl (fun s14 hr => ?_)
              refine ev_seg 10 (k' := 114) (L' := [(7, .int (v11 + x3)), (6, .int v10), (5, .int v3), (0, .ref 37), (1, .int x1), (2, .int x2), (3, .int x3), (4, .int x4)]) (st' := [.int 0, .int (x4 + 1), .int v10, .ref 37, .int (v11 + x3), .ref 29]) rfl ?_
              refine ev_callV (q' := q_28) (x := 28) (y := 3) (c := 37) (As := [.int v10, .int (x4 + 1), .int 0]) (rest := [.int (v11 + x3), .ref 29]) hr rfl rfl rfl rfl rfl rfl rfl rfl rfl rfl rfl rfl (fun rv s15 hq => ev_kI hq (fun v16 e9 hr => ?_))
              subst e9
              refine ev_st (st' := [.int v16, .int (v11 + x3), .ref 29]) rfl ?_
              refine ev_stI hr rfl rfl (fun s17 hr => ?_)
              refine ev_seg 4 (k' := 120) (L' := [(7, .int (v11 + x3)), (6, .int v10), (5, .int v3), (0, .ref 37), (1, .int x1), (2, .int x2), (3, .int x3), (4, .int x4)]) (st' := [.int (v11 + x3), .ref 29]) rfl ?_
              refine ev_ldI hr rfl rfl (fun v18 hr => ?_)
              refine ev_seg 1 (k' := 122) (L' := [(7, .int (v11 + x3)), (6, .int v10), (5, .int v3), (0, .ref 37), (1, .int x1), (2, .int x2), (3, .int x3), (4, .int x4)]) (st' := [.int (-1), .int v18]) rfl ?_
              refine ev_br (P := ¬ v18 = (-1)) (L' := [(7, .int (v11 + x3)), (6, .int v10), (5, .int v3), (0, .ref 37), (1, .int x1), (2, .int x2), (3, .int x3), (4, .int x4)]) (st' := []) hr rfl rfl rfl (fun hr => ?_) (fun hr => ?_)
              · skip
                refine ev_seg 7 (k' := 132) (L' := [(7, .int (v11 + x3)), (6, .int v10), (5, .int v3), (0, .ref 37), (1, .int x1), (2, .int x2), (3, .int x3), (4, .int x4)]) (st' := [.ref 1021, .int x1, .ref 13, .int (v11 + x3), .ref 38]) rfl ?_
                refine ev_callV (q' := q_41) (x := 41) (y := 1) (c := 13) (As := [.int x1, .ref 1021]) (rest := [.int (v11 + x3), .ref 38]) hr rfl rfl rfl rfl rfl rfl rfl rfl rfl rfl rfl rfl (fun rv s19 hq => ev_kI hq (fun v20 e9 hr => ?_))
                subst e9
                refine ev_st (st' := [.int v20, .int (v11 + x3), .ref 38]) rfl ?_
                refine ev_callV (q' := q_55) (x := 55) (y := 4) (c := 38) (As := [.int (v11 + x3), .int v20]) (rest := []) hr rfl rfl rfl rfl rfl rfl rfl rfl rfl rfl rfl rfl (fun rv s21 hq => ev_kV hq (fun e9 hr => ?_))
                subst e9
                refine ev_st (st' := []) rfl ?_
                refine ev_seg 1 (k' := 135) (L' := [(7, .int (v11 + x3)), (6, .int v10), (5, .int v3), (0, .ref 37), (1, .int x1), (2, .int x2), (3, .int x3), (4, .int x4)]) (st' := [.int 1]) rfl ?_
                exact ev_iret hr rfl rfl rfl
              · skip
                refine ev_seg 1 (k' := 124) (L' := [(7, .int (v11 + x3)), (6, .int v10), (5, .int v3), (0, .ref 37), (1, .int x1), (2, .int x2), (3, .int x3), (4, .int x4)]) (st' := [.int 0]) rfl ?_
                exact ev_iret hr rfl rfl rfl
            · skip
              refine ev_seg 3 (k' := 78) (L' := [(6, .int v10), (5, .int v3), (0, .ref 37), (1, .int x1), (2, .int x2), (3, .int x3), (4, .int x4)]) (st' := [.int x1, .int 8, .ref 37]) rfl ?_
              refine ev_callV (q' := q_29) (x := 29) (y := 3) (c := 37) (As := [.int 8, .int x1]) (rest := []) hr rfl rfl rfl rfl rfl rfl rfl rfl rfl rfl rfl rfl (fun rv s22 hq => ev_kI hq (fun v23 e9 hr => ?_))
              subst e9
              refine ev_st (st' := [.int v23]) rfl ?_
              refine ev_seg 1 (k' := 80) (L' := [(6, .int v10), (5, .int v3), (0, .ref 37), (1, .int x1), (2, .int x2), (3, .int x3), (4, .int x4)]) (st' := [.int (-1), .int v23]) rfl ?_
              refine ev_br (P := v23 = (-1)) (L' := [(6, .int v10), (5, .int v3), (0, .ref 37), (1, .int x1), (2, .int x2), (3, .int x3), (4, .int x4)]) (st' := []) hr rfl rfl rfl (fun hr => ?_) (fun hr => ?_)
              · skip
                refine ev_seg 1 (k' := 84) (L' := [(6, .int v10), (5, .int v3), (0, .ref 37), (1, .int x1), (2, .int x2), (3, .int x3), (4, .int x4)]) (st' := [.int 0]) rfl ?_
                exact ev_iret hr rfl rfl rfl
              · skip
                refine ev_seg 2 (k' := 84) (L' := [(6, .int v10), (5, .int v3), (0, .ref 37), (1, .int x1), (2, .int x2), (3, .int x3), (4, .int x4)]) (st' := [.int 1]) rfl ?_
                exact ev_iret hr rfl rfl rfl
          · skip
            refine ev_join (L' := [(0, .ref 37), (5, .int v3)]) [1, 0] [5, 0, 1, 2, 3, 4] [0, 5] rfl rfl (by decide) (by decide) rfl ?_
            exact hr
      · skip
        refine ev_join (L' := [(0, .ref 37), (1, .int x1)]) [1, 2] [5, 0, 1, 2, 3, 4] [0, 1] rfl rfl (by decide) (by decide) rfl ?_
        exact hr
  · skip
    refine ev_seg 3 (k' := 9) (L' := [(0, .ref 37), (1, .int x1), (2, .int x2), (3, .int x3), (4, .int x4)]) (st' := [.int x1, .int 11, .ref 37]) rfl ?_
    refine ev_callV (q' := q_29) (x := 29) (y := 3) (c := 37) (As := [.int 11, .int x1]) (rest := []) hr rfl rfl rfl rfl rfl rfl rfl rfl rfl rfl rfl rfl (fun rv s24 hq => ev_kI hq (fun v25 e9 hr => ?_))
    subst e9
    refine ev_st (st' := [.int v25]) rfl ?_
    refine ev_seg 1 (k' := 11) (L' := [(0, .ref 37), (1, .int x1), (2, .int x2), (3, .int x3), (4, .int x4)]) (st' := [.int (-1), .int v25]) rfl ?_
    refine ev_br (P := v25 = (-1)) (L' := [(0, .ref 37), (1, .int x1), (2, .int x2), (3, .int x3), (4, .int x4)]) (st' := []) hr rfl rfl rfl (fun hr => ?_) (fun hr => ?_)
    · skip
      refine ev_seg 1 (k' := 15) (L' := [(0, .ref 37), (1, .int x1), (2, .int x2), (3, .int x3), (4, .int x4)]) (st' := [.int 0]) rfl ?_
      exact ev_iret hr rfl rfl rfl
    · skip
      refine ev_seg 2 (k' := 15) (L' := [(0, .ref 37), (1, .int x1), (2, .int x2), (3, .int x3), (4, .int x4)]) (st' := [.int 1]) rfl ?_
      exact ev_iret hr rfl rfl rfl
set_option maxRecDepth 20000 in
theorem eSr_isField_32 (d : Nat) (x1 : Int32) (s : aT) : ∀ r, (cG (fSr_fail d 8 x1 s) (kI fun v2 s1 => if v2 = (-1) then rI 0 s1 else rI 1 s1)) = some r → fSr_isField_32 (d + 1) x1 s = some r := by
  intro r hr
  show ev (d + 1) q_54 32 [(0, .ref 37), (1, .int x1)] [] s = some r
  refine ev_seg 3 (k' := 35) (L' := [(0, .ref 37), (1, .int x1)]) (st' := [.int x1, .int 8, .ref 37]) rfl ?_
  refine ev_callV (q' := q_29) (x := 29) (y := 3) (c := 37) (As := [.int 8, .int x1]) (rest := []) hr rfl rfl rfl rfl rfl rfl rfl rfl rfl rfl rfl rfl (fun rv s1 hq => ev_kI hq (fun v2 e9 hr => ?_))
  subst e9
  refine ev_st (st' := [.int v2]) rfl ?_
  refine ev_seg 1 (k' := 37) (L' := [(0, .ref 37), (1, .int x1)]) (st' := [.int (-1), .int v2]) rfl ?_
  refine ev_br (P := v2 = (-1)) (L' := [(0, .ref 37), (1, .int x1)]) (st' := []) hr rfl rfl rfl (fun hr => ?_) (fun hr => ?_)
  · skip
    refine ev_seg 1 (k' := 41) (L' := [(0, .ref 37), (1, .int x1)]) (st' := [.int 0]) rfl ?_
    exact ev_iret hr rfl rfl rfl
  · skip
    refine ev_seg 2 (k' := 41) (L' := [(0, .ref 37), (1, .int x1)]) (st' := [.int 1]) rfl ?_
    exact ev_iret hr rfl rfl rfl
set_option maxRecDepth 20000 in
theorem eSr_isField_56 (d : Nat) (z5 : Int32) (s : aT) : ∀ r, (cG (fSr_fail d 9 z5 s) (kI fun v2 s1 => if v2 = (-1) then rI 0 s1 else rI 1 s1)) = some r → fSr_isField_56 (d + 1) z5 s = some r := by
  intro r hr
  show ev (d + 1) q_54 56 [(0, .ref 37), (5, .int z5)] [] s = some r
  refine ev_seg 3 (k' := 59) (L' := [(0, .ref 37), (5, .int z5)]) (st' := [.int z5, .int 9, .ref 37]) rfl ?_
  refine ev_callV (q' := q_29) (x := 29) (y := 3) (c := 37) (As := [.int 9, .int z5]) (rest := []) hr rfl rfl rfl rfl rfl rfl rfl rfl rfl rfl rfl rfl (fun rv s1 hq => ev_kI hq (fun v2 e9 hr => ?_))
  subst e9
  refine ev_st (st' := [.int v2]) rfl ?_
  refine ev_seg 1 (k' := 61) (L' := [(0, .ref 37), (5, .int z5)]) (st' := [.int (-1), .int v2]) rfl ?_
  refine ev_br (P := v2 = (-1)) (L' := [(0, .ref 37), (5, .int z5)]) (st' := []) hr rfl rfl rfl (fun hr => ?_) (fun hr => ?_)
  · skip
    refine ev_seg 1 (k' := 65) (L' := [(0, .ref 37), (5, .int z5)]) (st' := [.int 0]) rfl ?_
    exact ev_iret hr rfl rfl rfl
  · skip
    refine ev_seg 2 (k' := 65) (L' := [(0, .ref 37), (5, .int z5)]) (st' := [.int 1]) rfl ?_
    exact ev_iret hr rfl rfl rfl
