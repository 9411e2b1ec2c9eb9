/-! RecordLake$Schemas: what its pieces do -/
set_option maxRecDepth 20000 in
theorem eSc_open (d : Nat) (s : aT) : ∀ r, (wI s 22 11 (gI s 22 14) (fun s1 => wI s1 22 16 (gI s1 22 15) (fun s2 => wI s2 22 17 (gI s2 32 1) (fun s3 => rV s3)))) = some r → fSc_open d s = some r := by
  intro r hr
  show ev d q_26 0 [(0, .ref 22)] [] s = some r
  refine ev_seg 3 (k' := 3) (L' := [(0, .ref 22)]) (st' := [.int (gI s 22 14), .ref 22]) rfl ?_
  refine ev_putI (c := 22) hr rfl rfl rfl (fun s1 hr => ?_)
  refine ev_seg 3 (k' := 7) (L' := [(0, .ref 22)]) (st' := [.int (gI s1 22 15), .ref 22]) rfl ?_
  refine ev_putI (c := 22) hr rfl rfl rfl (fun s2 hr => ?_)
  refine ev_seg 4 (k' := 12) (L' := [(0, .ref 22)]) (st' := [.int (gI s2 32 1), .ref 22]) rfl ?_
  refine ev_putI (c := 22) hr rfl rfl rfl (fun s3 hr => ?_)
  exact ev_vret hr rfl rfl
set_option maxRecDepth 20000 in
theorem eSc_wordOf (d : Nat) (x0 : Int32) (s : aT) : ∀ r, (if x0 = 0 then rA 1003 s else if x0 = 1 then rA 1004 s else if x0 = 2 then rA 1005 s else if x0 = 3 then rA 1006 s else if x0 = 4 then rA 1007 s else if x0 = 5 then rA 1008 s else if x0 = 6 then rA 1009 s else if x0 = 7 then rA 1010 s else if x0 = 8 then rA 1014 s else if x0 = 9 then rA 1011 s else if x0 = 10 then rA 1012 s else if x0 = 11 then rA 1013 s else rA 1014 s) = some r → fSc_wordOf d x0 s = some r := by
  intro r hr
  show ev d q_31 0 [(0, .int x0)] [] s = some r
  refine ev_seg 1 (k' := 1) (L' := [(0, .int x0)]) (st' := [.int x0]) rfl ?_
  refine ev_if hr (fun h1 hr => ?_) (fun h1 hr => ?_)
  · skip
    refine ev_tab (o := 63) (t := 2) rfl (by rw [h1]; rfl) rfl ?_
    refine ev_seg 1 (k' := 3) (L' := [(0, .int x0)]) (st' := [.ref 1003]) rfl ?_
    exact ev_aret hr rfl rfl
  refine ev_if hr (fun h2 hr => ?_) (fun h2 hr => ?_)
  · skip
    refine ev_tab (o := 66) (t := 4) rfl (by rw [h2]; rfl) rfl ?_
    refine ev_seg 1 (k' := 5) (L' := [(0, .int x0)]) (st' := [.ref 1004]) rfl ?_
    exact ev_aret hr rfl rfl
  refine ev_if hr (fun h3 hr => ?_) (fun h3 hr => ?_)
  · skip
    refine ev_tab (o := 69) (t := 6) rfl (by rw [h3]; rfl) rfl ?_
    refine ev_seg 1 (k' := 7) (L' := [(0, .int x0)]) (st' := [.ref 1005]) rfl ?_
    exact ev_aret hr rfl rfl
  refine ev_if hr (fun h4 hr => ?_) (fun h4 hr => ?_)
  · skip
    refine ev_tab (o := 72) (t := 8) rfl (by rw [h4]; rfl) rfl ?_
    refine ev_seg 1 (k' := 9) (L' := [(0, .int x0)]) (st' := [.ref 1006]) rfl ?_
    exact ev_aret hr rfl rfl
  refine ev_if hr (fun h5 hr => ?_) (fun h5 hr => ?_)
  · skip
    refine ev_tab (o := 75) (t := 10) rfl (by rw [h5]; rfl) rfl ?_
    refine ev_seg 1 (k' := 11) (L' := [(0, .int x0)]) (st' := [.ref 1007]) rfl ?_
    exact ev_aret hr rfl rfl
  refine ev_if hr (fun h6 hr => ?_) (fun h6 hr => ?_)
  · skip
    refine ev_tab (o := 78) (t := 12) rfl (by rw [h6]; rfl) rfl ?_
    refine ev_seg 1 (k' := 13) (L' := [(0, .int x0)]) (st' := [.ref 1008]) rfl ?_
    exact ev_aret hr rfl rfl
  refine ev_if hr (fun h7 hr => ?_) (fun h7 hr => ?_)
  · skip
    refine ev_tab (o := 81) (t := 14) rfl (by rw [h7]; rfl) rfl ?_
    refine ev_seg 1 (k' := 15) (L' := [(0, .int x0)]) (st' := [.ref 1009]) rfl ?_
    exact ev_aret hr rfl rfl
  refine ev_if hr (fun h8 hr => ?_) (fun h8 hr => ?_)
  · skip
    refine ev_tab (o := 84) (t := 16) rfl (by rw [h8]; rfl) rfl ?_
    refine ev_seg 1 (k' := 17) (L' := [(0, .int x0)]) (st' := [.ref 1010]) rfl ?_
    exact ev_aret hr rfl rfl
  refine ev_if hr (fun h9 hr => ?_) (fun h9 hr => ?_)
  · skip
    refine ev_tab (o := 96) (t := 24) rfl (by rw [h9]; rfl) rfl ?_
    refine ev_seg 1 (k' := 25) (L' := [(0, .int x0)]) (st' := [.ref 1014]) rfl ?_
    exact ev_aret hr rfl rfl
  refine ev_if hr (fun h10 hr => ?_) (fun h10 hr => ?_)
  · skip
    refine ev_tab (o := 87) (t := 18) rfl (by rw [h10]; rfl) rfl ?_
    refine ev_seg 1 (k' := 19) (L' := [(0, .int x0)]) (st' := [.ref 1011]) rfl ?_
    exact ev_aret hr rfl rfl
  refine ev_if hr (fun h11 hr => ?_) (fun h11 hr => ?_)
  · skip
    refine ev_tab (o := 90) (t := 20) rfl (by rw [h11]; rfl) rfl ?_
    refine ev_seg 1 (k' := 21) (L' := [(0, .int x0)]) (st' := [.ref 1012]) rfl ?_
    exact ev_aret hr rfl rfl
  refine ev_if hr (fun h12 hr => ?_) (fun h12 hr => ?_)
  · skip
    refine ev_tab (o := 93) (t := 22) rfl (by rw [h12]; rfl) rfl ?_
    refine ev_seg 1 (k' := 23) (L' := [(0, .int x0)]) (st' := [.ref 1013]) rfl ?_
    exact ev_aret hr rfl rfl
  refine ev_tab (o := 96) (t := 24) rfl (tab_in (by have e0 := i_neL (z := 0) (w := 0) rfl h1; have e1 := i_neL (z := 1) (w := 1) rfl h2; have e2 := i_neL (z := 2) (w := 2) rfl h3; have e3 := i_neL (z := 3) (w := 3) rfl h4; have e4 := i_neL (z := 4) (w := 4) rfl h5; have e5 := i_neL (z := 5) (w := 5) rfl h6; have e6 := i_neL (z := 6) (w := 6) rfl h7; have e7 := i_neL (z := 7) (w := 7) rfl h8; have e8 := i_neL (z := 8) (w := 8) rfl h9; have e9 := i_neL (z := 9) (w := 9) rfl h10; have e10 := i_neL (z := 10) (w := 10) rfl h11; have e11 := i_neL (z := 11) (w := 11) rfl h12; omega)) rfl ?_
  refine ev_seg 1 (k' := 25) (L' := [(0, .int x0)]) (st' := [.ref 1014]) rfl ?_
  exact ev_aret hr rfl rfl
set_option maxRecDepth 20000 in
theorem eSc_defined (d : Nat) (x2 : Int32) (s : aT) : ∀ r, (fSc_defined_3 (d + 1) x2 (gI s 22 11) s) = some r → fSc_defined (d + 1) x2 s = some r := by
  intro r hr
  show ev (d + 1) q_33 0 [(0, .ref 22), (1, .ref 13), (2, .int x2)] [] s = some r
  refine ev_seg 3 (k' := 3) (L' := [(3, .int (gI s 22 11)), (0, .ref 22), (1, .ref 13), (2, .int x2)]) (st' := []) rfl ?_
  refine ev_join (L' := [(0, .ref 22), (1, .ref 13), (2, .int x2), (3, .int (gI s 22 11))]) [1, 2, 3, 0] [3, 0, 1, 2] [0, 1, 2, 3] rfl rfl (by decide) (by decide) rfl ?_
  exact hr
set_option maxRecDepth 20000 in
theorem eSc_defined_3 (d : Nat) (x2 : Int32) (z3 : Int32) (s : aT) : ∀ r, (if gI s 22 14 ≤ z3 then rI (-1) s else ldI 5254 s 24 z3 (fun v1 => if v1 = (-1) then fSc_defined_36 (d + 1) x2 z3 s else ldI 5254 s 24 z3 (fun v2 => ldI 5254 s 24 z3 (fun v3 => ldI 72704 s 33 v3 (fun v4 => cG (fTx_tellsBytes d x2 33 (v2 + 1) v4 s) (kI fun v6 s5 => if v6 = 0 then fSc_defined_36 (d + 1) x2 z3 s5 else rI z3 s5)))))) = some r → fSc_defined_3 (d + 1) x2 z3 s = some r := by
  intro r hr
  show ev (d + 1) q_33 3 [(0, .ref 22), (1, .ref 13), (2, .int x2), (3, .int z3)] [] s = some r
  refine ev_seg 3 (k' := 6) (L' := [(0, .ref 22), (1, .ref 13), (2, .int x2), (3, .int z3)]) (st' := [.int (gI s 22 14), .int z3]) rfl ?_
  refine ev_br (P := gI s 22 14 ≤ z3) (L' := [(0, .ref 22), (1, .ref 13), (2, .int x2), (3, .int z3)]) (st' := []) hr rfl rfl rfl (fun hr => ?_) (fun hr => ?_)
  · skip
    refine ev_seg 1 (k' := 39) (L' := [(0, .ref 22), (1, .ref 13), (2, .int x2), (3, .int z3)]) (st' := [.int (-1)]) rfl ?_
    exact ev_iret hr rfl rfl rfl
  · skip
    refine ev_seg 3 (k' := 10) (L' := [(0, .ref 22), (1, .ref 13), (2, .int x2), (3, .int z3)]) (st' := [.int z3, .ref 24]) rfl ?_
    refine ev_ldI hr rfl rfl (fun v1 hr => ?_)
    refine ev_seg 1 (k' := 12) (L' := [(0, .ref 22), (1, .ref 13), (2, .int x2), (3, .int z3)]) (st' := [.int (-1), .int v1]) rfl ?_
    refine ev_br (P := v1 = (-1)) (L' := [(0, .ref 22), (1, .ref 13), (2, .int x2), (3, .int z3)]) (st' := []) hr rfl rfl rfl (fun hr => ?_) (fun hr => ?_)
    · skip
      exact hr
    · skip
      refine ev_seg 8 (k' := 21) (L' := [(0, .ref 22), (1, .ref 13), (2, .int x2), (3, .int z3)]) (st' := [.int z3, .ref 24, .ref 33, .int x2, .ref 13]) rfl ?_
      refine ev_ldI hr rfl rfl (fun v2 hr => ?_)
      refine ev_seg 8 (k' := 30) (L' := [(0, .ref 22), (1, .ref 13), (2, .int x2), (3, .int z3)]) (st' := [.int z3, .ref 24, .ref 33, .int (v2 + 1), .ref 33, .int x2, .ref 13]) rfl ?_
      refine ev_ldI hr rfl rfl (fun v3 hr => ?_)
      refine ev_ldB hr rfl rfl (fun v4 hr => ?_)
      refine ev_callV (q' := q_18) (x := 18) (y := 1) (c := 13) (As := [.int x2, .ref 33, .int (v2 + 1), .int v4]) (rest := []) hr rfl rfl rfl rfl rfl rfl rfl rfl rfl rfl rfl rfl (fun rv s5 hq => ev_kI hq (fun v6 e9 hr => ?_))
      subst e9
      refine ev_st (st' := [.int v6]) rfl ?_
      refine ev_br (P := v6 = 0) (L' := [(0, .ref 22), (1, .ref 13), (2, .int x2), (3, .int z3)]) (st' := []) hr rfl rfl rfl (fun hr => ?_) (fun hr => ?_)
      · skip
        exact hr
      · skip
        refine ev_seg 1 (k' := 35) (L' := [(0, .ref 22), (1, .ref 13), (2, .int x2), (3, .int z3)]) (st' := [.int z3]) rfl ?_
        exact ev_iret hr rfl rfl rfl
set_option maxRecDepth 20000 in
theorem eSc_defined_36 (d : Nat) (x2 : Int32) (z3 : Int32) (s : aT) : ∀ r, (fSc_defined_3 (d + 1) x2 (z3 + 1) s) = some r → fSc_defined_36 (d + 1) x2 z3 s = some r := by
  intro r hr
  show ev (d + 1) q_33 36 [(0, .ref 22), (1, .ref 13), (2, .int x2), (3, .int z3)] [] s = some r
  refine ev_seg 2 (k' := 3) (L' := [(3, .int (z3 + 1)), (0, .ref 22), (1, .ref 13), (2, .int x2)]) (st' := []) rfl ?_
  refine ev_join (L' := [(0, .ref 22), (1, .ref 13), (2, .int x2), (3, .int (z3 + 1))]) [1, 2, 3, 0] [3, 0, 1, 2] [0, 1, 2, 3] rfl rfl (by decide) (by decide) rfl ?_
  exact hr
set_option maxRecDepth 20000 in
theorem eSc_add (d : Nat) (x1 : Int32) (s : aT) : ∀ r, (if gI s 22 14 < 5254 then wI s 22 14 ((gI s 22 14) + 1) (fun s1 => stI 5254 s1 23 (gI s 22 14) x1 (fun s2 => stI 5254 s2 24 (gI s 22 14) (-1) (fun s3 => stI 5254 s3 25 (gI s 22 14) (gI s3 22 15) (fun s4 => stI 5254 s4 26 (gI s 22 14) 0 (fun s5 => stI 5254 s5 27 (gI s 22 14) (-1) (fun s6 => rI (gI s 22 14) s6)))))) else rI (-1) s) = some r → fSc_add d x1 s = some r := by
  intro r hr
  show ev d q_36 0 [(0, .ref 22), (1, .int x1)] [] s = some r
  refine ev_seg 5 (k' := 5) (L' := [(2, .int (gI s 22 14)), (0, .ref 22), (1, .int x1)]) (st' := [.int 5254, .int (gI s 22 14)]) rfl ?_
  refine ev_br (P := gI s 22 14 < 5254) (L' := [(2, .int (gI s 22 14)), (0, .ref 22), (1, .int x1)]) (st' := []) hr rfl rfl rfl (fun hr => ?_) (fun hr => ?_)
  · skip
    refine ev_seg 5 (k' := 13) (L' := [(2, .int (gI s 22 14)), (0, .ref 22), (1, .int x1)]) (st' := [.int ((gI s 22 14) + 1), .ref 22]) rfl ?_
    refine ev_putI (c := 22) hr rfl rfl rfl (fun s1 hr => ?_)
    refine ev_seg 4 (k' := 18) (L' := [(2, .int (gI s 22 14)), (0, .ref 22), (1, .int x1)]) (st' := [.int x1, .int (gI s 22 14), .ref 23]) rfl ?_
    refine ev_stI hr rfl rfl (fun s2 hr => ?_)
    refine ev_seg 4 (k' := 23) (L' := [(2, .int (gI s 22 14)), (0, .ref 22), (1, .int x1)]) (st' := [.int (-1), .int (gI s 22 14), .ref 24]) rfl ?_
    refine ev_stI hr rfl rfl (fun s3 hr => ?_)
    refine ev_seg 5 (k' := 29) (L' := [(2, .int (gI s 22 14)), (0, .ref 22), (1, .int x1)]) (st' := [.int (gI s3 22 15), .int (gI s 22 14), .ref 25]) rfl ?_
    refine ev_stI hr rfl rfl (fun s4 hr => ?_)
    refine ev_seg 4 (k' := 34) (L' := [(2, .int (gI s 22 14)), (0, .ref 22), (1, .int x1)]) (st' := [.int 0, .int (gI s 22 14), .ref 26]) rfl ?_
    refine ev_stI hr rfl rfl (fun s5 hr => ?_)
    refine ev_seg 4 (k' := 39) (L' := [(2, .int (gI s 22 14)), (0, .ref 22), (1, .int x1)]) (st' := [.int (-1), .int (gI s 22 14), .ref 27]) rfl ?_
    refine ev_stI hr rfl rfl (fun s6 hr => ?_)
    refine ev_seg 1 (k' := 41) (L' := [(2, .int (gI s 22 14)), (0, .ref 22), (1, .int x1)]) (st' := [.int (gI s 22 14)]) rfl ?_
    exact ev_iret hr rfl rfl rfl
  · skip
    refine ev_seg 1 (k' := 7) (L' := [(2, .int (gI s 22 14)), (0, .ref 22), (1, .int x1)]) (st' := [.int (-1)]) rfl ?_
    exact ev_iret hr rfl rfl rfl
set_option maxRecDepth 20000 in
theorem eSc_addParts (d : Nat) (x1 : Int32) (x2 : Int32) (s : aT) : ∀ r, (if x2 ≤ 10112 - (gI s 22 15) then stI 5254 s 25 x1 (gI s 22 15) (fun s1 => stI 5254 s1 26 x1 x2 (fun s2 => fSc_addParts_22 d x2 (gI s2 22 15) s2)) else rI 0 s) = some r → fSc_addParts d x1 x2 s = some r := by
  intro r hr
  show ev d q_37 0 [(0, .ref 22), (1, .int x1), (2, .int x2)] [] s = some r
  refine ev_seg 5 (k' := 5) (L' := [(0, .ref 22), (1, .int x1), (2, .int x2)]) (st' := [.int (10112 - (gI s 22 15)), .int x2]) rfl ?_
  refine ev_br (P := x2 ≤ 10112 - (gI s 22 15)) (L' := [(0, .ref 22), (1, .int x1), (2, .int x2)]) (st' := []) hr rfl rfl rfl (fun hr => ?_) (fun hr => ?_)
  · skip
    refine ev_seg 5 (k' := 13) (L' := [(0, .ref 22), (1, .int x1), (2, .int x2)]) (st' := [.int (gI s 22 15), .int x1, .ref 25]) rfl ?_
    refine ev_stI hr rfl rfl (fun s1 hr => ?_)
    refine ev_seg 4 (k' := 18) (L' := [(0, .ref 22), (1, .int x1), (2, .int x2)]) (st' := [.int x2, .int x1, .ref 26]) rfl ?_
    refine ev_stI hr rfl rfl (fun s2 hr => ?_)
    refine ev_seg 3 (k' := 22) (L' := [(3, .int (gI s2 22 15)), (0, .ref 22), (1, .int x1), (2, .int x2)]) (st' := []) rfl ?_
    refine ev_join (L' := [(0, .ref 22), (2, .int x2), (3, .int (gI s2 22 15))]) [1, 3, 0] [3, 0, 1, 2] [0, 2, 3] rfl rfl (by decide) (by decide) rfl ?_
    exact hr
  · skip
    refine ev_seg 1 (k' := 7) (L' := [(0, .ref 22), (1, .int x1), (2, .int x2)]) (st' := [.int 0]) rfl ?_
    exact ev_iret hr rfl rfl rfl
set_option maxRecDepth 20000 in
theorem eSc_addParts_22 (d : Nat) (x2 : Int32) (z3 : Int32) (s : aT) : ∀ r, (if (gI s 22 15) + x2 ≤ z3 then wI s 22 15 ((gI s 22 15) + x2) (fun s1 => rI 1 s1) else stI 10112 s 28 z3 (-1) (fun s2 => stI 10112 s2 29 z3 (-1) (fun s3 => stI 10112 s3 30 z3 (-1) (fun s4 => stI 10112 s4 31 z3 0 (fun s5 => fSc_addParts_22 d x2 (z3 + 1) s5))))) = some r → fSc_addParts_22 d x2 z3 s = some r := by
  intro r hr
  show ev d q_37 22 [(0, .ref 22), (2, .int x2), (3, .int z3)] [] s = some r
  refine ev_seg 5 (k' := 27) (L' := [(0, .ref 22), (2, .int x2), (3, .int z3)]) (st' := [.int ((gI s 22 15) + x2), .int z3]) rfl ?_
  refine ev_br (P := (gI s 22 15) + x2 ≤ z3) (L' := [(0, .ref 22), (2, .int x2), (3, .int z3)]) (st' := []) hr rfl rfl rfl (fun hr => ?_) (fun hr => ?_)
  · skip
    refine ev_seg 5 (k' := 55) (L' := [(0, .ref 22), (2, .int x2), (3, .int z3)]) (st' := [.int ((gI s 22 15) + x2), .ref 22]) rfl ?_
    refine ev_putI (c := 22) hr rfl rfl rfl (fun s1 hr => ?_)
    refine ev_seg 1 (k' := 57) (L' := [(0, .ref 22), (2, .int x2), (3, .int z3)]) (st' := [.int 1]) rfl ?_
    exact ev_iret hr rfl rfl rfl
  · skip
    refine ev_seg 4 (k' := 32) (L' := [(0, .ref 22), (2, .int x2), (3, .int z3)]) (st' := [.int (-1), .int z3, .ref 28]) rfl ?_
    refine ev_stI hr rfl rfl (fun s2 hr => ?_)
    refine ev_seg 4 (k' := 37) (L' := [(0, .ref 22), (2, .int x2), (3, .int z3)]) (st' := [.int (-1), .int z3, .ref 29]) rfl ?_
    refine ev_stI hr rfl rfl (fun s3 hr => ?_)
    refine ev_seg 4 (k' := 42) (L' := [(0, .ref 22), (2, .int x2), (3, .int z3)]) (st' := [.int (-1), .int z3, .ref 30]) rfl ?_
    refine ev_stI hr rfl rfl (fun s4 hr => ?_)
    refine ev_seg 4 (k' := 47) (L' := [(0, .ref 22), (2, .int x2), (3, .int z3)]) (st' := [.int 0, .int z3, .ref 31]) rfl ?_
    refine ev_stI hr rfl rfl (fun s5 hr => ?_)
    refine ev_seg 2 (k' := 22) (L' := [(3, .int (z3 + 1)), (0, .ref 22), (2, .int x2)]) (st' := []) rfl ?_
    refine ev_join (L' := [(0, .ref 22), (2, .int x2), (3, .int (z3 + 1))]) [1, 2, 0] [3, 0, 2] [0, 2, 3] rfl rfl (by decide) (by decide) rfl ?_
    exact hr
set_option maxRecDepth 20000 in
theorem eSc_partSchemaOf (d : Nat) (x1 : Int32) (x2 : Int32) (s : aT) : ∀ r, (ldI 5254 s 25 x1 (fun v1 => ldI 10112 s 29 (v1 + x2) (fun v2 => rI v2 s))) = some r → fSc_partSchemaOf d x1 x2 s = some r := by
  intro r hr
  show ev d q_39 0 [(0, .ref 22), (1, .int x1), (2, .int x2)] [] s = some r
  refine ev_seg 5 (k' := 5) (L' := [(0, .ref 22), (1, .int x1), (2, .int x2)]) (st' := [.int x1, .ref 25, .ref 29]) rfl ?_
  refine ev_ldI hr rfl rfl (fun v1 hr => ?_)
  refine ev_seg 2 (k' := 8) (L' := [(0, .ref 22), (1, .int x1), (2, .int x2)]) (st' := [.int (v1 + x2), .ref 29]) rfl ?_
  refine ev_ldI hr rfl rfl (fun v2 hr => ?_)
  exact ev_iret hr rfl rfl rfl
set_option maxRecDepth 20000 in
theorem eSc_addName (d : Nat) (x2 : Int32) (s : aT) : ∀ r, (ldI 4096 s 17 x2 (fun v1 => cG (fBy_put d 32 v1 s) (kI fun v3 s2 => ldI 4096 s2 16 x2 (fun v4 => ldI 4096 s2 17 x2 (fun v5 => cG (fBy_putRow d 32 21 v4 v5 s2) (kI fun v7 s6 => rI (gI s 32 1) s6)))))) = some r → fSc_addName (d + 1) x2 s = some r := by
  intro r hr
  show ev (d + 1) q_47 0 [(0, .ref 22), (1, .ref 13), (2, .int x2)] [] s = some r
  refine ev_seg 9 (k' := 9) (L' := [(3, .int (gI s 32 1)), (0, .ref 22), (1, .ref 13), (2, .int x2)]) (st' := [.int x2, .ref 17, .ref 32]) rfl ?_
  refine ev_ldI hr rfl rfl (fun v1 hr => ?_)
  refine ev_callV (q' := q_16) (x := 16) (y := 0) (c := 32) (As := [.int v1]) (rest := []) hr rfl rfl rfl rfl rfl rfl rfl rfl rfl rfl rfl rfl (fun rv s2 hq => ev_kI hq (fun v3 e9 hr => ?_))
  subst e9
  refine ev_st (st' := [.int v3]) rfl ?_
  refine ev_seg 9 (k' := 20) (L' := [(3, .int (gI s 32 1)), (0, .ref 22), (1, .ref 13), (2, .int x2)]) (st' := [.int x2, .ref 16, .ref 21, .ref 32]) rfl ?_
  refine ev_ldI hr rfl rfl (fun v4 hr => ?_)
  refine ev_seg 3 (k' := 24) (L' := [(3, .int (gI s 32 1)), (0, .ref 22), (1, .ref 13), (2, .int x2)]) (st' := [.int x2, .ref 17, .int v4, .ref 21, .ref 32]) rfl ?_
  refine ev_ldI hr rfl rfl (fun v5 hr => ?_)
  refine ev_callV (q' := q_48) (x := 48) (y := 0) (c := 32) (As := [.ref 21, .int v4, .int v5]) (rest := []) hr rfl rfl rfl rfl rfl rfl rfl rfl rfl rfl rfl rfl (fun rv s6 hq => ev_kI hq (fun v7 e9 hr => ?_))
  subst e9
  refine ev_st (st' := [.int v7]) rfl ?_
  refine ev_seg 2 (k' := 28) (L' := [(3, .int (gI s 32 1)), (0, .ref 22), (1, .ref 13), (2, .int x2)]) (st' := [.int (gI s 32 1)]) rfl ?_
  exact ev_iret hr rfl rfl rfl
set_option maxRecDepth 20000 in
theorem eSc_partTold (d : Nat) (x1 : Int32) (x2 : Int32) (x4 : Int32) (s : aT) : ∀ r, (fSc_partTold_2 (d + 1) x1 x2 x4 0 s) = some r → fSc_partTold (d + 1) x1 x2 x4 s = some r := by
  intro r hr
  show ev (d + 1) q_51 0 [(0, .ref 22), (1, .int x1), (2, .int x2), (3, .ref 13), (4, .int x4)] [] s = some r
  refine ev_seg 2 (k' := 2) (L' := [(5, .int 0), (0, .ref 22), (1, .int x1), (2, .int x2), (3, .ref 13), (4, .int x4)]) (st' := []) rfl ?_
  refine ev_join (L' := [(0, .ref 22), (1, .int x1), (2, .int x2), (3, .ref 13), (4, .int x4), (5, .int 0)]) [1, 2, 3, 4, 5, 0] [5, 0, 1, 2, 3, 4] [0, 1, 2, 3, 4, 5] rfl rfl (by decide) (by decide) rfl ?_
  exact hr
set_option maxRecDepth 20000 in
theorem eSc_partTold_2 (d : Nat) (x1 : Int32) (x2 : Int32) (x4 : Int32) (z5 : Int32) (s : aT) : ∀ r, (if x2 ≤ z5 then rI (-1) s else ldI 5254 s 25 x1 (fun v1 => ldI 10112 s 28 (v1 + z5) (fun v2 => if v2 = (-1) then fSc_partTold_35 (d + 1) x1 x2 x4 z5 s else ldI 72704 s 33 v2 (fun v3 => cG (fTx_tellsBytes d x4 33 (v2 + 1) v3 s) (kI fun v5 s4 => if v5 = 0 then fSc_partTold_35 (d + 1) x1 x2 x4 z5 s4 else rI z5 s4))))) = some r → fSc_partTold_2 (d + 1) x1 x2 x4 z5 s = some r := by
  intro r hr
  show ev (d + 1) q_51 2 [(0, .ref 22), (1, .int x1), (2, .int x2), (3, .ref 13), (4, .int x4), (5, .int z5)] [] s = some r
  refine ev_seg 2 (k' := 4) (L' := [(0, .ref 22), (1, .int x1), (2, .int x2), (3, .ref 13), (4, .int x4), (5, .int z5)]) (st' := [.int x2, .int z5]) rfl ?_
  refine ev_br (P := x2 ≤ z5) (L' := [(0, .ref 22), (1, .int x1), (2, .int x2), (3, .ref 13), (4, .int x4), (5, .int z5)]) (st' := []) hr rfl rfl rfl (fun hr => ?_) (fun hr => ?_)
  · skip
    refine ev_seg 1 (k' := 38) (L' := [(0, .ref 22), (1, .int x1), (2, .int x2), (3, .ref 13), (4, .int x4), (5, .int z5)]) (st' := [.int (-1)]) rfl ?_
    exact ev_iret hr rfl rfl rfl
  · skip
    refine ev_seg 5 (k' := 10) (L' := [(0, .ref 22), (1, .int x1), (2, .int x2), (3, .ref 13), (4, .int x4), (5, .int z5)]) (st' := [.int x1, .ref 25, .ref 28]) rfl ?_
    refine ev_ldI hr rfl rfl (fun v1 hr => ?_)
    refine ev_seg 2 (k' := 13) (L' := [(0, .ref 22), (1, .int x1), (2, .int x2), (3, .ref 13), (4, .int x4), (5, .int z5)]) (st' := [.int (v1 + z5), .ref 28]) rfl ?_
    refine ev_ldI hr rfl rfl (fun v2 hr => ?_)
    refine ev_seg 3 (k' := 17) (L' := [(6, .int v2), (0, .ref 22), (1, .int x1), (2, .int x2), (3, .ref 13), (4, .int x4), (5, .int z5)]) (st' := [.int (-1), .int v2]) rfl ?_
    refine ev_br (P := v2 = (-1)) (L' := [(6, .int v2), (0, .ref 22), (1, .int x1), (2, .int x2), (3, .ref 13), (4, .int x4), (5, .int z5)]) (st' := []) hr rfl rfl rfl (fun hr => ?_) (fun hr => ?_)
    · skip
      refine ev_join (L' := [(0, .ref 22), (1, .int x1), (2, .int x2), (3, .ref 13), (4, .int x4), (5, .int z5)]) [1, 2, 3, 4, 5, 6] [6, 0, 1, 2, 3, 4, 5] [0, 1, 2, 3, 4, 5] rfl rfl (by decide) (by decide) rfl ?_
      exact hr
    · skip
      refine ev_seg 12 (k' := 30) (L' := [(6, .int v2), (0, .ref 22), (1, .int x1), (2, .int x2), (3, .ref 13), (4, .int x4), (5, .int z5)]) (st' := [.int v2, .ref 33, .int (v2 + 1), .ref 33, .int x4, .ref 13]) rfl ?_
      refine ev_ldB hr rfl rfl (fun v3 hr => ?_)
      refine ev_callV (q' := q_18) (x := 18) (y := 1) (c := 13) (As := [.int x4, .ref 33, .int (v2 + 1), .int v3]) (rest := []) hr rfl rfl rfl rfl rfl rfl rfl rfl rfl rfl rfl rfl (fun rv s4 hq => ev_kI hq (fun v5 e9 hr => ?_))
      subst e9
      refine ev_st (st' := [.int v5]) rfl ?_
      refine ev_br (P := v5 = 0) (L' := [(6, .int v2), (0, .ref 22), (1, .int x1), (2, .int x2), (3, .ref 13), (4, .int x4), (5, .int z5)]) (st' := []) hr rfl rfl rfl (fun hr => ?_) (fun hr => ?_)
      · skip
        refine ev_join (L' := [(0, .ref 22), (1, .int x1), (2, .int x2), (3, .ref 13), (4, .int x4), (5, .int z5)]) [1, 2, 3, 4, 5, 6] [6, 0, 1, 2, 3, 4, 5] [0, 1, 2, 3, 4, 5] rfl rfl (by decide) (by decide) rfl ?_
        exact hr
      · skip
        refine ev_seg 1 (k' := 34) (L' := [(6, .int v2), (0, .ref 22), (1, .int x1), (2, .int x2), (3, .ref 13), (4, .int x4), (5, .int z5)]) (st' := [.int z5]) rfl ?_
        exact ev_iret hr rfl rfl rfl
set_option maxRecDepth 20000 in
theorem eSc_partTold_35 (d : Nat) (x1 : Int32) (x2 : Int32) (x4 : Int32) (z5 : Int32) (s : aT) : ∀ r, (fSc_partTold_2 (d + 1) x1 x2 x4 (z5 + 1) s) = some r → fSc_partTold_35 (d + 1) x1 x2 x4 z5 s = some r := by
  intro r hr
  show ev (d + 1) q_51 35 [(0, .ref 22), (1, .int x1), (2, .int x2), (3, .ref 13), (4, .int x4), (5, .int z5)] [] s = some r
  refine ev_seg 2 (k' := 2) (L' := [(5, .int (z5 + 1)), (0, .ref 22), (1, .int x1), (2, .int x2), (3, .ref 13), (4, .int x4)]) (st' := []) rfl ?_
  refine ev_join (L' := [(0, .ref 22), (1, .int x1), (2, .int x2), (3, .ref 13), (4, .int x4), (5, .int (z5 + 1))]) [1, 2, 3, 4, 5, 0] [5, 0, 1, 2, 3, 4] [0, 1, 2, 3, 4, 5] rfl rfl (by decide) (by decide) rfl ?_
  exact hr
set_option maxRecDepth 20000 in
theorem eSc_memberNamed (d : Nat) (x2 : Int32) (x3 : Int32) (s : aT) : ∀ r, (ldI 72704 s 33 x3 (fun v1 => cG (fTx_memberNamed d x2 33 (x3 + 1) v1 s) (kI fun v3 s2 => rI v3 s2))) = some r → fSc_memberNamed (d + 1) x2 x3 s = some r := by
  intro r hr
  show ev (d + 1) q_61 0 [(0, .ref 22), (1, .ref 13), (2, .int x2), (3, .int x3)] [] s = some r
  refine ev_seg 12 (k' := 12) (L' := [(0, .ref 22), (1, .ref 13), (2, .int x2), (3, .int x3)]) (st' := [.int x3, .ref 33, .int (x3 + 1), .ref 33, .int x2, .ref 13]) rfl ?_
  refine ev_ldB hr rfl rfl (fun v1 hr => ?_)
  refine ev_callV (q' := q_17) (x := 17) (y := 1) (c := 13) (As := [.int x2, .ref 33, .int (x3 + 1), .int v1]) (rest := []) hr rfl rfl rfl rfl rfl rfl rfl rfl rfl rfl rfl rfl (fun rv s2 hq => ev_kI hq (fun v3 e9 hr => ?_))
  subst e9
  refine ev_st (st' := [.int v3]) rfl ?_
  exact ev_iret hr rfl rfl rfl
set_option maxRecDepth 20000 in
theorem eSc_drop (d : Nat) (s : aT) : ∀ r, (wI s 22 14 (gI s 22 11) (fun s1 => wI s1 22 15 (gI s1 22 16) (fun s2 => wI s2 32 1 (gI s2 22 17) (fun s3 => rV s3)))) = some r → fSc_drop d s = some r := by
  intro r hr
  show ev d q_79 0 [(0, .ref 22)] [] s = some r
  refine ev_seg 3 (k' := 3) (L' := [(0, .ref 22)]) (st' := [.int (gI s 22 11), .ref 22]) rfl ?_
  refine ev_putI (c := 22) hr rfl rfl rfl (fun s1 hr => ?_)
  refine ev_seg 3 (k' := 7) (L' := [(0, .ref 22)]) (st' := [.int (gI s1 22 16), .ref 22]) rfl ?_
  refine ev_putI (c := 22) hr rfl rfl rfl (fun s2 hr => ?_)
  refine ev_seg 4 (k' := 12) (L' := [(0, .ref 22)]) (st' := [.int (gI s2 22 17), .ref 32]) rfl ?_
  refine ev_putI (c := 32) hr rfl rfl rfl (fun s3 hr => ?_)
  exact ev_vret hr rfl rfl
set_option maxRecDepth 20000 in
theorem eSc_rootOf (d : Nat) (x1 : Int32) (x2 : Int32) (s : aT) : ∀ r, (ldI 64 s 35 ((x1 * 16) + x2) (fun v1 => rI v1 s)) = some r → fSc_rootOf d x1 x2 s = some r := by
  intro r hr
  show ev d q_88 0 [(0, .ref 22), (1, .int x1), (2, .int x2)] [] s = some r
  refine ev_seg 7 (k' := 7) (L' := [(0, .ref 22), (1, .int x1), (2, .int x2)]) (st' := [.int ((x1 * 16) + x2), .ref 35]) rfl ?_
  refine ev_ldI hr rfl rfl (fun v1 hr => ?_)
  exact ev_iret hr rfl rfl rfl
set_option maxRecDepth 20000 in
theorem eSc_baseOf (d : Nat) (x1 : Int32) (x2 : Int32) (s : aT) : ∀ r, (ldI 64 s 36 ((x1 * 16) + x2) (fun v1 => rI v1 s)) = some r → fSc_baseOf d x1 x2 s = some r := by
  intro r hr
  show ev d q_89 0 [(0, .ref 22), (1, .int x1), (2, .int x2)] [] s = some r
  refine ev_seg 7 (k' := 7) (L' := [(0, .ref 22), (1, .int x1), (2, .int x2)]) (st' := [.int ((x1 * 16) + x2), .ref 36]) rfl ?_
  refine ev_ldI hr rfl rfl (fun v1 hr => ?_)
  exact ev_iret hr rfl rfl rfl
set_option maxRecDepth 20000 in
theorem eSc_isSameName (d : Nat) (x1 : Int32) (x2 : Int32) (s : aT) : ∀ r, (if x1 = (-1) then rI 0 s else if ¬ x2 = (-1) then ldI 72704 s 33 x1 (fun v1 => fSc_isSameName_16 d x1 x2 v1 0 s) else rI 0 s) = some r → fSc_isSameName d x1 x2 s = some r := by
  intro r hr
  show ev d q_100 0 [(0, .ref 22), (1, .int x1), (2, .int x2)] [] s = some r
  refine ev_seg 2 (k' := 2) (L' := [(0, .ref 22), (1, .int x1), (2, .int x2)]) (st' := [.int (-1), .int x1]) rfl ?_
  refine ev_br (P := x1 = (-1)) (L' := [(0, .ref 22), (1, .int x1), (2, .int x2)]) (st' := []) hr rfl rfl rfl (fun hr => ?_) (fun hr => ?_)
  · skip
    refine ev_seg 1 (k' := 7) (L' := [(0, .ref 22), (1, .int x1), (2, .int x2)]) (st' := [.int 0]) rfl ?_
    exact ev_iret hr rfl rfl rfl
  · skip
    refine ev_seg 2 (k' := 5) (L' := [(0, .ref 22), (1, .int x1), (2, .int x2)]) (st' := [.int (-1), .int x2]) rfl ?_
    refine ev_br (P := ¬ x2 = (-1)) (L' := [(0, .ref 22), (1, .int x1), (2, .int x2)]) (st' := []) hr rfl rfl rfl (fun hr => ?_) (fun hr => ?_)
    · skip
      refine ev_seg 4 (k' := 12) (L' := [(0, .ref 22), (1, .int x1), (2, .int x2)]) (st' := [.int x1, .ref 33]) rfl ?_
      refine ev_ldB hr rfl rfl (fun v1 hr => ?_)
      refine ev_seg 3 (k' := 16) (L' := [(4, .int 0), (3, .int v1), (0, .ref 22), (1, .int x1), (2, .int x2)]) (st' := []) rfl ?_
      refine ev_join (L' := [(0, .ref 22), (1, .int x1), (2, .int x2), (3, .int v1), (4, .int 0)]) [2, 3, 4, 1, 0] [4, 3, 0, 1, 2] [0, 1, 2, 3, 4] rfl rfl (by decide) (by decide) rfl ?_
      exact hr
    · skip
      refine ev_seg 1 (k' := 7) (L' := [(0, .ref 22), (1, .int x1), (2, .int x2)]) (st' := [.int 0]) rfl ?_
      exact ev_iret hr rfl rfl rfl
set_option maxRecDepth 20000 in
theorem eSc_isSameName_16 (d : Nat) (x1 : Int32) (x2 : Int32) (z3 : Int32) (z4 : Int32) (s : aT) : ∀ r, (if z3 < z4 then rI 1 s else ldI 72704 s 33 (x1 + z4) (fun v1 => ldI 72704 s 33 (x2 + z4) (fun v2 => if v1 = v2 then fSc_isSameName_16 d x1 x2 z3 (z4 + 1) s else rI 0 s))) = some r → fSc_isSameName_16 d x1 x2 z3 z4 s = some r := by
  intro r hr
  show ev d q_100 16 [(0, .ref 22), (1, .int x1), (2, .int x2), (3, .int z3), (4, .int z4)] [] s = some r
  refine ev_seg 2 (k' := 18) (L' := [(0, .ref 22), (1, .int x1), (2, .int x2), (3, .int z3), (4, .int z4)]) (st' := [.int z3, .int z4]) rfl ?_
  refine ev_br (P := z3 < z4) (L' := [(0, .ref 22), (1, .int x1), (2, .int x2), (3, .int z3), (4, .int z4)]) (st' := []) hr rfl rfl rfl (fun hr => ?_) (fun hr => ?_)
  · skip
    refine ev_seg 1 (k' := 39) (L' := [(0, .ref 22), (1, .int x1), (2, .int x2), (3, .int z3), (4, .int z4)]) (st' := [.int 1]) rfl ?_
    exact ev_iret hr rfl rfl rfl
  · skip
    refine ev_seg 6 (k' := 25) (L' := [(0, .ref 22), (1, .int x1), (2, .int x2), (3, .int z3), (4, .int z4)]) (st' := [.int (x1 + z4), .ref 33]) rfl ?_
    refine ev_ldB hr rfl rfl (fun v1 hr => ?_)
    refine ev_seg 6 (k' := 32) (L' := [(0, .ref 22), (1, .int x1), (2, .int x2), (3, .int z3), (4, .int z4)]) (st' := [.int (x2 + z4), .ref 33, .int v1]) rfl ?_
    refine ev_ldB hr rfl rfl (fun v2 hr => ?_)
    refine ev_br (P := v1 = v2) (L' := [(0, .ref 22), (1, .int x1), (2, .int x2), (3, .int z3), (4, .int z4)]) (st' := []) hr rfl rfl rfl (fun hr => ?_) (fun hr => ?_)
    · skip
      refine ev_seg 2 (k' := 16) (L' := [(4, .int (z4 + 1)), (0, .ref 22), (1, .int x1), (2, .int x2), (3, .int z3)]) (st' := []) rfl ?_
      refine ev_join (L' := [(0, .ref 22), (1, .int x1), (2, .int x2), (3, .int z3), (4, .int (z4 + 1))]) [1, 2, 3, 4, 0] [4, 0, 1, 2, 3] [0, 1, 2, 3, 4] rfl rfl (by decide) (by decide) rfl ?_
      exact hr
    · skip
      refine ev_seg 1 (k' := 35) (L' := [(0, .ref 22), (1, .int x1), (2, .int x2), (3, .int z3), (4, .int z4)]) (st' := [.int 0]) rfl ?_
      exact ev_iret hr rfl rfl rfl
set_option maxRecDepth 20000 in
theorem eSc_partLike (d : Nat) (x1 : Int32) (x2 : Int32) (s : aT) : ∀ r, (fSc_partLike_2 (d + 1) x1 x2 0 s) = some r → fSc_partLike (d + 1) x1 x2 s = some r := by
  intro r hr
  show ev (d + 1) q_102 0 [(0, .ref 22), (1, .int x1), (2, .int x2)] [] s = some r
  refine ev_seg 2 (k' := 2) (L' := [(3, .int 0), (0, .ref 22), (1, .int x1), (2, .int x2)]) (st' := []) rfl ?_
  refine ev_join (L' := [(0, .ref 22), (1, .int x1), (2, .int x2), (3, .int 0)]) [1, 2, 3, 0] [3, 0, 1, 2] [0, 1, 2, 3] rfl rfl (by decide) (by decide) rfl ?_
  exact hr
set_option maxRecDepth 20000 in
theorem eSc_partLike_2 (d : Nat) (x1 : Int32) (x2 : Int32) (z3 : Int32) (s : aT) : ∀ r, (ldI 5254 s 26 x1 (fun v1 => if v1 ≤ z3 then rI (-1) s else ldI 5254 s 25 x1 (fun v2 => ldI 10112 s 28 (v2 + z3) (fun v3 => ldI 10112 s 28 x2 (fun v4 => cG (fSc_isSameName d v3 v4 s) (kI fun v6 s5 => if v6 = 0 then fSc_partLike_2 (d + 1) x1 x2 (z3 + 1) s5 else rI z3 s5)))))) = some r → fSc_partLike_2 (d + 1) x1 x2 z3 s = some r := by
  intro r hr
  show ev (d + 1) q_102 2 [(0, .ref 22), (1, .int x1), (2, .int x2), (3, .int z3)] [] s = some r
  refine ev_seg 4 (k' := 6) (L' := [(0, .ref 22), (1, .int x1), (2, .int x2), (3, .int z3)]) (st' := [.int x1, .ref 26, .int z3]) rfl ?_
  refine ev_ldI hr rfl rfl (fun v1 hr => ?_)
  refine ev_br (P := v1 ≤ z3) (L' := [(0, .ref 22), (1, .int x1), (2, .int x2), (3, .int z3)]) (st' := []) hr rfl rfl rfl (fun hr => ?_) (fun hr => ?_)
  · skip
    refine ev_seg 1 (k' := 29) (L' := [(0, .ref 22), (1, .int x1), (2, .int x2), (3, .int z3)]) (st' := [.int (-1)]) rfl ?_
    exact ev_iret hr rfl rfl rfl
  · skip
    refine ev_seg 6 (k' := 14) (L' := [(0, .ref 22), (1, .int x1), (2, .int x2), (3, .int z3)]) (st' := [.int x1, .ref 25, .ref 28, .ref 22]) rfl ?_
    refine ev_ldI hr rfl rfl (fun v2 hr => ?_)
    refine ev_seg 2 (k' := 17) (L' := [(0, .ref 22), (1, .int x1), (2, .int x2), (3, .int z3)]) (st' := [.int (v2 + z3), .ref 28, .ref 22]) rfl ?_
    refine ev_ldI hr rfl rfl (fun v3 hr => ?_)
    refine ev_seg 3 (k' := 21) (L' := [(0, .ref 22), (1, .int x1), (2, .int x2), (3, .int z3)]) (st' := [.int x2, .ref 28, .int v3, .ref 22]) rfl ?_
    refine ev_ldI hr rfl rfl (fun v4 hr => ?_)
    refine ev_callV (q' := q_100) (x := 100) (y := 2) (c := 22) (As := [.int v3, .int v4]) (rest := []) hr rfl rfl rfl rfl rfl rfl rfl rfl rfl rfl rfl rfl (fun rv s5 hq => ev_kI hq (fun v6 e9 hr => ?_))
    subst e9
    refine ev_st (st' := [.int v6]) rfl ?_
    refine ev_br (P := v6 = 0) (L' := [(0, .ref 22), (1, .int x1), (2, .int x2), (3, .int z3)]) (st' := []) hr rfl rfl rfl (fun hr => ?_) (fun hr => ?_)
    · skip
      refine ev_seg 2 (k' := 2) (L' := [(3, .int (z3 + 1)), (0, .ref 22), (1, .int x1), (2, .int x2)]) (st' := []) rfl ?_
      refine ev_join (L' := [(0, .ref 22), (1, .int x1), (2, .int x2), (3, .int (z3 + 1))]) [1, 2, 3, 0] [3, 0, 1, 2] [0, 1, 2, 3] rfl rfl (by decide) (by decide) rfl ?_
      exact hr
    · skip
      refine ev_seg 1 (k' := 25) (L' := [(0, .ref 22), (1, .int x1), (2, .int x2), (3, .int z3)]) (st' := [.int z3]) rfl ?_
      exact ev_iret hr rfl rfl rfl
set_option maxRecDepth 20000 in
theorem eSc_dropAll (d : Nat) (s : aT) : ∀ r, (wI s 22 11 6 (fun s1 => wI s1 22 16 0 (fun s2 => wI s2 22 17 0 (fun s3 => cG (fSc_drop d s3) (kV fun s4 => fSc_dropAll_13 (d + 1) 0 s4))))) = some r → fSc_dropAll (d + 1) s = some r := by
  intro r hr
  show ev (d + 1) q_110 0 [(0, .ref 22)] [] s = some r
  refine ev_seg 2 (k' := 2) (L' := [(0, .ref 22)]) (st' := [.int 6, .ref 22]) rfl ?_
  refine ev_putI (c := 22) hr rfl rfl rfl (fun s1 hr => ?_)
  refine ev_seg 2 (k' := 5) (L' := [(0, .ref 22)]) (st' := [.int 0, .ref 22]) rfl ?_
  refine ev_putI (c := 22) hr rfl rfl rfl (fun s2 hr => ?_)
  refine ev_seg 2 (k' := 8) (L' := [(0, .ref 22)]) (st' := [.int 0, .ref 22]) rfl ?_
  refine ev_putI (c := 22) hr rfl rfl rfl (fun s3 hr => ?_)
  refine ev_seg 1 (k' := 10) (L' := [(0, .ref 22)]) (st' := [.ref 22]) rfl ?_
  refine ev_callV (q' := q_79) (x := 79) (y := 2) (c := 22) (As := []) (rest := []) hr rfl rfl rfl rfl rfl rfl rfl rfl rfl rfl rfl rfl (fun rv s4 hq => ev_kV hq (fun e9 hr => ?_))
  subst e9
  refine ev_st (st' := []) rfl ?_
  refine ev_seg 2 (k' := 13) (L' := [(1, .int 0), (0, .ref 22)]) (st' := []) rfl ?_
  refine ev_join (L' := [(0, .ref 22), (1, .int 0)]) [1, 0] [1, 0] [0, 1] rfl rfl (by decide) (by decide) rfl ?_
  exact hr
set_option maxRecDepth 20000 in
theorem eSc_dropAll_13 (d : Nat) (z1 : Int32) (s : aT) : ∀ r, (if 4 ≤ z1 then rV s else stI 4 s 34 z1 0 (fun s1 => fSc_dropAll_13 (d + 1) (z1 + 1) s1)) = some r → fSc_dropAll_13 (d + 1) z1 s = some r := by
  intro r hr
  show ev (d + 1) q_110 13 [(0, .ref 22), (1, .int z1)] [] s = some r
  refine ev_seg 2 (k' := 15) (L' := [(0, .ref 22), (1, .int z1)]) (st' := [.int 4, .int z1]) rfl ?_
  refine ev_br (P := 4 ≤ z1) (L' := [(0, .ref 22), (1, .int z1)]) (st' := []) hr rfl rfl rfl (fun hr => ?_) (fun hr => ?_)
  · skip
    exact ev_vret hr rfl rfl
  · skip
    refine ev_seg 4 (k' := 20) (L' := [(0, .ref 22), (1, .int z1)]) (st' := [.int 0, .int z1, .ref 34]) rfl ?_
    refine ev_stI hr rfl rfl (fun s1 hr => ?_)
    refine ev_seg 2 (k' := 13) (L' := [(1, .int (z1 + 1)), (0, .ref 22)]) (st' := []) rfl ?_
    refine ev_join (L' := [(0, .ref 22), (1, .int (z1 + 1))]) [1, 0] [1, 0] [0, 1] rfl rfl (by decide) (by decide) rfl ?_
    exact hr
set_option maxRecDepth 20000 in
theorem eSc_keep (d : Nat) (x1 : Int32) (x2 : Int32) (s : aT) : ∀ r, (ldI 4 s 34 x1 (fun v1 => if v1 < 16 then stI 64 s 35 ((x1 * 16) + v1) x2 (fun s2 => stI 64 s2 36 ((x1 * 16) + v1) (gI s2 22 11) (fun s3 => ldI 4 s3 34 x1 (fun v4 => stI 4 s3 34 x1 (v4 + 1) (fun s5 => cG (fSc_open d s5) (kV fun s6 => rV s6))))) else rV s)) = some r → fSc_keep (d + 1) x1 x2 s = some r := by
  intro r hr
  show ev (d + 1) q_115 0 [(0, .ref 22), (1, .int x1), (2, .int x2)] [] s = some r
  refine ev_seg 3 (k' := 3) (L' := [(0, .ref 22), (1, .int x1), (2, .int x2)]) (st' := [.int x1, .ref 34]) rfl ?_
  refine ev_ldI hr rfl rfl (fun v1 hr => ?_)
  refine ev_seg 3 (k' := 7) (L' := [(3, .int v1), (0, .ref 22), (1, .int x1), (2, .int x2)]) (st' := [.int 16, .int v1]) rfl ?_
  refine ev_br (P := v1 < 16) (L' := [(3, .int v1), (0, .ref 22), (1, .int x1), (2, .int x2)]) (st' := []) hr rfl rfl rfl (fun hr => ?_) (fun hr => ?_)
  · skip
    refine ev_seg 8 (k' := 17) (L' := [(3, .int v1), (0, .ref 22), (1, .int x1), (2, .int x2)]) (st' := [.int x2, .int ((x1 * 16) + v1), .ref 35]) rfl ?_
    refine ev_stI hr rfl rfl (fun s2 hr => ?_)
    refine ev_seg 9 (k' := 27) (L' := [(3, .int v1), (0, .ref 22), (1, .int x1), (2, .int x2)]) (st' := [.int (gI s2 22 11), .int ((x1 * 16) + v1), .ref 36]) rfl ?_
    refine ev_stI hr rfl rfl (fun s3 hr => ?_)
    refine ev_seg 4 (k' := 32) (L' := [(3, .int v1), (0, .ref 22), (1, .int x1), (2, .int x2)]) (st' := [.int x1, .ref 34, .int x1, .ref 34]) rfl ?_
    refine ev_ldI hr rfl rfl (fun v4 hr => ?_)
    refine ev_seg 2 (k' := 35) (L' := [(3, .int v1), (0, .ref 22), (1, .int x1), (2, .int x2)]) (st' := [.int (v4 + 1), .int x1, .ref 34]) rfl ?_
    refine ev_stI hr rfl rfl (fun s5 hr => ?_)
    refine ev_seg 1 (k' := 37) (L' := [(3, .int v1), (0, .ref 22), (1, .int x1), (2, .int x2)]) (st' := [.ref 22]) rfl ?_
    refine ev_callV (q' := q_26) (x := 26) (y := 2) (c := 22) (As := []) (rest := []) hr rfl rfl rfl rfl rfl rfl rfl rfl rfl rfl rfl rfl (fun rv s6 hq => ev_kV hq (fun e9 hr => ?_))
    subst e9
    refine ev_st (st' := []) rfl ?_
    exact ev_vret hr rfl rfl
  · skip
    exact ev_vret hr rfl rfl
