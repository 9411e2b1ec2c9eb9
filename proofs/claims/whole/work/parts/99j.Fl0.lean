/-! RecordLake$FileList: what its pieces do -/
set_option maxRecDepth 20000 in
theorem eFl_room (d : Nat) (x1 : Int32) (s : aT) : ∀ r, (fFl_room_2 (d + 6) x1 0 s) = some r → fFl_room (d + 6) x1 s = some r := by
  intro r hr
  show ev (d + 6) q_105 0 [(0, .ref 58), (1, .int x1)] [] s = some r
  refine ev_seg 2 (k' := 2) (L' := [(2, .int 0), (0, .ref 58), (1, .int x1)]) (st' := []) rfl ?_
  refine ev_join (L' := [(0, .ref 58), (1, .int x1), (2, .int 0)]) [1, 2, 0] [2, 0, 1] [0, 1, 2] rfl rfl (by decide) (by decide) rfl ?_
  exact hr
set_option maxRecDepth 20000 in
theorem eFl_room_2 (d : Nat) (x1 : Int32) (z2 : Int32) (s : aT) : ∀ r, (if 128 ≤ z2 then fFl_room_19 (d + 6) x1 0 s else if 2 ≤ z2 then fFl_room_14 (d + 6) x1 z2 0 z2 s else fFl_room_14 (d + 6) x1 z2 1 z2 s) = some r → fFl_room_2 (d + 6) x1 z2 s = some r := by
  intro r hr
  show ev (d + 6) q_105 2 [(0, .ref 58), (1, .int x1), (2, .int z2)] [] s = some r
  refine ev_seg 2 (k' := 4) (L' := [(0, .ref 58), (1, .int x1), (2, .int z2)]) (st' := [.int 128, .int z2]) rfl ?_
  refine ev_br (P := 128 ≤ z2) (L' := [(0, .ref 58), (1, .int x1), (2, .int z2)]) (st' := []) hr rfl rfl rfl (fun hr => ?_) (fun hr => ?_)
  · skip
    refine ev_seg 2 (k' := 19) (L' := [(2, .int 0), (0, .ref 58), (1, .int x1)]) (st' := []) rfl ?_
    refine ev_join (L' := [(0, .ref 58), (1, .int x1), (2, .int 0)]) [1, 2, 0] [2, 0, 1] [0, 1, 2] rfl rfl (by decide) (by decide) rfl ?_
    exact hr
  · skip
    refine ev_seg 5 (k' := 10) (L' := [(0, .ref 58), (1, .int x1), (2, .int z2)]) (st' := [.int 2, .int z2, .int z2, .ref 66]) rfl ?_
    refine ev_br (P := 2 ≤ z2) (L' := [(0, .ref 58), (1, .int x1), (2, .int z2)]) (st' := [.int z2, .ref 66]) hr rfl rfl rfl (fun hr => ?_) (fun hr => ?_)
    · skip
      refine ev_seg 1 (k' := 14) (L' := [(0, .ref 58), (1, .int x1), (2, .int z2)]) (st' := [.int 0, .int z2, .ref 66]) rfl ?_
      exact hr
    · skip
      refine ev_seg 2 (k' := 14) (L' := [(0, .ref 58), (1, .int x1), (2, .int z2)]) (st' := [.int 1, .int z2, .ref 66]) rfl ?_
      exact hr
set_option maxRecDepth 20000 in
theorem eFl_room_19 (d : Nat) (x1 : Int32) (z2 : Int32) (s : aT) : ∀ r, (if gI s 58 5 ≤ z2 then fFl_room_57 (d + 6) x1 0 0 s else ldI 40 s 61 z2 (fun v1 => ldI 40 s 62 z2 (fun v2 => cG (fDi_blocksOf (d + 5) v2 s) (kI fun v4 s3 => cP 910 [.int 128, .int (v1 + v4)] (fun v5 => ldI 40 s3 61 z2 (fun v6 => fFl_room_41 (d + 6) x1 z2 v5 v6 s3)))))) = some r → fFl_room_19 (d + 6) x1 z2 s = some r := by
  intro r hr
  show ev (d + 6) q_105 19 [(0, .ref 58), (1, .int x1), (2, .int z2)] [] s = some r
  refine ev_seg 3 (k' := 22) (L' := [(0, .ref 58), (1, .int x1), (2, .int z2)]) (st' := [.int (gI s 58 5), .int z2]) rfl ?_
  refine ev_br (P := gI s 58 5 ≤ z2) (L' := [(0, .ref 58), (1, .int x1), (2, .int z2)]) (st' := []) hr rfl rfl rfl (fun hr => ?_) (fun hr => ?_)
  · skip
    refine ev_seg 4 (k' := 57) (L' := [(3, .int 0), (2, .int 0), (0, .ref 58), (1, .int x1)]) (st' := []) rfl ?_
    refine ev_join (L' := [(0, .ref 58), (1, .int x1), (2, .int 0), (3, .int 0)]) [2, 3, 1, 0] [3, 2, 0, 1] [0, 1, 2, 3] rfl rfl (by decide) (by decide) rfl ?_
    exact hr
  · skip
    refine ev_seg 4 (k' := 27) (L' := [(0, .ref 58), (1, .int x1), (2, .int z2)]) (st' := [.int z2, .ref 61, .int 128]) rfl ?_
    refine ev_ldI hr rfl rfl (fun v1 hr => ?_)
    refine ev_seg 3 (k' := 31) (L' := [(0, .ref 58), (1, .int x1), (2, .int z2)]) (st' := [.int z2, .ref 62, .int v1, .int 128]) rfl ?_
    refine ev_ldI hr rfl rfl (fun v2 hr => ?_)
    refine ev_callS (q' := q_106) (x := 106) (vs := [.int v2]) (rest := [.int v1, .int 128]) hr rfl rfl rfl rfl rfl rfl rfl rfl rfl rfl (fun rv s3 hq => ev_kI hq (fun v4 e9 hr => ?_))
    subst e9
    refine ev_st (st' := [.int v4, .int v1, .int 128]) rfl ?_
    refine ev_seg 1 (k' := 34) (L' := [(0, .ref 58), (1, .int x1), (2, .int z2)]) (st' := [.int (v1 + v4), .int 128]) rfl ?_
    refine ev_primS (x := 910) (As := [.int 128, .int (v1 + v4)]) (rest := []) hr rfl rfl rfl rfl rfl (fun v5 hr => ?_)
    refine ev_seg 4 (k' := 39) (L' := [(3, .int v5), (0, .ref 58), (1, .int x1), (2, .int z2)]) (st' := [.int z2, .ref 61]) rfl ?_
    refine ev_ldI hr rfl rfl (fun v6 hr => ?_)
    refine ev_seg 1 (k' := 41) (L' := [(4, .int v6), (3, .int v5), (0, .ref 58), (1, .int x1), (2, .int z2)]) (st' := []) rfl ?_
    refine ev_join (L' := [(0, .ref 58), (1, .int x1), (2, .int z2), (3, .int v5), (4, .int v6)]) [2, 3, 4, 1, 0] [4, 3, 0, 1, 2] [0, 1, 2, 3, 4] rfl rfl (by decide) (by decide) rfl ?_
    exact hr
set_option maxRecDepth 20000 in
theorem eFl_room_14 (d : Nat) (x1 : Int32) (z2 : Int32) (u0 : Int32) (u1 : Int32) (s : aT) : ∀ r, (stI 128 s 66 u1 (vp_nar .boolean u0) (fun s1 => fFl_room_2 (d + 6) x1 (z2 + 1) s1)) = some r → fFl_room_14 (d + 6) x1 z2 u0 u1 s = some r := by
  intro r hr
  show ev (d + 6) q_105 14 [(0, .ref 58), (1, .int x1), (2, .int z2)] [.int u0, .int u1, .ref 66] s = some r
  refine ev_stZ hr rfl rfl (fun s1 hr => ?_)
  refine ev_seg 2 (k' := 2) (L' := [(2, .int (z2 + 1)), (0, .ref 58), (1, .int x1)]) (st' := []) rfl ?_
  refine ev_join (L' := [(0, .ref 58), (1, .int x1), (2, .int (z2 + 1))]) [1, 2, 0] [2, 0, 1] [0, 1, 2] rfl rfl (by decide) (by decide) rfl ?_
  exact hr
set_option maxRecDepth 20000 in
theorem eFl_room_57 (d : Nat) (x1 : Int32) (z2 : Int32) (z3 : Int32) (s : aT) : ∀ r, (if 128 ≤ z3 then rI (-1) s else ldI 128 s 66 z3 (fun v1 => if v1 = 0 then fFl_room_70 (d + 6) x1 z3 (z2 + 1) s else fFl_room_70 (d + 6) x1 z3 0 s)) = some r → fFl_room_57 (d + 6) x1 z2 z3 s = some r := by
  intro r hr
  show ev (d + 6) q_105 57 [(0, .ref 58), (1, .int x1), (2, .int z2), (3, .int z3)] [] s = some r
  refine ev_seg 2 (k' := 59) (L' := [(0, .ref 58), (1, .int x1), (2, .int z2), (3, .int z3)]) (st' := [.int 128, .int z3]) rfl ?_
  refine ev_br (P := 128 ≤ z3) (L' := [(0, .ref 58), (1, .int x1), (2, .int z2), (3, .int z3)]) (st' := []) hr rfl rfl rfl (fun hr => ?_) (fun hr => ?_)
  · skip
    refine ev_seg 1 (k' := 84) (L' := [(0, .ref 58), (1, .int x1), (2, .int z2), (3, .int z3)]) (st' := [.int (-1)]) rfl ?_
    exact ev_iret hr rfl rfl rfl
  · skip
    refine ev_seg 3 (k' := 63) (L' := [(0, .ref 58), (1, .int x1), (2, .int z2), (3, .int z3)]) (st' := [.int z3, .ref 66]) rfl ?_
    refine ev_ldZ hr rfl rfl (fun v1 hr => ?_)
    refine ev_br (P := v1 = 0) (L' := [(0, .ref 58), (1, .int x1), (2, .int z2), (3, .int z3)]) (st' := []) hr rfl rfl rfl (fun hr => ?_) (fun hr => ?_)
    · skip
      refine ev_seg 3 (k' := 70) (L' := [(0, .ref 58), (1, .int x1), (2, .int z2), (3, .int z3)]) (st' := [.int (z2 + 1)]) rfl ?_
      refine ev_join (L' := [(0, .ref 58), (1, .int x1), (3, .int z3)]) [0, 1, 3] [0, 1, 2, 3] [0, 1, 3] rfl rfl (by decide) (by decide) rfl ?_
      exact hr
    · skip
      refine ev_seg 2 (k' := 70) (L' := [(0, .ref 58), (1, .int x1), (2, .int z2), (3, .int z3)]) (st' := [.int 0]) rfl ?_
      refine ev_join (L' := [(0, .ref 58), (1, .int x1), (3, .int z3)]) [0, 1, 3] [0, 1, 2, 3] [0, 1, 3] rfl rfl (by decide) (by decide) rfl ?_
      exact hr
set_option maxRecDepth 20000 in
theorem eFl_room_41 (d : Nat) (x1 : Int32) (z2 : Int32) (z3 : Int32) (z4 : Int32) (s : aT) : ∀ r, (if z3 ≤ z4 then fFl_room_19 (d + 6) x1 (z2 + 1) s else stI 128 s 66 z4 (vp_nar .boolean 1) (fun s1 => fFl_room_41 (d + 6) x1 z2 z3 (z4 + 1) s1)) = some r → fFl_room_41 (d + 6) x1 z2 z3 z4 s = some r := by
  intro r hr
  show ev (d + 6) q_105 41 [(0, .ref 58), (1, .int x1), (2, .int z2), (3, .int z3), (4, .int z4)] [] s = some r
  refine ev_seg 2 (k' := 43) (L' := [(0, .ref 58), (1, .int x1), (2, .int z2), (3, .int z3), (4, .int z4)]) (st' := [.int z3, .int z4]) rfl ?_
  refine ev_br (P := z3 ≤ z4) (L' := [(0, .ref 58), (1, .int x1), (2, .int z2), (3, .int z3), (4, .int z4)]) (st' := []) hr rfl rfl rfl (fun hr => ?_) (fun hr => ?_)
  · skip
    refine ev_seg 2 (k' := 19) (L' := [(2, .int (z2 + 1)), (0, .ref 58), (1, .int x1), (3, .int z3), (4, .int z4)]) (st' := []) rfl ?_
    refine ev_join (L' := [(0, .ref 58), (1, .int x1), (2, .int (z2 + 1))]) [1, 2, 0] [2, 0, 1, 3, 4] [0, 1, 2] rfl rfl (by decide) (by decide) rfl ?_
    exact hr
  · skip
    refine ev_seg 4 (k' := 48) (L' := [(0, .ref 58), (1, .int x1), (2, .int z2), (3, .int z3), (4, .int z4)]) (st' := [.int 1, .int z4, .ref 66]) rfl ?_
    refine ev_stZ hr rfl rfl (fun s1 hr => ?_)
    refine ev_seg 2 (k' := 41) (L' := [(4, .int (z4 + 1)), (0, .ref 58), (1, .int x1), (2, .int z2), (3, .int z3)]) (st' := []) rfl ?_
    refine ev_join (L' := [(0, .ref 58), (1, .int x1), (2, .int z2), (3, .int z3), (4, .int (z4 + 1))]) [1, 2, 3, 4, 0] [4, 0, 1, 2, 3] [0, 1, 2, 3, 4] rfl rfl (by decide) (by decide) rfl ?_
    exact hr
set_option maxRecDepth 20000 in
theorem eFl_room_70 (d : Nat) (x1 : Int32) (z3 : Int32) (u0 : Int32) (s : aT) : ∀ r, (cG (fDi_blocksOf (d + 5) x1 s) (kI fun v2 s1 => if ¬ u0 = v2 then fFl_room_57 (d + 6) x1 u0 (z3 + 1) s1 else rI ((z3 - u0) + 1) s1)) = some r → fFl_room_70 (d + 6) x1 z3 u0 s = some r := by
  intro r hr
  show ev (d + 6) q_105 70 [(0, .ref 58), (1, .int x1), (3, .int z3)] [.int u0] s = some r
  refine ev_seg 3 (k' := 73) (L' := [(2, .int u0), (0, .ref 58), (1, .int x1), (3, .int z3)]) (st' := [.int x1, .int u0]) rfl ?_
  refine ev_callS (q' := q_106) (x := 106) (vs := [.int x1]) (rest := [.int u0]) hr rfl rfl rfl rfl rfl rfl rfl rfl rfl rfl (fun rv s1 hq => ev_kI hq (fun v2 e9 hr => ?_))
  subst e9
  refine ev_st (st' := [.int v2, .int u0]) rfl ?_
  refine ev_br (P := ¬ u0 = v2) (L' := [(2, .int u0), (0, .ref 58), (1, .int x1), (3, .int z3)]) (st' := []) hr rfl rfl rfl (fun hr => ?_) (fun hr => ?_)
  · skip
    refine ev_seg 2 (k' := 57) (L' := [(3, .int (z3 + 1)), (2, .int u0), (0, .ref 58), (1, .int x1)]) (st' := []) rfl ?_
    refine ev_join (L' := [(0, .ref 58), (1, .int x1), (2, .int u0), (3, .int (z3 + 1))]) [2, 3, 1, 0] [3, 2, 0, 1] [0, 1, 2, 3] rfl rfl (by decide) (by decide) rfl ?_
    exact hr
  · skip
    refine ev_seg 5 (k' := 80) (L' := [(2, .int u0), (0, .ref 58), (1, .int x1), (3, .int z3)]) (st' := [.int ((z3 - u0) + 1)]) rfl ?_
    exact ev_iret hr rfl rfl rfl
set_option maxRecDepth 20000 in
theorem eFl_add (d : Nat) (x1 : Int32) (x2 : Int32) (x3 : Int32) (x4 : Int32) (x5 : Int32) (s : aT) : ∀ r, (if gI s 58 5 < 40 then stI 40 s 59 (gI s 58 5) x1 (fun s1 => stI 40 s1 60 (gI s1 58 5) x2 (fun s2 => stI 40 s2 61 (gI s2 58 5) x3 (fun s3 => stI 40 s3 62 (gI s3 58 5) x4 (fun s4 => stI 40 s4 63 (gI s4 58 5) x5 (fun s5 => wI s5 58 5 ((gI s5 58 5) + 1) (fun s6 => rV s6)))))) else rV s) = some r → fFl_add d x1 x2 x3 x4 x5 s = some r := by
  intro r hr
  show ev d q_111 0 [(0, .ref 58), (1, .int x1), (2, .int x2), (3, .int x3), (4, .int x4), (5, .int x5)] [] s = some r
  refine ev_seg 3 (k' := 3) (L' := [(0, .ref 58), (1, .int x1), (2, .int x2), (3, .int x3), (4, .int x4), (5, .int x5)]) (st' := [.int 40, .int (gI s 58 5)]) rfl ?_
  refine ev_br (P := gI s 58 5 < 40) (L' := [(0, .ref 58), (1, .int x1), (2, .int x2), (3, .int x3), (4, .int x4), (5, .int x5)]) (st' := []) hr rfl rfl rfl (fun hr => ?_) (fun hr => ?_)
  · skip
    refine ev_seg 5 (k' := 10) (L' := [(0, .ref 58), (1, .int x1), (2, .int x2), (3, .int x3), (4, .int x4), (5, .int x5)]) (st' := [.int x1, .int (gI s 58 5), .ref 59]) rfl ?_
    refine ev_stI hr rfl rfl (fun s1 hr => ?_)
    refine ev_seg 5 (k' := 16) (L' := [(0, .ref 58), (1, .int x1), (2, .int x2), (3, .int x3), (4, .int x4), (5, .int x5)]) (st' := [.int x2, .int (gI s1 58 5), .ref 60]) rfl ?_
    refine ev_stI hr rfl rfl (fun s2 hr => ?_)
    refine ev_seg 5 (k' := 22) (L' := [(0, .ref 58), (1, .int x1), (2, .int x2), (3, .int x3), (4, .int x4), (5, .int x5)]) (st' := [.int x3, .int (gI s2 58 5), .ref 61]) rfl ?_
    refine ev_stI hr rfl rfl (fun s3 hr => ?_)
    refine ev_seg 5 (k' := 28) (L' := [(0, .ref 58), (1, .int x1), (2, .int x2), (3, .int x3), (4, .int x4), (5, .int x5)]) (st' := [.int x4, .int (gI s3 58 5), .ref 62]) rfl ?_
    refine ev_stI hr rfl rfl (fun s4 hr => ?_)
    refine ev_seg 5 (k' := 34) (L' := [(0, .ref 58), (1, .int x1), (2, .int x2), (3, .int x3), (4, .int x4), (5, .int x5)]) (st' := [.int x5, .int (gI s4 58 5), .ref 63]) rfl ?_
    refine ev_stI hr rfl rfl (fun s5 hr => ?_)
    refine ev_seg 5 (k' := 40) (L' := [(0, .ref 58), (1, .int x1), (2, .int x2), (3, .int x3), (4, .int x4), (5, .int x5)]) (st' := [.int ((gI s5 58 5) + 1), .ref 58]) rfl ?_
    refine ev_putI (c := 58) hr rfl rfl rfl (fun s6 hr => ?_)
    exact ev_vret hr rfl rfl
  · skip
    exact ev_vret hr rfl rfl
set_option maxRecDepth 20000 in
theorem eFl_writeTo (d : Nat) (s : aT) : ∀ r, (wI s 58 6 ((gI s 58 6) + 1) (fun s1 => wI s1 64 1 0 (fun s2 => cG (fBy_putNumber (d + 5) 64 ((gI s2 58 6).toInt64) 4 s2) (kV fun s3 => cG (fBy_put (d + 5) 64 (gI s3 58 5) s3) (kI fun v5 s4 => fFl_writeTo_25 (d + 6) 0 s4))))) = some r → fFl_writeTo (d + 6) s = some r := by
  intro r hr
  show ev (d + 6) q_113 0 [(0, .ref 58), (1, .ref 56)] [] s = some r
  refine ev_seg 5 (k' := 5) (L' := [(0, .ref 58), (1, .ref 56)]) (st' := [.int ((gI s 58 6) + 1), .ref 58]) rfl ?_
  refine ev_putI (c := 58) hr rfl rfl rfl (fun s1 hr => ?_)
  refine ev_seg 3 (k' := 9) (L' := [(0, .ref 58), (1, .ref 56)]) (st' := [.int 0, .ref 64]) rfl ?_
  refine ev_putI (c := 64) hr rfl rfl rfl (fun s2 hr => ?_)
  refine ev_seg 6 (k' := 16) (L' := [(0, .ref 58), (1, .ref 56)]) (st' := [.int 4, .long ((gI s2 58 6).toInt64), .ref 64]) rfl ?_
  refine ev_callV (q' := q_83) (x := 83) (y := 0) (c := 64) (As := [.long ((gI s2 58 6).toInt64), .int 4]) (rest := []) hr rfl rfl rfl rfl rfl rfl rfl rfl rfl rfl rfl rfl (fun rv s3 hq => ev_kV hq (fun e9 hr => ?_))
  subst e9
  refine ev_st (st' := []) rfl ?_
  refine ev_seg 4 (k' := 21) (L' := [(0, .ref 58), (1, .ref 56)]) (st' := [.int (gI s3 58 5), .ref 64]) rfl ?_
  refine ev_callV (q' := q_16) (x := 16) (y := 0) (c := 64) (As := [.int (gI s3 58 5)]) (rest := []) hr rfl rfl rfl rfl rfl rfl rfl rfl rfl rfl rfl rfl (fun rv s4 hq => ev_kI hq (fun v5 e9 hr => ?_))
  subst e9
  refine ev_st (st' := [.int v5]) rfl ?_
  refine ev_seg 3 (k' := 25) (L' := [(2, .int 0), (0, .ref 58), (1, .ref 56)]) (st' := []) rfl ?_
  refine ev_join (L' := [(0, .ref 58), (1, .ref 56), (2, .int 0)]) [1, 2, 0] [2, 0, 1] [0, 1, 2] rfl rfl (by decide) (by decide) rfl ?_
  exact hr
set_option maxRecDepth 20000 in
theorem eFl_writeTo_25 (d : Nat) (z2 : Int32) (s : aT) : ∀ r, (if gI s 58 5 ≤ z2 then cG (fBy_putZeros (d + 5) 64 (252 - (gI s 64 1)) s) (kI fun v2 s1 => cG (fBy_putNumber (d + 5) 64 ((gI s1 58 6).toInt64) 4 s1) (kV fun s3 => cG (fDi_writeBlock (d + 5) ((gI s3 58 6) - (gI s3 58 6) / 2 * 2) 64 0 s3) (kI fun v5 s4 => rZ v5 s4))) else ldI 40 s 59 z2 (fun v6 => ldI 40 s 60 z2 (fun v7 => cG (fBy_put (d + 5) 64 ((v6 * 16) + v7) s) (kI fun v9 s8 => ldI 40 s8 61 z2 (fun v10 => cG (fBy_put (d + 5) 64 v10 s8) (kI fun v12 s11 => ldI 40 s11 62 z2 (fun v13 => cG (fBy_putNumber (d + 5) 64 v13.toInt64 2 s11) (kV fun s14 => ldI 40 s14 63 z2 (fun v15 => cP 911 [.int 0, .int v15] (fun v16 => cG (fBy_putNumber (d + 5) 64 v16.toInt64 2 s14) (kV fun s17 => fFl_writeTo_25 (d + 6) (z2 + 1) s17))))))))))) = some r → fFl_writeTo_25 (d + 6) z2 s = some r := by
  intro r hr
  show ev (d + 6) q_113 25 [(0, .ref 58), (1, .ref 56), (2, .int z2)] [] s = some r
  refine ev_seg 3 (k' := 28) (L' := [(0, .ref 58), (1, .ref 56), (2, .int z2)]) (st' := [.int (gI s 58 5), .int z2]) rfl ?_
  refine ev_br (P := gI s 58 5 ≤ z2) (L' := [(0, .ref 58), (1, .ref 56), (2, .int z2)]) (st' := []) hr rfl rfl rfl (fun hr => ?_) (fun hr => ?_)
  · skip
    refine ev_seg 7 (k' := 81) (L' := [(0, .ref 58), (1, .ref 56), (2, .int z2)]) (st' := [.int (252 - (gI s 64 1)), .ref 64]) rfl ?_
    refine ev_callV (q' := q_114) (x := 114) (y := 0) (c := 64) (As := [.int (252 - (gI s 64 1))]) (rest := []) hr rfl rfl rfl rfl rfl rfl rfl rfl rfl rfl rfl rfl (fun rv s1 hq => ev_kI hq (fun v2 e9 hr => ?_))
    subst e9
    refine ev_st (st' := [.int v2]) rfl ?_
    refine ev_seg 7 (k' := 89) (L' := [(0, .ref 58), (1, .ref 56), (2, .int z2)]) (st' := [.int 4, .long ((gI s1 58 6).toInt64), .ref 64]) rfl ?_
    refine ev_callV (q' := q_83) (x := 83) (y := 0) (c := 64) (As := [.long ((gI s1 58 6).toInt64), .int 4]) (rest := []) hr rfl rfl rfl rfl rfl rfl rfl rfl rfl rfl rfl rfl (fun rv s3 hq => ev_kV hq (fun e9 hr => ?_))
    subst e9
    refine ev_st (st' := []) rfl ?_
    refine ev_seg 8 (k' := 98) (L' := [(0, .ref 58), (1, .ref 56), (2, .int z2)]) (st' := [.int 0, .ref 64, .int ((gI s3 58 6) - (gI s3 58 6) / 2 * 2), .ref 56]) rfl ?_
    refine ev_callV (q' := q_108) (x := 108) (y := 9) (c := 56) (As := [.int ((gI s3 58 6) - (gI s3 58 6) / 2 * 2), .ref 64, .int 0]) (rest := []) hr rfl rfl rfl rfl rfl rfl rfl rfl rfl rfl rfl rfl (fun rv s4 hq => ev_kI hq (fun v5 e9 hr => ?_))
    subst e9
    refine ev_st (st' := [.int v5]) rfl ?_
    exact ev_zret hr rfl rfl
  · skip
    refine ev_seg 5 (k' := 34) (L' := [(0, .ref 58), (1, .ref 56), (2, .int z2)]) (st' := [.int z2, .ref 59, .ref 64]) rfl ?_
    refine ev_ldI hr rfl rfl (fun v6 hr => ?_)
    refine ev_seg 5 (k' := 40) (L' := [(0, .ref 58), (1, .ref 56), (2, .int z2)]) (st' := [.int z2, .ref 60, .int (v6 * 16), .ref 64]) rfl ?_
    refine ev_ldI hr rfl rfl (fun v7 hr => ?_)
    refine ev_seg 1 (k' := 42) (L' := [(0, .ref 58), (1, .ref 56), (2, .int z2)]) (st' := [.int ((v6 * 16) + v7), .ref 64]) rfl ?_
    refine ev_callV (q' := q_16) (x := 16) (y := 0) (c := 64) (As := [.int ((v6 * 16) + v7)]) (rest := []) hr rfl rfl rfl rfl rfl rfl rfl rfl rfl rfl rfl rfl (fun rv s8 hq => ev_kI hq (fun v9 e9 hr => ?_))
    subst e9
    refine ev_st (st' := [.int v9]) rfl ?_
    refine ev_seg 6 (k' := 49) (L' := [(0, .ref 58), (1, .ref 56), (2, .int z2)]) (st' := [.int z2, .ref 61, .ref 64]) rfl ?_
    refine ev_ldI hr rfl rfl (fun v10 hr => ?_)
    refine ev_callV (q' := q_16) (x := 16) (y := 0) (c := 64) (As := [.int v10]) (rest := []) hr rfl rfl rfl rfl rfl rfl rfl rfl rfl rfl rfl rfl (fun rv s11 hq => ev_kI hq (fun v12 e9 hr => ?_))
    subst e9
    refine ev_st (st' := [.int v12]) rfl ?_
    refine ev_seg 6 (k' := 57) (L' := [(0, .ref 58), (1, .ref 56), (2, .int z2)]) (st' := [.int z2, .ref 62, .ref 64]) rfl ?_
    refine ev_ldI hr rfl rfl (fun v13 hr => ?_)
    refine ev_seg 2 (k' := 60) (L' := [(0, .ref 58), (1, .ref 56), (2, .int z2)]) (st' := [.int 2, .long v13.toInt64, .ref 64]) rfl ?_
    refine ev_callV (q' := q_83) (x := 83) (y := 0) (c := 64) (As := [.long v13.toInt64, .int 2]) (rest := []) hr rfl rfl rfl rfl rfl rfl rfl rfl rfl rfl rfl rfl (fun rv s14 hq => ev_kV hq (fun e9 hr => ?_))
    subst e9
    refine ev_st (st' := []) rfl ?_
    refine ev_seg 6 (k' := 67) (L' := [(0, .ref 58), (1, .ref 56), (2, .int z2)]) (st' := [.int z2, .ref 63, .int 0, .ref 64]) rfl ?_
    refine ev_ldI hr rfl rfl (fun v15 hr => ?_)
    refine ev_primS (x := 911) (As := [.int 0, .int v15]) (rest := [.ref 64]) hr rfl rfl rfl rfl rfl (fun v16 hr => ?_)
    refine ev_seg 2 (k' := 71) (L' := [(0, .ref 58), (1, .ref 56), (2, .int z2)]) (st' := [.int 2, .long v16.toInt64, .ref 64]) rfl ?_
    refine ev_callV (q' := q_83) (x := 83) (y := 0) (c := 64) (As := [.long v16.toInt64, .int 2]) (rest := []) hr rfl rfl rfl rfl rfl rfl rfl rfl rfl rfl rfl rfl (fun rv s17 hq => ev_kV hq (fun e9 hr => ?_))
    subst e9
    refine ev_st (st' := []) rfl ?_
    refine ev_seg 2 (k' := 25) (L' := [(2, .int (z2 + 1)), (0, .ref 58), (1, .ref 56)]) (st' := []) rfl ?_
    refine ev_join (L' := [(0, .ref 58), (1, .ref 56), (2, .int (z2 + 1))]) [1, 2, 0] [2, 0, 1] [0, 1, 2] rfl rfl (by decide) (by decide) rfl ?_
    exact hr
set_option maxRecDepth 20000 in
theorem eFl_fileOfRow (d : Nat) (x1 : Int32) (x2 : Int32) (s : aT) : ∀ r, (fFl_fileOfRow_4 (d + 1) x1 x2 0 0 s) = some r → fFl_fileOfRow (d + 1) x1 x2 s = some r := by
  intro r hr
  show ev (d + 1) q_137 0 [(0, .ref 58), (1, .int x1), (2, .int x2)] [] s = some r
  refine ev_seg 4 (k' := 4) (L' := [(4, .int 0), (3, .int 0), (0, .ref 58), (1, .int x1), (2, .int x2)]) (st' := []) rfl ?_
  refine ev_join (L' := [(0, .ref 58), (1, .int x1), (2, .int x2), (3, .int 0), (4, .int 0)]) [2, 3, 4, 1, 0] [4, 3, 0, 1, 2] [0, 1, 2, 3, 4] rfl rfl (by decide) (by decide) rfl ?_
  exact hr
set_option maxRecDepth 20000 in
theorem eFl_fileOfRow_4 (d : Nat) (x1 : Int32) (x2 : Int32) (z3 : Int32) (z4 : Int32) (s : aT) : ∀ r, (if x2 < 0 then rI (-1) s else if gI s 58 5 ≤ z4 then rI (-1) s else cG (fFl_isRowsOf d z4 x1 s) (kI fun v2 s1 => if v2 = 0 then fFl_fileOfRow_27 (d + 1) x1 x2 z3 z4 s1 else ldI 40 s1 63 z4 (fun v3 => if z3 + v3 ≤ x2 then fFl_fileOfRow_27 (d + 1) x1 x2 (z3 + v3) z4 s1 else rI z4 s1))) = some r → fFl_fileOfRow_4 (d + 1) x1 x2 z3 z4 s = some r := by
  intro r hr
  show ev (d + 1) q_137 4 [(0, .ref 58), (1, .int x1), (2, .int x2), (3, .int z3), (4, .int z4)] [] s = some r
  refine ev_seg 1 (k' := 5) (L' := [(0, .ref 58), (1, .int x1), (2, .int x2), (3, .int z3), (4, .int z4)]) (st' := [.int x2]) rfl ?_
  refine ev_br (P := x2 < 0) (L' := [(0, .ref 58), (1, .int x1), (2, .int x2), (3, .int z3), (4, .int z4)]) (st' := []) hr rfl rfl rfl (fun hr => ?_) (fun hr => ?_)
  · skip
    refine ev_seg 1 (k' := 30) (L' := [(0, .ref 58), (1, .int x1), (2, .int x2), (3, .int z3), (4, .int z4)]) (st' := [.int (-1)]) rfl ?_
    exact ev_iret hr rfl rfl rfl
  · skip
    refine ev_seg 3 (k' := 9) (L' := [(0, .ref 58), (1, .int x1), (2, .int x2), (3, .int z3), (4, .int z4)]) (st' := [.int (gI s 58 5), .int z4]) rfl ?_
    refine ev_br (P := gI s 58 5 ≤ z4) (L' := [(0, .ref 58), (1, .int x1), (2, .int x2), (3, .int z3), (4, .int z4)]) (st' := []) hr rfl rfl rfl (fun hr => ?_) (fun hr => ?_)
    · skip
      refine ev_seg 1 (k' := 30) (L' := [(0, .ref 58), (1, .int x1), (2, .int x2), (3, .int z3), (4, .int z4)]) (st' := [.int (-1)]) rfl ?_
      exact ev_iret hr rfl rfl rfl
    · skip
      refine ev_seg 3 (k' := 13) (L' := [(0, .ref 58), (1, .int x1), (2, .int x2), (3, .int z3), (4, .int z4)]) (st' := [.int x1, .int z4, .ref 58]) rfl ?_
      refine ev_callV (q' := q_138) (x := 138) (y := 10) (c := 58) (As := [.int z4, .int x1]) (rest := []) hr rfl rfl rfl rfl rfl rfl rfl rfl rfl rfl rfl rfl (fun rv s1 hq => ev_kI hq (fun v2 e9 hr => ?_))
      subst e9
      refine ev_st (st' := [.int v2]) rfl ?_
      refine ev_br (P := v2 = 0) (L' := [(0, .ref 58), (1, .int x1), (2, .int x2), (3, .int z3), (4, .int z4)]) (st' := []) hr rfl rfl rfl (fun hr => ?_) (fun hr => ?_)
      · skip
        exact hr
      · skip
        refine ev_seg 4 (k' := 19) (L' := [(0, .ref 58), (1, .int x1), (2, .int x2), (3, .int z3), (4, .int z4)]) (st' := [.int z4, .ref 63, .int z3]) rfl ?_
        refine ev_ldI hr rfl rfl (fun v3 hr => ?_)
        refine ev_seg 4 (k' := 24) (L' := [(3, .int (z3 + v3)), (0, .ref 58), (1, .int x1), (2, .int x2), (4, .int z4)]) (st' := [.int (z3 + v3), .int x2]) rfl ?_
        refine ev_br (P := z3 + v3 ≤ x2) (L' := [(3, .int (z3 + v3)), (0, .ref 58), (1, .int x1), (2, .int x2), (4, .int z4)]) (st' := []) hr rfl rfl rfl (fun hr => ?_) (fun hr => ?_)
        · skip
          refine ev_join (L' := [(0, .ref 58), (1, .int x1), (2, .int x2), (3, .int (z3 + v3)), (4, .int z4)]) [1, 2, 3, 0, 4] [3, 0, 1, 2, 4] [0, 1, 2, 3, 4] rfl rfl (by decide) (by decide) rfl ?_
          exact hr
        · skip
          refine ev_seg 1 (k' := 26) (L' := [(3, .int (z3 + v3)), (0, .ref 58), (1, .int x1), (2, .int x2), (4, .int z4)]) (st' := [.int z4]) rfl ?_
          exact ev_iret hr rfl rfl rfl
set_option maxRecDepth 20000 in
theorem eFl_fileOfRow_27 (d : Nat) (x1 : Int32) (x2 : Int32) (z3 : Int32) (z4 : Int32) (s : aT) : ∀ r, (fFl_fileOfRow_4 (d + 1) x1 x2 z3 (z4 + 1) s) = some r → fFl_fileOfRow_27 (d + 1) x1 x2 z3 z4 s = some r := by
  intro r hr
  show ev (d + 1) q_137 27 [(0, .ref 58), (1, .int x1), (2, .int x2), (3, .int z3), (4, .int z4)] [] s = some r
  refine ev_seg 2 (k' := 4) (L' := [(4, .int (z4 + 1)), (0, .ref 58), (1, .int x1), (2, .int x2), (3, .int z3)]) (st' := []) rfl ?_
  refine ev_join (L' := [(0, .ref 58), (1, .int x1), (2, .int x2), (3, .int z3), (4, .int (z4 + 1))]) [1, 2, 3, 4, 0] [4, 0, 1, 2, 3] [0, 1, 2, 3, 4] rfl rfl (by decide) (by decide) rfl ?_
  exact hr
set_option maxRecDepth 20000 in
theorem eFl_isRowsOf (d : Nat) (x1 : Int32) (x2 : Int32) (s : aT) : ∀ r, (ldI 40 s 59 x1 (fun v1 => if ¬ v1 = x2 then rI 0 s else ldI 40 s 63 x1 (fun v2 => if v2 = (-1) then rI 0 s else rI 1 s))) = some r → fFl_isRowsOf d x1 x2 s = some r := by
  intro r hr
  show ev d q_138 0 [(0, .ref 58), (1, .int x1), (2, .int x2)] [] s = some r
  refine ev_seg 3 (k' := 3) (L' := [(0, .ref 58), (1, .int x1), (2, .int x2)]) (st' := [.int x1, .ref 59]) rfl ?_
  refine ev_ldI hr rfl rfl (fun v1 hr => ?_)
  refine ev_seg 1 (k' := 5) (L' := [(0, .ref 58), (1, .int x1), (2, .int x2)]) (st' := [.int x2, .int v1]) rfl ?_
  refine ev_br (P := ¬ v1 = x2) (L' := [(0, .ref 58), (1, .int x1), (2, .int x2)]) (st' := []) hr rfl rfl rfl (fun hr => ?_) (fun hr => ?_)
  · skip
    refine ev_seg 1 (k' := 15) (L' := [(0, .ref 58), (1, .int x1), (2, .int x2)]) (st' := [.int 0]) rfl ?_
    exact ev_iret hr rfl rfl rfl
  · skip
    refine ev_seg 3 (k' := 9) (L' := [(0, .ref 58), (1, .int x1), (2, .int x2)]) (st' := [.int x1, .ref 63]) rfl ?_
    refine ev_ldI hr rfl rfl (fun v2 hr => ?_)
    refine ev_seg 1 (k' := 11) (L' := [(0, .ref 58), (1, .int x1), (2, .int x2)]) (st' := [.int (-1), .int v2]) rfl ?_
    refine ev_br (P := v2 = (-1)) (L' := [(0, .ref 58), (1, .int x1), (2, .int x2)]) (st' := []) hr rfl rfl rfl (fun hr => ?_) (fun hr => ?_)
    · skip
      refine ev_seg 1 (k' := 15) (L' := [(0, .ref 58), (1, .int x1), (2, .int x2)]) (st' := [.int 0]) rfl ?_
      exact ev_iret hr rfl rfl rfl
    · skip
      refine ev_seg 2 (k' := 15) (L' := [(0, .ref 58), (1, .int x1), (2, .int x2)]) (st' := [.int 1]) rfl ?_
      exact ev_iret hr rfl rfl rfl
set_option maxRecDepth 20000 in
theorem eFl_rowsBefore (d : Nat) (x1 : Int32) (s : aT) : ∀ r, (ldI 40 s 59 x1 (fun v1 => cG (fFl_rowsUpTo d v1 x1 s) (kI fun v3 s2 => rI v3 s2))) = some r → fFl_rowsBefore (d + 1) x1 s = some r := by
  intro r hr
  show ev (d + 1) q_141 0 [(0, .ref 58), (1, .int x1)] [] s = some r
  refine ev_seg 4 (k' := 4) (L' := [(0, .ref 58), (1, .int x1)]) (st' := [.int x1, .ref 59, .ref 58]) rfl ?_
  refine ev_ldI hr rfl rfl (fun v1 hr => ?_)
  refine ev_seg 1 (k' := 6) (L' := [(0, .ref 58), (1, .int x1)]) (st' := [.int x1, .int v1, .ref 58]) rfl ?_
  refine ev_callV (q' := q_142) (x := 142) (y := 10) (c := 58) (As := [.int v1, .int x1]) (rest := []) hr rfl rfl rfl rfl rfl rfl rfl rfl rfl rfl rfl rfl (fun rv s2 hq => ev_kI hq (fun v3 e9 hr => ?_))
  subst e9
  refine ev_st (st' := [.int v3]) rfl ?_
  exact ev_iret hr rfl rfl rfl
set_option maxRecDepth 20000 in
theorem eFl_rowsUpTo (d : Nat) (x1 : Int32) (x2 : Int32) (s : aT) : ∀ r, (fFl_rowsUpTo_4 (d + 1) x1 x2 0 0 s) = some r → fFl_rowsUpTo (d + 1) x1 x2 s = some r := by
  intro r hr
  show ev (d + 1) q_142 0 [(0, .ref 58), (1, .int x1), (2, .int x2)] [] s = some r
  refine ev_seg 4 (k' := 4) (L' := [(4, .int 0), (3, .int 0), (0, .ref 58), (1, .int x1), (2, .int x2)]) (st' := []) rfl ?_
  refine ev_join (L' := [(0, .ref 58), (1, .int x1), (2, .int x2), (3, .int 0), (4, .int 0)]) [2, 3, 4, 1, 0] [4, 3, 0, 1, 2] [0, 1, 2, 3, 4] rfl rfl (by decide) (by decide) rfl ?_
  exact hr
set_option maxRecDepth 20000 in
theorem eFl_rowsUpTo_4 (d : Nat) (x1 : Int32) (x2 : Int32) (z3 : Int32) (z4 : Int32) (s : aT) : ∀ r, (if x2 ≤ z4 then rI z3 s else cG (fFl_isRowsOf d z4 x1 s) (kI fun v2 s1 => if v2 = 0 then fFl_rowsUpTo_19 (d + 1) x1 x2 z4 0 z3 s1 else ldI 40 s1 63 z4 (fun v3 => fFl_rowsUpTo_19 (d + 1) x1 x2 z4 v3 z3 s1))) = some r → fFl_rowsUpTo_4 (d + 1) x1 x2 z3 z4 s = some r := by
  intro r hr
  show ev (d + 1) q_142 4 [(0, .ref 58), (1, .int x1), (2, .int x2), (3, .int z3), (4, .int z4)] [] s = some r
  refine ev_seg 2 (k' := 6) (L' := [(0, .ref 58), (1, .int x1), (2, .int x2), (3, .int z3), (4, .int z4)]) (st' := [.int x2, .int z4]) rfl ?_
  refine ev_br (P := x2 ≤ z4) (L' := [(0, .ref 58), (1, .int x1), (2, .int x2), (3, .int z3), (4, .int z4)]) (st' := []) hr rfl rfl rfl (fun hr => ?_) (fun hr => ?_)
  · skip
    refine ev_seg 1 (k' := 24) (L' := [(0, .ref 58), (1, .int x1), (2, .int x2), (3, .int z3), (4, .int z4)]) (st' := [.int z3]) rfl ?_
    exact ev_iret hr rfl rfl rfl
  · skip
    refine ev_seg 4 (k' := 11) (L' := [(0, .ref 58), (1, .int x1), (2, .int x2), (3, .int z3), (4, .int z4)]) (st' := [.int x1, .int z4, .ref 58, .int z3]) rfl ?_
    refine ev_callV (q' := q_138) (x := 138) (y := 10) (c := 58) (As := [.int z4, .int x1]) (rest := [.int z3]) hr rfl rfl rfl rfl rfl rfl rfl rfl rfl rfl rfl rfl (fun rv s1 hq => ev_kI hq (fun v2 e9 hr => ?_))
    subst e9
    refine ev_st (st' := [.int v2, .int z3]) rfl ?_
    refine ev_br (P := v2 = 0) (L' := [(0, .ref 58), (1, .int x1), (2, .int x2), (3, .int z3), (4, .int z4)]) (st' := [.int z3]) hr rfl rfl rfl (fun hr => ?_) (fun hr => ?_)
    · skip
      refine ev_seg 1 (k' := 19) (L' := [(0, .ref 58), (1, .int x1), (2, .int x2), (3, .int z3), (4, .int z4)]) (st' := [.int 0, .int z3]) rfl ?_
      refine ev_join (L' := [(0, .ref 58), (1, .int x1), (2, .int x2), (4, .int z4)]) [0, 1, 2, 4] [0, 1, 2, 3, 4] [0, 1, 2, 4] rfl rfl (by decide) (by decide) rfl ?_
      exact hr
    · skip
      refine ev_seg 3 (k' := 16) (L' := [(0, .ref 58), (1, .int x1), (2, .int x2), (3, .int z3), (4, .int z4)]) (st' := [.int z4, .ref 63, .int z3]) rfl ?_
      refine ev_ldI hr rfl rfl (fun v3 hr => ?_)
      refine ev_seg 1 (k' := 19) (L' := [(0, .ref 58), (1, .int x1), (2, .int x2), (3, .int z3), (4, .int z4)]) (st' := [.int v3, .int z3]) rfl ?_
      refine ev_join (L' := [(0, .ref 58), (1, .int x1), (2, .int x2), (4, .int z4)]) [0, 1, 2, 4] [0, 1, 2, 3, 4] [0, 1, 2, 4] rfl rfl (by decide) (by decide) rfl ?_
      exact hr
set_option maxRecDepth 20000 in
theorem eFl_rowsUpTo_19 (d : Nat) (x1 : Int32) (x2 : Int32) (z4 : Int32) (u0 : Int32) (u1 : Int32) (s : aT) : ∀ r, (fFl_rowsUpTo_4 (d + 1) x1 x2 (u1 + u0) (z4 + 1) s) = some r → fFl_rowsUpTo_19 (d + 1) x1 x2 z4 u0 u1 s = some r := by
  intro r hr
  show ev (d + 1) q_142 19 [(0, .ref 58), (1, .int x1), (2, .int x2), (4, .int z4)] [.int u0, .int u1] s = some r
  refine ev_seg 4 (k' := 4) (L' := [(4, .int (z4 + 1)), (3, .int (u1 + u0)), (0, .ref 58), (1, .int x1), (2, .int x2)]) (st' := []) rfl ?_
  refine ev_join (L' := [(0, .ref 58), (1, .int x1), (2, .int x2), (3, .int (u1 + u0)), (4, .int (z4 + 1))]) [2, 3, 4, 1, 0] [4, 3, 0, 1, 2] [0, 1, 2, 3, 4] rfl rfl (by decide) (by decide) rfl ?_
  exact hr
set_option maxRecDepth 20000 in
theorem eFl_nextRowsOf (d : Nat) (x1 : Int32) (x2 : Int32) (s : aT) : ∀ r, (fFl_nextRowsOf_2 (d + 1) x1 x2 s) = some r → fFl_nextRowsOf (d + 1) x1 x2 s = some r := by
  intro r hr
  show ev (d + 1) q_159 0 [(0, .ref 58), (1, .int x1), (2, .int x2)] [] s = some r
  refine ev_seg 2 (k' := 2) (L' := [(3, .int x2), (0, .ref 58), (1, .int x1), (2, .int x2)]) (st' := []) rfl ?_
  refine ev_join (L' := [(0, .ref 58), (1, .int x1), (3, .int x2)]) [1, 2, 0] [3, 0, 1, 2] [0, 1, 3] rfl rfl (by decide) (by decide) rfl ?_
  exact hr
set_option maxRecDepth 20000 in
theorem eFl_nextRowsOf_2 (d : Nat) (x1 : Int32) (z3 : Int32) (s : aT) : ∀ r, (if gI s 58 5 ≤ z3 then rI (-1) s else cG (fFl_isRowsOf d z3 x1 s) (kI fun v2 s1 => if v2 = 0 then fFl_nextRowsOf_2 (d + 1) x1 (z3 + 1) s1 else rI z3 s1)) = some r → fFl_nextRowsOf_2 (d + 1) x1 z3 s = some r := by
  intro r hr
  show ev (d + 1) q_159 2 [(0, .ref 58), (1, .int x1), (3, .int z3)] [] s = some r
  refine ev_seg 3 (k' := 5) (L' := [(0, .ref 58), (1, .int x1), (3, .int z3)]) (st' := [.int (gI s 58 5), .int z3]) rfl ?_
  refine ev_br (P := gI s 58 5 ≤ z3) (L' := [(0, .ref 58), (1, .int x1), (3, .int z3)]) (st' := []) hr rfl rfl rfl (fun hr => ?_) (fun hr => ?_)
  · skip
    refine ev_seg 1 (k' := 16) (L' := [(0, .ref 58), (1, .int x1), (3, .int z3)]) (st' := [.int (-1)]) rfl ?_
    exact ev_iret hr rfl rfl rfl
  · skip
    refine ev_seg 3 (k' := 9) (L' := [(0, .ref 58), (1, .int x1), (3, .int z3)]) (st' := [.int x1, .int z3, .ref 58]) rfl ?_
    refine ev_callV (q' := q_138) (x := 138) (y := 10) (c := 58) (As := [.int z3, .int x1]) (rest := []) hr rfl rfl rfl rfl rfl rfl rfl rfl rfl rfl rfl rfl (fun rv s1 hq => ev_kI hq (fun v2 e9 hr => ?_))
    subst e9
    refine ev_st (st' := [.int v2]) rfl ?_
    refine ev_br (P := v2 = 0) (L' := [(0, .ref 58), (1, .int x1), (3, .int z3)]) (st' := []) hr rfl rfl rfl (fun hr => ?_) (fun hr => ?_)
    · skip
      refine ev_seg 2 (k' := 2) (L' := [(3, .int (z3 + 1)), (0, .ref 58), (1, .int x1)]) (st' := []) rfl ?_
      refine ev_join (L' := [(0, .ref 58), (1, .int x1), (3, .int (z3 + 1))]) [1, 2, 0] [3, 0, 1] [0, 1, 3] rfl rfl (by decide) (by decide) rfl ?_
      exact hr
    · skip
      refine ev_seg 1 (k' := 12) (L' := [(0, .ref 58), (1, .int x1), (3, .int z3)]) (st' := [.int z3]) rfl ?_
      exact ev_iret hr rfl rfl rfl
set_option maxRecDepth 20000 in
theorem eFl_merge (d : Nat) (x1 : Int32) (x2 : Int32) (x3 : Int32) (x4 : Int32) (s : aT) : ∀ r, (stI 40 s 61 x1 x3 (fun s1 => stI 40 s1 62 x1 x4 (fun s2 => ldI 40 s2 63 x1 (fun v3 => ldI 40 s2 63 x2 (fun v4 => stI 40 s2 63 x1 (v3 + v4) (fun s5 => cG (fFl_remove d x2 s5) (kV fun s6 => rV s6))))))) = some r → fFl_merge (d + 1) x1 x2 x3 x4 s = some r := by
  intro r hr
  show ev (d + 1) q_166 0 [(0, .ref 58), (1, .int x1), (2, .int x2), (3, .int x3), (4, .int x4)] [] s = some r
  refine ev_seg 4 (k' := 4) (L' := [(0, .ref 58), (1, .int x1), (2, .int x2), (3, .int x3), (4, .int x4)]) (st' := [.int x3, .int x1, .ref 61]) rfl ?_
  refine ev_stI hr rfl rfl (fun s1 hr => ?_)
  refine ev_seg 4 (k' := 9) (L' := [(0, .ref 58), (1, .int x1), (2, .int x2), (3, .int x3), (4, .int x4)]) (st' := [.int x4, .int x1, .ref 62]) rfl ?_
  refine ev_stI hr rfl rfl (fun s2 hr => ?_)
  refine ev_seg 4 (k' := 14) (L' := [(0, .ref 58), (1, .int x1), (2, .int x2), (3, .int x3), (4, .int x4)]) (st' := [.int x1, .ref 63, .int x1, .ref 63]) rfl ?_
  refine ev_ldI hr rfl rfl (fun v3 hr => ?_)
  refine ev_seg 3 (k' := 18) (L' := [(0, .ref 58), (1, .int x1), (2, .int x2), (3, .int x3), (4, .int x4)]) (st' := [.int x2, .ref 63, .int v3, .int x1, .ref 63]) rfl ?_
  refine ev_ldI hr rfl rfl (fun v4 hr => ?_)
  refine ev_seg 1 (k' := 20) (L' := [(0, .ref 58), (1, .int x1), (2, .int x2), (3, .int x3), (4, .int x4)]) (st' := [.int (v3 + v4), .int x1, .ref 63]) rfl ?_
  refine ev_stI hr rfl rfl (fun s5 hr => ?_)
  refine ev_seg 2 (k' := 23) (L' := [(0, .ref 58), (1, .int x1), (2, .int x2), (3, .int x3), (4, .int x4)]) (st' := [.int x2, .ref 58]) rfl ?_
  refine ev_callV (q' := q_167) (x := 167) (y := 10) (c := 58) (As := [.int x2]) (rest := []) hr rfl rfl rfl rfl rfl rfl rfl rfl rfl rfl rfl rfl (fun rv s6 hq => ev_kV hq (fun e9 hr => ?_))
  subst e9
  refine ev_st (st' := []) rfl ?_
  exact ev_vret hr rfl rfl
set_option maxRecDepth 20000 in
theorem eFl_remove (d : Nat) (x1 : Int32) (s : aT) : ∀ r, (wI s 58 5 ((gI s 58 5) - 1) (fun s1 => fFl_remove_8 d x1 s1)) = some r → fFl_remove d x1 s = some r := by
  intro r hr
  show ev d q_167 0 [(0, .ref 58), (1, .int x1)] [] s = some r
  refine ev_seg 5 (k' := 5) (L' := [(0, .ref 58), (1, .int x1)]) (st' := [.int ((gI s 58 5) - 1), .ref 58]) rfl ?_
  refine ev_putI (c := 58) hr rfl rfl rfl (fun s1 hr => ?_)
  refine ev_seg 2 (k' := 8) (L' := [(2, .int x1), (0, .ref 58), (1, .int x1)]) (st' := []) rfl ?_
  refine ev_join (L' := [(0, .ref 58), (2, .int x1)]) [1, 0] [2, 0, 1] [0, 2] rfl rfl (by decide) (by decide) rfl ?_
  exact hr
set_option maxRecDepth 20000 in
theorem eFl_remove_8 (d : Nat) (z2 : Int32) (s : aT) : ∀ r, (if gI s 58 5 ≤ z2 then rV s else ldI 40 s 59 (z2 + 1) (fun v1 => stI 40 s 59 z2 v1 (fun s2 => ldI 40 s2 60 (z2 + 1) (fun v3 => stI 40 s2 60 z2 v3 (fun s4 => ldI 40 s4 61 (z2 + 1) (fun v5 => stI 40 s4 61 z2 v5 (fun s6 => ldI 40 s6 62 (z2 + 1) (fun v7 => stI 40 s6 62 z2 v7 (fun s8 => ldI 40 s8 63 (z2 + 1) (fun v9 => stI 40 s8 63 z2 v9 (fun s10 => fFl_remove_8 d (z2 + 1) s10))))))))))) = some r → fFl_remove_8 d z2 s = some r := by
  intro r hr
  show ev d q_167 8 [(0, .ref 58), (2, .int z2)] [] s = some r
  refine ev_seg 3 (k' := 11) (L' := [(0, .ref 58), (2, .int z2)]) (st' := [.int (gI s 58 5), .int z2]) rfl ?_
  refine ev_br (P := gI s 58 5 ≤ z2) (L' := [(0, .ref 58), (2, .int z2)]) (st' := []) hr rfl rfl rfl (fun hr => ?_) (fun hr => ?_)
  · skip
    exact ev_vret hr rfl rfl
  · skip
    refine ev_seg 8 (k' := 20) (L' := [(0, .ref 58), (2, .int z2)]) (st' := [.int (z2 + 1), .ref 59, .int z2, .ref 59]) rfl ?_
    refine ev_ldI hr rfl rfl (fun v1 hr => ?_)
    refine ev_stI hr rfl rfl (fun s2 hr => ?_)
    refine ev_seg 8 (k' := 30) (L' := [(0, .ref 58), (2, .int z2)]) (st' := [.int (z2 + 1), .ref 60, .int z2, .ref 60]) rfl ?_
    refine ev_ldI hr rfl rfl (fun v3 hr => ?_)
    refine ev_stI hr rfl rfl (fun s4 hr => ?_)
    refine ev_seg 8 (k' := 40) (L' := [(0, .ref 58), (2, .int z2)]) (st' := [.int (z2 + 1), .ref 61, .int z2, .ref 61]) rfl ?_
    refine ev_ldI hr rfl rfl (fun v5 hr => ?_)
    refine ev_stI hr rfl rfl (fun s6 hr => ?_)
    refine ev_seg 8 (k' := 50) (L' := [(0, .ref 58), (2, .int z2)]) (st' := [.int (z2 + 1), .ref 62, .int z2, .ref 62]) rfl ?_
    refine ev_ldI hr rfl rfl (fun v7 hr => ?_)
    refine ev_stI hr rfl rfl (fun s8 hr => ?_)
    refine ev_seg 8 (k' := 60) (L' := [(0, .ref 58), (2, .int z2)]) (st' := [.int (z2 + 1), .ref 63, .int z2, .ref 63]) rfl ?_
    refine ev_ldI hr rfl rfl (fun v9 hr => ?_)
    refine ev_stI hr rfl rfl (fun s10 hr => ?_)
    refine ev_seg 2 (k' := 8) (L' := [(2, .int (z2 + 1)), (0, .ref 58)]) (st' := []) rfl ?_
    refine ev_join (L' := [(0, .ref 58), (2, .int (z2 + 1))]) [1, 0] [2, 0] [0, 2] rfl rfl (by decide) (by decide) rfl ?_
    exact hr
set_option maxRecDepth 20000 in
theorem eFl_rowsOf (d : Nat) (x1 : Int32) (s : aT) : ∀ r, (cG (fFl_rowsUpTo d x1 (gI s 58 5) s) (kI fun v2 s1 => rI v2 s1)) = some r → fFl_rowsOf (d + 1) x1 s = some r := by
  intro r hr
  show ev (d + 1) q_169 0 [(0, .ref 58), (1, .int x1)] [] s = some r
  refine ev_seg 4 (k' := 4) (L' := [(0, .ref 58), (1, .int x1)]) (st' := [.int (gI s 58 5), .int x1, .ref 58]) rfl ?_
  refine ev_callV (q' := q_142) (x := 142) (y := 10) (c := 58) (As := [.int x1, .int (gI s 58 5)]) (rest := []) hr rfl rfl rfl rfl rfl rfl rfl rfl rfl rfl rfl rfl (fun rv s1 hq => ev_kI hq (fun v2 e9 hr => ?_))
  subst e9
  refine ev_st (st' := [.int v2]) rfl ?_
  exact ev_iret hr rfl rfl rfl
set_option maxRecDepth 20000 in
theorem eFl_removeRowsOf (d : Nat) (x1 : Int32) (s : aT) : ∀ r, (fFl_removeRowsOf_5 (d + 1) x1 ((gI s 58 5) - 1) s) = some r → fFl_removeRowsOf (d + 1) x1 s = some r := by
  intro r hr
  show ev (d + 1) q_170 0 [(0, .ref 58), (1, .int x1)] [] s = some r
  refine ev_seg 5 (k' := 5) (L' := [(2, .int ((gI s 58 5) - 1)), (0, .ref 58), (1, .int x1)]) (st' := []) rfl ?_
  refine ev_join (L' := [(0, .ref 58), (1, .int x1), (2, .int ((gI s 58 5) - 1))]) [1, 2, 0] [2, 0, 1] [0, 1, 2] rfl rfl (by decide) (by decide) rfl ?_
  exact hr
set_option maxRecDepth 20000 in
theorem eFl_removeRowsOf_5 (d : Nat) (x1 : Int32) (z2 : Int32) (s : aT) : ∀ r, (if z2 < 0 then rV s else cG (fFl_isRowsOf d z2 x1 s) (kI fun v2 s1 => if v2 = 0 then fFl_removeRowsOf_15 (d + 1) x1 z2 s1 else cG (fFl_remove d z2 s1) (kV fun s3 => fFl_removeRowsOf_15 (d + 1) x1 z2 s3))) = some r → fFl_removeRowsOf_5 (d + 1) x1 z2 s = some r := by
  intro r hr
  show ev (d + 1) q_170 5 [(0, .ref 58), (1, .int x1), (2, .int z2)] [] s = some r
  refine ev_seg 1 (k' := 6) (L' := [(0, .ref 58), (1, .int x1), (2, .int z2)]) (st' := [.int z2]) rfl ?_
  refine ev_br (P := z2 < 0) (L' := [(0, .ref 58), (1, .int x1), (2, .int z2)]) (st' := []) hr rfl rfl rfl (fun hr => ?_) (fun hr => ?_)
  · skip
    exact ev_vret hr rfl rfl
  · skip
    refine ev_seg 3 (k' := 10) (L' := [(0, .ref 58), (1, .int x1), (2, .int z2)]) (st' := [.int x1, .int z2, .ref 58]) rfl ?_
    refine ev_callV (q' := q_138) (x := 138) (y := 10) (c := 58) (As := [.int z2, .int x1]) (rest := []) hr rfl rfl rfl rfl rfl rfl rfl rfl rfl rfl rfl rfl (fun rv s1 hq => ev_kI hq (fun v2 e9 hr => ?_))
    subst e9
    refine ev_st (st' := [.int v2]) rfl ?_
    refine ev_br (P := v2 = 0) (L' := [(0, .ref 58), (1, .int x1), (2, .int z2)]) (st' := []) hr rfl rfl rfl (fun hr => ?_) (fun hr => ?_)
    · skip
      exact hr
    · skip
      refine ev_seg 2 (k' := 14) (L' := [(0, .ref 58), (1, .int x1), (2, .int z2)]) (st' := [.int z2, .ref 58]) rfl ?_
      refine ev_callV (q' := q_167) (x := 167) (y := 10) (c := 58) (As := [.int z2]) (rest := []) hr rfl rfl rfl rfl rfl rfl rfl rfl rfl rfl rfl rfl (fun rv s3 hq => ev_kV hq (fun e9 hr => ?_))
      subst e9
      refine ev_st (st' := []) rfl ?_
      exact hr
set_option maxRecDepth 20000 in
theorem eFl_removeRowsOf_15 (d : Nat) (x1 : Int32) (z2 : Int32) (s : aT) : ∀ r, (fFl_removeRowsOf_5 (d + 1) x1 (z2 + (-1)) s) = some r → fFl_removeRowsOf_15 (d + 1) x1 z2 s = some r := by
  intro r hr
  show ev (d + 1) q_170 15 [(0, .ref 58), (1, .int x1), (2, .int z2)] [] s = some r
  refine ev_seg 2 (k' := 5) (L' := [(2, .int (z2 + (-1))), (0, .ref 58), (1, .int x1)]) (st' := []) rfl ?_
  refine ev_join (L' := [(0, .ref 58), (1, .int x1), (2, .int (z2 + (-1)))]) [1, 2, 0] [2, 0, 1] [0, 1, 2] rfl rfl (by decide) (by decide) rfl ?_
  exact hr
set_option maxRecDepth 20000 in
theorem eFl_filesOf (d : Nat) (x1 : Int32) (s : aT) : ∀ r, (fFl_filesOf_4 (d + 1) x1 0 0 s) = some r → fFl_filesOf (d + 1) x1 s = some r := by
  intro r hr
  show ev (d + 1) q_174 0 [(0, .ref 58), (1, .int x1)] [] s = some r
  refine ev_seg 4 (k' := 4) (L' := [(3, .int 0), (2, .int 0), (0, .ref 58), (1, .int x1)]) (st' := []) rfl ?_
  refine ev_join (L' := [(0, .ref 58), (1, .int x1), (2, .int 0), (3, .int 0)]) [2, 3, 1, 0] [3, 2, 0, 1] [0, 1, 2, 3] rfl rfl (by decide) (by decide) rfl ?_
  exact hr
set_option maxRecDepth 20000 in
theorem eFl_filesOf_4 (d : Nat) (x1 : Int32) (z2 : Int32) (z3 : Int32) (s : aT) : ∀ r, (if gI s 58 5 ≤ z3 then rI z2 s else cG (fFl_isRowsOf d z3 x1 s) (kI fun v2 s1 => if v2 = 0 then fFl_filesOf_17 (d + 1) x1 z3 0 z2 s1 else fFl_filesOf_17 (d + 1) x1 z3 1 z2 s1)) = some r → fFl_filesOf_4 (d + 1) x1 z2 z3 s = some r := by
  intro r hr
  show ev (d + 1) q_174 4 [(0, .ref 58), (1, .int x1), (2, .int z2), (3, .int z3)] [] s = some r
  refine ev_seg 3 (k' := 7) (L' := [(0, .ref 58), (1, .int x1), (2, .int z2), (3, .int z3)]) (st' := [.int (gI s 58 5), .int z3]) rfl ?_
  refine ev_br (P := gI s 58 5 ≤ z3) (L' := [(0, .ref 58), (1, .int x1), (2, .int z2), (3, .int z3)]) (st' := []) hr rfl rfl rfl (fun hr => ?_) (fun hr => ?_)
  · skip
    refine ev_seg 1 (k' := 22) (L' := [(0, .ref 58), (1, .int x1), (2, .int z2), (3, .int z3)]) (st' := [.int z2]) rfl ?_
    exact ev_iret hr rfl rfl rfl
  · skip
    refine ev_seg 4 (k' := 12) (L' := [(0, .ref 58), (1, .int x1), (2, .int z2), (3, .int z3)]) (st' := [.int x1, .int z3, .ref 58, .int z2]) rfl ?_
    refine ev_callV (q' := q_138) (x := 138) (y := 10) (c := 58) (As := [.int z3, .int x1]) (rest := [.int z2]) hr rfl rfl rfl rfl rfl rfl rfl rfl rfl rfl rfl rfl (fun rv s1 hq => ev_kI hq (fun v2 e9 hr => ?_))
    subst e9
    refine ev_st (st' := [.int v2, .int z2]) rfl ?_
    refine ev_br (P := v2 = 0) (L' := [(0, .ref 58), (1, .int x1), (2, .int z2), (3, .int z3)]) (st' := [.int z2]) hr rfl rfl rfl (fun hr => ?_) (fun hr => ?_)
    · skip
      refine ev_seg 1 (k' := 17) (L' := [(0, .ref 58), (1, .int x1), (2, .int z2), (3, .int z3)]) (st' := [.int 0, .int z2]) rfl ?_
      refine ev_join (L' := [(0, .ref 58), (1, .int x1), (3, .int z3)]) [0, 1, 3] [0, 1, 2, 3] [0, 1, 3] rfl rfl (by decide) (by decide) rfl ?_
      exact hr
    · skip
      refine ev_seg 2 (k' := 17) (L' := [(0, .ref 58), (1, .int x1), (2, .int z2), (3, .int z3)]) (st' := [.int 1, .int z2]) rfl ?_
      refine ev_join (L' := [(0, .ref 58), (1, .int x1), (3, .int z3)]) [0, 1, 3] [0, 1, 2, 3] [0, 1, 3] rfl rfl (by decide) (by decide) rfl ?_
      exact hr
set_option maxRecDepth 20000 in
theorem eFl_filesOf_17 (d : Nat) (x1 : Int32) (z3 : Int32) (u0 : Int32) (u1 : Int32) (s : aT) : ∀ r, (fFl_filesOf_4 (d + 1) x1 (u1 + u0) (z3 + 1) s) = some r → fFl_filesOf_17 (d + 1) x1 z3 u0 u1 s = some r := by
  intro r hr
  show ev (d + 1) q_174 17 [(0, .ref 58), (1, .int x1), (3, .int z3)] [.int u0, .int u1] s = some r
  refine ev_seg 4 (k' := 4) (L' := [(3, .int (z3 + 1)), (2, .int (u1 + u0)), (0, .ref 58), (1, .int x1)]) (st' := []) rfl ?_
  refine ev_join (L' := [(0, .ref 58), (1, .int x1), (2, .int (u1 + u0)), (3, .int (z3 + 1))]) [2, 3, 1, 0] [3, 2, 0, 1] [0, 1, 2, 3] rfl rfl (by decide) (by decide) rfl ?_
  exact hr
set_option maxRecDepth 20000 in
theorem eFl_readFrom (d : Nat) (s : aT) : ∀ r, (cG (fFl_turnOf (d + 5) 0 s) (kI fun v2 s1 => cG (fFl_turnOf (d + 5) 1 s1) (kI fun v4 s3 => cP 911 [.int v2, .int v4] (fun v5 => cP 911 [.int 0, .int v5] (fun v6 => wI s3 58 6 v6 (fun s7 => wI s7 58 5 0 (fun s8 => if gI s8 58 6 ≤ 0 then rV s8 else cG (fFl_readFiles (d + 5) 57 (((gI s8 58 6) - (gI s8 58 6) / 2 * 2) * 256) s8) (kV fun s9 => rV s9)))))))) = some r → fFl_readFrom (d + 6) s = some r := by
  intro r hr
  show ev (d + 6) q_182 0 [(0, .ref 58), (1, .ref 56)] [] s = some r
  refine ev_seg 2 (k' := 2) (L' := [(0, .ref 58), (1, .ref 56)]) (st' := [.int 0, .ref 56]) rfl ?_
  refine ev_callS (q' := q_183) (x := 183) (vs := [.ref 56, .int 0]) (rest := []) hr rfl rfl rfl rfl rfl rfl rfl rfl rfl rfl (fun rv s1 hq => ev_kI hq (fun v2 e9 hr => ?_))
  subst e9
  refine ev_st (st' := [.int v2]) rfl ?_
  refine ev_seg 3 (k' := 6) (L' := [(2, .int v2), (0, .ref 58), (1, .ref 56)]) (st' := [.int 1, .ref 56]) rfl ?_
  refine ev_callS (q' := q_183) (x := 183) (vs := [.ref 56, .int 1]) (rest := []) hr rfl rfl rfl rfl rfl rfl rfl rfl rfl rfl (fun rv s3 hq => ev_kI hq (fun v4 e9 hr => ?_))
  subst e9
  refine ev_st (st' := [.int v4]) rfl ?_
  refine ev_seg 5 (k' := 12) (L' := [(3, .int v4), (2, .int v2), (0, .ref 58), (1, .ref 56)]) (st' := [.int v4, .int v2, .int 0, .ref 58]) rfl ?_
  refine ev_primS (x := 911) (As := [.int v2, .int v4]) (rest := [.int 0, .ref 58]) hr rfl rfl rfl rfl rfl (fun v5 hr => ?_)
  refine ev_primS (x := 911) (As := [.int 0, .int v5]) (rest := [.ref 58]) hr rfl rfl rfl rfl rfl (fun v6 hr => ?_)
  refine ev_putI (c := 58) hr rfl rfl rfl (fun s7 hr => ?_)
  refine ev_seg 2 (k' := 17) (L' := [(3, .int v4), (2, .int v2), (0, .ref 58), (1, .ref 56)]) (st' := [.int 0, .ref 58]) rfl ?_
  refine ev_putI (c := 58) hr rfl rfl rfl (fun s8 hr => ?_)
  refine ev_seg 2 (k' := 20) (L' := [(3, .int v4), (2, .int v2), (0, .ref 58), (1, .ref 56)]) (st' := [.int (gI s8 58 6)]) rfl ?_
  refine ev_br (P := gI s8 58 6 ≤ 0) (L' := [(3, .int v4), (2, .int v2), (0, .ref 58), (1, .ref 56)]) (st' := []) hr rfl rfl rfl (fun hr => ?_) (fun hr => ?_)
  · skip
    exact ev_vret hr rfl rfl
  · skip
    refine ev_seg 9 (k' := 30) (L' := [(3, .int v4), (2, .int v2), (0, .ref 58), (1, .ref 56)]) (st' := [.int (((gI s8 58 6) - (gI s8 58 6) / 2 * 2) * 256), .ref 57, .ref 58]) rfl ?_
    refine ev_callV (q' := q_185) (x := 185) (y := 10) (c := 58) (As := [.ref 57, .int (((gI s8 58 6) - (gI s8 58 6) / 2 * 2) * 256)]) (rest := []) hr rfl rfl rfl rfl rfl rfl rfl rfl rfl rfl rfl rfl (fun rv s9 hq => ev_kV hq (fun e9 hr => ?_))
    subst e9
    refine ev_st (st' := []) rfl ?_
    exact ev_vret hr rfl rfl
set_option maxRecDepth 20000 in
theorem eFl_turnOf (d : Nat) (x1 : Int32) (s : aT) : ∀ r, (cG (fFl_number d 57 (x1 * 256) 4 s) (kI fun v2 s1 => cG (fFl_number d 57 ((x1 * 256) + 252) 4 s1) (kI fun v4 s3 => if ¬ v2 = v4 then rI (-1) s3 else rI v2 s3))) = some r → fFl_turnOf (d + 1) x1 s = some r := by
  intro r hr
  show ev (d + 1) q_183 0 [(0, .ref 56), (1, .int x1)] [] s = some r
  refine ev_seg 8 (k' := 8) (L' := [(2, .int (x1 * 256)), (0, .ref 56), (1, .int x1)]) (st' := [.int 4, .int (x1 * 256), .ref 57]) rfl ?_
  refine ev_callS (q' := q_184) (x := 184) (vs := [.ref 57, .int (x1 * 256), .int 4]) (rest := []) hr rfl rfl rfl rfl rfl rfl rfl rfl rfl rfl (fun rv s1 hq => ev_kI hq (fun v2 e9 hr => ?_))
  subst e9
  refine ev_st (st' := [.int v2]) rfl ?_
  refine ev_seg 8 (k' := 17) (L' := [(3, .int v2), (2, .int (x1 * 256)), (0, .ref 56), (1, .int x1)]) (st' := [.int 4, .int ((x1 * 256) + 252), .ref 57, .int v2]) rfl ?_
  refine ev_callS (q' := q_184) (x := 184) (vs := [.ref 57, .int ((x1 * 256) + 252), .int 4]) (rest := [.int v2]) hr rfl rfl rfl rfl rfl rfl rfl rfl rfl rfl (fun rv s3 hq => ev_kI hq (fun v4 e9 hr => ?_))
  subst e9
  refine ev_st (st' := [.int v4, .int v2]) rfl ?_
  refine ev_br (P := ¬ v2 = v4) (L' := [(3, .int v2), (2, .int (x1 * 256)), (0, .ref 56), (1, .int x1)]) (st' := []) hr rfl rfl rfl (fun hr => ?_) (fun hr => ?_)
  · skip
    refine ev_seg 1 (k' := 22) (L' := [(3, .int v2), (2, .int (x1 * 256)), (0, .ref 56), (1, .int x1)]) (st' := [.int (-1)]) rfl ?_
    exact ev_iret hr rfl rfl rfl
  · skip
    refine ev_seg 2 (k' := 22) (L' := [(3, .int v2), (2, .int (x1 * 256)), (0, .ref 56), (1, .int x1)]) (st' := [.int v2]) rfl ?_
    exact ev_iret hr rfl rfl rfl
set_option maxRecDepth 20000 in
theorem eFl_number (d : Nat) (a0 : Nat) (x1 : Int32) (x2 : Int32) (s : aT) : ∀ r, (fFl_number_4 d a0 x1 x2 0 0 s) = some r → fFl_number d a0 x1 x2 s = some r := by
  intro r hr
  show ev d q_184 0 [(0, .ref a0), (1, .int x1), (2, .int x2)] [] s = some r
  refine ev_seg 4 (k' := 4) (L' := [(4, .int 0), (3, .int 0), (0, .ref a0), (1, .int x1), (2, .int x2)]) (st' := []) rfl ?_
  refine ev_join (L' := [(0, .ref a0), (1, .int x1), (2, .int x2), (3, .int 0), (4, .int 0)]) [2, 3, 4, 1, 0] [4, 3, 0, 1, 2] [0, 1, 2, 3, 4] rfl rfl (by decide) (by decide) rfl ?_
  exact hr
set_option maxRecDepth 20000 in
theorem eFl_number_4 (d : Nat) (a0 : Nat) (x1 : Int32) (x2 : Int32) (z3 : Int32) (z4 : Int32) (s : aT) : ∀ r, (if x2 ≤ z4 then rI z3 s else ldI (alen a0) s a0 (x1 + z4) (fun v1 => fFl_number_4 d a0 x1 x2 ((z3 <<< (8 &&& 31)) ||| (v1 &&& 255)) (z4 + 1) s)) = some r → fFl_number_4 d a0 x1 x2 z3 z4 s = some r := by
  intro r hr
  show ev d q_184 4 [(0, .ref a0), (1, .int x1), (2, .int x2), (3, .int z3), (4, .int z4)] [] s = some r
  refine ev_seg 2 (k' := 6) (L' := [(0, .ref a0), (1, .int x1), (2, .int x2), (3, .int z3), (4, .int z4)]) (st' := [.int x2, .int z4]) rfl ?_
  refine ev_br (P := x2 ≤ z4) (L' := [(0, .ref a0), (1, .int x1), (2, .int x2), (3, .int z3), (4, .int z4)]) (st' := []) hr rfl rfl rfl (fun hr => ?_) (fun hr => ?_)
  · skip
    refine ev_seg 1 (k' := 22) (L' := [(0, .ref a0), (1, .int x1), (2, .int x2), (3, .int z3), (4, .int z4)]) (st' := [.int z3]) rfl ?_
    exact ev_iret hr rfl rfl rfl
  · skip
    refine ev_seg 7 (k' := 14) (L' := [(0, .ref a0), (1, .int x1), (2, .int x2), (3, .int z3), (4, .int z4)]) (st' := [.int (x1 + z4), .ref a0, .int (z3 <<< (8 &&& 31))]) rfl ?_
    refine ev_ldX hr rfl (fun v1 hr => ?_)
    refine ev_seg 6 (k' := 4) (L' := [(4, .int (z4 + 1)), (3, .int ((z3 <<< (8 &&& 31)) ||| (v1 &&& 255))), (0, .ref a0), (1, .int x1), (2, .int x2)]) (st' := []) rfl ?_
    refine ev_join (L' := [(0, .ref a0), (1, .int x1), (2, .int x2), (3, .int ((z3 <<< (8 &&& 31)) ||| (v1 &&& 255))), (4, .int (z4 + 1))]) [2, 3, 4, 1, 0] [4, 3, 0, 1, 2] [0, 1, 2, 3, 4] rfl rfl (by decide) (by decide) rfl ?_
    exact hr
set_option maxRecDepth 20000 in
theorem eFl_readFiles (d : Nat) (a1 : Nat) (x2 : Int32) (s : aT) : ∀ r, (cG (fFl_number d a1 (x2 + 4) 1 s) (kI fun v2 s1 => fFl_readFiles_9 (d + 1) a1 x2 v2 0 s1)) = some r → fFl_readFiles (d + 1) a1 x2 s = some r := by
  intro r hr
  show ev (d + 1) q_185 0 [(0, .ref 58), (1, .ref a1), (2, .int x2)] [] s = some r
  refine ev_seg 5 (k' := 5) (L' := [(0, .ref 58), (1, .ref a1), (2, .int x2)]) (st' := [.int 1, .int (x2 + 4), .ref a1]) rfl ?_
  refine ev_callS (q' := q_184) (x := 184) (vs := [.ref a1, .int (x2 + 4), .int 1]) (rest := []) hr rfl rfl rfl rfl rfl rfl rfl rfl rfl rfl (fun rv s1 hq => ev_kI hq (fun v2 e9 hr => ?_))
  subst e9
  refine ev_st (st' := [.int v2]) rfl ?_
  refine ev_seg 3 (k' := 9) (L' := [(4, .int 0), (3, .int v2), (0, .ref 58), (1, .ref a1), (2, .int x2)]) (st' := []) rfl ?_
  refine ev_join (L' := [(0, .ref 58), (1, .ref a1), (2, .int x2), (3, .int v2), (4, .int 0)]) [2, 3, 4, 1, 0] [4, 3, 0, 1, 2] [0, 1, 2, 3, 4] rfl rfl (by decide) (by decide) rfl ?_
  exact hr
set_option maxRecDepth 20000 in
theorem eFl_readFiles_9 (d : Nat) (a1 : Nat) (x2 : Int32) (z3 : Int32) (z4 : Int32) (s : aT) : ∀ r, (if z3 ≤ z4 then rV s else if 40 ≤ z4 then rV s else cG (fFl_number d a1 ((x2 + 5) + (z4 * 6)) 1 s) (kI fun v2 s1 => cG (fFl_number d a1 (((x2 + 5) + (z4 * 6)) + 4) 2 s1) (kI fun v4 s3 => cG (fFl_number d a1 (((x2 + 5) + (z4 * 6)) + 1) 1 s3) (kI fun v6 s5 => cG (fFl_number d a1 (((x2 + 5) + (z4 * 6)) + 2) 2 s5) (kI fun v8 s7 => if ¬ v4 = 0 then fFl_readFiles_59 (d + 1) a1 x2 z3 z4 v4 v8 v6 (v2 - v2 / 16 * 16) (v2 / 16) s7 else fFl_readFiles_59 (d + 1) a1 x2 z3 z4 (-1) v8 v6 (v2 - v2 / 16 * 16) (v2 / 16) s7))))) = some r → fFl_readFiles_9 (d + 1) a1 x2 z3 z4 s = some r := by
  intro r hr
  show ev (d + 1) q_185 9 [(0, .ref 58), (1, .ref a1), (2, .int x2), (3, .int z3), (4, .int z4)] [] s = some r
  refine ev_seg 2 (k' := 11) (L' := [(0, .ref 58), (1, .ref a1), (2, .int x2), (3, .int z3), (4, .int z4)]) (st' := [.int z3, .int z4]) rfl ?_
  refine ev_br (P := z3 ≤ z4) (L' := [(0, .ref 58), (1, .ref a1), (2, .int x2), (3, .int z3), (4, .int z4)]) (st' := []) hr rfl rfl rfl (fun hr => ?_) (fun hr => ?_)
  · skip
    exact ev_vret hr rfl rfl
  · skip
    refine ev_seg 2 (k' := 14) (L' := [(0, .ref 58), (1, .ref a1), (2, .int x2), (3, .int z3), (4, .int z4)]) (st' := [.int 40, .int z4]) rfl ?_
    refine ev_br (P := 40 ≤ z4) (L' := [(0, .ref 58), (1, .ref a1), (2, .int x2), (3, .int z3), (4, .int z4)]) (st' := []) hr rfl rfl rfl (fun hr => ?_) (fun hr => ?_)
    · skip
      exact ev_vret hr rfl rfl
    · skip
      refine ev_seg 11 (k' := 26) (L' := [(5, .int ((x2 + 5) + (z4 * 6))), (0, .ref 58), (1, .ref a1), (2, .int x2), (3, .int z3), (4, .int z4)]) (st' := [.int 1, .int ((x2 + 5) + (z4 * 6)), .ref a1]) rfl ?_
      refine ev_callS (q' := q_184) (x := 184) (vs := [.ref a1, .int ((x2 + 5) + (z4 * 6)), .int 1]) (rest := []) hr rfl rfl rfl rfl rfl rfl rfl rfl rfl rfl (fun rv s1 hq => ev_kI hq (fun v2 e9 hr => ?_))
      subst e9
      refine ev_st (st' := [.int v2]) rfl ?_
      refine ev_seg 6 (k' := 33) (L' := [(6, .int v2), (5, .int ((x2 + 5) + (z4 * 6))), (0, .ref 58), (1, .ref a1), (2, .int x2), (3, .int z3), (4, .int z4)]) (st' := [.int 2, .int (((x2 + 5) + (z4 * 6)) + 4), .ref a1]) rfl ?_
      refine ev_callS (q' := q_184) (x := 184) (vs := [.ref a1, .int (((x2 + 5) + (z4 * 6)) + 4), .int 2]) (rest := []) hr rfl rfl rfl rfl rfl rfl rfl rfl rfl rfl (fun rv s3 hq => ev_kI hq (fun v4 e9 hr => ?_))
      subst e9
      refine ev_st (st' := [.int v4]) rfl ?_
      refine ev_seg 13 (k' := 47) (L' := [(7, .int v4), (6, .int v2), (5, .int ((x2 + 5) + (z4 * 6))), (0, .ref 58), (1, .ref a1), (2, .int x2), (3, .int z3), (4, .int z4)]) (st' := [.int 1, .int (((x2 + 5) + (z4 * 6)) + 1), .ref a1, .int (v2 - v2 / 16 * 16), .int (v2 / 16), .ref 58]) rfl ?_
      refine ev_callS (q' := q_184) (x := 184) (vs := [.ref a1, .int (((x2 + 5) + (z4 * 6)) + 1), .int 1]) (rest := [.int (v2 - v2 / 16 * 16), .int (v2 / 16), .ref 58]) hr rfl rfl rfl rfl rfl rfl rfl rfl rfl rfl (fun rv s5 hq => ev_kI hq (fun v6 e9 hr => ?_))
      subst e9
      refine ev_st (st' := [.int v6, .int (v2 - v2 / 16 * 16), .int (v2 / 16), .ref 58]) rfl ?_
      refine ev_seg 5 (k' := 53) (L' := [(7, .int v4), (6, .int v2), (5, .int ((x2 + 5) + (z4 * 6))), (0, .ref 58), (1, .ref a1), (2, .int x2), (3, .int z3), (4, .int z4)]) (st' := [.int 2, .int (((x2 + 5) + (z4 * 6)) + 2), .ref a1, .int v6, .int (v2 - v2 / 16 * 16), .int (v2 / 16), .ref 58]) rfl ?_
      refine ev_callS (q' := q_184) (x := 184) (vs := [.ref a1, .int (((x2 + 5) + (z4 * 6)) + 2), .int 2]) (rest := [.int v6, .int (v2 - v2 / 16 * 16), .int (v2 / 16), .ref 58]) hr rfl rfl rfl rfl rfl rfl rfl rfl rfl rfl (fun rv s7 hq => ev_kI hq (fun v8 e9 hr => ?_))
      subst e9
      refine ev_st (st' := [.int v8, .int v6, .int (v2 - v2 / 16 * 16), .int (v2 / 16), .ref 58]) rfl ?_
      refine ev_seg 1 (k' := 55) (L' := [(7, .int v4), (6, .int v2), (5, .int ((x2 + 5) + (z4 * 6))), (0, .ref 58), (1, .ref a1), (2, .int x2), (3, .int z3), (4, .int z4)]) (st' := [.int v4, .int v8, .int v6, .int (v2 - v2 / 16 * 16), .int (v2 / 16), .ref 58]) rfl ?_
      refine ev_br (P := ¬ v4 = 0) (L' := [(7, .int v4), (6, .int v2), (5, .int ((x2 + 5) + (z4 * 6))), (0, .ref 58), (1, .ref a1), (2, .int x2), (3, .int z3), (4, .int z4)]) (st' := [.int v8, .int v6, .int (v2 - v2 / 16 * 16), .int (v2 / 16), .ref 58]) hr rfl rfl rfl (fun hr => ?_) (fun hr => ?_)
      · skip
        refine ev_seg 1 (k' := 59) (L' := [(7, .int v4), (6, .int v2), (5, .int ((x2 + 5) + (z4 * 6))), (0, .ref 58), (1, .ref a1), (2, .int x2), (3, .int z3), (4, .int z4)]) (st' := [.int v4, .int v8, .int v6, .int (v2 - v2 / 16 * 16), .int (v2 / 16), .ref 58]) rfl ?_
        refine ev_join (L' := [(0, .ref 58), (1, .ref a1), (2, .int x2), (3, .int z3), (4, .int z4)]) [3, 4, 5, 6, 7] [7, 6, 5, 0, 1, 2, 3, 4] [0, 1, 2, 3, 4] rfl rfl (by decide) (by decide) rfl ?_
        exact hr
      · skip
        refine ev_seg 2 (k' := 59) (L' := [(7, .int v4), (6, .int v2), (5, .int ((x2 + 5) + (z4 * 6))), (0, .ref 58), (1, .ref a1), (2, .int x2), (3, .int z3), (4, .int z4)]) (st' := [.int (-1), .int v8, .int v6, .int (v2 - v2 / 16 * 16), .int (v2 / 16), .ref 58]) rfl ?_
        refine ev_join (L' := [(0, .ref 58), (1, .ref a1), (2, .int x2), (3, .int z3), (4, .int z4)]) [3, 4, 5, 6, 7] [7, 6, 5, 0, 1, 2, 3, 4] [0, 1, 2, 3, 4] rfl rfl (by decide) (by decide) rfl ?_
        exact hr
set_option maxRecDepth 20000 in
theorem eFl_readFiles_59 (d : Nat) (a1 : Nat) (x2 : Int32) (z3 : Int32) (z4 : Int32) (u0 : Int32) (u1 : Int32) (u2 : Int32) (u3 : Int32) (u4 : Int32) (s : aT) : ∀ r, (cG (fFl_add d u4 u3 u2 u1 u0 s) (kV fun s1 => fFl_readFiles_9 (d + 1) a1 x2 z3 (z4 + 1) s1)) = some r → fFl_readFiles_59 (d + 1) a1 x2 z3 z4 u0 u1 u2 u3 u4 s = some r := by
  intro r hr
  show ev (d + 1) q_185 59 [(0, .ref 58), (1, .ref a1), (2, .int x2), (3, .int z3), (4, .int z4)] [.int u0, .int u1, .int u2, .int u3, .int u4, .ref 58] s = some r
  refine ev_callV (q' := q_111) (x := 111) (y := 10) (c := 58) (As := [.int u4, .int u3, .int u2, .int u1, .int u0]) (rest := []) hr rfl rfl rfl rfl rfl rfl rfl rfl rfl rfl rfl rfl (fun rv s1 hq => ev_kV hq (fun e9 hr => ?_))
  subst e9
  refine ev_st (st' := []) rfl ?_
  refine ev_seg 2 (k' := 9) (L' := [(4, .int (z4 + 1)), (0, .ref 58), (1, .ref a1), (2, .int x2), (3, .int z3)]) (st' := []) rfl ?_
  refine ev_join (L' := [(0, .ref 58), (1, .ref a1), (2, .int x2), (3, .int z3), (4, .int (z4 + 1))]) [1, 2, 3, 4, 0] [4, 0, 1, 2, 3] [0, 1, 2, 3, 4] rfl rfl (by decide) (by decide) rfl ?_
  exact hr
