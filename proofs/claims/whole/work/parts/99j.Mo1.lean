/-! RecordLakeModel: what its pieces do -/
set_option maxRecDepth 20000 in
theorem eMo_blocksOf (d : Nat) (x0 : Int32) (s : aT) : ∀ r, (if 1 ≤ x0 then rI (((x0 + 256) - 1) / 256) s else rI 1 s) = some r → fMo_blocksOf d x0 s = some r := by
  intro r hr
  show ev d q_246 0 [(0, .int x0)] [] s = some r
  refine ev_seg 2 (k' := 2) (L' := [(0, .int x0)]) (st' := [.int 1, .int x0]) rfl ?_
  refine ev_br (P := 1 ≤ x0) (L' := [(0, .int x0)]) (st' := []) hr rfl rfl rfl (fun hr => ?_) (fun hr => ?_)
  · skip
    refine ev_seg 7 (k' := 12) (L' := [(0, .int x0)]) (st' := [.int (((x0 + 256) - 1) / 256)]) rfl ?_
    exact ev_iret hr rfl rfl rfl
  · skip
    refine ev_seg 2 (k' := 12) (L' := [(0, .int x0)]) (st' := [.int 1]) rfl ?_
    exact ev_iret hr rfl rfl rfl
set_option maxRecDepth 20000 in
theorem eMo_room (d : Nat) (x1 : Int32) (s : aT) : ∀ r, (fMo_room_2 (d + 1) x1 2 s) = some r → fMo_room (d + 1) x1 s = some r := by
  intro r hr
  show ev (d + 1) q_247 0 [(0, .ref 67), (1, .int x1)] [] s = some r
  refine ev_seg 2 (k' := 2) (L' := [(2, .int 2), (0, .ref 67), (1, .int x1)]) (st' := []) rfl ?_
  refine ev_join (L' := [(0, .ref 67), (1, .int x1), (2, .int 2)]) [1, 2, 0] [2, 0, 1] [0, 1, 2] rfl rfl (by decide) (by decide) rfl ?_
  exact hr
set_option maxRecDepth 20000 in
theorem eMo_room_2 (d : Nat) (x1 : Int32) (z2 : Int32) (s : aT) : ∀ r, (if 128 < z2 + x1 then rI (-1) s else fMo_room_11 (d + 1) x1 z2 1 0 s) = some r → fMo_room_2 (d + 1) x1 z2 s = some r := by
  intro r hr
  show ev (d + 1) q_247 2 [(0, .ref 67), (1, .int x1), (2, .int z2)] [] s = some r
  refine ev_seg 4 (k' := 6) (L' := [(0, .ref 67), (1, .int x1), (2, .int z2)]) (st' := [.int 128, .int (z2 + x1)]) rfl ?_
  refine ev_br (P := 128 < z2 + x1) (L' := [(0, .ref 67), (1, .int x1), (2, .int z2)]) (st' := []) hr rfl rfl rfl (fun hr => ?_) (fun hr => ?_)
  · skip
    refine ev_seg 1 (k' := 50) (L' := [(0, .ref 67), (1, .int x1), (2, .int z2)]) (st' := [.int (-1)]) rfl ?_
    exact ev_iret hr rfl rfl rfl
  · skip
    refine ev_seg 4 (k' := 11) (L' := [(4, .int 0), (3, .int 1), (0, .ref 67), (1, .int x1), (2, .int z2)]) (st' := []) rfl ?_
    refine ev_join (L' := [(0, .ref 67), (1, .int x1), (2, .int z2), (3, .int 1), (4, .int 0)]) [2, 3, 4, 1, 0] [4, 3, 0, 1, 2] [0, 1, 2, 3, 4] rfl rfl (by decide) (by decide) rfl ?_
    exact hr
set_option maxRecDepth 20000 in
theorem eMo_room_11 (d : Nat) (x1 : Int32) (z2 : Int32) (z3 : Int32) (z4 : Int32) (s : aT) : ∀ r, (if gI s 67 13 ≤ z4 then if z3 = 0 then fMo_room_2 (d + 1) x1 (z2 + 1) s else rI z2 s else if z3 = 0 then fMo_room_39 (d + 1) x1 z2 z4 s else ldI 41 s 139 z4 (fun v1 => if z2 + x1 ≤ v1 then fMo_room_37 (d + 1) x1 z2 z4 s else ldI 41 s 139 z4 (fun v2 => ldI 41 s 140 z4 (fun v3 => cG (fMo_blocksOf d v3 s) (kI fun v5 s4 => if z2 < v2 + v5 then fMo_room_39 (d + 1) x1 z2 z4 s4 else fMo_room_37 (d + 1) x1 z2 z4 s4))))) = some r → fMo_room_11 (d + 1) x1 z2 z3 z4 s = some r := by
  intro r hr
  show ev (d + 1) q_247 11 [(0, .ref 67), (1, .int x1), (2, .int z2), (3, .int z3), (4, .int z4)] [] s = some r
  refine ev_seg 3 (k' := 14) (L' := [(0, .ref 67), (1, .int x1), (2, .int z2), (3, .int z3), (4, .int z4)]) (st' := [.int (gI s 67 13), .int z4]) rfl ?_
  refine ev_br (P := gI s 67 13 ≤ z4) (L' := [(0, .ref 67), (1, .int x1), (2, .int z2), (3, .int z3), (4, .int z4)]) (st' := []) hr rfl rfl rfl (fun hr => ?_) (fun hr => ?_)
  · skip
    refine ev_seg 1 (k' := 44) (L' := [(0, .ref 67), (1, .int x1), (2, .int z2), (3, .int z3), (4, .int z4)]) (st' := [.int z3]) rfl ?_
    refine ev_br (P := z3 = 0) (L' := [(0, .ref 67), (1, .int x1), (2, .int z2), (3, .int z3), (4, .int z4)]) (st' := []) hr rfl rfl rfl (fun hr => ?_) (fun hr => ?_)
    · skip
      refine ev_seg 2 (k' := 2) (L' := [(2, .int (z2 + 1)), (0, .ref 67), (1, .int x1), (3, .int z3), (4, .int z4)]) (st' := []) rfl ?_
      refine ev_join (L' := [(0, .ref 67), (1, .int x1), (2, .int (z2 + 1))]) [1, 2, 0] [2, 0, 1, 3, 4] [0, 1, 2] rfl rfl (by decide) (by decide) rfl ?_
      exact hr
    · skip
      refine ev_seg 1 (k' := 46) (L' := [(0, .ref 67), (1, .int x1), (2, .int z2), (3, .int z3), (4, .int z4)]) (st' := [.int z2]) rfl ?_
      exact ev_iret hr rfl rfl rfl
  · skip
    refine ev_seg 1 (k' := 16) (L' := [(0, .ref 67), (1, .int x1), (2, .int z2), (3, .int z3), (4, .int z4)]) (st' := [.int z3]) rfl ?_
    refine ev_br (P := z3 = 0) (L' := [(0, .ref 67), (1, .int x1), (2, .int z2), (3, .int z3), (4, .int z4)]) (st' := []) hr rfl rfl rfl (fun hr => ?_) (fun hr => ?_)
    · skip
      refine ev_join (L' := [(0, .ref 67), (1, .int x1), (2, .int z2), (4, .int z4)]) [0, 1, 2, 4] [0, 1, 2, 3, 4] [0, 1, 2, 4] rfl rfl (by decide) (by decide) rfl ?_
      exact hr
    · skip
      refine ev_seg 3 (k' := 20) (L' := [(0, .ref 67), (1, .int x1), (2, .int z2), (3, .int z3), (4, .int z4)]) (st' := [.int z4, .ref 139]) rfl ?_
      refine ev_ldI hr rfl rfl (fun v1 hr => ?_)
      refine ev_seg 3 (k' := 24) (L' := [(0, .ref 67), (1, .int x1), (2, .int z2), (3, .int z3), (4, .int z4)]) (st' := [.int (z2 + x1), .int v1]) rfl ?_
      refine ev_br (P := z2 + x1 ≤ v1) (L' := [(0, .ref 67), (1, .int x1), (2, .int z2), (3, .int z3), (4, .int z4)]) (st' := []) hr rfl rfl rfl (fun hr => ?_) (fun hr => ?_)
      · skip
        refine ev_join (L' := [(0, .ref 67), (1, .int x1), (2, .int z2), (4, .int z4)]) [0, 1, 2, 4] [0, 1, 2, 3, 4] [0, 1, 2, 4] rfl rfl (by decide) (by decide) rfl ?_
        exact hr
      · skip
        refine ev_seg 3 (k' := 28) (L' := [(0, .ref 67), (1, .int x1), (2, .int z2), (3, .int z3), (4, .int z4)]) (st' := [.int z4, .ref 139]) rfl ?_
        refine ev_ldI hr rfl rfl (fun v2 hr => ?_)
        refine ev_seg 3 (k' := 32) (L' := [(0, .ref 67), (1, .int x1), (2, .int z2), (3, .int z3), (4, .int z4)]) (st' := [.int z4, .ref 140, .int v2]) rfl ?_
        refine ev_ldI hr rfl rfl (fun v3 hr => ?_)
        refine ev_callS (q' := q_246) (x := 246) (vs := [.int v3]) (rest := [.int v2]) hr rfl rfl rfl rfl rfl rfl rfl rfl rfl rfl (fun rv s4 hq => ev_kI hq (fun v5 e9 hr => ?_))
        subst e9
        refine ev_st (st' := [.int v5, .int v2]) rfl ?_
        refine ev_seg 2 (k' := 36) (L' := [(0, .ref 67), (1, .int x1), (2, .int z2), (3, .int z3), (4, .int z4)]) (st' := [.int z2, .int (v2 + v5)]) rfl ?_
        refine ev_br (P := z2 < v2 + v5) (L' := [(0, .ref 67), (1, .int x1), (2, .int z2), (3, .int z3), (4, .int z4)]) (st' := []) hr rfl rfl rfl (fun hr => ?_) (fun hr => ?_)
        · skip
          refine ev_join (L' := [(0, .ref 67), (1, .int x1), (2, .int z2), (4, .int z4)]) [0, 1, 2, 4] [0, 1, 2, 3, 4] [0, 1, 2, 4] rfl rfl (by decide) (by decide) rfl ?_
          exact hr
        · skip
          refine ev_join (L' := [(0, .ref 67), (1, .int x1), (2, .int z2), (4, .int z4)]) [0, 1, 2, 4] [0, 1, 2, 3, 4] [0, 1, 2, 4] rfl rfl (by decide) (by decide) rfl ?_
          exact hr
set_option maxRecDepth 20000 in
theorem eMo_room_39 (d : Nat) (x1 : Int32) (z2 : Int32) (z4 : Int32) (s : aT) : ∀ r, (fMo_room_40 (d + 1) x1 z2 z4 0 s) = some r → fMo_room_39 (d + 1) x1 z2 z4 s = some r := by
  intro r hr
  show ev (d + 1) q_247 39 [(0, .ref 67), (1, .int x1), (2, .int z2), (4, .int z4)] [] s = some r
  refine ev_seg 1 (k' := 40) (L' := [(0, .ref 67), (1, .int x1), (2, .int z2), (4, .int z4)]) (st' := [.int 0]) rfl ?_
  exact hr
set_option maxRecDepth 20000 in
theorem eMo_room_37 (d : Nat) (x1 : Int32) (z2 : Int32) (z4 : Int32) (s : aT) : ∀ r, (fMo_room_40 (d + 1) x1 z2 z4 1 s) = some r → fMo_room_37 (d + 1) x1 z2 z4 s = some r := by
  intro r hr
  show ev (d + 1) q_247 37 [(0, .ref 67), (1, .int x1), (2, .int z2), (4, .int z4)] [] s = some r
  refine ev_seg 2 (k' := 40) (L' := [(0, .ref 67), (1, .int x1), (2, .int z2), (4, .int z4)]) (st' := [.int 1]) rfl ?_
  exact hr
set_option maxRecDepth 20000 in
theorem eMo_room_40 (d : Nat) (x1 : Int32) (z2 : Int32) (z4 : Int32) (u0 : Int32) (s : aT) : ∀ r, (fMo_room_11 (d + 1) x1 z2 u0 (z4 + 1) s) = some r → fMo_room_40 (d + 1) x1 z2 z4 u0 s = some r := by
  intro r hr
  show ev (d + 1) q_247 40 [(0, .ref 67), (1, .int x1), (2, .int z2), (4, .int z4)] [.int u0] s = some r
  refine ev_seg 3 (k' := 11) (L' := [(4, .int (z4 + 1)), (3, .int u0), (0, .ref 67), (1, .int x1), (2, .int z2)]) (st' := []) rfl ?_
  refine ev_join (L' := [(0, .ref 67), (1, .int x1), (2, .int z2), (3, .int u0), (4, .int (z4 + 1))]) [2, 3, 4, 1, 0] [4, 3, 0, 1, 2] [0, 1, 2, 3, 4] rfl rfl (by decide) (by decide) rfl ?_
  exact hr
set_option maxRecDepth 20000 in
theorem eMo_writes (d : Nat) (x1 : Int32) (s : aT) : ∀ r, (if gI s 67 12 < 0 then fMo_writes_15 d x1 s else if x1 ≤ gI s 67 12 then fMo_writes_15 d x1 s else wI s 67 12 (-1) (fun s1 => wZ s1 67 11 1 (fun s2 => rI 0 s2))) = some r → fMo_writes d x1 s = some r := by
  intro r hr
  show ev d q_248 0 [(0, .ref 67), (1, .int x1)] [] s = some r
  refine ev_seg 2 (k' := 2) (L' := [(0, .ref 67), (1, .int x1)]) (st' := [.int (gI s 67 12)]) rfl ?_
  refine ev_br (P := gI s 67 12 < 0) (L' := [(0, .ref 67), (1, .int x1)]) (st' := []) hr rfl rfl rfl (fun hr => ?_) (fun hr => ?_)
  · skip
    exact hr
  · skip
    refine ev_seg 3 (k' := 6) (L' := [(0, .ref 67), (1, .int x1)]) (st' := [.int x1, .int (gI s 67 12)]) rfl ?_
    refine ev_br (P := x1 ≤ gI s 67 12) (L' := [(0, .ref 67), (1, .int x1)]) (st' := []) hr rfl rfl rfl (fun hr => ?_) (fun hr => ?_)
    · skip
      exact hr
    · skip
      refine ev_seg 2 (k' := 9) (L' := [(0, .ref 67), (1, .int x1)]) (st' := [.int (-1), .ref 67]) rfl ?_
      refine ev_putI (c := 67) hr rfl rfl rfl (fun s1 hr => ?_)
      refine ev_seg 2 (k' := 12) (L' := [(0, .ref 67), (1, .int x1)]) (st' := [.int 1, .ref 67]) rfl ?_
      refine ev_putZ (c := 67) hr rfl rfl rfl (fun s2 hr => ?_)
      refine ev_seg 1 (k' := 14) (L' := [(0, .ref 67), (1, .int x1)]) (st' := [.int 0]) rfl ?_
      exact ev_iret hr rfl rfl rfl
set_option maxRecDepth 20000 in
theorem eMo_writes_15 (d : Nat) (x1 : Int32) (s : aT) : ∀ r, (if 0 ≤ gI s 67 12 then wI s 67 12 ((gI s 67 12) - x1) (fun s1 => rI 1 s1) else wI s 67 12 (-1) (fun s2 => rI 1 s2)) = some r → fMo_writes_15 d x1 s = some r := by
  intro r hr
  show ev d q_248 15 [(0, .ref 67), (1, .int x1)] [] s = some r
  refine ev_seg 3 (k' := 18) (L' := [(0, .ref 67), (1, .int x1)]) (st' := [.int (gI s 67 12), .ref 67]) rfl ?_
  refine ev_br (P := 0 ≤ gI s 67 12) (L' := [(0, .ref 67), (1, .int x1)]) (st' := [.ref 67]) hr rfl rfl rfl (fun hr => ?_) (fun hr => ?_)
  · skip
    refine ev_seg 4 (k' := 25) (L' := [(0, .ref 67), (1, .int x1)]) (st' := [.int ((gI s 67 12) - x1), .ref 67]) rfl ?_
    refine ev_putI (c := 67) hr rfl rfl rfl (fun s1 hr => ?_)
    refine ev_seg 1 (k' := 27) (L' := [(0, .ref 67), (1, .int x1)]) (st' := [.int 1]) rfl ?_
    exact ev_iret hr rfl rfl rfl
  · skip
    refine ev_seg 2 (k' := 25) (L' := [(0, .ref 67), (1, .int x1)]) (st' := [.int (-1), .ref 67]) rfl ?_
    refine ev_putI (c := 67) hr rfl rfl rfl (fun s2 hr => ?_)
    refine ev_seg 1 (k' := 27) (L' := [(0, .ref 67), (1, .int x1)]) (st' := [.int 1]) rfl ?_
    exact ev_iret hr rfl rfl rfl
set_option maxRecDepth 20000 in
theorem eMo_look (d : Nat) (x1 : Int32) (x2 : Int32) (s : aT) : ∀ r, (cG (fMo_isSubject d x1 s) (kI fun v2 s1 => if v2 = 0 then fMo_look_12 (d + 1) x1 x2 s1 else if ¬ gI s1 67 11 = 0 then fMo_look_14 (d + 1) x1 x2 s1 else cG (fMo_isVersion d x1 x2 s1) (kI fun v4 s3 => if ¬ v4 = 0 then fMo_look_14 (d + 1) x1 x2 s3 else fMo_look_12 (d + 1) x1 x2 s3))) = some r → fMo_look (d + 1) x1 x2 s = some r := by
  intro r hr
  show ev (d + 1) q_249 0 [(0, .ref 67), (1, .int x1), (2, .int x2)] [] s = some r
  refine ev_seg 2 (k' := 2) (L' := [(0, .ref 67), (1, .int x1), (2, .int x2)]) (st' := [.int x1, .ref 67]) rfl ?_
  refine ev_callS (q' := q_233) (x := 233) (vs := [.int x1]) (rest := [.ref 67]) hr rfl rfl rfl rfl rfl rfl rfl rfl rfl rfl (fun rv s1 hq => ev_kI hq (fun v2 e9 hr => ?_))
  subst e9
  refine ev_st (st' := [.int v2, .ref 67]) rfl ?_
  refine ev_br (P := v2 = 0) (L' := [(0, .ref 67), (1, .int x1), (2, .int x2)]) (st' := [.ref 67]) hr rfl rfl rfl (fun hr => ?_) (fun hr => ?_)
  · skip
    exact hr
  · skip
    refine ev_seg 2 (k' := 6) (L' := [(0, .ref 67), (1, .int x1), (2, .int x2)]) (st' := [.int (gI s1 67 11), .ref 67]) rfl ?_
    refine ev_br (P := ¬ gI s1 67 11 = 0) (L' := [(0, .ref 67), (1, .int x1), (2, .int x2)]) (st' := [.ref 67]) hr rfl rfl rfl (fun hr => ?_) (fun hr => ?_)
    · skip
      exact hr
    · skip
      refine ev_seg 3 (k' := 10) (L' := [(0, .ref 67), (1, .int x1), (2, .int x2)]) (st' := [.int x2, .int x1, .ref 67, .ref 67]) rfl ?_
      refine ev_callV (q' := q_250) (x := 250) (y := 13) (c := 67) (As := [.int x1, .int x2]) (rest := [.ref 67]) hr rfl rfl rfl rfl rfl rfl rfl rfl rfl rfl rfl rfl (fun rv s3 hq => ev_kI hq (fun v4 e9 hr => ?_))
      subst e9
      refine ev_st (st' := [.int v4, .ref 67]) rfl ?_
      refine ev_br (P := ¬ v4 = 0) (L' := [(0, .ref 67), (1, .int x1), (2, .int x2)]) (st' := [.ref 67]) hr rfl rfl rfl (fun hr => ?_) (fun hr => ?_)
      · skip
        exact hr
      · skip
        exact hr
set_option maxRecDepth 20000 in
theorem eMo_look_12 (d : Nat) (x1 : Int32) (x2 : Int32) (s : aT) : ∀ r, (fMo_look_15 (d + 1) x1 x2 1 s) = some r → fMo_look_12 (d + 1) x1 x2 s = some r := by
  intro r hr
  show ev (d + 1) q_249 12 [(0, .ref 67), (1, .int x1), (2, .int x2)] [.ref 67] s = some r
  refine ev_seg 2 (k' := 15) (L' := [(0, .ref 67), (1, .int x1), (2, .int x2)]) (st' := [.int 1, .ref 67]) rfl ?_
  exact hr
set_option maxRecDepth 20000 in
theorem eMo_look_14 (d : Nat) (x1 : Int32) (x2 : Int32) (s : aT) : ∀ r, (fMo_look_15 (d + 1) x1 x2 0 s) = some r → fMo_look_14 (d + 1) x1 x2 s = some r := by
  intro r hr
  show ev (d + 1) q_249 14 [(0, .ref 67), (1, .int x1), (2, .int x2)] [.ref 67] s = some r
  refine ev_seg 1 (k' := 15) (L' := [(0, .ref 67), (1, .int x1), (2, .int x2)]) (st' := [.int 0, .ref 67]) rfl ?_
  exact hr
set_option maxRecDepth 20000 in
theorem eMo_look_15 (d : Nat) (x1 : Int32) (x2 : Int32) (u0 : Int32) (s : aT) : ∀ r, (cG (fMo_refused d u0 0 s) (kI fun v2 s1 => if v2 = 0 then if gI s1 67 11 = 0 then cG (fMo_readVersion d 91 x1 x2 s1) (kV fun s3 => cN (fMo_lookAtRows d 91 0 s3) (kI fun v5 s4 => rI v5 s4)) else rI (-33) s1 else rI 0 s1)) = some r → fMo_look_15 (d + 1) x1 x2 u0 s = some r := by
  intro r hr
  show ev (d + 1) q_249 15 [(0, .ref 67), (1, .int x1), (2, .int x2)] [.int u0, .ref 67] s = some r
  refine ev_seg 1 (k' := 16) (L' := [(0, .ref 67), (1, .int x1), (2, .int x2)]) (st' := [.int 0, .int u0, .ref 67]) rfl ?_
  refine ev_callV (q' := q_189) (x := 189) (y := 13) (c := 67) (As := [.int u0, .int 0]) (rest := []) hr rfl rfl rfl rfl rfl rfl rfl rfl rfl rfl rfl rfl (fun rv s1 hq => ev_kI hq (fun v2 e9 hr => ?_))
  subst e9
  refine ev_st (st' := [.int v2]) rfl ?_
  refine ev_br (P := v2 = 0) (L' := [(0, .ref 67), (1, .int x1), (2, .int x2)]) (st' := []) hr rfl rfl rfl (fun hr => ?_) (fun hr => ?_)
  · skip
    refine ev_seg 2 (k' := 22) (L' := [(0, .ref 67), (1, .int x1), (2, .int x2)]) (st' := [.int (gI s1 67 11)]) rfl ?_
    refine ev_br (P := gI s1 67 11 = 0) (L' := [(0, .ref 67), (1, .int x1), (2, .int x2)]) (st' := []) hr rfl rfl rfl (fun hr => ?_) (fun hr => ?_)
    · skip
      refine ev_seg 5 (k' := 30) (L' := [(0, .ref 67), (1, .int x1), (2, .int x2)]) (st' := [.int x2, .int x1, .ref 91, .ref 67]) rfl ?_
      refine ev_callV (q' := q_235) (x := 235) (y := 13) (c := 67) (As := [.ref 91, .int x1, .int x2]) (rest := []) hr rfl rfl rfl rfl rfl rfl rfl rfl rfl rfl rfl rfl (fun rv s3 hq => ev_kV hq (fun e9 hr => ?_))
      subst e9
      refine ev_st (st' := []) rfl ?_
      refine ev_seg 4 (k' := 35) (L' := [(0, .ref 67), (1, .int x1), (2, .int x2)]) (st' := [.int 0, .ref 91, .ref 67]) rfl ?_
      refine ev_callN (q' := q_251) (x := 251) (y := 13) (c := 67) (As := [.ref 91, .int 0]) (rest := []) hr rfl rfl rfl rfl rfl rfl rfl rfl rfl (fun rv s4 hq => ev_kI hq (fun v5 e9 hr => ?_))
      subst e9
      refine ev_st (st' := [.int v5]) rfl ?_
      exact ev_iret hr rfl rfl rfl
    · skip
      refine ev_seg 1 (k' := 24) (L' := [(0, .ref 67), (1, .int x1), (2, .int x2)]) (st' := [.int (-33)]) rfl ?_
      exact ev_iret hr rfl rfl rfl
  · skip
    refine ev_seg 1 (k' := 19) (L' := [(0, .ref 67), (1, .int x1), (2, .int x2)]) (st' := [.int 0]) rfl ?_
    exact ev_iret hr rfl rfl rfl
set_option maxRecDepth 20000 in
theorem eMo_isVersion (d : Nat) (x1 : Int32) (x2 : Int32) (s : aT) : ∀ r, (cG (fMo_isSubject d x1 s) (kI fun v2 s1 => if v2 = 0 then rI 0 s1 else cG (fMo_versionFile d x1 x2 s1) (kI fun v4 s3 => if v4 < 0 then rI 0 s3 else if x2 < 0 then rI 0 s3 else rI 1 s3))) = some r → fMo_isVersion (d + 1) x1 x2 s = some r := by
  intro r hr
  show ev (d + 1) q_250 0 [(0, .ref 67), (1, .int x1), (2, .int x2)] [] s = some r
  refine ev_seg 1 (k' := 1) (L' := [(0, .ref 67), (1, .int x1), (2, .int x2)]) (st' := [.int x1]) rfl ?_
  refine ev_callS (q' := q_233) (x := 233) (vs := [.int x1]) (rest := []) hr rfl rfl rfl rfl rfl rfl rfl rfl rfl rfl (fun rv s1 hq => ev_kI hq (fun v2 e9 hr => ?_))
  subst e9
  refine ev_st (st' := [.int v2]) rfl ?_
  refine ev_br (P := v2 = 0) (L' := [(0, .ref 67), (1, .int x1), (2, .int x2)]) (st' := []) hr rfl rfl rfl (fun hr => ?_) (fun hr => ?_)
  · skip
    refine ev_seg 1 (k' := 13) (L' := [(0, .ref 67), (1, .int x1), (2, .int x2)]) (st' := [.int 0]) rfl ?_
    exact ev_iret hr rfl rfl rfl
  · skip
    refine ev_seg 3 (k' := 6) (L' := [(0, .ref 67), (1, .int x1), (2, .int x2)]) (st' := [.int x2, .int x1, .ref 67]) rfl ?_
    refine ev_callV (q' := q_236) (x := 236) (y := 13) (c := 67) (As := [.int x1, .int x2]) (rest := []) hr rfl rfl rfl rfl rfl rfl rfl rfl rfl rfl rfl rfl (fun rv s3 hq => ev_kI hq (fun v4 e9 hr => ?_))
    subst e9
    refine ev_st (st' := [.int v4]) rfl ?_
    refine ev_br (P := v4 < 0) (L' := [(0, .ref 67), (1, .int x1), (2, .int x2)]) (st' := []) hr rfl rfl rfl (fun hr => ?_) (fun hr => ?_)
    · skip
      refine ev_seg 1 (k' := 13) (L' := [(0, .ref 67), (1, .int x1), (2, .int x2)]) (st' := [.int 0]) rfl ?_
      exact ev_iret hr rfl rfl rfl
    · skip
      refine ev_seg 1 (k' := 9) (L' := [(0, .ref 67), (1, .int x1), (2, .int x2)]) (st' := [.int x2]) rfl ?_
      refine ev_br (P := x2 < 0) (L' := [(0, .ref 67), (1, .int x1), (2, .int x2)]) (st' := []) hr rfl rfl rfl (fun hr => ?_) (fun hr => ?_)
      · skip
        refine ev_seg 1 (k' := 13) (L' := [(0, .ref 67), (1, .int x1), (2, .int x2)]) (st' := [.int 0]) rfl ?_
        exact ev_iret hr rfl rfl rfl
      · skip
        refine ev_seg 2 (k' := 13) (L' := [(0, .ref 67), (1, .int x1), (2, .int x2)]) (st' := [.int 1]) rfl ?_
        exact ev_iret hr rfl rfl rfl
set_option maxRecDepth 20000 in
theorem eMo_lookAtRows (d : Nat) (t1 : Nat) (x2 : Int32) (s : aT) (ht1 : isT t1) : ∀ r, (wI s 67 23 0 (fun s1 => wI s1 67 22 0 (fun s2 => wI s2 67 3 (-1) (fun s3 => if ¬ gI s3 67 2 = 0 then fMo_lookAtRows_16 (d + 1) t1 x2 0 s3 else rI (-34) s3)))) = some r → fMo_lookAtRows (d + 1) t1 x2 s = some r := by
  intro r hr
  show ev (d + 1) q_251 0 [(0, .ref 67), (1, .ref t1), (2, .int x2)] [] s = some r
  refine ev_seg 2 (k' := 2) (L' := [(0, .ref 67), (1, .ref t1), (2, .int x2)]) (st' := [.int 0, .ref 67]) rfl ?_
  refine ev_putI (c := 67) hr rfl rfl rfl (fun s1 hr => ?_)
  refine ev_seg 2 (k' := 5) (L' := [(0, .ref 67), (1, .ref t1), (2, .int x2)]) (st' := [.int 0, .ref 67]) rfl ?_
  refine ev_putI (c := 67) hr rfl rfl rfl (fun s2 hr => ?_)
  refine ev_seg 2 (k' := 8) (L' := [(0, .ref 67), (1, .ref t1), (2, .int x2)]) (st' := [.int (-1), .ref 67]) rfl ?_
  refine ev_putI (c := 67) hr rfl rfl rfl (fun s3 hr => ?_)
  refine ev_seg 2 (k' := 11) (L' := [(0, .ref 67), (1, .ref t1), (2, .int x2)]) (st' := [.int (gI s3 67 2)]) rfl ?_
  refine ev_br (P := ¬ gI s3 67 2 = 0) (L' := [(0, .ref 67), (1, .ref t1), (2, .int x2)]) (st' := []) hr rfl rfl rfl (fun hr => ?_) (fun hr => ?_)
  · skip
    refine ev_seg 2 (k' := 16) (L' := [(3, .int 0), (0, .ref 67), (1, .ref t1), (2, .int x2)]) (st' := []) rfl ?_
    refine ev_join (L' := [(0, .ref 67), (1, .ref t1), (2, .int x2), (3, .int 0)]) [1, 2, 3, 0] [3, 0, 1, 2] [0, 1, 2, 3] rfl rfl (by decide) (by decide) rfl ?_
    exact hr
  · skip
    refine ev_seg 1 (k' := 13) (L' := [(0, .ref 67), (1, .ref t1), (2, .int x2)]) (st' := [.int (-34)]) rfl ?_
    exact ev_iret hr rfl rfl rfl
set_option maxRecDepth 20000 in
theorem eMo_lookAtRows_16 (d : Nat) (t1 : Nat) (x2 : Int32) (z3 : Int32) (s : aT) (ht1 : isT t1) : ∀ r, (if gI s 67 2 ≤ gI s 67 23 then rI z3 s else wI s 67 26 0 (fun s1 => wI s1 67 27 0 (fun s2 => cC (fMo_datum d t1 (gI s2 t1 31) 0 x2 s2) (kV fun s3 => if ¬ gI s3 67 23 = gI s 67 23 then fMo_lookAtRows_16 (d + 1) t1 x2 (z3 + 1) s3 else rI (-34) s3) (fun s3 => wI s3 67 3 (gI s3 67 25) (fun s4 => rI (-(gI s4 67 24)) s4))))) = some r → fMo_lookAtRows_16 (d + 1) t1 x2 z3 s = some r := by
  intro r hr
  show ev (d + 1) q_251 16 [(0, .ref 67), (1, .ref t1), (2, .int x2), (3, .int z3)] [] s = some r
  refine ev_seg 4 (k' := 20) (L' := [(0, .ref 67), (1, .ref t1), (2, .int x2), (3, .int z3)]) (st' := [.int (gI s 67 2), .int (gI s 67 23)]) rfl ?_
  refine ev_br (P := gI s 67 2 ≤ gI s 67 23) (L' := [(0, .ref 67), (1, .ref t1), (2, .int x2), (3, .int z3)]) (st' := []) hr rfl rfl rfl (fun hr => ?_) (fun hr => ?_)
  · skip
    refine ev_seg 2 (k' := 56) (L' := [(0, .ref 67), (1, .ref t1), (2, .int x2), (3, .int z3)]) (st' := [.int z3]) rfl ?_
    exact ev_iret hr rfl rfl rfl
  · skip
    refine ev_seg 5 (k' := 26) (L' := [(4, .int (gI s 67 23)), (0, .ref 67), (1, .ref t1), (2, .int x2), (3, .int z3)]) (st' := [.int 0, .ref 67]) rfl ?_
    refine ev_putI (c := 67) hr rfl rfl rfl (fun s1 hr => ?_)
    refine ev_seg 2 (k' := 29) (L' := [(4, .int (gI s 67 23)), (0, .ref 67), (1, .ref t1), (2, .int x2), (3, .int z3)]) (st' := [.int 0, .ref 67]) rfl ?_
    refine ev_putI (c := 67) hr rfl rfl rfl (fun s2 hr => ?_)
    refine ev_seg 3 (k' := 33) (L' := [(4, .int (gI s 67 23)), (0, .ref 67), (1, .ref t1), (2, .int x2), (3, .int z3)]) (st' := [.ref t1, .ref t1, .ref 67]) rfl ?_
    refine ev_getI (c := t1) rfl (isT_sh ht1) rfl (Or.inl rfl) ?_
    refine ev_seg 2 (k' := 36) (L' := [(4, .int (gI s 67 23)), (0, .ref 67), (1, .ref t1), (2, .int x2), (3, .int z3)]) (st' := [.int x2, .int 0, .int (gI s2 t1 31), .ref t1, .ref 67]) rfl ?_
    refine ev_callC (q' := q_252) (x := 252) (y := 13) (c := 67) (As := [.ref t1, .int (gI s2 t1 31), .int 0, .int x2]) (rest := []) (z := (27, 76, 86, 163, 46, 4)) (L' := [(0, .ref 67), (1, .ref t1), (2, .int x2), (3, .int z3)]) hr rfl rfl rfl rfl rfl rfl rfl rfl rfl rfl rfl rfl rfl rfl (fun rv s3 hq => ev_kV hq (fun e9 hr => ?_)) (fun s3 hr => ?_)
    · skip
      subst e9
      refine ev_st (st' := []) rfl ?_
      refine ev_seg 3 (k' := 40) (L' := [(4, .int (gI s 67 23)), (0, .ref 67), (1, .ref t1), (2, .int x2), (3, .int z3)]) (st' := [.int (gI s 67 23), .int (gI s3 67 23)]) rfl ?_
      refine ev_br (P := ¬ gI s3 67 23 = gI s 67 23) (L' := [(4, .int (gI s 67 23)), (0, .ref 67), (1, .ref t1), (2, .int x2), (3, .int z3)]) (st' := []) hr rfl rfl rfl (fun hr => ?_) (fun hr => ?_)
      · skip
        refine ev_seg 2 (k' := 16) (L' := [(3, .int (z3 + 1)), (4, .int (gI s 67 23)), (0, .ref 67), (1, .ref t1), (2, .int x2)]) (st' := []) rfl ?_
        refine ev_join (L' := [(0, .ref 67), (1, .ref t1), (2, .int x2), (3, .int (z3 + 1))]) [2, 3, 4, 0] [3, 4, 0, 1, 2] [0, 1, 2, 3] rfl rfl (by decide) (by decide) rfl ?_
        exact hr
      · skip
        refine ev_seg 1 (k' := 42) (L' := [(4, .int (gI s 67 23)), (0, .ref 67), (1, .ref t1), (2, .int x2), (3, .int z3)]) (st' := [.int (-34)]) rfl ?_
        exact ev_iret hr rfl rfl rfl
    · skip
      refine ev_seg 3 (k' := 50) (L' := [(0, .ref 67), (1, .ref t1), (2, .int x2), (3, .int z3)]) (st' := [.int (gI s3 67 25), .ref 67]) rfl ?_
      refine ev_putI (c := 67) hr rfl rfl rfl (fun s4 hr => ?_)
      refine ev_seg 3 (k' := 54) (L' := [(0, .ref 67), (1, .ref t1), (2, .int x2), (3, .int z3)]) (st' := [.int (-(gI s4 67 24))]) rfl ?_
      exact ev_iret hr rfl rfl rfl
set_option maxRecDepth 20000 in
theorem eMo_datum (d : Nat) (t1 : Nat) (x2 : Int32) (x3 : Int32) (x4 : Int32) (s : aT) (ht1 : isT t1) : ∀ r, (if x3 ≤ 31 then fMo_datum_10 (d + 1) t1 x2 x3 x4 (gI s 67 23) s else cG (fMo_failBytes d 7 (gI s 67 23) s) (kV fun s1 => fMo_datum_10 (d + 1) t1 x2 x3 x4 (gI s 67 23) s1)) = some r → fMo_datum (d + 1) t1 x2 x3 x4 s = some r := by
  intro r hr
  show ev (d + 1) q_252 0 [(0, .ref 67), (1, .ref t1), (2, .int x2), (3, .int x3), (4, .int x4)] [] s = some r
  refine ev_seg 5 (k' := 5) (L' := [(5, .int (gI s 67 23)), (0, .ref 67), (1, .ref t1), (2, .int x2), (3, .int x3), (4, .int x4)]) (st' := [.int 31, .int x3]) rfl ?_
  refine ev_br (P := x3 ≤ 31) (L' := [(5, .int (gI s 67 23)), (0, .ref 67), (1, .ref t1), (2, .int x2), (3, .int x3), (4, .int x4)]) (st' := []) hr rfl rfl rfl (fun hr => ?_) (fun hr => ?_)
  · skip
    refine ev_join (L' := [(0, .ref 67), (1, .ref t1), (2, .int x2), (3, .int x3), (4, .int x4), (5, .int (gI s 67 23))]) [1, 2, 3, 4, 5, 0] [5, 0, 1, 2, 3, 4] [0, 1, 2, 3, 4, 5] rfl rfl (by decide) (by decide) rfl ?_
    exact hr
  · skip
    refine ev_seg 3 (k' := 9) (L' := [(5, .int (gI s 67 23)), (0, .ref 67), (1, .ref t1), (2, .int x2), (3, .int x3), (4, .int x4)]) (st' := [.int (gI s 67 23), .int 7, .ref 67]) rfl ?_
    refine ev_callV (q' := q_253) (x := 253) (y := 13) (c := 67) (As := [.int 7, .int (gI s 67 23)]) (rest := []) hr rfl rfl rfl rfl rfl rfl rfl rfl rfl rfl rfl rfl (fun rv s1 hq => ev_kV hq (fun e9 hr => ?_))
    subst e9
    refine ev_st (st' := []) rfl ?_
    refine ev_join (L' := [(0, .ref 67), (1, .ref t1), (2, .int x2), (3, .int x3), (4, .int x4), (5, .int (gI s 67 23))]) [1, 2, 3, 4, 5, 0] [5, 0, 1, 2, 3, 4] [0, 1, 2, 3, 4, 5] rfl rfl (by decide) (by decide) rfl ?_
    exact hr
set_option maxRecDepth 20000 in
theorem eMo_datum_10 (d : Nat) (t1 : Nat) (x2 : Int32) (x3 : Int32) (x4 : Int32) (z5 : Int32) (s : aT) (ht1 : isT t1) : ∀ r, (if ¬ gI s 67 27 = 4000 then fMo_datum_18 (d + 1) t1 x2 x3 x4 z5 s else cG (fMo_failBytes d 8 z5 s) (kV fun s1 => fMo_datum_18 (d + 1) t1 x2 x3 x4 z5 s1)) = some r → fMo_datum_10 (d + 1) t1 x2 x3 x4 z5 s = some r := by
  intro r hr
  show ev (d + 1) q_252 10 [(0, .ref 67), (1, .ref t1), (2, .int x2), (3, .int x3), (4, .int x4), (5, .int z5)] [] s = some r
  refine ev_seg 3 (k' := 13) (L' := [(0, .ref 67), (1, .ref t1), (2, .int x2), (3, .int x3), (4, .int x4), (5, .int z5)]) (st' := [.int 4000, .int (gI s 67 27)]) rfl ?_
  refine ev_br (P := ¬ gI s 67 27 = 4000) (L' := [(0, .ref 67), (1, .ref t1), (2, .int x2), (3, .int x3), (4, .int x4), (5, .int z5)]) (st' := []) hr rfl rfl rfl (fun hr => ?_) (fun hr => ?_)
  · skip
    exact hr
  · skip
    refine ev_seg 3 (k' := 17) (L' := [(0, .ref 67), (1, .ref t1), (2, .int x2), (3, .int x3), (4, .int x4), (5, .int z5)]) (st' := [.int z5, .int 8, .ref 67]) rfl ?_
    refine ev_callV (q' := q_253) (x := 253) (y := 13) (c := 67) (As := [.int 8, .int z5]) (rest := []) hr rfl rfl rfl rfl rfl rfl rfl rfl rfl rfl rfl rfl (fun rv s1 hq => ev_kV hq (fun e9 hr => ?_))
    subst e9
    refine ev_st (st' := []) rfl ?_
    exact hr
set_option maxRecDepth 20000 in
theorem eMo_datum_18 (d : Nat) (t1 : Nat) (x2 : Int32) (x3 : Int32) (x4 : Int32) (z5 : Int32) (s : aT) (ht1 : isT t1) : ∀ r, (wI s 67 27 ((gI s 67 27) + 1) (fun s1 => ldI 140 s1 (t1 + 9) x2 (fun v2 => if v2 = 0 then rV s1 else if v2 = 1 then cG (fMo_byteHere d s1) (kI fun v6 s5 => if v6 ≤ 1 then fMo_datum_40 (d + 1) x4 v6 s5 else cG (fMo_failBytes d 3 z5 s5) (kV fun s7 => fMo_datum_40 (d + 1) x4 v6 s7)) else if v2 = 2 then cG (fMo_varint d s1) (kL fun v10 s9 => ldI 140 s9 (t1 + 9) x2 (fun v11 => if ¬ v11 = 2 then fMo_datum_64 (d + 1) x4 v10 s9 else if aLcmp v10 v10.toInt32.toInt64 = 0 then fMo_datum_64 (d + 1) x4 v10 s9 else cG (fMo_failBytes d 2 z5 s9) (kV fun s12 => fMo_datum_64 (d + 1) x4 v10 s12))) else if v2 = 3 then cG (fMo_varint d s1) (kL fun v15 s14 => ldI 140 s14 (t1 + 9) x2 (fun v16 => if ¬ v16 = 2 then fMo_datum_64 (d + 1) x4 v15 s14 else if aLcmp v15 v15.toInt32.toInt64 = 0 then fMo_datum_64 (d + 1) x4 v15 s14 else cG (fMo_failBytes d 2 z5 s14) (kV fun s17 => fMo_datum_64 (d + 1) x4 v15 s17))) else if v2 = 4 then cG (fMo_string d x4 s1) (kV fun s19 => rV s19) else if v2 = 5 then cG (fMo_string d x4 s1) (kV fun s21 => rV s21) else if v2 = 6 then cG (fMo_blocks d t1 x2 x3 x4 s1) (kV fun s23 => rV s23) else if v2 = 7 then cG (fMo_blocks d t1 x2 x3 x4 s1) (kV fun s25 => rV s25) else if v2 = 8 then cG (fMo_varint d s1) (kL fun v28 s27 => if aLcmp v28 0 < 0 then fMo_datum_137 (d + 1) t1 x2 x3 x4 z5 v28 s27 else ldI 140 s27 (t1 + 13) x2 (fun v29 => if aLcmp v28 v29.toInt64 < 0 then fMo_datum_141 (d + 1) t1 x2 x3 x4 v28 s27 else fMo_datum_137 (d + 1) t1 x2 x3 x4 z5 v28 s27)) else if v2 = 9 then ldI 140 s1 (t1 + 11) x2 (fun v31 => cG (fMo_pass d v31.toInt64 s1) (kV fun s32 => fMo_datum_83 (d + 1) x4 z5 s32)) else if v2 = 10 then cG (fMo_varint d s1) (kL fun v35 s34 => if aLcmp v35 0 < 0 then fMo_datum_112 (d + 1) x4 z5 v35 s34 else ldI 140 s34 (t1 + 13) x2 (fun v36 => if aLcmp v35 v36.toInt64 < 0 then fMo_datum_116 (d + 1) x4 v35 s34 else fMo_datum_112 (d + 1) x4 z5 v35 s34)) else if v2 = 11 then ldI 140 s1 (t1 + 12) x2 (fun v38 => fMo_datum_167 (d + 1) t1 x3 x4 v38 s1) else cG (fMo_blocks d t1 x2 x3 x4 s1) (kV fun s39 => rV s39)))) = some r → fMo_datum_18 (d + 1) t1 x2 x3 x4 z5 s = some r := by
  intro r hr
  show ev (d + 1) q_252 18 [(0, .ref 67), (1, .ref t1), (2, .int x2), (3, .int x3), (4, .int x4), (5, .int z5)] [] s = some r
  refine ev_seg 5 (k' := 23) (L' := [(0, .ref 67), (1, .ref t1), (2, .int x2), (3, .int x3), (4, .int x4), (5, .int z5)]) (st' := [.int ((gI s 67 27) + 1), .ref 67]) rfl ?_
  refine ev_putI (c := 67) hr rfl rfl rfl (fun s1 hr => ?_)
  refine ev_seg 1 (k' := 25) (L' := [(0, .ref 67), (1, .ref t1), (2, .int x2), (3, .int x3), (4, .int x4), (5, .int z5)]) (st' := [.ref t1]) rfl ?_
  refine ev_getR (c := t1) (v := t1 + 9) rfl (isT_sh ht1) rfl (isT_r9 ht1) ?_
  refine ev_seg 1 (k' := 27) (L' := [(0, .ref 67), (1, .ref t1), (2, .int x2), (3, .int x3), (4, .int x4), (5, .int z5)]) (st' := [.int x2, .ref (t1 + 9)]) rfl ?_
  refine ev_ldI hr rfl (isT_a9 ht1) (fun v2 hr => ?_)
  refine ev_if hr (fun h3 hr => ?_) (fun h3 hr => ?_)
  · skip
    refine ev_tab (o := 62) (t := 29) rfl (by rw [h3]; rfl) rfl ?_
    refine ev_seg 1 (k' := 193) (L' := [(0, .ref 67), (1, .ref t1), (2, .int x2), (3, .int x3), (4, .int x4), (5, .int z5)]) (st' := []) rfl ?_
    exact ev_vret hr rfl rfl
  refine ev_if hr (fun h4 hr => ?_) (fun h4 hr => ?_)
  · skip
    refine ev_tab (o := 65) (t := 30) rfl (by rw [h4]; rfl) rfl ?_
    refine ev_seg 1 (k' := 31) (L' := [(0, .ref 67), (1, .ref t1), (2, .int x2), (3, .int x3), (4, .int x4), (5, .int z5)]) (st' := [.ref 67]) rfl ?_
    refine ev_callV (q' := q_254) (x := 254) (y := 13) (c := 67) (As := []) (rest := []) hr rfl rfl rfl rfl rfl rfl rfl rfl rfl rfl rfl rfl (fun rv s5 hq => ev_kI hq (fun v6 e9 hr => ?_))
    subst e9
    refine ev_st (st' := [.int v6]) rfl ?_
    refine ev_seg 3 (k' := 35) (L' := [(6, .int v6), (0, .ref 67), (1, .ref t1), (2, .int x2), (3, .int x3), (4, .int x4), (5, .int z5)]) (st' := [.int 1, .int v6]) rfl ?_
    refine ev_br (P := v6 ≤ 1) (L' := [(6, .int v6), (0, .ref 67), (1, .ref t1), (2, .int x2), (3, .int x3), (4, .int x4), (5, .int z5)]) (st' := []) hr rfl rfl rfl (fun hr => ?_) (fun hr => ?_)
    · skip
      refine ev_join (L' := [(0, .ref 67), (4, .int x4), (6, .int v6)]) [1, 5, 0] [6, 0, 1, 2, 3, 4, 5] [0, 4, 6] rfl rfl (by decide) (by decide) rfl ?_
      exact hr
    · skip
      refine ev_seg 3 (k' := 39) (L' := [(6, .int v6), (0, .ref 67), (1, .ref t1), (2, .int x2), (3, .int x3), (4, .int x4), (5, .int z5)]) (st' := [.int z5, .int 3, .ref 67]) rfl ?_
      refine ev_callV (q' := q_253) (x := 253) (y := 13) (c := 67) (As := [.int 3, .int z5]) (rest := []) hr rfl rfl rfl rfl rfl rfl rfl rfl rfl rfl rfl rfl (fun rv s7 hq => ev_kV hq (fun e9 hr => ?_))
      subst e9
      refine ev_st (st' := []) rfl ?_
      refine ev_join (L' := [(0, .ref 67), (4, .int x4), (6, .int v6)]) [1, 5, 0] [6, 0, 1, 2, 3, 4, 5] [0, 4, 6] rfl rfl (by decide) (by decide) rfl ?_
      exact hr
  refine ev_if hr (fun h8 hr => ?_) (fun h8 hr => ?_)
  · skip
    refine ev_tab (o := 95) (t := 45) rfl (by rw [h8]; rfl) rfl ?_
    refine ev_seg 1 (k' := 46) (L' := [(0, .ref 67), (1, .ref t1), (2, .int x2), (3, .int x3), (4, .int x4), (5, .int z5)]) (st' := [.ref 67]) rfl ?_
    refine ev_callV (q' := q_257) (x := 257) (y := 13) (c := 67) (As := []) (rest := []) hr rfl rfl rfl rfl rfl rfl rfl rfl rfl rfl rfl rfl (fun rv s9 hq => ev_kL hq (fun v10 e9 hr => ?_))
    subst e9
    refine ev_st (st' := [.long v10]) rfl ?_
    refine ev_seg 2 (k' := 49) (L' := [(7, .long v10), (0, .ref 67), (1, .ref t1), (2, .int x2), (3, .int x3), (4, .int x4), (5, .int z5)]) (st' := [.ref t1]) rfl ?_
    refine ev_getR (c := t1) (v := t1 + 9) rfl (isT_sh ht1) rfl (isT_r9 ht1) ?_
    refine ev_seg 1 (k' := 51) (L' := [(7, .long v10), (0, .ref 67), (1, .ref t1), (2, .int x2), (3, .int x3), (4, .int x4), (5, .int z5)]) (st' := [.int x2, .ref (t1 + 9)]) rfl ?_
    refine ev_ldI hr rfl (isT_a9 ht1) (fun v11 hr => ?_)
    refine ev_seg 1 (k' := 53) (L' := [(7, .long v10), (0, .ref 67), (1, .ref t1), (2, .int x2), (3, .int x3), (4, .int x4), (5, .int z5)]) (st' := [.int 2, .int v11]) rfl ?_
    refine ev_br (P := ¬ v11 = 2) (L' := [(7, .long v10), (0, .ref 67), (1, .ref t1), (2, .int x2), (3, .int x3), (4, .int x4), (5, .int z5)]) (st' := []) hr rfl rfl rfl (fun hr => ?_) (fun hr => ?_)
    · skip
      refine ev_join (L' := [(0, .ref 67), (4, .int x4), (7, .long v10)]) [1, 5, 0] [7, 0, 1, 2, 3, 4, 5] [0, 4, 7] rfl rfl (by decide) (by decide) rfl ?_
      exact hr
    · skip
      refine ev_seg 5 (k' := 59) (L' := [(7, .long v10), (0, .ref 67), (1, .ref t1), (2, .int x2), (3, .int x3), (4, .int x4), (5, .int z5)]) (st' := [.int (aLcmp v10 v10.toInt32.toInt64)]) rfl ?_
      refine ev_br (P := aLcmp v10 v10.toInt32.toInt64 = 0) (L' := [(7, .long v10), (0, .ref 67), (1, .ref t1), (2, .int x2), (3, .int x3), (4, .int x4), (5, .int z5)]) (st' := []) hr rfl rfl rfl (fun hr => ?_) (fun hr => ?_)
      · skip
        refine ev_join (L' := [(0, .ref 67), (4, .int x4), (7, .long v10)]) [1, 5, 0] [7, 0, 1, 2, 3, 4, 5] [0, 4, 7] rfl rfl (by decide) (by decide) rfl ?_
        exact hr
      · skip
        refine ev_seg 3 (k' := 63) (L' := [(7, .long v10), (0, .ref 67), (1, .ref t1), (2, .int x2), (3, .int x3), (4, .int x4), (5, .int z5)]) (st' := [.int z5, .int 2, .ref 67]) rfl ?_
        refine ev_callV (q' := q_253) (x := 253) (y := 13) (c := 67) (As := [.int 2, .int z5]) (rest := []) hr rfl rfl rfl rfl rfl rfl rfl rfl rfl rfl rfl rfl (fun rv s12 hq => ev_kV hq (fun e9 hr => ?_))
        subst e9
        refine ev_st (st' := []) rfl ?_
        refine ev_join (L' := [(0, .ref 67), (4, .int x4), (7, .long v10)]) [1, 5, 0] [7, 0, 1, 2, 3, 4, 5] [0, 4, 7] rfl rfl (by decide) (by decide) rfl ?_
        exact hr
  refine ev_if hr (fun h13 hr => ?_) (fun h13 hr => ?_)
  · skip
    refine ev_tab (o := 95) (t := 45) rfl (by rw [h13]; rfl) rfl ?_
    refine ev_seg 1 (k' := 46) (L' := [(0, .ref 67), (1, .ref t1), (2, .int x2), (3, .int x3), (4, .int x4), (5, .int z5)]) (st' := [.ref 67]) rfl ?_
    refine ev_callV (q' := q_257) (x := 257) (y := 13) (c := 67) (As := []) (rest := []) hr rfl rfl rfl rfl rfl rfl rfl rfl rfl rfl rfl rfl (fun rv s14 hq => ev_kL hq (fun v15 e9 hr => ?_))
    subst e9
    refine ev_st (st' := [.long v15]) rfl ?_
    refine ev_seg 2 (k' := 49) (L' := [(7, .long v15), (0, .ref 67), (1, .ref t1), (2, .int x2), (3, .int x3), (4, .int x4), (5, .int z5)]) (st' := [.ref t1]) rfl ?_
    refine ev_getR (c := t1) (v := t1 + 9) rfl (isT_sh ht1) rfl (isT_r9 ht1) ?_
    refine ev_seg 1 (k' := 51) (L' := [(7, .long v15), (0, .ref 67), (1, .ref t1), (2, .int x2), (3, .int x3), (4, .int x4), (5, .int z5)]) (st' := [.int x2, .ref (t1 + 9)]) rfl ?_
    refine ev_ldI hr rfl (isT_a9 ht1) (fun v16 hr => ?_)
    refine ev_seg 1 (k' := 53) (L' := [(7, .long v15), (0, .ref 67), (1, .ref t1), (2, .int x2), (3, .int x3), (4, .int x4), (5, .int z5)]) (st' := [.int 2, .int v16]) rfl ?_
    refine ev_br (P := ¬ v16 = 2) (L' := [(7, .long v15), (0, .ref 67), (1, .ref t1), (2, .int x2), (3, .int x3), (4, .int x4), (5, .int z5)]) (st' := []) hr rfl rfl rfl (fun hr => ?_) (fun hr => ?_)
    · skip
      refine ev_join (L' := [(0, .ref 67), (4, .int x4), (7, .long v15)]) [1, 5, 0] [7, 0, 1, 2, 3, 4, 5] [0, 4, 7] rfl rfl (by decide) (by decide) rfl ?_
      exact hr
    · skip
      refine ev_seg 5 (k' := 59) (L' := [(7, .long v15), (0, .ref 67), (1, .ref t1), (2, .int x2), (3, .int x3), (4, .int x4), (5, .int z5)]) (st' := [.int (aLcmp v15 v15.toInt32.toInt64)]) rfl ?_
      refine ev_br (P := aLcmp v15 v15.toInt32.toInt64 = 0) (L' := [(7, .long v15), (0, .ref 67), (1, .ref t1), (2, .int x2), (3, .int x3), (4, .int x4), (5, .int z5)]) (st' := []) hr rfl rfl rfl (fun hr => ?_) (fun hr => ?_)
      · skip
        refine ev_join (L' := [(0, .ref 67), (4, .int x4), (7, .long v15)]) [1, 5, 0] [7, 0, 1, 2, 3, 4, 5] [0, 4, 7] rfl rfl (by decide) (by decide) rfl ?_
        exact hr
      · skip
        refine ev_seg 3 (k' := 63) (L' := [(7, .long v15), (0, .ref 67), (1, .ref t1), (2, .int x2), (3, .int x3), (4, .int x4), (5, .int z5)]) (st' := [.int z5, .int 2, .ref 67]) rfl ?_
        refine ev_callV (q' := q_253) (x := 253) (y := 13) (c := 67) (As := [.int 2, .int z5]) (rest := []) hr rfl rfl rfl rfl rfl rfl rfl rfl rfl rfl rfl rfl (fun rv s17 hq => ev_kV hq (fun e9 hr => ?_))
        subst e9
        refine ev_st (st' := []) rfl ?_
        refine ev_join (L' := [(0, .ref 67), (4, .int x4), (7, .long v15)]) [1, 5, 0] [7, 0, 1, 2, 3, 4, 5] [0, 4, 7] rfl rfl (by decide) (by decide) rfl ?_
        exact hr
  refine ev_if hr (fun h18 hr => ?_) (fun h18 hr => ?_)
  · skip
    refine ev_tab (o := 142) (t := 70) rfl (by rw [h18]; rfl) rfl ?_
    refine ev_seg 2 (k' := 72) (L' := [(0, .ref 67), (1, .ref t1), (2, .int x2), (3, .int x3), (4, .int x4), (5, .int z5)]) (st' := [.int x4, .ref 67]) rfl ?_
    refine ev_callV (q' := q_259) (x := 259) (y := 13) (c := 67) (As := [.int x4]) (rest := []) hr rfl rfl rfl rfl rfl rfl rfl rfl rfl rfl rfl rfl (fun rv s19 hq => ev_kV hq (fun e9 hr => ?_))
    subst e9
    refine ev_st (st' := []) rfl ?_
    refine ev_seg 1 (k' := 193) (L' := [(0, .ref 67), (1, .ref t1), (2, .int x2), (3, .int x3), (4, .int x4), (5, .int z5)]) (st' := []) rfl ?_
    exact ev_vret hr rfl rfl
  refine ev_if hr (fun h20 hr => ?_) (fun h20 hr => ?_)
  · skip
    refine ev_tab (o := 142) (t := 70) rfl (by rw [h20]; rfl) rfl ?_
    refine ev_seg 2 (k' := 72) (L' := [(0, .ref 67), (1, .ref t1), (2, .int x2), (3, .int x3), (4, .int x4), (5, .int z5)]) (st' := [.int x4, .ref 67]) rfl ?_
    refine ev_callV (q' := q_259) (x := 259) (y := 13) (c := 67) (As := [.int x4]) (rest := []) hr rfl rfl rfl rfl rfl rfl rfl rfl rfl rfl rfl rfl (fun rv s21 hq => ev_kV hq (fun e9 hr => ?_))
    subst e9
    refine ev_st (st' := []) rfl ?_
    refine ev_seg 1 (k' := 193) (L' := [(0, .ref 67), (1, .ref t1), (2, .int x2), (3, .int x3), (4, .int x4), (5, .int z5)]) (st' := []) rfl ?_
    exact ev_vret hr rfl rfl
  refine ev_if hr (fun h22 hr => ?_) (fun h22 hr => ?_)
  · skip
    refine ev_tab (o := 359) (t := 187) rfl (by rw [h22]; rfl) rfl ?_
    refine ev_seg 5 (k' := 192) (L' := [(0, .ref 67), (1, .ref t1), (2, .int x2), (3, .int x3), (4, .int x4), (5, .int z5)]) (st' := [.int x4, .int x3, .int x2, .ref t1, .ref 67]) rfl ?_
    refine ev_callV (q' := q_262) (x := 262) (y := 13) (c := 67) (As := [.ref t1, .int x2, .int x3, .int x4]) (rest := []) hr rfl rfl rfl rfl rfl rfl rfl rfl rfl rfl rfl rfl (fun rv s23 hq => ev_kV hq (fun e9 hr => ?_))
    subst e9
    refine ev_st (st' := []) rfl ?_
    exact ev_vret hr rfl rfl
  refine ev_if hr (fun h24 hr => ?_) (fun h24 hr => ?_)
  · skip
    refine ev_tab (o := 359) (t := 187) rfl (by rw [h24]; rfl) rfl ?_
    refine ev_seg 5 (k' := 192) (L' := [(0, .ref 67), (1, .ref t1), (2, .int x2), (3, .int x3), (4, .int x4), (5, .int z5)]) (st' := [.int x4, .int x3, .int x2, .ref t1, .ref 67]) rfl ?_
    refine ev_callV (q' := q_262) (x := 262) (y := 13) (c := 67) (As := [.ref t1, .int x2, .int x3, .int x4]) (rest := []) hr rfl rfl rfl rfl rfl rfl rfl rfl rfl rfl rfl rfl (fun rv s25 hq => ev_kV hq (fun e9 hr => ?_))
    subst e9
    refine ev_st (st' := []) rfl ?_
    exact ev_vret hr rfl rfl
  refine ev_if hr (fun h26 hr => ?_) (fun h26 hr => ?_)
  · skip
    refine ev_tab (o := 244) (t := 122) rfl (by rw [h26]; rfl) rfl ?_
    refine ev_seg 1 (k' := 123) (L' := [(0, .ref 67), (1, .ref t1), (2, .int x2), (3, .int x3), (4, .int x4), (5, .int z5)]) (st' := [.ref 67]) rfl ?_
    refine ev_callV (q' := q_257) (x := 257) (y := 13) (c := 67) (As := []) (rest := []) hr rfl rfl rfl rfl rfl rfl rfl rfl rfl rfl rfl rfl (fun rv s27 hq => ev_kL hq (fun v28 e9 hr => ?_))
    subst e9
    refine ev_st (st' := [.long v28]) rfl ?_
    refine ev_seg 4 (k' := 128) (L' := [(11, .long v28), (0, .ref 67), (1, .ref t1), (2, .int x2), (3, .int x3), (4, .int x4), (5, .int z5)]) (st' := [.int (aLcmp v28 0)]) rfl ?_
    refine ev_br (P := aLcmp v28 0 < 0) (L' := [(11, .long v28), (0, .ref 67), (1, .ref t1), (2, .int x2), (3, .int x3), (4, .int x4), (5, .int z5)]) (st' := []) hr rfl rfl rfl (fun hr => ?_) (fun hr => ?_)
    · skip
      refine ev_join (L' := [(0, .ref 67), (1, .ref t1), (2, .int x2), (3, .int x3), (4, .int x4), (5, .int z5), (11, .long v28)]) [1, 2, 3, 4, 5, 6, 0] [11, 0, 1, 2, 3, 4, 5] [0, 1, 2, 3, 4, 5, 11] rfl rfl (by decide) (by decide) rfl ?_
      exact hr
    · skip
      refine ev_seg 2 (k' := 131) (L' := [(11, .long v28), (0, .ref 67), (1, .ref t1), (2, .int x2), (3, .int x3), (4, .int x4), (5, .int z5)]) (st' := [.ref t1, .long v28]) rfl ?_
      refine ev_getR (c := t1) (v := t1 + 13) rfl (isT_sh ht1) rfl (isT_r13 ht1) ?_
      refine ev_seg 1 (k' := 133) (L' := [(11, .long v28), (0, .ref 67), (1, .ref t1), (2, .int x2), (3, .int x3), (4, .int x4), (5, .int z5)]) (st' := [.int x2, .ref (t1 + 13), .long v28]) rfl ?_
      refine ev_ldI hr rfl (isT_a13 ht1) (fun v29 hr => ?_)
      refine ev_seg 2 (k' := 136) (L' := [(11, .long v28), (0, .ref 67), (1, .ref t1), (2, .int x2), (3, .int x3), (4, .int x4), (5, .int z5)]) (st' := [.int (aLcmp v28 v29.toInt64)]) rfl ?_
      refine ev_br (P := aLcmp v28 v29.toInt64 < 0) (L' := [(11, .long v28), (0, .ref 67), (1, .ref t1), (2, .int x2), (3, .int x3), (4, .int x4), (5, .int z5)]) (st' := []) hr rfl rfl rfl (fun hr => ?_) (fun hr => ?_)
      · skip
        refine ev_join (L' := [(0, .ref 67), (1, .ref t1), (2, .int x2), (3, .int x3), (4, .int x4), (11, .long v28)]) [1, 2, 3, 4, 5, 0] [11, 0, 1, 2, 3, 4, 5] [0, 1, 2, 3, 4, 11] rfl rfl (by decide) (by decide) rfl ?_
        exact hr
      · skip
        refine ev_join (L' := [(0, .ref 67), (1, .ref t1), (2, .int x2), (3, .int x3), (4, .int x4), (5, .int z5), (11, .long v28)]) [1, 2, 3, 4, 5, 6, 0] [11, 0, 1, 2, 3, 4, 5] [0, 1, 2, 3, 4, 5, 11] rfl rfl (by decide) (by decide) rfl ?_
        exact hr
  refine ev_if hr (fun h30 hr => ?_) (fun h30 hr => ?_)
  · skip
    refine ev_tab (o := 151) (t := 74) rfl (by rw [h30]; rfl) rfl ?_
    refine ev_seg 2 (k' := 76) (L' := [(0, .ref 67), (1, .ref t1), (2, .int x2), (3, .int x3), (4, .int x4), (5, .int z5)]) (st' := [.ref t1, .ref 67]) rfl ?_
    refine ev_getR (c := t1) (v := t1 + 11) rfl (isT_sh ht1) rfl (isT_r11 ht1) ?_
    refine ev_seg 1 (k' := 78) (L' := [(0, .ref 67), (1, .ref t1), (2, .int x2), (3, .int x3), (4, .int x4), (5, .int z5)]) (st' := [.int x2, .ref (t1 + 11), .ref 67]) rfl ?_
    refine ev_ldI hr rfl (isT_a11 ht1) (fun v31 hr => ?_)
    refine ev_seg 1 (k' := 80) (L' := [(0, .ref 67), (1, .ref t1), (2, .int x2), (3, .int x3), (4, .int x4), (5, .int z5)]) (st' := [.long v31.toInt64, .ref 67]) rfl ?_
    refine ev_callV (q' := q_260) (x := 260) (y := 13) (c := 67) (As := [.long v31.toInt64]) (rest := []) hr rfl rfl rfl rfl rfl rfl rfl rfl rfl rfl rfl rfl (fun rv s32 hq => ev_kV hq (fun e9 hr => ?_))
    subst e9
    refine ev_st (st' := []) rfl ?_
    refine ev_seg 2 (k' := 83) (L' := [(9, .int z5), (0, .ref 67), (1, .ref t1), (2, .int x2), (3, .int x3), (4, .int x4), (5, .int z5)]) (st' := []) rfl ?_
    refine ev_join (L' := [(0, .ref 67), (4, .int x4), (9, .int z5)]) [1, 5, 0] [9, 0, 1, 2, 3, 4, 5] [0, 4, 9] rfl rfl (by decide) (by decide) rfl ?_
    exact hr
  refine ev_if hr (fun h33 hr => ?_) (fun h33 hr => ?_)
  · skip
    refine ev_tab (o := 197) (t := 97) rfl (by rw [h33]; rfl) rfl ?_
    refine ev_seg 1 (k' := 98) (L' := [(0, .ref 67), (1, .ref t1), (2, .int x2), (3, .int x3), (4, .int x4), (5, .int z5)]) (st' := [.ref 67]) rfl ?_
    refine ev_callV (q' := q_257) (x := 257) (y := 13) (c := 67) (As := []) (rest := []) hr rfl rfl rfl rfl rfl rfl rfl rfl rfl rfl rfl rfl (fun rv s34 hq => ev_kL hq (fun v35 e9 hr => ?_))
    subst e9
    refine ev_st (st' := [.long v35]) rfl ?_
    refine ev_seg 4 (k' := 103) (L' := [(9, .long v35), (0, .ref 67), (1, .ref t1), (2, .int x2), (3, .int x3), (4, .int x4), (5, .int z5)]) (st' := [.int (aLcmp v35 0)]) rfl ?_
    refine ev_br (P := aLcmp v35 0 < 0) (L' := [(9, .long v35), (0, .ref 67), (1, .ref t1), (2, .int x2), (3, .int x3), (4, .int x4), (5, .int z5)]) (st' := []) hr rfl rfl rfl (fun hr => ?_) (fun hr => ?_)
    · skip
      refine ev_join (L' := [(0, .ref 67), (4, .int x4), (5, .int z5), (9, .long v35)]) [1, 5, 6, 0] [9, 0, 1, 2, 3, 4, 5] [0, 4, 5, 9] rfl rfl (by decide) (by decide) rfl ?_
      exact hr
    · skip
      refine ev_seg 2 (k' := 106) (L' := [(9, .long v35), (0, .ref 67), (1, .ref t1), (2, .int x2), (3, .int x3), (4, .int x4), (5, .int z5)]) (st' := [.ref t1, .long v35]) rfl ?_
      refine ev_getR (c := t1) (v := t1 + 13) rfl (isT_sh ht1) rfl (isT_r13 ht1) ?_
      refine ev_seg 1 (k' := 108) (L' := [(9, .long v35), (0, .ref 67), (1, .ref t1), (2, .int x2), (3, .int x3), (4, .int x4), (5, .int z5)]) (st' := [.int x2, .ref (t1 + 13), .long v35]) rfl ?_
      refine ev_ldI hr rfl (isT_a13 ht1) (fun v36 hr => ?_)
      refine ev_seg 2 (k' := 111) (L' := [(9, .long v35), (0, .ref 67), (1, .ref t1), (2, .int x2), (3, .int x3), (4, .int x4), (5, .int z5)]) (st' := [.int (aLcmp v35 v36.toInt64)]) rfl ?_
      refine ev_br (P := aLcmp v35 v36.toInt64 < 0) (L' := [(9, .long v35), (0, .ref 67), (1, .ref t1), (2, .int x2), (3, .int x3), (4, .int x4), (5, .int z5)]) (st' := []) hr rfl rfl rfl (fun hr => ?_) (fun hr => ?_)
      · skip
        refine ev_join (L' := [(0, .ref 67), (4, .int x4), (9, .long v35)]) [1, 5, 0] [9, 0, 1, 2, 3, 4, 5] [0, 4, 9] rfl rfl (by decide) (by decide) rfl ?_
        exact hr
      · skip
        refine ev_join (L' := [(0, .ref 67), (4, .int x4), (5, .int z5), (9, .long v35)]) [1, 5, 6, 0] [9, 0, 1, 2, 3, 4, 5] [0, 4, 5, 9] rfl rfl (by decide) (by decide) rfl ?_
        exact hr
  refine ev_if hr (fun h37 hr => ?_) (fun h37 hr => ?_)
  · skip
    refine ev_tab (o := 314) (t := 162) rfl (by rw [h37]; rfl) rfl ?_
    refine ev_seg 1 (k' := 163) (L' := [(0, .ref 67), (1, .ref t1), (2, .int x2), (3, .int x3), (4, .int x4), (5, .int z5)]) (st' := [.ref t1]) rfl ?_
    refine ev_getR (c := t1) (v := t1 + 12) rfl (isT_sh ht1) rfl (isT_r12 ht1) ?_
    refine ev_seg 1 (k' := 165) (L' := [(0, .ref 67), (1, .ref t1), (2, .int x2), (3, .int x3), (4, .int x4), (5, .int z5)]) (st' := [.int x2, .ref (t1 + 12)]) rfl ?_
    refine ev_ldI hr rfl (isT_a12 ht1) (fun v38 hr => ?_)
    refine ev_seg 1 (k' := 167) (L' := [(13, .int v38), (0, .ref 67), (1, .ref t1), (2, .int x2), (3, .int x3), (4, .int x4), (5, .int z5)]) (st' := []) rfl ?_
    refine ev_join (L' := [(0, .ref 67), (1, .ref t1), (3, .int x3), (4, .int x4), (13, .int v38)]) [1, 2, 4, 5, 0] [13, 0, 1, 2, 3, 4, 5] [0, 1, 3, 4, 13] rfl rfl (by decide) (by decide) rfl ?_
    exact hr
  refine ev_tab (o := 359) (t := 187) rfl (tab_in (by have e0 := i_neL (z := 0) (w := 0) rfl h3; have e1 := i_neL (z := 1) (w := 1) rfl h4; have e2 := i_neL (z := 2) (w := 2) rfl h8; have e3 := i_neL (z := 3) (w := 3) rfl h13; have e4 := i_neL (z := 4) (w := 4) rfl h18; have e5 := i_neL (z := 5) (w := 5) rfl h20; have e6 := i_neL (z := 6) (w := 6) rfl h22; have e7 := i_neL (z := 7) (w := 7) rfl h24; have e8 := i_neL (z := 8) (w := 8) rfl h26; have e9 := i_neL (z := 9) (w := 9) rfl h30; have e10 := i_neL (z := 10) (w := 10) rfl h33; have e11 := i_neL (z := 11) (w := 11) rfl h37; omega)) rfl ?_
  refine ev_seg 5 (k' := 192) (L' := [(0, .ref 67), (1, .ref t1), (2, .int x2), (3, .int x3), (4, .int x4), (5, .int z5)]) (st' := [.int x4, .int x3, .int x2, .ref t1, .ref 67]) rfl ?_
  refine ev_callV (q' := q_262) (x := 262) (y := 13) (c := 67) (As := [.ref t1, .int x2, .int x3, .int x4]) (rest := []) hr rfl rfl rfl rfl rfl rfl rfl rfl rfl rfl rfl rfl (fun rv s39 hq => ev_kV hq (fun e9 hr => ?_))
  subst e9
  refine ev_st (st' := []) rfl ?_
  exact ev_vret hr rfl rfl
set_option maxRecDepth 20000 in
theorem eMo_datum_40 (d : Nat) (x4 : Int32) (z6 : Int32) (s : aT) : ∀ r, (cG (fMo_put d z6 x4 s) (kV fun s1 => rV s1)) = some r → fMo_datum_40 (d + 1) x4 z6 s = some r := by
  intro r hr
  show ev (d + 1) q_252 40 [(0, .ref 67), (4, .int x4), (6, .int z6)] [] s = some r
  refine ev_seg 3 (k' := 43) (L' := [(0, .ref 67), (4, .int x4), (6, .int z6)]) (st' := [.int x4, .int z6, .ref 67]) rfl ?_
  refine ev_callV (q' := q_255) (x := 255) (y := 13) (c := 67) (As := [.int z6, .int x4]) (rest := []) hr rfl rfl rfl rfl rfl rfl rfl rfl rfl rfl rfl rfl (fun rv s1 hq => ev_kV hq (fun e9 hr => ?_))
  subst e9
  refine ev_st (st' := []) rfl ?_
  refine ev_seg 1 (k' := 193) (L' := [(0, .ref 67), (4, .int x4), (6, .int z6)]) (st' := []) rfl ?_
  exact ev_vret hr rfl rfl
set_option maxRecDepth 20000 in
theorem eMo_datum_64 (d : Nat) (x4 : Int32) (l7 : Int64) (s : aT) : ∀ r, (if x4 = 0 then rV s else cG (fMo_putVarint d l7 s) (kV fun s1 => rV s1)) = some r → fMo_datum_64 (d + 1) x4 l7 s = some r := by
  intro r hr
  show ev (d + 1) q_252 64 [(0, .ref 67), (4, .int x4), (7, .long l7)] [] s = some r
  refine ev_seg 1 (k' := 65) (L' := [(0, .ref 67), (4, .int x4), (7, .long l7)]) (st' := [.int x4]) rfl ?_
  refine ev_br (P := x4 = 0) (L' := [(0, .ref 67), (4, .int x4), (7, .long l7)]) (st' := []) hr rfl rfl rfl (fun hr => ?_) (fun hr => ?_)
  · skip
    exact ev_vret hr rfl rfl
  · skip
    refine ev_seg 2 (k' := 68) (L' := [(0, .ref 67), (4, .int x4), (7, .long l7)]) (st' := [.long l7, .ref 67]) rfl ?_
    refine ev_callV (q' := q_258) (x := 258) (y := 13) (c := 67) (As := [.long l7]) (rest := []) hr rfl rfl rfl rfl rfl rfl rfl rfl rfl rfl rfl rfl (fun rv s1 hq => ev_kV hq (fun e9 hr => ?_))
    subst e9
    refine ev_st (st' := []) rfl ?_
    refine ev_seg 1 (k' := 193) (L' := [(0, .ref 67), (4, .int x4), (7, .long l7)]) (st' := []) rfl ?_
    exact ev_vret hr rfl rfl
set_option maxRecDepth 20000 in
theorem eMo_datum_137 (d : Nat) (t1 : Nat) (x2 : Int32) (x3 : Int32) (x4 : Int32) (z5 : Int32) (l11 : Int64) (s : aT) (ht1 : isT t1) : ∀ r, (cG (fMo_failBytes d 4 z5 s) (kV fun s1 => fMo_datum_141 (d + 1) t1 x2 x3 x4 l11 s1)) = some r → fMo_datum_137 (d + 1) t1 x2 x3 x4 z5 l11 s = some r := by
  intro r hr
  show ev (d + 1) q_252 137 [(0, .ref 67), (1, .ref t1), (2, .int x2), (3, .int x3), (4, .int x4), (5, .int z5), (11, .long l11)] [] s = some r
  refine ev_seg 3 (k' := 140) (L' := [(0, .ref 67), (1, .ref t1), (2, .int x2), (3, .int x3), (4, .int x4), (5, .int z5), (11, .long l11)]) (st' := [.int z5, .int 4, .ref 67]) rfl ?_
  refine ev_callV (q' := q_253) (x := 253) (y := 13) (c := 67) (As := [.int 4, .int z5]) (rest := []) hr rfl rfl rfl rfl rfl rfl rfl rfl rfl rfl rfl rfl (fun rv s1 hq => ev_kV hq (fun e9 hr => ?_))
  subst e9
  refine ev_st (st' := []) rfl ?_
  refine ev_join (L' := [(0, .ref 67), (1, .ref t1), (2, .int x2), (3, .int x3), (4, .int x4), (11, .long l11)]) [0, 1, 2, 3, 4, 6] [0, 1, 2, 3, 4, 5, 11] [0, 1, 2, 3, 4, 11] rfl rfl (by decide) (by decide) rfl ?_
  exact hr
set_option maxRecDepth 20000 in
theorem eMo_datum_141 (d : Nat) (t1 : Nat) (x2 : Int32) (x3 : Int32) (x4 : Int32) (l11 : Int64) (s : aT) (ht1 : isT t1) : ∀ r, (if x4 = 0 then fMo_datum_146 (d + 1) t1 x2 x3 x4 l11 s else cG (fMo_putVarint d l11 s) (kV fun s1 => fMo_datum_146 (d + 1) t1 x2 x3 x4 l11 s1)) = some r → fMo_datum_141 (d + 1) t1 x2 x3 x4 l11 s = some r := by
  intro r hr
  show ev (d + 1) q_252 141 [(0, .ref 67), (1, .ref t1), (2, .int x2), (3, .int x3), (4, .int x4), (11, .long l11)] [] s = some r
  refine ev_seg 1 (k' := 142) (L' := [(0, .ref 67), (1, .ref t1), (2, .int x2), (3, .int x3), (4, .int x4), (11, .long l11)]) (st' := [.int x4]) rfl ?_
  refine ev_br (P := x4 = 0) (L' := [(0, .ref 67), (1, .ref t1), (2, .int x2), (3, .int x3), (4, .int x4), (11, .long l11)]) (st' := []) hr rfl rfl rfl (fun hr => ?_) (fun hr => ?_)
  · skip
    exact hr
  · skip
    refine ev_seg 2 (k' := 145) (L' := [(0, .ref 67), (1, .ref t1), (2, .int x2), (3, .int x3), (4, .int x4), (11, .long l11)]) (st' := [.long l11, .ref 67]) rfl ?_
    refine ev_callV (q' := q_258) (x := 258) (y := 13) (c := 67) (As := [.long l11]) (rest := []) hr rfl rfl rfl rfl rfl rfl rfl rfl rfl rfl rfl rfl (fun rv s1 hq => ev_kV hq (fun e9 hr => ?_))
    subst e9
    refine ev_st (st' := []) rfl ?_
    exact hr
set_option maxRecDepth 20000 in
theorem eMo_datum_83 (d : Nat) (x4 : Int32) (z9 : Int32) (s : aT) : ∀ r, (if gI s 67 23 ≤ z9 then rV s else ldI 4096 s 68 z9 (fun v1 => cG (fMo_put d v1 x4 s) (kV fun s2 => fMo_datum_83 (d + 1) x4 (z9 + 1) s2))) = some r → fMo_datum_83 (d + 1) x4 z9 s = some r := by
  intro r hr
  show ev (d + 1) q_252 83 [(0, .ref 67), (4, .int x4), (9, .int z9)] [] s = some r
  refine ev_seg 3 (k' := 86) (L' := [(0, .ref 67), (4, .int x4), (9, .int z9)]) (st' := [.int (gI s 67 23), .int z9]) rfl ?_
  refine ev_br (P := gI s 67 23 ≤ z9) (L' := [(0, .ref 67), (4, .int x4), (9, .int z9)]) (st' := []) hr rfl rfl rfl (fun hr => ?_) (fun hr => ?_)
  · skip
    refine ev_seg 1 (k' := 193) (L' := [(0, .ref 67), (4, .int x4), (9, .int z9)]) (st' := []) rfl ?_
    exact ev_vret hr rfl rfl
  · skip
    refine ev_seg 4 (k' := 91) (L' := [(0, .ref 67), (4, .int x4), (9, .int z9)]) (st' := [.int z9, .ref 68, .ref 67]) rfl ?_
    refine ev_ldB hr rfl rfl (fun v1 hr => ?_)
    refine ev_seg 1 (k' := 93) (L' := [(0, .ref 67), (4, .int x4), (9, .int z9)]) (st' := [.int x4, .int v1, .ref 67]) rfl ?_
    refine ev_callV (q' := q_255) (x := 255) (y := 13) (c := 67) (As := [.int v1, .int x4]) (rest := []) hr rfl rfl rfl rfl rfl rfl rfl rfl rfl rfl rfl rfl (fun rv s2 hq => ev_kV hq (fun e9 hr => ?_))
    subst e9
    refine ev_st (st' := []) rfl ?_
    refine ev_seg 2 (k' := 83) (L' := [(9, .int (z9 + 1)), (0, .ref 67), (4, .int x4)]) (st' := []) rfl ?_
    refine ev_join (L' := [(0, .ref 67), (4, .int x4), (9, .int (z9 + 1))]) [1, 2, 0] [9, 0, 4] [0, 4, 9] rfl rfl (by decide) (by decide) rfl ?_
    exact hr
set_option maxRecDepth 20000 in
theorem eMo_datum_112 (d : Nat) (x4 : Int32) (z5 : Int32) (l9 : Int64) (s : aT) : ∀ r, (cG (fMo_failBytes d 5 z5 s) (kV fun s1 => fMo_datum_116 (d + 1) x4 l9 s1)) = some r → fMo_datum_112 (d + 1) x4 z5 l9 s = some r := by
  intro r hr
  show ev (d + 1) q_252 112 [(0, .ref 67), (4, .int x4), (5, .int z5), (9, .long l9)] [] s = some r
  refine ev_seg 3 (k' := 115) (L' := [(0, .ref 67), (4, .int x4), (5, .int z5), (9, .long l9)]) (st' := [.int z5, .int 5, .ref 67]) rfl ?_
  refine ev_callV (q' := q_253) (x := 253) (y := 13) (c := 67) (As := [.int 5, .int z5]) (rest := []) hr rfl rfl rfl rfl rfl rfl rfl rfl rfl rfl rfl rfl (fun rv s1 hq => ev_kV hq (fun e9 hr => ?_))
  subst e9
  refine ev_st (st' := []) rfl ?_
  refine ev_join (L' := [(0, .ref 67), (4, .int x4), (9, .long l9)]) [0, 1, 3] [0, 4, 5, 9] [0, 4, 9] rfl rfl (by decide) (by decide) rfl ?_
  exact hr
set_option maxRecDepth 20000 in
theorem eMo_datum_116 (d : Nat) (x4 : Int32) (l9 : Int64) (s : aT) : ∀ r, (if x4 = 0 then rV s else cG (fMo_putVarint d l9 s) (kV fun s1 => rV s1)) = some r → fMo_datum_116 (d + 1) x4 l9 s = some r := by
  intro r hr
  show ev (d + 1) q_252 116 [(0, .ref 67), (4, .int x4), (9, .long l9)] [] s = some r
  refine ev_seg 1 (k' := 117) (L' := [(0, .ref 67), (4, .int x4), (9, .long l9)]) (st' := [.int x4]) rfl ?_
  refine ev_br (P := x4 = 0) (L' := [(0, .ref 67), (4, .int x4), (9, .long l9)]) (st' := []) hr rfl rfl rfl (fun hr => ?_) (fun hr => ?_)
  · skip
    exact ev_vret hr rfl rfl
  · skip
    refine ev_seg 2 (k' := 120) (L' := [(0, .ref 67), (4, .int x4), (9, .long l9)]) (st' := [.long l9, .ref 67]) rfl ?_
    refine ev_callV (q' := q_258) (x := 258) (y := 13) (c := 67) (As := [.long l9]) (rest := []) hr rfl rfl rfl rfl rfl rfl rfl rfl rfl rfl rfl rfl (fun rv s1 hq => ev_kV hq (fun e9 hr => ?_))
    subst e9
    refine ev_st (st' := []) rfl ?_
    refine ev_seg 1 (k' := 193) (L' := [(0, .ref 67), (4, .int x4), (9, .long l9)]) (st' := []) rfl ?_
    exact ev_vret hr rfl rfl
set_option maxRecDepth 20000 in
theorem eMo_datum_167 (d : Nat) (t1 : Nat) (x3 : Int32) (x4 : Int32) (z13 : Int32) (s : aT) (ht1 : isT t1) : ∀ r, (if z13 < 0 then rV s else ldI 2200 s (t1 + 15) z13 (fun v1 => cG (fMo_datum d t1 v1 (x3 + 1) x4 s) (kV fun s2 => ldI 2200 s2 (t1 + 18) z13 (fun v3 => fMo_datum_167 (d + 1) t1 x3 x4 v3 s2)))) = some r → fMo_datum_167 (d + 1) t1 x3 x4 z13 s = some r := by
  intro r hr
  show ev (d + 1) q_252 167 [(0, .ref 67), (1, .ref t1), (3, .int x3), (4, .int x4), (13, .int z13)] [] s = some r
  refine ev_seg 1 (k' := 168) (L' := [(0, .ref 67), (1, .ref t1), (3, .int x3), (4, .int x4), (13, .int z13)]) (st' := [.int z13]) rfl ?_
  refine ev_br (P := z13 < 0) (L' := [(0, .ref 67), (1, .ref t1), (3, .int x3), (4, .int x4), (13, .int z13)]) (st' := []) hr rfl rfl rfl (fun hr => ?_) (fun hr => ?_)
  · skip
    refine ev_seg 1 (k' := 193) (L' := [(0, .ref 67), (1, .ref t1), (3, .int x3), (4, .int x4), (13, .int z13)]) (st' := []) rfl ?_
    exact ev_vret hr rfl rfl
  · skip
    refine ev_seg 3 (k' := 172) (L' := [(0, .ref 67), (1, .ref t1), (3, .int x3), (4, .int x4), (13, .int z13)]) (st' := [.ref t1, .ref t1, .ref 67]) rfl ?_
    refine ev_getR (c := t1) (v := t1 + 15) rfl (isT_sh ht1) rfl (isT_r15 ht1) ?_
    refine ev_seg 1 (k' := 174) (L' := [(0, .ref 67), (1, .ref t1), (3, .int x3), (4, .int x4), (13, .int z13)]) (st' := [.int z13, .ref (t1 + 15), .ref t1, .ref 67]) rfl ?_
    refine ev_ldI hr rfl (isT_a15 ht1) (fun v1 hr => ?_)
    refine ev_seg 4 (k' := 179) (L' := [(0, .ref 67), (1, .ref t1), (3, .int x3), (4, .int x4), (13, .int z13)]) (st' := [.int x4, .int (x3 + 1), .int v1, .ref t1, .ref 67]) rfl ?_
    refine ev_callV (q' := q_252) (x := 252) (y := 13) (c := 67) (As := [.ref t1, .int v1, .int (x3 + 1), .int x4]) (rest := []) hr rfl rfl rfl rfl rfl rfl rfl rfl rfl rfl rfl rfl (fun rv s2 hq => ev_kV hq (fun e9 hr => ?_))
    subst e9
    refine ev_st (st' := []) rfl ?_
    refine ev_seg 1 (k' := 181) (L' := [(0, .ref 67), (1, .ref t1), (3, .int x3), (4, .int x4), (13, .int z13)]) (st' := [.ref t1]) rfl ?_
    refine ev_getR (c := t1) (v := t1 + 18) rfl (isT_sh ht1) rfl (isT_r18 ht1) ?_
    refine ev_seg 1 (k' := 183) (L' := [(0, .ref 67), (1, .ref t1), (3, .int x3), (4, .int x4), (13, .int z13)]) (st' := [.int z13, .ref (t1 + 18)]) rfl ?_
    refine ev_ldI hr rfl (isT_a18 ht1) (fun v3 hr => ?_)
    refine ev_seg 2 (k' := 167) (L' := [(13, .int v3), (0, .ref 67), (1, .ref t1), (3, .int x3), (4, .int x4)]) (st' := []) rfl ?_
    refine ev_join (L' := [(0, .ref 67), (1, .ref t1), (3, .int x3), (4, .int x4), (13, .int v3)]) [1, 2, 3, 4, 0] [13, 0, 1, 3, 4] [0, 1, 3, 4, 13] rfl rfl (by decide) (by decide) rfl ?_
    exact hr
set_option maxRecDepth 20000 in
theorem eMo_datum_146 (d : Nat) (t1 : Nat) (x2 : Int32) (x3 : Int32) (x4 : Int32) (l11 : Int64) (s : aT) (ht1 : isT t1) : ∀ r, (cN (fMt_kid d t1 x2 l11.toInt32 s) (kI fun v2 s1 => ldI 2200 s1 (t1 + 15) v2 (fun v3 => cG (fMo_datum d t1 v3 (x3 + 1) x4 s1) (kV fun s4 => rV s4)))) = some r → fMo_datum_146 (d + 1) t1 x2 x3 x4 l11 s = some r := by
  intro r hr
  show ev (d + 1) q_252 146 [(0, .ref 67), (1, .ref t1), (2, .int x2), (3, .int x3), (4, .int x4), (11, .long l11)] [] s = some r
  refine ev_seg 3 (k' := 149) (L' := [(0, .ref 67), (1, .ref t1), (2, .int x2), (3, .int x3), (4, .int x4), (11, .long l11)]) (st' := [.ref t1, .ref t1, .ref 67]) rfl ?_
  refine ev_getR (c := t1) (v := t1 + 15) rfl (isT_sh ht1) rfl (isT_r15 ht1) ?_
  refine ev_seg 4 (k' := 154) (L' := [(0, .ref 67), (1, .ref t1), (2, .int x2), (3, .int x3), (4, .int x4), (11, .long l11)]) (st' := [.int l11.toInt32, .int x2, .ref t1, .ref (t1 + 15), .ref t1, .ref 67]) rfl ?_
  refine ev_callN (q' := q_261) (x := 261) (y := 112) (c := t1) (As := [.int x2, .int l11.toInt32]) (rest := [.ref (t1 + 15), .ref t1, .ref 67]) hr rfl rfl rfl rfl rfl rfl (isT_sh ht1) rfl rfl (fun rv s1 hq => ev_kI hq (fun v2 e9 hr => ?_))
  subst e9
  refine ev_st (st' := [.int v2, .ref (t1 + 15), .ref t1, .ref 67]) rfl ?_
  refine ev_ldI hr rfl (isT_a15 ht1) (fun v3 hr => ?_)
  refine ev_seg 4 (k' := 160) (L' := [(0, .ref 67), (1, .ref t1), (2, .int x2), (3, .int x3), (4, .int x4), (11, .long l11)]) (st' := [.int x4, .int (x3 + 1), .int v3, .ref t1, .ref 67]) rfl ?_
  refine ev_callV (q' := q_252) (x := 252) (y := 13) (c := 67) (As := [.ref t1, .int v3, .int (x3 + 1), .int x4]) (rest := []) hr rfl rfl rfl rfl rfl rfl rfl rfl rfl rfl rfl rfl (fun rv s4 hq => ev_kV hq (fun e9 hr => ?_))
  subst e9
  refine ev_st (st' := []) rfl ?_
  refine ev_seg 1 (k' := 193) (L' := [(0, .ref 67), (1, .ref t1), (2, .int x2), (3, .int x3), (4, .int x4), (11, .long l11)]) (st' := []) rfl ?_
  exact ev_vret hr rfl rfl
set_option maxRecDepth 20000 in
theorem eMo_failBytes (d : Nat) (x1 : Int32) (x2 : Int32) (s : aT) : ∀ r, (wI s 67 24 x1 (fun s1 => wI s1 67 25 x2 (fun s2 => rX 0 s2))) = some r → fMo_failBytes d x1 x2 s = some r := by
  intro r hr
  show ev d q_253 0 [(0, .ref 67), (1, .int x1), (2, .int x2)] [] s = some r
  refine ev_seg 2 (k' := 2) (L' := [(0, .ref 67), (1, .int x1), (2, .int x2)]) (st' := [.int x1, .ref 67]) rfl ?_
  refine ev_putI (c := 67) hr rfl rfl rfl (fun s1 hr => ?_)
  refine ev_seg 2 (k' := 5) (L' := [(0, .ref 67), (1, .int x1), (2, .int x2)]) (st' := [.int x2, .ref 67]) rfl ?_
  refine ev_putI (c := 67) hr rfl rfl rfl (fun s2 hr => ?_)
  exact ev_new hr rfl rfl
set_option maxRecDepth 20000 in
theorem eMo_byteHere (d : Nat) (s : aT) : ∀ r, (if gI s 67 23 < gI s 67 2 then fMo_byteHere_10 (d + 1) s else cG (fMo_failBytes d 1 (gI s 67 2) s) (kV fun s1 => fMo_byteHere_10 (d + 1) s1)) = some r → fMo_byteHere (d + 1) s = some r := by
  intro r hr
  show ev (d + 1) q_254 0 [(0, .ref 67)] [] s = some r
  refine ev_seg 4 (k' := 4) (L' := [(0, .ref 67)]) (st' := [.int (gI s 67 2), .int (gI s 67 23)]) rfl ?_
  refine ev_br (P := gI s 67 23 < gI s 67 2) (L' := [(0, .ref 67)]) (st' := []) hr rfl rfl rfl (fun hr => ?_) (fun hr => ?_)
  · skip
    exact hr
  · skip
    refine ev_seg 4 (k' := 9) (L' := [(0, .ref 67)]) (st' := [.int (gI s 67 2), .int 1, .ref 67]) rfl ?_
    refine ev_callV (q' := q_253) (x := 253) (y := 13) (c := 67) (As := [.int 1, .int (gI s 67 2)]) (rest := []) hr rfl rfl rfl rfl rfl rfl rfl rfl rfl rfl rfl rfl (fun rv s1 hq => ev_kV hq (fun e9 hr => ?_))
    subst e9
    refine ev_st (st' := []) rfl ?_
    exact hr
set_option maxRecDepth 20000 in
theorem eMo_byteHere_10 (d : Nat) (s : aT) : ∀ r, (wI s 67 23 ((gI s 67 23) + 1) (fun s1 => ldI 4096 s1 68 ((gI s1 67 23) - 1) (fun v2 => rI (v2 &&& 255) s1))) = some r → fMo_byteHere_10 (d + 1) s = some r := by
  intro r hr
  show ev (d + 1) q_254 10 [(0, .ref 67)] [] s = some r
  refine ev_seg 5 (k' := 15) (L' := [(0, .ref 67)]) (st' := [.int ((gI s 67 23) + 1), .ref 67]) rfl ?_
  refine ev_putI (c := 67) hr rfl rfl rfl (fun s1 hr => ?_)
  refine ev_seg 6 (k' := 22) (L' := [(0, .ref 67)]) (st' := [.int ((gI s1 67 23) - 1), .ref 68]) rfl ?_
  refine ev_ldB hr rfl rfl (fun v2 hr => ?_)
  refine ev_seg 2 (k' := 25) (L' := [(0, .ref 67)]) (st' := [.int (v2 &&& 255)]) rfl ?_
  exact ev_iret hr rfl rfl rfl
set_option maxRecDepth 20000 in
theorem eMo_put (d : Nat) (x1 : Int32) (x2 : Int32) (s : aT) : ∀ r, (if x2 = 0 then rV s else cG (fMo_putByte d x1 s) (kV fun s1 => rV s1)) = some r → fMo_put (d + 1) x1 x2 s = some r := by
  intro r hr
  show ev (d + 1) q_255 0 [(0, .ref 67), (1, .int x1), (2, .int x2)] [] s = some r
  refine ev_seg 1 (k' := 1) (L' := [(0, .ref 67), (1, .int x1), (2, .int x2)]) (st' := [.int x2]) rfl ?_
  refine ev_br (P := x2 = 0) (L' := [(0, .ref 67), (1, .int x1), (2, .int x2)]) (st' := []) hr rfl rfl rfl (fun hr => ?_) (fun hr => ?_)
  · skip
    exact ev_vret hr rfl rfl
  · skip
    refine ev_seg 2 (k' := 4) (L' := [(0, .ref 67), (1, .int x1), (2, .int x2)]) (st' := [.int x1, .ref 67]) rfl ?_
    refine ev_callV (q' := q_256) (x := 256) (y := 13) (c := 67) (As := [.int x1]) (rest := []) hr rfl rfl rfl rfl rfl rfl rfl rfl rfl rfl rfl rfl (fun rv s1 hq => ev_kV hq (fun e9 hr => ?_))
    subst e9
    refine ev_st (st' := []) rfl ?_
    exact ev_vret hr rfl rfl
set_option maxRecDepth 20000 in
theorem eMo_putByte (d : Nat) (x1 : Int32) (s : aT) : ∀ r, (if 4200 ≤ gI s 67 22 then wI s 67 22 ((gI s 67 22) + 1) (fun s1 => rV s1) else stI 4200 s 144 (gI s 67 22) (vp_nar .byte x1.toInt8.toInt32) (fun s2 => wI s2 67 22 ((gI s2 67 22) + 1) (fun s3 => rV s3))) = some r → fMo_putByte d x1 s = some r := by
  intro r hr
  show ev d q_256 0 [(0, .ref 67), (1, .int x1)] [] s = some r
  refine ev_seg 3 (k' := 3) (L' := [(0, .ref 67), (1, .int x1)]) (st' := [.int 4200, .int (gI s 67 22)]) rfl ?_
  refine ev_br (P := 4200 ≤ gI s 67 22) (L' := [(0, .ref 67), (1, .int x1)]) (st' := []) hr rfl rfl rfl (fun hr => ?_) (fun hr => ?_)
  · skip
    refine ev_seg 5 (k' := 16) (L' := [(0, .ref 67), (1, .int x1)]) (st' := [.int ((gI s 67 22) + 1), .ref 67]) rfl ?_
    refine ev_putI (c := 67) hr rfl rfl rfl (fun s1 hr => ?_)
    exact ev_vret hr rfl rfl
  · skip
    refine ev_seg 6 (k' := 10) (L' := [(0, .ref 67), (1, .int x1)]) (st' := [.int x1.toInt8.toInt32, .int (gI s 67 22), .ref 144]) rfl ?_
    refine ev_stB hr rfl rfl (fun s2 hr => ?_)
    refine ev_seg 5 (k' := 16) (L' := [(0, .ref 67), (1, .int x1)]) (st' := [.int ((gI s2 67 22) + 1), .ref 67]) rfl ?_
    refine ev_putI (c := 67) hr rfl rfl rfl (fun s3 hr => ?_)
    exact ev_vret hr rfl rfl
set_option maxRecDepth 20000 in
theorem eMo_varint (d : Nat) (s : aT) : ∀ r, (fMo_varint_7 (d + 1) (gI s 67 23) 0 0 s) = some r → fMo_varint (d + 1) s = some r := by
  intro r hr
  show ev (d + 1) q_257 0 [(0, .ref 67)] [] s = some r
  refine ev_seg 7 (k' := 7) (L' := [(4, .int 0), (2, .long 0), (1, .int (gI s 67 23)), (0, .ref 67)]) (st' := []) rfl ?_
  refine ev_join (L' := [(0, .ref 67), (1, .int (gI s 67 23)), (2, .long 0), (4, .int 0)]) [3, 2, 1, 0] [4, 2, 1, 0] [0, 1, 2, 4] rfl rfl (by decide) (by decide) rfl ?_
  exact hr
set_option maxRecDepth 20000 in
theorem eMo_varint_7 (d : Nat) (z1 : Int32) (l2 : Int64) (z4 : Int32) (s : aT) : ∀ r, (if 10 ≤ z4 then rL 0 s else cG (fMo_byteHere d s) (kI fun v2 s1 => if ¬ z4 = 9 then fMo_varint_23 (d + 1) z1 l2 z4 v2 s1 else if v2 ≤ 1 then fMo_varint_23 (d + 1) z1 l2 z4 v2 s1 else cG (fMo_failBytes d 2 z1 s1) (kV fun s3 => fMo_varint_23 (d + 1) z1 l2 z4 v2 s3))) = some r → fMo_varint_7 (d + 1) z1 l2 z4 s = some r := by
  intro r hr
  show ev (d + 1) q_257 7 [(0, .ref 67), (1, .int z1), (2, .long l2), (4, .int z4)] [] s = some r
  refine ev_seg 2 (k' := 9) (L' := [(0, .ref 67), (1, .int z1), (2, .long l2), (4, .int z4)]) (st' := [.int 10, .int z4]) rfl ?_
  refine ev_br (P := 10 ≤ z4) (L' := [(0, .ref 67), (1, .int z1), (2, .long l2), (4, .int z4)]) (st' := []) hr rfl rfl rfl (fun hr => ?_) (fun hr => ?_)
  · skip
    refine ev_seg 1 (k' := 49) (L' := [(0, .ref 67), (1, .int z1), (2, .long l2), (4, .int z4)]) (st' := [.long 0]) rfl ?_
    exact ev_lret hr rfl rfl
  · skip
    refine ev_seg 1 (k' := 11) (L' := [(0, .ref 67), (1, .int z1), (2, .long l2), (4, .int z4)]) (st' := [.ref 67]) rfl ?_
    refine ev_callV (q' := q_254) (x := 254) (y := 13) (c := 67) (As := []) (rest := []) hr rfl rfl rfl rfl rfl rfl rfl rfl rfl rfl rfl rfl (fun rv s1 hq => ev_kI hq (fun v2 e9 hr => ?_))
    subst e9
    refine ev_st (st' := [.int v2]) rfl ?_
    refine ev_seg 3 (k' := 15) (L' := [(5, .int v2), (0, .ref 67), (1, .int z1), (2, .long l2), (4, .int z4)]) (st' := [.int 9, .int z4]) rfl ?_
    refine ev_br (P := ¬ z4 = 9) (L' := [(5, .int v2), (0, .ref 67), (1, .int z1), (2, .long l2), (4, .int z4)]) (st' := []) hr rfl rfl rfl (fun hr => ?_) (fun hr => ?_)
    · skip
      refine ev_join (L' := [(0, .ref 67), (1, .int z1), (2, .long l2), (4, .int z4), (5, .int v2)]) [1, 2, 3, 4, 0] [5, 0, 1, 2, 4] [0, 1, 2, 4, 5] rfl rfl (by decide) (by decide) rfl ?_
      exact hr
    · skip
      refine ev_seg 2 (k' := 18) (L' := [(5, .int v2), (0, .ref 67), (1, .int z1), (2, .long l2), (4, .int z4)]) (st' := [.int 1, .int v2]) rfl ?_
      refine ev_br (P := v2 ≤ 1) (L' := [(5, .int v2), (0, .ref 67), (1, .int z1), (2, .long l2), (4, .int z4)]) (st' := []) hr rfl rfl rfl (fun hr => ?_) (fun hr => ?_)
      · skip
        refine ev_join (L' := [(0, .ref 67), (1, .int z1), (2, .long l2), (4, .int z4), (5, .int v2)]) [1, 2, 3, 4, 0] [5, 0, 1, 2, 4] [0, 1, 2, 4, 5] rfl rfl (by decide) (by decide) rfl ?_
        exact hr
      · skip
        refine ev_seg 3 (k' := 22) (L' := [(5, .int v2), (0, .ref 67), (1, .int z1), (2, .long l2), (4, .int z4)]) (st' := [.int z1, .int 2, .ref 67]) rfl ?_
        refine ev_callV (q' := q_253) (x := 253) (y := 13) (c := 67) (As := [.int 2, .int z1]) (rest := []) hr rfl rfl rfl rfl rfl rfl rfl rfl rfl rfl rfl rfl (fun rv s3 hq => ev_kV hq (fun e9 hr => ?_))
        subst e9
        refine ev_st (st' := []) rfl ?_
        refine ev_join (L' := [(0, .ref 67), (1, .int z1), (2, .long l2), (4, .int z4), (5, .int v2)]) [1, 2, 3, 4, 0] [5, 0, 1, 2, 4] [0, 1, 2, 4, 5] rfl rfl (by decide) (by decide) rfl ?_
        exact hr
set_option maxRecDepth 20000 in
theorem eMo_varint_23 (d : Nat) (z1 : Int32) (l2 : Int64) (z4 : Int32) (z5 : Int32) (s : aT) : ∀ r, (if 128 ≤ z5 then fMo_varint_7 (d + 1) z1 (l2 ||| (((z5 &&& 127).toInt64) <<< ((7 * z4).toInt64 &&& 63))) (z4 + 1) s else rL ((((l2 ||| (((z5 &&& 127).toInt64) <<< ((7 * z4).toInt64 &&& 63))).toUInt64 >>> ((1 : Int32).toInt64.toUInt64 &&& Int64.toUInt64 63)).toInt64) ^^^ (-((l2 ||| (((z5 &&& 127).toInt64) <<< ((7 * z4).toInt64 &&& 63))) &&& 1))) s) = some r → fMo_varint_23 (d + 1) z1 l2 z4 z5 s = some r := by
  intro r hr
  show ev (d + 1) q_257 23 [(0, .ref 67), (1, .int z1), (2, .long l2), (4, .int z4), (5, .int z5)] [] s = some r
  refine ev_seg 13 (k' := 36) (L' := [(2, .long (l2 ||| (((z5 &&& 127).toInt64) <<< ((7 * z4).toInt64 &&& 63)))), (0, .ref 67), (1, .int z1), (4, .int z4), (5, .int z5)]) (st' := [.int 128, .int z5]) rfl ?_
  refine ev_br (P := 128 ≤ z5) (L' := [(2, .long (l2 ||| (((z5 &&& 127).toInt64) <<< ((7 * z4).toInt64 &&& 63)))), (0, .ref 67), (1, .int z1), (4, .int z4), (5, .int z5)]) (st' := []) hr rfl rfl rfl (fun hr => ?_) (fun hr => ?_)
  · skip
    refine ev_seg 2 (k' := 7) (L' := [(4, .int (z4 + 1)), (2, .long (l2 ||| (((z5 &&& 127).toInt64) <<< ((7 * z4).toInt64 &&& 63)))), (0, .ref 67), (1, .int z1), (5, .int z5)]) (st' := []) rfl ?_
    refine ev_join (L' := [(0, .ref 67), (1, .int z1), (2, .long (l2 ||| (((z5 &&& 127).toInt64) <<< ((7 * z4).toInt64 &&& 63)))), (4, .int (z4 + 1))]) [2, 3, 1, 0] [4, 2, 0, 1, 5] [0, 1, 2, 4] rfl rfl (by decide) (by decide) rfl ?_
    exact hr
  · skip
    refine ev_seg 8 (k' := 45) (L' := [(2, .long (l2 ||| (((z5 &&& 127).toInt64) <<< ((7 * z4).toInt64 &&& 63)))), (0, .ref 67), (1, .int z1), (4, .int z4), (5, .int z5)]) (st' := [.long ((((l2 ||| (((z5 &&& 127).toInt64) <<< ((7 * z4).toInt64 &&& 63))).toUInt64 >>> ((1 : Int32).toInt64.toUInt64 &&& Int64.toUInt64 63)).toInt64) ^^^ (-((l2 ||| (((z5 &&& 127).toInt64) <<< ((7 * z4).toInt64 &&& 63))) &&& 1)))]) rfl ?_
    exact ev_lret hr rfl rfl
set_option maxRecDepth 20000 in
theorem eMo_putVarint (d : Nat) (y1 : Int64) (s : aT) : ∀ r, (fMo_putVarint_8 (d + 1) ((y1 <<< ((1 : Int32).toInt64 &&& 63)) ^^^ (y1 >>> ((63 : Int32).toInt64 &&& 63))) s) = some r → fMo_putVarint (d + 1) y1 s = some r := by
  intro r hr
  show ev (d + 1) q_258 0 [(0, .ref 67), (1, .long y1)] [] s = some r
  refine ev_seg 8 (k' := 8) (L' := [(3, .long ((y1 <<< ((1 : Int32).toInt64 &&& 63)) ^^^ (y1 >>> ((63 : Int32).toInt64 &&& 63)))), (0, .ref 67), (1, .long y1)]) (st' := []) rfl ?_
  refine ev_join (L' := [(0, .ref 67), (3, .long ((y1 <<< ((1 : Int32).toInt64 &&& 63)) ^^^ (y1 >>> ((63 : Int32).toInt64 &&& 63))))]) [1, 0] [3, 0, 1] [0, 3] rfl rfl (by decide) (by decide) rfl ?_
  exact hr
set_option maxRecDepth 20000 in
theorem eMo_putVarint_8 (d : Nat) (l3 : Int64) (s : aT) : ∀ r, (if aLcmp ((l3.toUInt64 >>> ((7 : Int32).toInt64.toUInt64 &&& Int64.toUInt64 63)).toInt64) 0 = 0 then cG (fMo_putByte d l3.toInt32 s) (kV fun s1 => rV s1) else cG (fMo_putByte d (((l3 &&& 127).toInt32) ||| 128) s) (kV fun s2 => fMo_putVarint_8 (d + 1) ((l3.toUInt64 >>> ((7 : Int32).toInt64.toUInt64 &&& Int64.toUInt64 63)).toInt64) s2)) = some r → fMo_putVarint_8 (d + 1) l3 s = some r := by
  intro r hr
  show ev (d + 1) q_258 8 [(0, .ref 67), (3, .long l3)] [] s = some r
  refine ev_seg 5 (k' := 13) (L' := [(0, .ref 67), (3, .long l3)]) (st' := [.int (aLcmp ((l3.toUInt64 >>> ((7 : Int32).toInt64.toUInt64 &&& Int64.toUInt64 63)).toInt64) 0)]) rfl ?_
  refine ev_br (P := aLcmp ((l3.toUInt64 >>> ((7 : Int32).toInt64.toUInt64 &&& Int64.toUInt64 63)).toInt64) 0 = 0) (L' := [(0, .ref 67), (3, .long l3)]) (st' := []) hr rfl rfl rfl (fun hr => ?_) (fun hr => ?_)
  · skip
    refine ev_seg 3 (k' := 30) (L' := [(0, .ref 67), (3, .long l3)]) (st' := [.int l3.toInt32, .ref 67]) rfl ?_
    refine ev_callV (q' := q_256) (x := 256) (y := 13) (c := 67) (As := [.int l3.toInt32]) (rest := []) hr rfl rfl rfl rfl rfl rfl rfl rfl rfl rfl rfl rfl (fun rv s1 hq => ev_kV hq (fun e9 hr => ?_))
    subst e9
    refine ev_st (st' := []) rfl ?_
    exact ev_vret hr rfl rfl
  · skip
    refine ev_seg 7 (k' := 21) (L' := [(0, .ref 67), (3, .long l3)]) (st' := [.int (((l3 &&& 127).toInt32) ||| 128), .ref 67]) rfl ?_
    refine ev_callV (q' := q_256) (x := 256) (y := 13) (c := 67) (As := [.int (((l3 &&& 127).toInt32) ||| 128)]) (rest := []) hr rfl rfl rfl rfl rfl rfl rfl rfl rfl rfl rfl rfl (fun rv s2 hq => ev_kV hq (fun e9 hr => ?_))
    subst e9
    refine ev_st (st' := []) rfl ?_
    refine ev_seg 5 (k' := 8) (L' := [(3, .long ((l3.toUInt64 >>> ((7 : Int32).toInt64.toUInt64 &&& Int64.toUInt64 63)).toInt64)), (0, .ref 67)]) (st' := []) rfl ?_
    refine ev_join (L' := [(0, .ref 67), (3, .long ((l3.toUInt64 >>> ((7 : Int32).toInt64.toUInt64 &&& Int64.toUInt64 63)).toInt64))]) [1, 0] [3, 0] [0, 3] rfl rfl (by decide) (by decide) rfl ?_
    exact hr
set_option maxRecDepth 20000 in
theorem eMo_string (d : Nat) (x1 : Int32) (s : aT) : ∀ r, (cG (fMo_varint d s) (kL fun v2 s1 => if 0 ≤ aLcmp v2 0 then fMo_string_14 (d + 1) x1 v2 s1 else cG (fMo_failBytes d 6 (gI s 67 23) s1) (kV fun s3 => fMo_string_14 (d + 1) x1 v2 s3))) = some r → fMo_string (d + 1) x1 s = some r := by
  intro r hr
  show ev (d + 1) q_259 0 [(0, .ref 67), (1, .int x1)] [] s = some r
  refine ev_seg 4 (k' := 4) (L' := [(2, .int (gI s 67 23)), (0, .ref 67), (1, .int x1)]) (st' := [.ref 67]) rfl ?_
  refine ev_callV (q' := q_257) (x := 257) (y := 13) (c := 67) (As := []) (rest := []) hr rfl rfl rfl rfl rfl rfl rfl rfl rfl rfl rfl rfl (fun rv s1 hq => ev_kL hq (fun v2 e9 hr => ?_))
  subst e9
  refine ev_st (st' := [.long v2]) rfl ?_
  refine ev_seg 4 (k' := 9) (L' := [(3, .long v2), (2, .int (gI s 67 23)), (0, .ref 67), (1, .int x1)]) (st' := [.int (aLcmp v2 0)]) rfl ?_
  refine ev_br (P := 0 ≤ aLcmp v2 0) (L' := [(3, .long v2), (2, .int (gI s 67 23)), (0, .ref 67), (1, .int x1)]) (st' := []) hr rfl rfl rfl (fun hr => ?_) (fun hr => ?_)
  · skip
    refine ev_join (L' := [(0, .ref 67), (1, .int x1), (3, .long v2)]) [2, 3, 0] [3, 2, 0, 1] [0, 1, 3] rfl rfl (by decide) (by decide) rfl ?_
    exact hr
  · skip
    refine ev_seg 3 (k' := 13) (L' := [(3, .long v2), (2, .int (gI s 67 23)), (0, .ref 67), (1, .int x1)]) (st' := [.int (gI s 67 23), .int 6, .ref 67]) rfl ?_
    refine ev_callV (q' := q_253) (x := 253) (y := 13) (c := 67) (As := [.int 6, .int (gI s 67 23)]) (rest := []) hr rfl rfl rfl rfl rfl rfl rfl rfl rfl rfl rfl rfl (fun rv s3 hq => ev_kV hq (fun e9 hr => ?_))
    subst e9
    refine ev_st (st' := []) rfl ?_
    refine ev_join (L' := [(0, .ref 67), (1, .int x1), (3, .long v2)]) [2, 3, 0] [3, 2, 0, 1] [0, 1, 3] rfl rfl (by decide) (by decide) rfl ?_
    exact hr
set_option maxRecDepth 20000 in
theorem eMo_string_14 (d : Nat) (x1 : Int32) (l3 : Int64) (s : aT) : ∀ r, (cG (fMo_pass d l3 s) (kV fun s1 => if x1 = 0 then rV s1 else cG (fMo_putVarint d l3 s1) (kV fun s2 => fMo_string_27 (d + 1) (gI s 67 23) s2))) = some r → fMo_string_14 (d + 1) x1 l3 s = some r := by
  intro r hr
  show ev (d + 1) q_259 14 [(0, .ref 67), (1, .int x1), (3, .long l3)] [] s = some r
  refine ev_seg 5 (k' := 19) (L' := [(5, .int (gI s 67 23)), (0, .ref 67), (1, .int x1), (3, .long l3)]) (st' := [.long l3, .ref 67]) rfl ?_
  refine ev_callV (q' := q_260) (x := 260) (y := 13) (c := 67) (As := [.long l3]) (rest := []) hr rfl rfl rfl rfl rfl rfl rfl rfl rfl rfl rfl rfl (fun rv s1 hq => ev_kV hq (fun e9 hr => ?_))
  subst e9
  refine ev_st (st' := []) rfl ?_
  refine ev_seg 1 (k' := 21) (L' := [(5, .int (gI s 67 23)), (0, .ref 67), (1, .int x1), (3, .long l3)]) (st' := [.int x1]) rfl ?_
  refine ev_br (P := x1 = 0) (L' := [(5, .int (gI s 67 23)), (0, .ref 67), (1, .int x1), (3, .long l3)]) (st' := []) hr rfl rfl rfl (fun hr => ?_) (fun hr => ?_)
  · skip
    exact ev_vret hr rfl rfl
  · skip
    refine ev_seg 2 (k' := 24) (L' := [(5, .int (gI s 67 23)), (0, .ref 67), (1, .int x1), (3, .long l3)]) (st' := [.long l3, .ref 67]) rfl ?_
    refine ev_callV (q' := q_258) (x := 258) (y := 13) (c := 67) (As := [.long l3]) (rest := []) hr rfl rfl rfl rfl rfl rfl rfl rfl rfl rfl rfl rfl (fun rv s2 hq => ev_kV hq (fun e9 hr => ?_))
    subst e9
    refine ev_st (st' := []) rfl ?_
    refine ev_seg 2 (k' := 27) (L' := [(6, .int (gI s 67 23)), (5, .int (gI s 67 23)), (0, .ref 67), (1, .int x1), (3, .long l3)]) (st' := []) rfl ?_
    refine ev_join (L' := [(0, .ref 67), (6, .int (gI s 67 23))]) [2, 0] [6, 5, 0, 1, 3] [0, 6] rfl rfl (by decide) (by decide) rfl ?_
    exact hr
set_option maxRecDepth 20000 in
theorem eMo_string_27 (d : Nat) (z6 : Int32) (s : aT) : ∀ r, (if gI s 67 23 ≤ z6 then rV s else ldI 4096 s 68 z6 (fun v1 => cG (fMo_putByte d v1 s) (kV fun s2 => fMo_string_27 (d + 1) (z6 + 1) s2))) = some r → fMo_string_27 (d + 1) z6 s = some r := by
  intro r hr
  show ev (d + 1) q_259 27 [(0, .ref 67), (6, .int z6)] [] s = some r
  refine ev_seg 3 (k' := 30) (L' := [(0, .ref 67), (6, .int z6)]) (st' := [.int (gI s 67 23), .int z6]) rfl ?_
  refine ev_br (P := gI s 67 23 ≤ z6) (L' := [(0, .ref 67), (6, .int z6)]) (st' := []) hr rfl rfl rfl (fun hr => ?_) (fun hr => ?_)
  · skip
    exact ev_vret hr rfl rfl
  · skip
    refine ev_seg 4 (k' := 35) (L' := [(0, .ref 67), (6, .int z6)]) (st' := [.int z6, .ref 68, .ref 67]) rfl ?_
    refine ev_ldB hr rfl rfl (fun v1 hr => ?_)
    refine ev_callV (q' := q_256) (x := 256) (y := 13) (c := 67) (As := [.int v1]) (rest := []) hr rfl rfl rfl rfl rfl rfl rfl rfl rfl rfl rfl rfl (fun rv s2 hq => ev_kV hq (fun e9 hr => ?_))
    subst e9
    refine ev_st (st' := []) rfl ?_
    refine ev_seg 2 (k' := 27) (L' := [(6, .int (z6 + 1)), (0, .ref 67)]) (st' := []) rfl ?_
    refine ev_join (L' := [(0, .ref 67), (6, .int (z6 + 1))]) [1, 0] [6, 0] [0, 6] rfl rfl (by decide) (by decide) rfl ?_
    exact hr
set_option maxRecDepth 20000 in
theorem eMo_pass (d : Nat) (y1 : Int64) (s : aT) : ∀ r, (if aLcmp y1 (((gI s 67 2) - (gI s 67 23)).toInt64) ≤ 0 then fMo_pass_14 (d + 1) y1 s else cG (fMo_failBytes d 1 (gI s 67 2) s) (kV fun s1 => fMo_pass_14 (d + 1) y1 s1)) = some r → fMo_pass (d + 1) y1 s = some r := by
  intro r hr
  show ev (d + 1) q_260 0 [(0, .ref 67), (1, .long y1)] [] s = some r
  refine ev_seg 8 (k' := 8) (L' := [(0, .ref 67), (1, .long y1)]) (st' := [.int (aLcmp y1 (((gI s 67 2) - (gI s 67 23)).toInt64))]) rfl ?_
  refine ev_br (P := aLcmp y1 (((gI s 67 2) - (gI s 67 23)).toInt64) ≤ 0) (L' := [(0, .ref 67), (1, .long y1)]) (st' := []) hr rfl rfl rfl (fun hr => ?_) (fun hr => ?_)
  · skip
    exact hr
  · skip
    refine ev_seg 4 (k' := 13) (L' := [(0, .ref 67), (1, .long y1)]) (st' := [.int (gI s 67 2), .int 1, .ref 67]) rfl ?_
    refine ev_callV (q' := q_253) (x := 253) (y := 13) (c := 67) (As := [.int 1, .int (gI s 67 2)]) (rest := []) hr rfl rfl rfl rfl rfl rfl rfl rfl rfl rfl rfl rfl (fun rv s1 hq => ev_kV hq (fun e9 hr => ?_))
    subst e9
    refine ev_st (st' := []) rfl ?_
    exact hr
set_option maxRecDepth 20000 in
theorem eMo_pass_14 (d : Nat) (y1 : Int64) (s : aT) : ∀ r, (wI s 67 23 ((gI s 67 23) + y1.toInt32) (fun s1 => rV s1)) = some r → fMo_pass_14 (d + 1) y1 s = some r := by
  intro r hr
  show ev (d + 1) q_260 14 [(0, .ref 67), (1, .long y1)] [] s = some r
  refine ev_seg 6 (k' := 20) (L' := [(0, .ref 67), (1, .long y1)]) (st' := [.int ((gI s 67 23) + y1.toInt32), .ref 67]) rfl ?_
  refine ev_putI (c := 67) hr rfl rfl rfl (fun s1 hr => ?_)
  exact ev_vret hr rfl rfl
set_option maxRecDepth 20000 in
theorem eMo_blocks (d : Nat) (t1 : Nat) (x2 : Int32) (x3 : Int32) (x4 : Int32) (s : aT) (ht1 : isT t1) : ∀ r, (fMo_blocks_7 (d + 1) t1 x2 x3 x4 (gI s 67 22) 0 1 s) = some r → fMo_blocks (d + 1) t1 x2 x3 x4 s = some r := by
  intro r hr
  show ev (d + 1) q_262 0 [(0, .ref 67), (1, .ref t1), (2, .int x2), (3, .int x3), (4, .int x4)] [] s = some r
  refine ev_seg 7 (k' := 7) (L' := [(7, .int 1), (6, .int 0), (5, .int (gI s 67 22)), (0, .ref 67), (1, .ref t1), (2, .int x2), (3, .int x3), (4, .int x4)]) (st' := []) rfl ?_
  refine ev_join (L' := [(0, .ref 67), (1, .ref t1), (2, .int x2), (3, .int x3), (4, .int x4), (5, .int (gI s 67 22)), (6, .int 0), (7, .int 1)]) [3, 4, 5, 6, 7, 2, 1, 0] [7, 6, 5, 0, 1, 2, 3, 4] [0, 1, 2, 3, 4, 5, 6, 7] rfl rfl (by decide) (by decide) rfl ?_
  exact hr
set_option maxRecDepth 20000 in
theorem eMo_blocks_7 (d : Nat) (t1 : Nat) (x2 : Int32) (x3 : Int32) (x4 : Int32) (z5 : Int32) (z6 : Int32) (z7 : Int32) (s : aT) (ht1 : isT t1) : ∀ r, (if z7 = 0 then if x4 = 0 then rV s else cG (fMo_insert d z5 z6 s) (kV fun s1 => cG (fMo_putVarint d 0 s1) (kV fun s2 => rV s2)) else cG (fMo_varint d s) (kL fun v4 s3 => if aLcmp v4 0 = 0 then fMo_blocks_22 (d + 1) t1 x2 x3 x4 z5 z6 (gI s 67 23) v4 0 s3 else fMo_blocks_22 (d + 1) t1 x2 x3 x4 z5 z6 (gI s 67 23) v4 1 s3)) = some r → fMo_blocks_7 (d + 1) t1 x2 x3 x4 z5 z6 z7 s = some r := by
  intro r hr
  show ev (d + 1) q_262 7 [(0, .ref 67), (1, .ref t1), (2, .int x2), (3, .int x3), (4, .int x4), (5, .int z5), (6, .int z6), (7, .int z7)] [] s = some r
  refine ev_seg 1 (k' := 8) (L' := [(0, .ref 67), (1, .ref t1), (2, .int x2), (3, .int x3), (4, .int x4), (5, .int z5), (6, .int z6), (7, .int z7)]) (st' := [.int z7]) rfl ?_
  refine ev_br (P := z7 = 0) (L' := [(0, .ref 67), (1, .ref t1), (2, .int x2), (3, .int x3), (4, .int x4), (5, .int z5), (6, .int z6), (7, .int z7)]) (st' := []) hr rfl rfl rfl (fun hr => ?_) (fun hr => ?_)
  · skip
    refine ev_seg 1 (k' := 125) (L' := [(0, .ref 67), (1, .ref t1), (2, .int x2), (3, .int x3), (4, .int x4), (5, .int z5), (6, .int z6), (7, .int z7)]) (st' := [.int x4]) rfl ?_
    refine ev_br (P := x4 = 0) (L' := [(0, .ref 67), (1, .ref t1), (2, .int x2), (3, .int x3), (4, .int x4), (5, .int z5), (6, .int z6), (7, .int z7)]) (st' := []) hr rfl rfl rfl (fun hr => ?_) (fun hr => ?_)
    · skip
      exact ev_vret hr rfl rfl
    · skip
      refine ev_seg 3 (k' := 129) (L' := [(0, .ref 67), (1, .ref t1), (2, .int x2), (3, .int x3), (4, .int x4), (5, .int z5), (6, .int z6), (7, .int z7)]) (st' := [.int z6, .int z5, .ref 67]) rfl ?_
      refine ev_callV (q' := q_264) (x := 264) (y := 13) (c := 67) (As := [.int z5, .int z6]) (rest := []) hr rfl rfl rfl rfl rfl rfl rfl rfl rfl rfl rfl rfl (fun rv s1 hq => ev_kV hq (fun e9 hr => ?_))
      subst e9
      refine ev_st (st' := []) rfl ?_
      refine ev_seg 2 (k' := 132) (L' := [(0, .ref 67), (1, .ref t1), (2, .int x2), (3, .int x3), (4, .int x4), (5, .int z5), (6, .int z6), (7, .int z7)]) (st' := [.long 0, .ref 67]) rfl ?_
      refine ev_callV (q' := q_258) (x := 258) (y := 13) (c := 67) (As := [.long 0]) (rest := []) hr rfl rfl rfl rfl rfl rfl rfl rfl rfl rfl rfl rfl (fun rv s2 hq => ev_kV hq (fun e9 hr => ?_))
      subst e9
      refine ev_st (st' := []) rfl ?_
      exact ev_vret hr rfl rfl
  · skip
    refine ev_seg 4 (k' := 13) (L' := [(8, .int (gI s 67 23)), (0, .ref 67), (1, .ref t1), (2, .int x2), (3, .int x3), (4, .int x4), (5, .int z5), (6, .int z6), (7, .int z7)]) (st' := [.ref 67]) rfl ?_
    refine ev_callV (q' := q_257) (x := 257) (y := 13) (c := 67) (As := []) (rest := []) hr rfl rfl rfl rfl rfl rfl rfl rfl rfl rfl rfl rfl (fun rv s3 hq => ev_kL hq (fun v4 e9 hr => ?_))
    subst e9
    refine ev_st (st' := [.long v4]) rfl ?_
    refine ev_seg 4 (k' := 18) (L' := [(9, .long v4), (8, .int (gI s 67 23)), (0, .ref 67), (1, .ref t1), (2, .int x2), (3, .int x3), (4, .int x4), (5, .int z5), (6, .int z6), (7, .int z7)]) (st' := [.int (aLcmp v4 0)]) rfl ?_
    refine ev_br (P := aLcmp v4 0 = 0) (L' := [(9, .long v4), (8, .int (gI s 67 23)), (0, .ref 67), (1, .ref t1), (2, .int x2), (3, .int x3), (4, .int x4), (5, .int z5), (6, .int z6), (7, .int z7)]) (st' := []) hr rfl rfl rfl (fun hr => ?_) (fun hr => ?_)
    · skip
      refine ev_seg 1 (k' := 22) (L' := [(9, .long v4), (8, .int (gI s 67 23)), (0, .ref 67), (1, .ref t1), (2, .int x2), (3, .int x3), (4, .int x4), (5, .int z5), (6, .int z6), (7, .int z7)]) (st' := [.int 0]) rfl ?_
      refine ev_join (L' := [(0, .ref 67), (1, .ref t1), (2, .int x2), (3, .int x3), (4, .int x4), (5, .int z5), (6, .int z6), (8, .int (gI s 67 23)), (9, .long v4)]) [2, 3, 4, 5, 6, 7, 8, 1, 0] [9, 8, 0, 1, 2, 3, 4, 5, 6, 7] [0, 1, 2, 3, 4, 5, 6, 8, 9] rfl rfl (by decide) (by decide) rfl ?_
      exact hr
    · skip
      refine ev_seg 2 (k' := 22) (L' := [(9, .long v4), (8, .int (gI s 67 23)), (0, .ref 67), (1, .ref t1), (2, .int x2), (3, .int x3), (4, .int x4), (5, .int z5), (6, .int z6), (7, .int z7)]) (st' := [.int 1]) rfl ?_
      refine ev_join (L' := [(0, .ref 67), (1, .ref t1), (2, .int x2), (3, .int x3), (4, .int x4), (5, .int z5), (6, .int z6), (8, .int (gI s 67 23)), (9, .long v4)]) [2, 3, 4, 5, 6, 7, 8, 1, 0] [9, 8, 0, 1, 2, 3, 4, 5, 6, 7] [0, 1, 2, 3, 4, 5, 6, 8, 9] rfl rfl (by decide) (by decide) rfl ?_
      exact hr
set_option maxRecDepth 20000 in
theorem eMo_blocks_22 (d : Nat) (t1 : Nat) (x2 : Int32) (x3 : Int32) (x4 : Int32) (z5 : Int32) (z6 : Int32) (z8 : Int32) (l9 : Int64) (u0 : Int32) (s : aT) (ht1 : isT t1) : ∀ r, (if u0 = 0 then fMo_blocks_123 (d + 1) t1 x2 x3 x4 z5 z6 u0 s else if aLcmp l9 (-9223372036854775808) = 0 then fMo_blocks_44 (d + 1) t1 x2 x3 x4 z5 z6 u0 z8 l9 s else if 0 ≤ aLcmp l9 0 then fMo_blocks_37 (d + 1) t1 x2 x3 x4 z5 z6 u0 z8 l9 l9 s else fMo_blocks_37 (d + 1) t1 x2 x3 x4 z5 z6 u0 z8 l9 (-l9) s) = some r → fMo_blocks_22 (d + 1) t1 x2 x3 x4 z5 z6 z8 l9 u0 s = some r := by
  intro r hr
  show ev (d + 1) q_262 22 [(0, .ref 67), (1, .ref t1), (2, .int x2), (3, .int x3), (4, .int x4), (5, .int z5), (6, .int z6), (8, .int z8), (9, .long l9)] [.int u0] s = some r
  refine ev_seg 2 (k' := 24) (L' := [(7, .int u0), (0, .ref 67), (1, .ref t1), (2, .int x2), (3, .int x3), (4, .int x4), (5, .int z5), (6, .int z6), (8, .int z8), (9, .long l9)]) (st' := [.int u0]) rfl ?_
  refine ev_br (P := u0 = 0) (L' := [(7, .int u0), (0, .ref 67), (1, .ref t1), (2, .int x2), (3, .int x3), (4, .int x4), (5, .int z5), (6, .int z6), (8, .int z8), (9, .long l9)]) (st' := []) hr rfl rfl rfl (fun hr => ?_) (fun hr => ?_)
  · skip
    refine ev_join (L' := [(0, .ref 67), (1, .ref t1), (2, .int x2), (3, .int x3), (4, .int x4), (5, .int z5), (6, .int z6), (7, .int u0)]) [1, 2, 3, 4, 5, 6, 7, 0] [7, 0, 1, 2, 3, 4, 5, 6, 8, 9] [0, 1, 2, 3, 4, 5, 6, 7] rfl rfl (by decide) (by decide) rfl ?_
    exact hr
  · skip
    refine ev_seg 3 (k' := 28) (L' := [(7, .int u0), (0, .ref 67), (1, .ref t1), (2, .int x2), (3, .int x3), (4, .int x4), (5, .int z5), (6, .int z6), (8, .int z8), (9, .long l9)]) (st' := [.int (aLcmp l9 (-9223372036854775808))]) rfl ?_
    refine ev_br (P := aLcmp l9 (-9223372036854775808) = 0) (L' := [(7, .int u0), (0, .ref 67), (1, .ref t1), (2, .int x2), (3, .int x3), (4, .int x4), (5, .int z5), (6, .int z6), (8, .int z8), (9, .long l9)]) (st' := []) hr rfl rfl rfl (fun hr => ?_) (fun hr => ?_)
    · skip
      refine ev_join (L' := [(0, .ref 67), (1, .ref t1), (2, .int x2), (3, .int x3), (4, .int x4), (5, .int z5), (6, .int z6), (7, .int u0), (8, .int z8), (9, .long l9)]) [1, 2, 3, 4, 5, 6, 7, 0, 8, 9] [7, 0, 1, 2, 3, 4, 5, 6, 8, 9] [0, 1, 2, 3, 4, 5, 6, 7, 8, 9] rfl rfl (by decide) (by decide) rfl ?_
      exact hr
    · skip
      refine ev_seg 3 (k' := 32) (L' := [(7, .int u0), (0, .ref 67), (1, .ref t1), (2, .int x2), (3, .int x3), (4, .int x4), (5, .int z5), (6, .int z6), (8, .int z8), (9, .long l9)]) (st' := [.int (aLcmp l9 0)]) rfl ?_
      refine ev_br (P := 0 ≤ aLcmp l9 0) (L' := [(7, .int u0), (0, .ref 67), (1, .ref t1), (2, .int x2), (3, .int x3), (4, .int x4), (5, .int z5), (6, .int z6), (8, .int z8), (9, .long l9)]) (st' := []) hr rfl rfl rfl (fun hr => ?_) (fun hr => ?_)
      · skip
        refine ev_seg 1 (k' := 37) (L' := [(7, .int u0), (0, .ref 67), (1, .ref t1), (2, .int x2), (3, .int x3), (4, .int x4), (5, .int z5), (6, .int z6), (8, .int z8), (9, .long l9)]) (st' := [.long l9]) rfl ?_
        refine ev_join (L' := [(0, .ref 67), (1, .ref t1), (2, .int x2), (3, .int x3), (4, .int x4), (5, .int z5), (6, .int z6), (7, .int u0), (8, .int z8), (9, .long l9)]) [1, 2, 3, 4, 5, 6, 7, 0, 8, 9] [7, 0, 1, 2, 3, 4, 5, 6, 8, 9] [0, 1, 2, 3, 4, 5, 6, 7, 8, 9] rfl rfl (by decide) (by decide) rfl ?_
        exact hr
      · skip
        refine ev_seg 3 (k' := 37) (L' := [(7, .int u0), (0, .ref 67), (1, .ref t1), (2, .int x2), (3, .int x3), (4, .int x4), (5, .int z5), (6, .int z6), (8, .int z8), (9, .long l9)]) (st' := [.long (-l9)]) rfl ?_
        refine ev_join (L' := [(0, .ref 67), (1, .ref t1), (2, .int x2), (3, .int x3), (4, .int x4), (5, .int z5), (6, .int z6), (7, .int u0), (8, .int z8), (9, .long l9)]) [1, 2, 3, 4, 5, 6, 7, 0, 8, 9] [7, 0, 1, 2, 3, 4, 5, 6, 8, 9] [0, 1, 2, 3, 4, 5, 6, 7, 8, 9] rfl rfl (by decide) (by decide) rfl ?_
        exact hr
set_option maxRecDepth 20000 in
theorem eMo_blocks_123 (d : Nat) (t1 : Nat) (x2 : Int32) (x3 : Int32) (x4 : Int32) (z5 : Int32) (z6 : Int32) (z7 : Int32) (s : aT) (ht1 : isT t1) : ∀ r, (fMo_blocks_7 (d + 1) t1 x2 x3 x4 z5 z6 z7 s) = some r → fMo_blocks_123 (d + 1) t1 x2 x3 x4 z5 z6 z7 s = some r := by
  intro r hr
  show ev (d + 1) q_262 123 [(0, .ref 67), (1, .ref t1), (2, .int x2), (3, .int x3), (4, .int x4), (5, .int z5), (6, .int z6), (7, .int z7)] [] s = some r
  refine ev_seg 1 (k' := 7) (L' := [(0, .ref 67), (1, .ref t1), (2, .int x2), (3, .int x3), (4, .int x4), (5, .int z5), (6, .int z6), (7, .int z7)]) (st' := []) rfl ?_
  exact hr
set_option maxRecDepth 20000 in
theorem eMo_blocks_44 (d : Nat) (t1 : Nat) (x2 : Int32) (x3 : Int32) (x4 : Int32) (z5 : Int32) (z6 : Int32) (z7 : Int32) (z8 : Int32) (l9 : Int64) (s : aT) (ht1 : isT t1) : ∀ r, (fMo_blocks_47 (d + 1) t1 x2 x3 x4 z5 z6 z7 z8 l9 1 s) = some r → fMo_blocks_44 (d + 1) t1 x2 x3 x4 z5 z6 z7 z8 l9 s = some r := by
  intro r hr
  show ev (d + 1) q_262 44 [(0, .ref 67), (1, .ref t1), (2, .int x2), (3, .int x3), (4, .int x4), (5, .int z5), (6, .int z6), (7, .int z7), (8, .int z8), (9, .long l9)] [] s = some r
  refine ev_seg 2 (k' := 47) (L' := [(0, .ref 67), (1, .ref t1), (2, .int x2), (3, .int x3), (4, .int x4), (5, .int z5), (6, .int z6), (7, .int z7), (8, .int z8), (9, .long l9)]) (st' := [.int 1]) rfl ?_
  exact hr
set_option maxRecDepth 20000 in
theorem eMo_blocks_37 (d : Nat) (t1 : Nat) (x2 : Int32) (x3 : Int32) (x4 : Int32) (z5 : Int32) (z6 : Int32) (z7 : Int32) (z8 : Int32) (l9 : Int64) (n0 : Int64) (s : aT) (ht1 : isT t1) : ∀ r, (if aLcmp n0 (2000 - ((gI s 67 26).toInt64)) ≤ 0 then fMo_blocks_47 (d + 1) t1 x2 x3 x4 z5 z6 z7 z8 l9 0 s else fMo_blocks_44 (d + 1) t1 x2 x3 x4 z5 z6 z7 z8 l9 s) = some r → fMo_blocks_37 (d + 1) t1 x2 x3 x4 z5 z6 z7 z8 l9 n0 s = some r := by
  intro r hr
  show ev (d + 1) q_262 37 [(0, .ref 67), (1, .ref t1), (2, .int x2), (3, .int x3), (4, .int x4), (5, .int z5), (6, .int z6), (7, .int z7), (8, .int z8), (9, .long l9)] [.long n0] s = some r
  refine ev_seg 6 (k' := 43) (L' := [(0, .ref 67), (1, .ref t1), (2, .int x2), (3, .int x3), (4, .int x4), (5, .int z5), (6, .int z6), (7, .int z7), (8, .int z8), (9, .long l9)]) (st' := [.int (aLcmp n0 (2000 - ((gI s 67 26).toInt64)))]) rfl ?_
  refine ev_br (P := aLcmp n0 (2000 - ((gI s 67 26).toInt64)) ≤ 0) (L' := [(0, .ref 67), (1, .ref t1), (2, .int x2), (3, .int x3), (4, .int x4), (5, .int z5), (6, .int z6), (7, .int z7), (8, .int z8), (9, .long l9)]) (st' := []) hr rfl rfl rfl (fun hr => ?_) (fun hr => ?_)
  · skip
    refine ev_seg 1 (k' := 47) (L' := [(0, .ref 67), (1, .ref t1), (2, .int x2), (3, .int x3), (4, .int x4), (5, .int z5), (6, .int z6), (7, .int z7), (8, .int z8), (9, .long l9)]) (st' := [.int 0]) rfl ?_
    exact hr
  · skip
    exact hr
set_option maxRecDepth 20000 in
theorem eMo_blocks_47 (d : Nat) (t1 : Nat) (x2 : Int32) (x3 : Int32) (x4 : Int32) (z5 : Int32) (z6 : Int32) (z7 : Int32) (z8 : Int32) (l9 : Int64) (u0 : Int32) (s : aT) (ht1 : isT t1) : ∀ r, (if u0 = 0 then fMo_blocks_54 (d + 1) t1 x2 x3 x4 z5 z6 z7 l9 s else cG (fMo_failBytes d 6 z8 s) (kV fun s1 => fMo_blocks_54 (d + 1) t1 x2 x3 x4 z5 z6 z7 l9 s1)) = some r → fMo_blocks_47 (d + 1) t1 x2 x3 x4 z5 z6 z7 z8 l9 u0 s = some r := by
  intro r hr
  show ev (d + 1) q_262 47 [(0, .ref 67), (1, .ref t1), (2, .int x2), (3, .int x3), (4, .int x4), (5, .int z5), (6, .int z6), (7, .int z7), (8, .int z8), (9, .long l9)] [.int u0] s = some r
  refine ev_seg 2 (k' := 49) (L' := [(11, .int u0), (0, .ref 67), (1, .ref t1), (2, .int x2), (3, .int x3), (4, .int x4), (5, .int z5), (6, .int z6), (7, .int z7), (8, .int z8), (9, .long l9)]) (st' := [.int u0]) rfl ?_
  refine ev_br (P := u0 = 0) (L' := [(11, .int u0), (0, .ref 67), (1, .ref t1), (2, .int x2), (3, .int x3), (4, .int x4), (5, .int z5), (6, .int z6), (7, .int z7), (8, .int z8), (9, .long l9)]) (st' := []) hr rfl rfl rfl (fun hr => ?_) (fun hr => ?_)
  · skip
    refine ev_join (L' := [(0, .ref 67), (1, .ref t1), (2, .int x2), (3, .int x3), (4, .int x4), (5, .int z5), (6, .int z6), (7, .int z7), (9, .long l9)]) [1, 2, 3, 4, 5, 6, 7, 8, 10] [11, 0, 1, 2, 3, 4, 5, 6, 7, 8, 9] [0, 1, 2, 3, 4, 5, 6, 7, 9] rfl rfl (by decide) (by decide) rfl ?_
    exact hr
  · skip
    refine ev_seg 3 (k' := 53) (L' := [(11, .int u0), (0, .ref 67), (1, .ref t1), (2, .int x2), (3, .int x3), (4, .int x4), (5, .int z5), (6, .int z6), (7, .int z7), (8, .int z8), (9, .long l9)]) (st' := [.int z8, .int 6, .ref 67]) rfl ?_
    refine ev_callV (q' := q_253) (x := 253) (y := 13) (c := 67) (As := [.int 6, .int z8]) (rest := []) hr rfl rfl rfl rfl rfl rfl rfl rfl rfl rfl rfl rfl (fun rv s1 hq => ev_kV hq (fun e9 hr => ?_))
    subst e9
    refine ev_st (st' := []) rfl ?_
    refine ev_join (L' := [(0, .ref 67), (1, .ref t1), (2, .int x2), (3, .int x3), (4, .int x4), (5, .int z5), (6, .int z6), (7, .int z7), (9, .long l9)]) [1, 2, 3, 4, 5, 6, 7, 8, 10] [11, 0, 1, 2, 3, 4, 5, 6, 7, 8, 9] [0, 1, 2, 3, 4, 5, 6, 7, 9] rfl rfl (by decide) (by decide) rfl ?_
    exact hr
set_option maxRecDepth 20000 in
theorem eMo_blocks_54 (d : Nat) (t1 : Nat) (x2 : Int32) (x3 : Int32) (x4 : Int32) (z5 : Int32) (z6 : Int32) (z7 : Int32) (l9 : Int64) (s : aT) (ht1 : isT t1) : ∀ r, (if 0 ≤ aLcmp l9 0 then fMo_blocks_61 (d + 1) t1 x2 x3 x4 z5 z6 z7 l9 0 s else fMo_blocks_61 (d + 1) t1 x2 x3 x4 z5 z6 z7 l9 1 s) = some r → fMo_blocks_54 (d + 1) t1 x2 x3 x4 z5 z6 z7 l9 s = some r := by
  intro r hr
  show ev (d + 1) q_262 54 [(0, .ref 67), (1, .ref t1), (2, .int x2), (3, .int x3), (4, .int x4), (5, .int z5), (6, .int z6), (7, .int z7), (9, .long l9)] [] s = some r
  refine ev_seg 3 (k' := 57) (L' := [(0, .ref 67), (1, .ref t1), (2, .int x2), (3, .int x3), (4, .int x4), (5, .int z5), (6, .int z6), (7, .int z7), (9, .long l9)]) (st' := [.int (aLcmp l9 0)]) rfl ?_
  refine ev_br (P := 0 ≤ aLcmp l9 0) (L' := [(0, .ref 67), (1, .ref t1), (2, .int x2), (3, .int x3), (4, .int x4), (5, .int z5), (6, .int z6), (7, .int z7), (9, .long l9)]) (st' := []) hr rfl rfl rfl (fun hr => ?_) (fun hr => ?_)
  · skip
    refine ev_seg 1 (k' := 61) (L' := [(0, .ref 67), (1, .ref t1), (2, .int x2), (3, .int x3), (4, .int x4), (5, .int z5), (6, .int z6), (7, .int z7), (9, .long l9)]) (st' := [.int 0]) rfl ?_
    exact hr
  · skip
    refine ev_seg 2 (k' := 61) (L' := [(0, .ref 67), (1, .ref t1), (2, .int x2), (3, .int x3), (4, .int x4), (5, .int z5), (6, .int z6), (7, .int z7), (9, .long l9)]) (st' := [.int 1]) rfl ?_
    exact hr
set_option maxRecDepth 20000 in
theorem eMo_blocks_61 (d : Nat) (t1 : Nat) (x2 : Int32) (x3 : Int32) (x4 : Int32) (z5 : Int32) (z6 : Int32) (z7 : Int32) (l9 : Int64) (u0 : Int32) (s : aT) (ht1 : isT t1) : ∀ r, (if u0 = 0 then fMo_blocks_71 (d + 1) t1 x2 x3 x4 z5 z6 z7 l9 u0 (gI s 67 23) 0 s else cG (fMo_varint d s) (kL fun v2 s1 => fMo_blocks_71 (d + 1) t1 x2 x3 x4 z5 z6 z7 l9 u0 (gI s 67 23) v2 s1)) = some r → fMo_blocks_61 (d + 1) t1 x2 x3 x4 z5 z6 z7 l9 u0 s = some r := by
  intro r hr
  show ev (d + 1) q_262 61 [(0, .ref 67), (1, .ref t1), (2, .int x2), (3, .int x3), (4, .int x4), (5, .int z5), (6, .int z6), (7, .int z7), (9, .long l9)] [.int u0] s = some r
  refine ev_seg 5 (k' := 66) (L' := [(13, .int (gI s 67 23)), (12, .int u0), (0, .ref 67), (1, .ref t1), (2, .int x2), (3, .int x3), (4, .int x4), (5, .int z5), (6, .int z6), (7, .int z7), (9, .long l9)]) (st' := [.int u0]) rfl ?_
  refine ev_br (P := u0 = 0) (L' := [(13, .int (gI s 67 23)), (12, .int u0), (0, .ref 67), (1, .ref t1), (2, .int x2), (3, .int x3), (4, .int x4), (5, .int z5), (6, .int z6), (7, .int z7), (9, .long l9)]) (st' := []) hr rfl rfl rfl (fun hr => ?_) (fun hr => ?_)
  · skip
    refine ev_seg 1 (k' := 71) (L' := [(13, .int (gI s 67 23)), (12, .int u0), (0, .ref 67), (1, .ref t1), (2, .int x2), (3, .int x3), (4, .int x4), (5, .int z5), (6, .int z6), (7, .int z7), (9, .long l9)]) (st' := [.long 0]) rfl ?_
    refine ev_join (L' := [(0, .ref 67), (1, .ref t1), (2, .int x2), (3, .int x3), (4, .int x4), (5, .int z5), (6, .int z6), (7, .int z7), (9, .long l9), (12, .int u0), (13, .int (gI s 67 23))]) [2, 3, 4, 5, 6, 7, 8, 9, 10, 1, 0] [13, 12, 0, 1, 2, 3, 4, 5, 6, 7, 9] [0, 1, 2, 3, 4, 5, 6, 7, 9, 12, 13] rfl rfl (by decide) (by decide) rfl ?_
    exact hr
  · skip
    refine ev_seg 1 (k' := 68) (L' := [(13, .int (gI s 67 23)), (12, .int u0), (0, .ref 67), (1, .ref t1), (2, .int x2), (3, .int x3), (4, .int x4), (5, .int z5), (6, .int z6), (7, .int z7), (9, .long l9)]) (st' := [.ref 67]) rfl ?_
    refine ev_callV (q' := q_257) (x := 257) (y := 13) (c := 67) (As := []) (rest := []) hr rfl rfl rfl rfl rfl rfl rfl rfl rfl rfl rfl rfl (fun rv s1 hq => ev_kL hq (fun v2 e9 hr => ?_))
    subst e9
    refine ev_st (st' := [.long v2]) rfl ?_
    refine ev_seg 1 (k' := 71) (L' := [(13, .int (gI s 67 23)), (12, .int u0), (0, .ref 67), (1, .ref t1), (2, .int x2), (3, .int x3), (4, .int x4), (5, .int z5), (6, .int z6), (7, .int z7), (9, .long l9)]) (st' := [.long v2]) rfl ?_
    refine ev_join (L' := [(0, .ref 67), (1, .ref t1), (2, .int x2), (3, .int x3), (4, .int x4), (5, .int z5), (6, .int z6), (7, .int z7), (9, .long l9), (12, .int u0), (13, .int (gI s 67 23))]) [2, 3, 4, 5, 6, 7, 8, 9, 10, 1, 0] [13, 12, 0, 1, 2, 3, 4, 5, 6, 7, 9] [0, 1, 2, 3, 4, 5, 6, 7, 9, 12, 13] rfl rfl (by decide) (by decide) rfl ?_
    exact hr
set_option maxRecDepth 20000 in
theorem eMo_blocks_71 (d : Nat) (t1 : Nat) (x2 : Int32) (x3 : Int32) (x4 : Int32) (z5 : Int32) (z6 : Int32) (z7 : Int32) (l9 : Int64) (z12 : Int32) (z13 : Int32) (n0 : Int64) (s : aT) (ht1 : isT t1) : ∀ r, (if z12 = 0 then fMo_blocks_78 (d + 1) t1 x2 x3 x4 z5 z6 z7 z12 z13 n0 l9 s else fMo_blocks_78 (d + 1) t1 x2 x3 x4 z5 z6 z7 z12 z13 n0 (-l9) s) = some r → fMo_blocks_71 (d + 1) t1 x2 x3 x4 z5 z6 z7 l9 z12 z13 n0 s = some r := by
  intro r hr
  show ev (d + 1) q_262 71 [(0, .ref 67), (1, .ref t1), (2, .int x2), (3, .int x3), (4, .int x4), (5, .int z5), (6, .int z6), (7, .int z7), (9, .long l9), (12, .int z12), (13, .int z13)] [.long n0] s = some r
  refine ev_seg 2 (k' := 73) (L' := [(14, .long n0), (0, .ref 67), (1, .ref t1), (2, .int x2), (3, .int x3), (4, .int x4), (5, .int z5), (6, .int z6), (7, .int z7), (9, .long l9), (12, .int z12), (13, .int z13)]) (st' := [.int z12]) rfl ?_
  refine ev_br (P := z12 = 0) (L' := [(14, .long n0), (0, .ref 67), (1, .ref t1), (2, .int x2), (3, .int x3), (4, .int x4), (5, .int z5), (6, .int z6), (7, .int z7), (9, .long l9), (12, .int z12), (13, .int z13)]) (st' := []) hr rfl rfl rfl (fun hr => ?_) (fun hr => ?_)
  · skip
    refine ev_seg 1 (k' := 78) (L' := [(14, .long n0), (0, .ref 67), (1, .ref t1), (2, .int x2), (3, .int x3), (4, .int x4), (5, .int z5), (6, .int z6), (7, .int z7), (9, .long l9), (12, .int z12), (13, .int z13)]) (st' := [.long l9]) rfl ?_
    refine ev_join (L' := [(0, .ref 67), (1, .ref t1), (2, .int x2), (3, .int x3), (4, .int x4), (5, .int z5), (6, .int z6), (7, .int z7), (12, .int z12), (13, .int z13), (14, .long n0)]) [1, 2, 3, 4, 5, 6, 7, 8, 10, 11, 0] [14, 0, 1, 2, 3, 4, 5, 6, 7, 9, 12, 13] [0, 1, 2, 3, 4, 5, 6, 7, 12, 13, 14] rfl rfl (by decide) (by decide) rfl ?_
    exact hr
  · skip
    refine ev_seg 3 (k' := 78) (L' := [(14, .long n0), (0, .ref 67), (1, .ref t1), (2, .int x2), (3, .int x3), (4, .int x4), (5, .int z5), (6, .int z6), (7, .int z7), (9, .long l9), (12, .int z12), (13, .int z13)]) (st' := [.long (-l9)]) rfl ?_
    refine ev_join (L' := [(0, .ref 67), (1, .ref t1), (2, .int x2), (3, .int x3), (4, .int x4), (5, .int z5), (6, .int z6), (7, .int z7), (12, .int z12), (13, .int z13), (14, .long n0)]) [1, 2, 3, 4, 5, 6, 7, 8, 10, 11, 0] [14, 0, 1, 2, 3, 4, 5, 6, 7, 9, 12, 13] [0, 1, 2, 3, 4, 5, 6, 7, 12, 13, 14] rfl rfl (by decide) (by decide) rfl ?_
    exact hr
set_option maxRecDepth 20000 in
theorem eMo_blocks_78 (d : Nat) (t1 : Nat) (x2 : Int32) (x3 : Int32) (x4 : Int32) (z5 : Int32) (z6 : Int32) (z7 : Int32) (z12 : Int32) (z13 : Int32) (l14 : Int64) (n0 : Int64) (s : aT) (ht1 : isT t1) : ∀ r, (wI s 67 26 ((gI s 67 26) + n0.toInt32) (fun s1 => fMo_blocks_91 (d + 1) t1 x2 x3 x4 z5 z6 z7 n0 z12 z13 l14 (gI s1 67 23) 0 s1)) = some r → fMo_blocks_78 (d + 1) t1 x2 x3 x4 z5 z6 z7 z12 z13 l14 n0 s = some r := by
  intro r hr
  show ev (d + 1) q_262 78 [(0, .ref 67), (1, .ref t1), (2, .int x2), (3, .int x3), (4, .int x4), (5, .int z5), (6, .int z6), (7, .int z7), (12, .int z12), (13, .int z13), (14, .long l14)] [.long n0] s = some r
  refine ev_seg 7 (k' := 85) (L' := [(9, .long n0), (0, .ref 67), (1, .ref t1), (2, .int x2), (3, .int x3), (4, .int x4), (5, .int z5), (6, .int z6), (7, .int z7), (12, .int z12), (13, .int z13), (14, .long l14)]) (st' := [.int ((gI s 67 26) + n0.toInt32), .ref 67]) rfl ?_
  refine ev_putI (c := 67) hr rfl rfl rfl (fun s1 hr => ?_)
  refine ev_seg 5 (k' := 91) (L' := [(17, .int 0), (16, .int (gI s1 67 23)), (9, .long n0), (0, .ref 67), (1, .ref t1), (2, .int x2), (3, .int x3), (4, .int x4), (5, .int z5), (6, .int z6), (7, .int z7), (12, .int z12), (13, .int z13), (14, .long l14)]) (st' := []) rfl ?_
  refine ev_join (L' := [(0, .ref 67), (1, .ref t1), (2, .int x2), (3, .int x3), (4, .int x4), (5, .int z5), (6, .int z6), (7, .int z7), (9, .long n0), (12, .int z12), (13, .int z13), (14, .long l14), (16, .int (gI s1 67 23)), (17, .int 0)]) [3, 4, 5, 6, 7, 8, 9, 10, 2, 11, 12, 13, 1, 0] [17, 16, 9, 0, 1, 2, 3, 4, 5, 6, 7, 12, 13, 14] [0, 1, 2, 3, 4, 5, 6, 7, 9, 12, 13, 14, 16, 17] rfl rfl (by decide) (by decide) rfl ?_
  exact hr
set_option maxRecDepth 20000 in
theorem eMo_blocks_91 (d : Nat) (t1 : Nat) (x2 : Int32) (x3 : Int32) (x4 : Int32) (z5 : Int32) (z6 : Int32) (z7 : Int32) (l9 : Int64) (z12 : Int32) (z13 : Int32) (l14 : Int64) (z16 : Int32) (z17 : Int32) (s : aT) (ht1 : isT t1) : ∀ r, (if 0 ≤ aLcmp z17.toInt64 l9 then if z12 = 0 then fMo_blocks_118 (d + 1) t1 x2 x3 x4 z5 z6 z7 l9 s else if aLcmp l14 (((gI s 67 23) - z16).toInt64) = 0 then fMo_blocks_118 (d + 1) t1 x2 x3 x4 z5 z6 z7 l9 s else cG (fMo_failBytes d 6 z13 s) (kV fun s1 => fMo_blocks_118 (d + 1) t1 x2 x3 x4 z5 z6 z7 l9 s1) else cG (fMo_item d t1 x2 x3 x4 s) (kV fun s2 => fMo_blocks_91 (d + 1) t1 x2 x3 x4 z5 z6 z7 l9 z12 z13 l14 z16 (z17 + 1) s2)) = some r → fMo_blocks_91 (d + 1) t1 x2 x3 x4 z5 z6 z7 l9 z12 z13 l14 z16 z17 s = some r := by
  intro r hr
  show ev (d + 1) q_262 91 [(0, .ref 67), (1, .ref t1), (2, .int x2), (3, .int x3), (4, .int x4), (5, .int z5), (6, .int z6), (7, .int z7), (9, .long l9), (12, .int z12), (13, .int z13), (14, .long l14), (16, .int z16), (17, .int z17)] [] s = some r
  refine ev_seg 4 (k' := 95) (L' := [(0, .ref 67), (1, .ref t1), (2, .int x2), (3, .int x3), (4, .int x4), (5, .int z5), (6, .int z6), (7, .int z7), (9, .long l9), (12, .int z12), (13, .int z13), (14, .long l14), (16, .int z16), (17, .int z17)]) (st' := [.int (aLcmp z17.toInt64 l9)]) rfl ?_
  refine ev_br (P := 0 ≤ aLcmp z17.toInt64 l9) (L' := [(0, .ref 67), (1, .ref t1), (2, .int x2), (3, .int x3), (4, .int x4), (5, .int z5), (6, .int z6), (7, .int z7), (9, .long l9), (12, .int z12), (13, .int z13), (14, .long l14), (16, .int z16), (17, .int z17)]) (st' := []) hr rfl rfl rfl (fun hr => ?_) (fun hr => ?_)
  · skip
    refine ev_seg 1 (k' := 105) (L' := [(0, .ref 67), (1, .ref t1), (2, .int x2), (3, .int x3), (4, .int x4), (5, .int z5), (6, .int z6), (7, .int z7), (9, .long l9), (12, .int z12), (13, .int z13), (14, .long l14), (16, .int z16), (17, .int z17)]) (st' := [.int z12]) rfl ?_
    refine ev_br (P := z12 = 0) (L' := [(0, .ref 67), (1, .ref t1), (2, .int x2), (3, .int x3), (4, .int x4), (5, .int z5), (6, .int z6), (7, .int z7), (9, .long l9), (12, .int z12), (13, .int z13), (14, .long l14), (16, .int z16), (17, .int z17)]) (st' := []) hr rfl rfl rfl (fun hr => ?_) (fun hr => ?_)
    · skip
      refine ev_join (L' := [(0, .ref 67), (1, .ref t1), (2, .int x2), (3, .int x3), (4, .int x4), (5, .int z5), (6, .int z6), (7, .int z7), (9, .long l9)]) [0, 1, 2, 3, 4, 5, 6, 7, 8] [0, 1, 2, 3, 4, 5, 6, 7, 9, 12, 13, 14, 16, 17] [0, 1, 2, 3, 4, 5, 6, 7, 9] rfl rfl (by decide) (by decide) rfl ?_
      exact hr
    · skip
      refine ev_seg 7 (k' := 113) (L' := [(0, .ref 67), (1, .ref t1), (2, .int x2), (3, .int x3), (4, .int x4), (5, .int z5), (6, .int z6), (7, .int z7), (9, .long l9), (12, .int z12), (13, .int z13), (14, .long l14), (16, .int z16), (17, .int z17)]) (st' := [.int (aLcmp l14 (((gI s 67 23) - z16).toInt64))]) rfl ?_
      refine ev_br (P := aLcmp l14 (((gI s 67 23) - z16).toInt64) = 0) (L' := [(0, .ref 67), (1, .ref t1), (2, .int x2), (3, .int x3), (4, .int x4), (5, .int z5), (6, .int z6), (7, .int z7), (9, .long l9), (12, .int z12), (13, .int z13), (14, .long l14), (16, .int z16), (17, .int z17)]) (st' := []) hr rfl rfl rfl (fun hr => ?_) (fun hr => ?_)
      · skip
        refine ev_join (L' := [(0, .ref 67), (1, .ref t1), (2, .int x2), (3, .int x3), (4, .int x4), (5, .int z5), (6, .int z6), (7, .int z7), (9, .long l9)]) [0, 1, 2, 3, 4, 5, 6, 7, 8] [0, 1, 2, 3, 4, 5, 6, 7, 9, 12, 13, 14, 16, 17] [0, 1, 2, 3, 4, 5, 6, 7, 9] rfl rfl (by decide) (by decide) rfl ?_
        exact hr
      · skip
        refine ev_seg 3 (k' := 117) (L' := [(0, .ref 67), (1, .ref t1), (2, .int x2), (3, .int x3), (4, .int x4), (5, .int z5), (6, .int z6), (7, .int z7), (9, .long l9), (12, .int z12), (13, .int z13), (14, .long l14), (16, .int z16), (17, .int z17)]) (st' := [.int z13, .int 6, .ref 67]) rfl ?_
        refine ev_callV (q' := q_253) (x := 253) (y := 13) (c := 67) (As := [.int 6, .int z13]) (rest := []) hr rfl rfl rfl rfl rfl rfl rfl rfl rfl rfl rfl rfl (fun rv s1 hq => ev_kV hq (fun e9 hr => ?_))
        subst e9
        refine ev_st (st' := []) rfl ?_
        refine ev_join (L' := [(0, .ref 67), (1, .ref t1), (2, .int x2), (3, .int x3), (4, .int x4), (5, .int z5), (6, .int z6), (7, .int z7), (9, .long l9)]) [0, 1, 2, 3, 4, 5, 6, 7, 8] [0, 1, 2, 3, 4, 5, 6, 7, 9, 12, 13, 14, 16, 17] [0, 1, 2, 3, 4, 5, 6, 7, 9] rfl rfl (by decide) (by decide) rfl ?_
        exact hr
  · skip
    refine ev_seg 5 (k' := 101) (L' := [(0, .ref 67), (1, .ref t1), (2, .int x2), (3, .int x3), (4, .int x4), (5, .int z5), (6, .int z6), (7, .int z7), (9, .long l9), (12, .int z12), (13, .int z13), (14, .long l14), (16, .int z16), (17, .int z17)]) (st' := [.int x4, .int x3, .int x2, .ref t1, .ref 67]) rfl ?_
    refine ev_callV (q' := q_263) (x := 263) (y := 13) (c := 67) (As := [.ref t1, .int x2, .int x3, .int x4]) (rest := []) hr rfl rfl rfl rfl rfl rfl rfl rfl rfl rfl rfl rfl (fun rv s2 hq => ev_kV hq (fun e9 hr => ?_))
    subst e9
    refine ev_st (st' := []) rfl ?_
    refine ev_seg 2 (k' := 91) (L' := [(17, .int (z17 + 1)), (0, .ref 67), (1, .ref t1), (2, .int x2), (3, .int x3), (4, .int x4), (5, .int z5), (6, .int z6), (7, .int z7), (9, .long l9), (12, .int z12), (13, .int z13), (14, .long l14), (16, .int z16)]) (st' := []) rfl ?_
    refine ev_join (L' := [(0, .ref 67), (1, .ref t1), (2, .int x2), (3, .int x3), (4, .int x4), (5, .int z5), (6, .int z6), (7, .int z7), (9, .long l9), (12, .int z12), (13, .int z13), (14, .long l14), (16, .int z16), (17, .int (z17 + 1))]) [1, 2, 3, 4, 5, 6, 7, 8, 9, 10, 11, 12, 13, 0] [17, 0, 1, 2, 3, 4, 5, 6, 7, 9, 12, 13, 14, 16] [0, 1, 2, 3, 4, 5, 6, 7, 9, 12, 13, 14, 16, 17] rfl rfl (by decide) (by decide) rfl ?_
    exact hr
set_option maxRecDepth 20000 in
theorem eMo_blocks_118 (d : Nat) (t1 : Nat) (x2 : Int32) (x3 : Int32) (x4 : Int32) (z5 : Int32) (z6 : Int32) (z7 : Int32) (l9 : Int64) (s : aT) (ht1 : isT t1) : ∀ r, (fMo_blocks_123 (d + 1) t1 x2 x3 x4 z5 (z6 + l9.toInt32) z7 s) = some r → fMo_blocks_118 (d + 1) t1 x2 x3 x4 z5 z6 z7 l9 s = some r := by
  intro r hr
  show ev (d + 1) q_262 118 [(0, .ref 67), (1, .ref t1), (2, .int x2), (3, .int x3), (4, .int x4), (5, .int z5), (6, .int z6), (7, .int z7), (9, .long l9)] [] s = some r
  refine ev_seg 5 (k' := 123) (L' := [(6, .int (z6 + l9.toInt32)), (0, .ref 67), (1, .ref t1), (2, .int x2), (3, .int x3), (4, .int x4), (5, .int z5), (7, .int z7), (9, .long l9)]) (st' := []) rfl ?_
  refine ev_join (L' := [(0, .ref 67), (1, .ref t1), (2, .int x2), (3, .int x3), (4, .int x4), (5, .int z5), (6, .int (z6 + l9.toInt32)), (7, .int z7)]) [1, 2, 3, 4, 5, 6, 0, 7] [6, 0, 1, 2, 3, 4, 5, 7, 9] [0, 1, 2, 3, 4, 5, 6, 7] rfl rfl (by decide) (by decide) rfl ?_
  exact hr
set_option maxRecDepth 20000 in
theorem eMo_item (d : Nat) (t1 : Nat) (x2 : Int32) (x3 : Int32) (x4 : Int32) (s : aT) (ht1 : isT t1) : ∀ r, (ldI 140 s (t1 + 9) x2 (fun v1 => if ¬ v1 = 7 then fMo_item_9 (d + 1) t1 x2 x3 x4 s else cG (fMo_string d x4 s) (kV fun s2 => fMo_item_9 (d + 1) t1 x2 x3 x4 s2))) = some r → fMo_item (d + 1) t1 x2 x3 x4 s = some r := by
  intro r hr
  show ev (d + 1) q_263 0 [(0, .ref 67), (1, .ref t1), (2, .int x2), (3, .int x3), (4, .int x4)] [] s = some r
  refine ev_seg 1 (k' := 1) (L' := [(0, .ref 67), (1, .ref t1), (2, .int x2), (3, .int x3), (4, .int x4)]) (st' := [.ref t1]) rfl ?_
  refine ev_getR (c := t1) (v := t1 + 9) rfl (isT_sh ht1) rfl (isT_r9 ht1) ?_
  refine ev_seg 1 (k' := 3) (L' := [(0, .ref 67), (1, .ref t1), (2, .int x2), (3, .int x3), (4, .int x4)]) (st' := [.int x2, .ref (t1 + 9)]) rfl ?_
  refine ev_ldI hr rfl (isT_a9 ht1) (fun v1 hr => ?_)
  refine ev_seg 1 (k' := 5) (L' := [(0, .ref 67), (1, .ref t1), (2, .int x2), (3, .int x3), (4, .int x4)]) (st' := [.int 7, .int v1]) rfl ?_
  refine ev_br (P := ¬ v1 = 7) (L' := [(0, .ref 67), (1, .ref t1), (2, .int x2), (3, .int x3), (4, .int x4)]) (st' := []) hr rfl rfl rfl (fun hr => ?_) (fun hr => ?_)
  · skip
    exact hr
  · skip
    refine ev_seg 2 (k' := 8) (L' := [(0, .ref 67), (1, .ref t1), (2, .int x2), (3, .int x3), (4, .int x4)]) (st' := [.int x4, .ref 67]) rfl ?_
    refine ev_callV (q' := q_259) (x := 259) (y := 13) (c := 67) (As := [.int x4]) (rest := []) hr rfl rfl rfl rfl rfl rfl rfl rfl rfl rfl rfl rfl (fun rv s2 hq => ev_kV hq (fun e9 hr => ?_))
    subst e9
    refine ev_st (st' := []) rfl ?_
    exact hr
set_option maxRecDepth 20000 in
theorem eMo_item_9 (d : Nat) (t1 : Nat) (x2 : Int32) (x3 : Int32) (x4 : Int32) (s : aT) (ht1 : isT t1) : ∀ r, (ldI 140 s (t1 + 12) x2 (fun v1 => ldI 2200 s (t1 + 15) v1 (fun v2 => cG (fMo_datum d t1 v2 (x3 + 1) x4 s) (kV fun s3 => rV s3)))) = some r → fMo_item_9 (d + 1) t1 x2 x3 x4 s = some r := by
  intro r hr
  show ev (d + 1) q_263 9 [(0, .ref 67), (1, .ref t1), (2, .int x2), (3, .int x3), (4, .int x4)] [] s = some r
  refine ev_seg 3 (k' := 12) (L' := [(0, .ref 67), (1, .ref t1), (2, .int x2), (3, .int x3), (4, .int x4)]) (st' := [.ref t1, .ref t1, .ref 67]) rfl ?_
  refine ev_getR (c := t1) (v := t1 + 15) rfl (isT_sh ht1) rfl (isT_r15 ht1) ?_
  refine ev_seg 1 (k' := 14) (L' := [(0, .ref 67), (1, .ref t1), (2, .int x2), (3, .int x3), (4, .int x4)]) (st' := [.ref t1, .ref (t1 + 15), .ref t1, .ref 67]) rfl ?_
  refine ev_getR (c := t1) (v := t1 + 12) rfl (isT_sh ht1) rfl (isT_r12 ht1) ?_
  refine ev_seg 1 (k' := 16) (L' := [(0, .ref 67), (1, .ref t1), (2, .int x2), (3, .int x3), (4, .int x4)]) (st' := [.int x2, .ref (t1 + 12), .ref (t1 + 15), .ref t1, .ref 67]) rfl ?_
  refine ev_ldI hr rfl (isT_a12 ht1) (fun v1 hr => ?_)
  refine ev_ldI hr rfl (isT_a15 ht1) (fun v2 hr => ?_)
  refine ev_seg 4 (k' := 22) (L' := [(0, .ref 67), (1, .ref t1), (2, .int x2), (3, .int x3), (4, .int x4)]) (st' := [.int x4, .int (x3 + 1), .int v2, .ref t1, .ref 67]) rfl ?_
  refine ev_callV (q' := q_252) (x := 252) (y := 13) (c := 67) (As := [.ref t1, .int v2, .int (x3 + 1), .int x4]) (rest := []) hr rfl rfl rfl rfl rfl rfl rfl rfl rfl rfl rfl rfl (fun rv s3 hq => ev_kV hq (fun e9 hr => ?_))
  subst e9
  refine ev_st (st' := []) rfl ?_
  exact ev_vret hr rfl rfl
set_option maxRecDepth 20000 in
theorem eMo_insert (d : Nat) (x1 : Int32) (x2 : Int32) (s : aT) : ∀ r, (if ¬ x2 = 0 then cG (fMo_varintSize d x2.toInt64 s) (kI fun v2 s1 => fMo_insert_12 (d + 1) x1 x2 v2 ((gI s1 67 22) - 1) s1) else rV s) = some r → fMo_insert (d + 1) x1 x2 s = some r := by
  intro r hr
  show ev (d + 1) q_264 0 [(0, .ref 67), (1, .int x1), (2, .int x2)] [] s = some r
  refine ev_seg 1 (k' := 1) (L' := [(0, .ref 67), (1, .int x1), (2, .int x2)]) (st' := [.int x2]) rfl ?_
  refine ev_br (P := ¬ x2 = 0) (L' := [(0, .ref 67), (1, .int x1), (2, .int x2)]) (st' := []) hr rfl rfl rfl (fun hr => ?_) (fun hr => ?_)
  · skip
    refine ev_seg 2 (k' := 5) (L' := [(0, .ref 67), (1, .int x1), (2, .int x2)]) (st' := [.long x2.toInt64]) rfl ?_
    refine ev_callS (q' := q_265) (x := 265) (vs := [.long x2.toInt64]) (rest := []) hr rfl rfl rfl rfl rfl rfl rfl rfl rfl rfl (fun rv s1 hq => ev_kI hq (fun v2 e9 hr => ?_))
    subst e9
    refine ev_st (st' := [.int v2]) rfl ?_
    refine ev_seg 6 (k' := 12) (L' := [(4, .int ((gI s1 67 22) - 1)), (3, .int v2), (0, .ref 67), (1, .int x1), (2, .int x2)]) (st' := []) rfl ?_
    refine ev_join (L' := [(0, .ref 67), (1, .int x1), (2, .int x2), (3, .int v2), (4, .int ((gI s1 67 22) - 1))]) [2, 3, 4, 1, 0] [4, 3, 0, 1, 2] [0, 1, 2, 3, 4] rfl rfl (by decide) (by decide) rfl ?_
    exact hr
  · skip
    exact ev_vret hr rfl rfl
set_option maxRecDepth 20000 in
theorem eMo_insert_12 (d : Nat) (x1 : Int32) (x2 : Int32) (z3 : Int32) (z4 : Int32) (s : aT) : ∀ r, (if z4 < x1 then fMo_insert_33 (d + 1) x1 x2 z3 s else if 4200 < (gI s 67 22) + z3 then fMo_insert_33 (d + 1) x1 x2 z3 s else ldI 4200 s 144 z4 (fun v1 => stI 4200 s 144 (z4 + z3) (vp_nar .byte v1) (fun s2 => fMo_insert_12 (d + 1) x1 x2 z3 (z4 + (-1)) s2))) = some r → fMo_insert_12 (d + 1) x1 x2 z3 z4 s = some r := by
  intro r hr
  show ev (d + 1) q_264 12 [(0, .ref 67), (1, .int x1), (2, .int x2), (3, .int z3), (4, .int z4)] [] s = some r
  refine ev_seg 2 (k' := 14) (L' := [(0, .ref 67), (1, .int x1), (2, .int x2), (3, .int z3), (4, .int z4)]) (st' := [.int x1, .int z4]) rfl ?_
  refine ev_br (P := z4 < x1) (L' := [(0, .ref 67), (1, .int x1), (2, .int x2), (3, .int z3), (4, .int z4)]) (st' := []) hr rfl rfl rfl (fun hr => ?_) (fun hr => ?_)
  · skip
    refine ev_join (L' := [(0, .ref 67), (1, .int x1), (2, .int x2), (3, .int z3)]) [0, 1, 2, 3] [0, 1, 2, 3, 4] [0, 1, 2, 3] rfl rfl (by decide) (by decide) rfl ?_
    exact hr
  · skip
    refine ev_seg 5 (k' := 20) (L' := [(0, .ref 67), (1, .int x1), (2, .int x2), (3, .int z3), (4, .int z4)]) (st' := [.int 4200, .int ((gI s 67 22) + z3)]) rfl ?_
    refine ev_br (P := 4200 < (gI s 67 22) + z3) (L' := [(0, .ref 67), (1, .int x1), (2, .int x2), (3, .int z3), (4, .int z4)]) (st' := []) hr rfl rfl rfl (fun hr => ?_) (fun hr => ?_)
    · skip
      refine ev_join (L' := [(0, .ref 67), (1, .int x1), (2, .int x2), (3, .int z3)]) [0, 1, 2, 3] [0, 1, 2, 3, 4] [0, 1, 2, 3] rfl rfl (by decide) (by decide) rfl ?_
      exact hr
    · skip
      refine ev_seg 8 (k' := 29) (L' := [(0, .ref 67), (1, .int x1), (2, .int x2), (3, .int z3), (4, .int z4)]) (st' := [.int z4, .ref 144, .int (z4 + z3), .ref 144]) rfl ?_
      refine ev_ldB hr rfl rfl (fun v1 hr => ?_)
      refine ev_stB hr rfl rfl (fun s2 hr => ?_)
      refine ev_seg 2 (k' := 12) (L' := [(4, .int (z4 + (-1))), (0, .ref 67), (1, .int x1), (2, .int x2), (3, .int z3)]) (st' := []) rfl ?_
      refine ev_join (L' := [(0, .ref 67), (1, .int x1), (2, .int x2), (3, .int z3), (4, .int (z4 + (-1)))]) [1, 2, 3, 4, 0] [4, 0, 1, 2, 3] [0, 1, 2, 3, 4] rfl rfl (by decide) (by decide) rfl ?_
      exact hr
