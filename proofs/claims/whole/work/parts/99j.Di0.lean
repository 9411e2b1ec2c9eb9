/-! RecordLake$Disk: what its pieces do -/
set_option maxRecDepth 20000 in
theorem eDi_blocksOf (d : Nat) (x0 : Int32) (s : aT) : ∀ r, (cP 911 [.int 1, .int (((x0 + 256) - 1) / 256)] (fun v1 => rI v1 s)) = some r → fDi_blocksOf (d + 6) x0 s = some r := by
  intro r hr
  show ev (d + 6) q_106 0 [(0, .int x0)] [] s = some r
  refine ev_seg 8 (k' := 8) (L' := [(0, .int x0)]) (st' := [.int (((x0 + 256) - 1) / 256), .int 1]) rfl ?_
  refine ev_primS (x := 911) (As := [.int 1, .int (((x0 + 256) - 1) / 256)]) (rest := []) hr rfl rfl rfl rfl rfl (fun v1 hr => ?_)
  exact ev_iret hr rfl rfl rfl
set_option maxRecDepth 20000 in
theorem eDi_writeFile (d : Nat) (x1 : Int32) (b2 : Nat) (s : aT) (hb2 : isB b2) : ∀ r, (fDi_writeFile_2 (d + 1) x1 b2 0 s) = some r → fDi_writeFile (d + 1) x1 b2 s = some r := by
  intro r hr
  show ev (d + 1) q_107 0 [(0, .ref 56), (1, .int x1), (2, .ref b2)] [] s = some r
  refine ev_seg 2 (k' := 2) (L' := [(3, .int 0), (0, .ref 56), (1, .int x1), (2, .ref b2)]) (st' := []) rfl ?_
  refine ev_join (L' := [(0, .ref 56), (1, .int x1), (2, .ref b2), (3, .int 0)]) [1, 2, 3, 0] [3, 0, 1, 2] [0, 1, 2, 3] rfl rfl (by decide) (by decide) rfl ?_
  exact hr
set_option maxRecDepth 20000 in
theorem eDi_writeFile_2 (d : Nat) (x1 : Int32) (b2 : Nat) (z3 : Int32) (s : aT) (hb2 : isB b2) : ∀ r, (cG (fDi_blocksOf d (gI s b2 1) s) (kI fun v2 s1 => if v2 ≤ z3 then rI 1 s1 else cG (fDi_writeBlock d (x1 + z3) b2 (z3 * 256) s1) (kI fun v4 s3 => if ¬ v4 = 0 then fDi_writeFile_2 (d + 1) x1 b2 (z3 + 1) s3 else rI 0 s3))) = some r → fDi_writeFile_2 (d + 1) x1 b2 z3 s = some r := by
  intro r hr
  show ev (d + 1) q_107 2 [(0, .ref 56), (1, .int x1), (2, .ref b2), (3, .int z3)] [] s = some r
  refine ev_seg 2 (k' := 4) (L' := [(0, .ref 56), (1, .int x1), (2, .ref b2), (3, .int z3)]) (st' := [.ref b2, .int z3]) rfl ?_
  refine ev_getI (c := b2) rfl (isB_sh hb2) rfl (Or.inl rfl) ?_
  refine ev_callS (q' := q_106) (x := 106) (vs := [.int (gI s b2 1)]) (rest := [.int z3]) hr rfl rfl rfl rfl rfl rfl rfl rfl rfl rfl (fun rv s1 hq => ev_kI hq (fun v2 e9 hr => ?_))
  subst e9
  refine ev_st (st' := [.int v2, .int z3]) rfl ?_
  refine ev_br (P := v2 ≤ z3) (L' := [(0, .ref 56), (1, .int x1), (2, .ref b2), (3, .int z3)]) (st' := []) hr rfl rfl rfl (fun hr => ?_) (fun hr => ?_)
  · skip
    refine ev_seg 1 (k' := 22) (L' := [(0, .ref 56), (1, .int x1), (2, .ref b2), (3, .int z3)]) (st' := [.int 1]) rfl ?_
    exact ev_iret hr rfl rfl rfl
  · skip
    refine ev_seg 8 (k' := 15) (L' := [(0, .ref 56), (1, .int x1), (2, .ref b2), (3, .int z3)]) (st' := [.int (z3 * 256), .ref b2, .int (x1 + z3), .ref 56]) rfl ?_
    refine ev_callV (q' := q_108) (x := 108) (y := 9) (c := 56) (As := [.int (x1 + z3), .ref b2, .int (z3 * 256)]) (rest := []) hr rfl rfl rfl rfl rfl rfl rfl rfl rfl rfl rfl rfl (fun rv s3 hq => ev_kI hq (fun v4 e9 hr => ?_))
    subst e9
    refine ev_st (st' := [.int v4]) rfl ?_
    refine ev_br (P := ¬ v4 = 0) (L' := [(0, .ref 56), (1, .int x1), (2, .ref b2), (3, .int z3)]) (st' := []) hr rfl rfl rfl (fun hr => ?_) (fun hr => ?_)
    · skip
      refine ev_seg 2 (k' := 2) (L' := [(3, .int (z3 + 1)), (0, .ref 56), (1, .int x1), (2, .ref b2)]) (st' := []) rfl ?_
      refine ev_join (L' := [(0, .ref 56), (1, .int x1), (2, .ref b2), (3, .int (z3 + 1))]) [1, 2, 3, 0] [3, 0, 1, 2] [0, 1, 2, 3] rfl rfl (by decide) (by decide) rfl ?_
      exact hr
    · skip
      refine ev_seg 1 (k' := 18) (L' := [(0, .ref 56), (1, .int x1), (2, .ref b2), (3, .int z3)]) (st' := [.int 0]) rfl ?_
      exact ev_iret hr rfl rfl rfl
set_option maxRecDepth 20000 in
theorem eDi_writeBlock (d : Nat) (x1 : Int32) (b2 : Nat) (x3 : Int32) (s : aT) (hb2 : isB b2) : ∀ r, (if ¬ gI s 56 1 = 0 then fDi_writeBlock_6 (d + 6) x1 b2 x3 0 s else fDi_writeBlock_6 (d + 6) x1 b2 x3 1 s) = some r → fDi_writeBlock (d + 6) x1 b2 x3 s = some r := by
  intro r hr
  show ev (d + 6) q_108 0 [(0, .ref 56), (1, .int x1), (2, .ref b2), (3, .int x3)] [] s = some r
  refine ev_seg 2 (k' := 2) (L' := [(0, .ref 56), (1, .int x1), (2, .ref b2), (3, .int x3)]) (st' := [.int (gI s 56 1)]) rfl ?_
  refine ev_br (P := ¬ gI s 56 1 = 0) (L' := [(0, .ref 56), (1, .int x1), (2, .ref b2), (3, .int x3)]) (st' := []) hr rfl rfl rfl (fun hr => ?_) (fun hr => ?_)
  · skip
    refine ev_seg 1 (k' := 6) (L' := [(0, .ref 56), (1, .int x1), (2, .ref b2), (3, .int x3)]) (st' := [.int 0]) rfl ?_
    exact hr
  · skip
    refine ev_seg 2 (k' := 6) (L' := [(0, .ref 56), (1, .int x1), (2, .ref b2), (3, .int x3)]) (st' := [.int 1]) rfl ?_
    exact hr
set_option maxRecDepth 20000 in
theorem eDi_writeBlock_6 (d : Nat) (x1 : Int32) (b2 : Nat) (x3 : Int32) (u0 : Int32) (s : aT) (hb2 : isB b2) : ∀ r, (if u0 = 0 then fDi_writeBlock_12 (d + 6) x1 b2 x3 u0 256 s else fDi_writeBlock_12 (d + 6) x1 b2 x3 u0 128 s) = some r → fDi_writeBlock_6 (d + 6) x1 b2 x3 u0 s = some r := by
  intro r hr
  show ev (d + 6) q_108 6 [(0, .ref 56), (1, .int x1), (2, .ref b2), (3, .int x3)] [.int u0] s = some r
  refine ev_seg 2 (k' := 8) (L' := [(4, .int u0), (0, .ref 56), (1, .int x1), (2, .ref b2), (3, .int x3)]) (st' := [.int u0]) rfl ?_
  refine ev_br (P := u0 = 0) (L' := [(4, .int u0), (0, .ref 56), (1, .int x1), (2, .ref b2), (3, .int x3)]) (st' := []) hr rfl rfl rfl (fun hr => ?_) (fun hr => ?_)
  · skip
    refine ev_seg 1 (k' := 12) (L' := [(4, .int u0), (0, .ref 56), (1, .int x1), (2, .ref b2), (3, .int x3)]) (st' := [.int 256]) rfl ?_
    refine ev_join (L' := [(0, .ref 56), (1, .int x1), (2, .ref b2), (3, .int x3), (4, .int u0)]) [1, 2, 3, 4, 0] [4, 0, 1, 2, 3] [0, 1, 2, 3, 4] rfl rfl (by decide) (by decide) rfl ?_
    exact hr
  · skip
    refine ev_seg 2 (k' := 12) (L' := [(4, .int u0), (0, .ref 56), (1, .int x1), (2, .ref b2), (3, .int x3)]) (st' := [.int 128]) rfl ?_
    refine ev_join (L' := [(0, .ref 56), (1, .int x1), (2, .ref b2), (3, .int x3), (4, .int u0)]) [1, 2, 3, 4, 0] [4, 0, 1, 2, 3] [0, 1, 2, 3, 4] rfl rfl (by decide) (by decide) rfl ?_
    exact hr
set_option maxRecDepth 20000 in
theorem eDi_writeBlock_12 (d : Nat) (x1 : Int32) (b2 : Nat) (x3 : Int32) (z4 : Int32) (u0 : Int32) (s : aT) (hb2 : isB b2) : ∀ r, (fDi_writeBlock_15 (d + 6) x1 b2 x3 z4 u0 0 s) = some r → fDi_writeBlock_12 (d + 6) x1 b2 x3 z4 u0 s = some r := by
  intro r hr
  show ev (d + 6) q_108 12 [(0, .ref 56), (1, .int x1), (2, .ref b2), (3, .int x3), (4, .int z4)] [.int u0] s = some r
  refine ev_seg 3 (k' := 15) (L' := [(6, .int 0), (5, .int u0), (0, .ref 56), (1, .int x1), (2, .ref b2), (3, .int x3), (4, .int z4)]) (st' := []) rfl ?_
  refine ev_join (L' := [(0, .ref 56), (1, .int x1), (2, .ref b2), (3, .int x3), (4, .int z4), (5, .int u0), (6, .int 0)]) [2, 3, 4, 5, 6, 1, 0] [6, 5, 0, 1, 2, 3, 4] [0, 1, 2, 3, 4, 5, 6] rfl rfl (by decide) (by decide) rfl ?_
  exact hr
set_option maxRecDepth 20000 in
theorem eDi_writeBlock_15 (d : Nat) (x1 : Int32) (b2 : Nat) (x3 : Int32) (z4 : Int32) (z5 : Int32) (z6 : Int32) (s : aT) (hb2 : isB b2) : ∀ r, (if z5 ≤ z6 then if z4 = 0 then if gI s 56 1 = (-1) then fDi_writeBlock_52 (d + 6) z4 s else wI s 56 1 ((gI s 56 1) - 1) (fun s1 => fDi_writeBlock_52 (d + 6) z4 s1) else wI s 56 1 (-1) (fun s2 => fDi_writeBlock_52 (d + 6) z4 s2) else cG (fBy_at (d + 5) b2 (x3 + z6) s) (kI fun v4 s3 => cP 911 [.int 0, .int v4] (fun v5 => stI 32768 s3 57 ((x1 * 256) + z6) (vp_nar .byte v5.toInt8.toInt32) (fun s6 => fDi_writeBlock_15 (d + 6) x1 b2 x3 z4 z5 (z6 + 1) s6)))) = some r → fDi_writeBlock_15 (d + 6) x1 b2 x3 z4 z5 z6 s = some r := by
  intro r hr
  show ev (d + 6) q_108 15 [(0, .ref 56), (1, .int x1), (2, .ref b2), (3, .int x3), (4, .int z4), (5, .int z5), (6, .int z6)] [] s = some r
  refine ev_seg 2 (k' := 17) (L' := [(0, .ref 56), (1, .int x1), (2, .ref b2), (3, .int x3), (4, .int z4), (5, .int z5), (6, .int z6)]) (st' := [.int z5, .int z6]) rfl ?_
  refine ev_br (P := z5 ≤ z6) (L' := [(0, .ref 56), (1, .int x1), (2, .ref b2), (3, .int x3), (4, .int z4), (5, .int z5), (6, .int z6)]) (st' := []) hr rfl rfl rfl (fun hr => ?_) (fun hr => ?_)
  · skip
    refine ev_seg 1 (k' := 37) (L' := [(0, .ref 56), (1, .int x1), (2, .ref b2), (3, .int x3), (4, .int z4), (5, .int z5), (6, .int z6)]) (st' := [.int z4]) rfl ?_
    refine ev_br (P := z4 = 0) (L' := [(0, .ref 56), (1, .int x1), (2, .ref b2), (3, .int x3), (4, .int z4), (5, .int z5), (6, .int z6)]) (st' := []) hr rfl rfl rfl (fun hr => ?_) (fun hr => ?_)
    · skip
      refine ev_seg 3 (k' := 45) (L' := [(0, .ref 56), (1, .int x1), (2, .ref b2), (3, .int x3), (4, .int z4), (5, .int z5), (6, .int z6)]) (st' := [.int (-1), .int (gI s 56 1)]) rfl ?_
      refine ev_br (P := gI s 56 1 = (-1)) (L' := [(0, .ref 56), (1, .int x1), (2, .ref b2), (3, .int x3), (4, .int z4), (5, .int z5), (6, .int z6)]) (st' := []) hr rfl rfl rfl (fun hr => ?_) (fun hr => ?_)
      · skip
        refine ev_join (L' := [(4, .int z4)]) [4] [0, 1, 2, 3, 4, 5, 6] [4] rfl rfl (by decide) (by decide) rfl ?_
        exact hr
      · skip
        refine ev_seg 5 (k' := 51) (L' := [(0, .ref 56), (1, .int x1), (2, .ref b2), (3, .int x3), (4, .int z4), (5, .int z5), (6, .int z6)]) (st' := [.int ((gI s 56 1) - 1), .ref 56]) rfl ?_
        refine ev_putI (c := 56) hr rfl rfl rfl (fun s1 hr => ?_)
        refine ev_join (L' := [(4, .int z4)]) [4] [0, 1, 2, 3, 4, 5, 6] [4] rfl rfl (by decide) (by decide) rfl ?_
        exact hr
    · skip
      refine ev_seg 2 (k' := 40) (L' := [(0, .ref 56), (1, .int x1), (2, .ref b2), (3, .int x3), (4, .int z4), (5, .int z5), (6, .int z6)]) (st' := [.int (-1), .ref 56]) rfl ?_
      refine ev_putI (c := 56) hr rfl rfl rfl (fun s2 hr => ?_)
      refine ev_seg 1 (k' := 52) (L' := [(0, .ref 56), (1, .int x1), (2, .ref b2), (3, .int x3), (4, .int z4), (5, .int z5), (6, .int z6)]) (st' := []) rfl ?_
      refine ev_join (L' := [(4, .int z4)]) [4] [0, 1, 2, 3, 4, 5, 6] [4] rfl rfl (by decide) (by decide) rfl ?_
      exact hr
  · skip
    refine ev_seg 12 (k' := 30) (L' := [(0, .ref 56), (1, .int x1), (2, .ref b2), (3, .int x3), (4, .int z4), (5, .int z5), (6, .int z6)]) (st' := [.int (x3 + z6), .ref b2, .int 0, .int ((x1 * 256) + z6), .ref 57]) rfl ?_
    refine ev_callV (q' := q_46) (x := 46) (y := 0) (c := b2) (As := [.int (x3 + z6)]) (rest := [.int 0, .int ((x1 * 256) + z6), .ref 57]) hr rfl rfl rfl rfl rfl rfl (isB_sh hb2) rfl rfl rfl rfl rfl (fun rv s3 hq => ev_kI hq (fun v4 e9 hr => ?_))
    subst e9
    refine ev_st (st' := [.int v4, .int 0, .int ((x1 * 256) + z6), .ref 57]) rfl ?_
    refine ev_primS (x := 911) (As := [.int 0, .int v4]) (rest := [.int ((x1 * 256) + z6), .ref 57]) hr rfl rfl rfl rfl rfl (fun v5 hr => ?_)
    refine ev_seg 1 (k' := 33) (L' := [(0, .ref 56), (1, .int x1), (2, .ref b2), (3, .int x3), (4, .int z4), (5, .int z5), (6, .int z6)]) (st' := [.int v5.toInt8.toInt32, .int ((x1 * 256) + z6), .ref 57]) rfl ?_
    refine ev_stB hr rfl rfl (fun s6 hr => ?_)
    refine ev_seg 2 (k' := 15) (L' := [(6, .int (z6 + 1)), (0, .ref 56), (1, .int x1), (2, .ref b2), (3, .int x3), (4, .int z4), (5, .int z5)]) (st' := []) rfl ?_
    refine ev_join (L' := [(0, .ref 56), (1, .int x1), (2, .ref b2), (3, .int x3), (4, .int z4), (5, .int z5), (6, .int (z6 + 1))]) [1, 2, 3, 4, 5, 6, 0] [6, 0, 1, 2, 3, 4, 5] [0, 1, 2, 3, 4, 5, 6] rfl rfl (by decide) (by decide) rfl ?_
    exact hr
set_option maxRecDepth 20000 in
theorem eDi_writeBlock_52 (d : Nat) (z4 : Int32) (s : aT) : ∀ r, (if ¬ z4 = 0 then rI 0 s else rI 1 s) = some r → fDi_writeBlock_52 (d + 6) z4 s = some r := by
  intro r hr
  show ev (d + 6) q_108 52 [(4, .int z4)] [] s = some r
  refine ev_seg 1 (k' := 53) (L' := [(4, .int z4)]) (st' := [.int z4]) rfl ?_
  refine ev_br (P := ¬ z4 = 0) (L' := [(4, .int z4)]) (st' := []) hr rfl rfl rfl (fun hr => ?_) (fun hr => ?_)
  · skip
    refine ev_seg 1 (k' := 57) (L' := [(4, .int z4)]) (st' := [.int 0]) rfl ?_
    exact ev_iret hr rfl rfl rfl
  · skip
    refine ev_seg 2 (k' := 57) (L' := [(4, .int z4)]) (st' := [.int 1]) rfl ?_
    exact ev_iret hr rfl rfl rfl
