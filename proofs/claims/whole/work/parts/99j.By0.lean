/-! RecordLake$Bytes: what its pieces do -/
set_option maxRecDepth 20000 in
theorem eBy_put (d : Nat) (c : Nat) (x1 : Int32) (s : aT) (hc : isB c) : ∀ r, (if gI s c 1 < nI (alen (c + 1)) then stI (alen (c + 1)) s (c + 1) (gI s c 1) (vp_nar .byte x1.toInt8.toInt32) (fun s1 => wI s1 c 1 ((gI s1 c 1) + 1) (fun s2 => rI 1 s2)) else rI 0 s) = some r → fBy_put d c x1 s = some r := by
  intro r hr
  show ev d q_16 0 [(0, .ref c), (1, .int x1)] [] s = some r
  refine ev_seg 1 (k' := 1) (L' := [(0, .ref c), (1, .int x1)]) (st' := [.ref c]) rfl ?_
  refine ev_getI (c := c) rfl (isB_sh hc) rfl (Or.inl rfl) ?_
  refine ev_seg 1 (k' := 3) (L' := [(0, .ref c), (1, .int x1)]) (st' := [.ref c, .int (gI s c 1)]) rfl ?_
  refine ev_getR (c := c) (v := c + 1) rfl (isB_sh hc) rfl (isB_row hc) ?_
  refine ev_alen (t := 0) (n := alen (c + 1)) hr rfl (isB_arr hc) (by decide) (fun hr => ?_)
  refine ev_br (P := gI s c 1 < nI (alen (c + 1))) (L' := [(0, .ref c), (1, .int x1)]) (st' := []) hr rfl rfl rfl (fun hr => ?_) (fun hr => ?_)
  · skip
    refine ev_seg 1 (k' := 9) (L' := [(0, .ref c), (1, .int x1)]) (st' := [.ref c]) rfl ?_
    refine ev_getR (c := c) (v := c + 1) rfl (isB_sh hc) rfl (isB_row hc) ?_
    refine ev_seg 1 (k' := 11) (L' := [(0, .ref c), (1, .int x1)]) (st' := [.ref c, .ref (c + 1)]) rfl ?_
    refine ev_getI (c := c) rfl (isB_sh hc) rfl (Or.inl rfl) ?_
    refine ev_seg 2 (k' := 14) (L' := [(0, .ref c), (1, .int x1)]) (st' := [.int x1.toInt8.toInt32, .int (gI s c 1), .ref (c + 1)]) rfl ?_
    refine ev_stX hr rfl (fun s1 hr => ?_)
    refine ev_seg 2 (k' := 17) (L' := [(0, .ref c), (1, .int x1)]) (st' := [.ref c, .ref c]) rfl ?_
    refine ev_getI (c := c) rfl (isB_sh hc) rfl (Or.inl rfl) ?_
    refine ev_seg 2 (k' := 20) (L' := [(0, .ref c), (1, .int x1)]) (st' := [.int ((gI s1 c 1) + 1), .ref c]) rfl ?_
    refine ev_putI (c := c) hr rfl (isB_sh hc) rfl (fun s2 hr => ?_)
    refine ev_seg 1 (k' := 22) (L' := [(0, .ref c), (1, .int x1)]) (st' := [.int 1]) rfl ?_
    exact ev_iret hr rfl rfl rfl
  · skip
    refine ev_seg 1 (k' := 7) (L' := [(0, .ref c), (1, .int x1)]) (st' := [.int 0]) rfl ?_
    exact ev_iret hr rfl rfl rfl
set_option maxRecDepth 20000 in
theorem eBy_at (d : Nat) (c : Nat) (x1 : Int32) (s : aT) (hc : isB c) : ∀ r, (if x1 < 0 then rI (-1) s else if x1 < gI s c 1 then ldI (alen (c + 1)) s (c + 1) x1 (fun v1 => rI (v1 &&& 255) s) else rI (-1) s) = some r → fBy_at d c x1 s = some r := by
  intro r hr
  show ev d q_46 0 [(0, .ref c), (1, .int x1)] [] s = some r
  refine ev_seg 1 (k' := 1) (L' := [(0, .ref c), (1, .int x1)]) (st' := [.int x1]) rfl ?_
  refine ev_br (P := x1 < 0) (L' := [(0, .ref c), (1, .int x1)]) (st' := []) hr rfl rfl rfl (fun hr => ?_) (fun hr => ?_)
  · skip
    refine ev_seg 2 (k' := 14) (L' := [(0, .ref c), (1, .int x1)]) (st' := [.int (-1)]) rfl ?_
    exact ev_iret hr rfl rfl rfl
  · skip
    refine ev_seg 2 (k' := 4) (L' := [(0, .ref c), (1, .int x1)]) (st' := [.ref c, .int x1]) rfl ?_
    refine ev_getI (c := c) rfl (isB_sh hc) rfl (Or.inl rfl) ?_
    refine ev_br (P := x1 < gI s c 1) (L' := [(0, .ref c), (1, .int x1)]) (st' := []) hr rfl rfl rfl (fun hr => ?_) (fun hr => ?_)
    · skip
      refine ev_seg 1 (k' := 9) (L' := [(0, .ref c), (1, .int x1)]) (st' := [.ref c]) rfl ?_
      refine ev_getR (c := c) (v := c + 1) rfl (isB_sh hc) rfl (isB_row hc) ?_
      refine ev_seg 1 (k' := 11) (L' := [(0, .ref c), (1, .int x1)]) (st' := [.int x1, .ref (c + 1)]) rfl ?_
      refine ev_ldX hr rfl (fun v1 hr => ?_)
      refine ev_seg 2 (k' := 14) (L' := [(0, .ref c), (1, .int x1)]) (st' := [.int (v1 &&& 255)]) rfl ?_
      exact ev_iret hr rfl rfl rfl
    · skip
      refine ev_seg 2 (k' := 14) (L' := [(0, .ref c), (1, .int x1)]) (st' := [.int (-1)]) rfl ?_
      exact ev_iret hr rfl rfl rfl
set_option maxRecDepth 20000 in
theorem eBy_putRow (d : Nat) (c : Nat) (a1 : Nat) (x2 : Int32) (x3 : Int32) (s : aT) (hc : isB c) : ∀ r, (if x2 < 0 then rI 0 s else if x3 < 0 then rI 0 s else gA a1 (if (nI (alen a1)) - x2 < x3 then rI 0 s else if x3 ≤ (nI (alen (c + 1))) - (gI s c 1) then gA a1 (cpB s a1 x2 (c + 1) (gI s c 1) x3 (fun s2 => wI s2 c 1 ((gI s2 c 1) + x3) (fun s4 => rI 1 s4))) else rI 0 s)) = some r → fBy_putRow (d + 6) c a1 x2 x3 s = some r := by
  intro r hr
  show ev (d + 6) q_48 0 [(0, .ref c), (1, .ref a1), (2, .int x2), (3, .int x3)] [] s = some r
  refine ev_seg 1 (k' := 1) (L' := [(0, .ref c), (1, .ref a1), (2, .int x2), (3, .int x3)]) (st' := [.int x2]) rfl ?_
  refine ev_br (P := x2 < 0) (L' := [(0, .ref c), (1, .ref a1), (2, .int x2), (3, .int x3)]) (st' := []) hr rfl rfl rfl (fun hr => ?_) (fun hr => ?_)
  · skip
    refine ev_seg 1 (k' := 19) (L' := [(0, .ref c), (1, .ref a1), (2, .int x2), (3, .int x3)]) (st' := [.int 0]) rfl ?_
    exact ev_iret hr rfl rfl rfl
  · skip
    refine ev_seg 1 (k' := 3) (L' := [(0, .ref c), (1, .ref a1), (2, .int x2), (3, .int x3)]) (st' := [.int x3]) rfl ?_
    refine ev_br (P := x3 < 0) (L' := [(0, .ref c), (1, .ref a1), (2, .int x2), (3, .int x3)]) (st' := []) hr rfl rfl rfl (fun hr => ?_) (fun hr => ?_)
    · skip
      refine ev_seg 1 (k' := 19) (L' := [(0, .ref c), (1, .ref a1), (2, .int x2), (3, .int x3)]) (st' := [.int 0]) rfl ?_
      exact ev_iret hr rfl rfl rfl
    · skip
      refine ev_seg 2 (k' := 6) (L' := [(0, .ref c), (1, .ref a1), (2, .int x2), (3, .int x3)]) (st' := [.ref a1, .int x3]) rfl ?_
      refine ev_gA hr (fun h1 hr => ?_)
      refine ev_alen (t := 0) (n := alen a1) hr rfl h1 (by decide) (fun hr => ?_)
      refine ev_seg 2 (k' := 9) (L' := [(0, .ref c), (1, .ref a1), (2, .int x2), (3, .int x3)]) (st' := [.int ((nI (alen a1)) - x2), .int x3]) rfl ?_
      refine ev_br (P := (nI (alen a1)) - x2 < x3) (L' := [(0, .ref c), (1, .ref a1), (2, .int x2), (3, .int x3)]) (st' := []) hr rfl rfl rfl (fun hr => ?_) (fun hr => ?_)
      · skip
        refine ev_seg 1 (k' := 19) (L' := [(0, .ref c), (1, .ref a1), (2, .int x2), (3, .int x3)]) (st' := [.int 0]) rfl ?_
        exact ev_iret hr rfl rfl rfl
      · skip
        refine ev_seg 2 (k' := 12) (L' := [(0, .ref c), (1, .ref a1), (2, .int x2), (3, .int x3)]) (st' := [.ref c, .int x3]) rfl ?_
        refine ev_getR (c := c) (v := c + 1) rfl (isB_sh hc) rfl (isB_row hc) ?_
        refine ev_alen (t := 0) (n := alen (c + 1)) hr rfl (isB_arr hc) (by decide) (fun hr => ?_)
        refine ev_seg 1 (k' := 15) (L' := [(0, .ref c), (1, .ref a1), (2, .int x2), (3, .int x3)]) (st' := [.ref c, .int (nI (alen (c + 1))), .int x3]) rfl ?_
        refine ev_getI (c := c) rfl (isB_sh hc) rfl (Or.inl rfl) ?_
        refine ev_seg 1 (k' := 17) (L' := [(0, .ref c), (1, .ref a1), (2, .int x2), (3, .int x3)]) (st' := [.int ((nI (alen (c + 1))) - (gI s c 1)), .int x3]) rfl ?_
        refine ev_br (P := x3 ≤ (nI (alen (c + 1))) - (gI s c 1)) (L' := [(0, .ref c), (1, .ref a1), (2, .int x2), (3, .int x3)]) (st' := []) hr rfl rfl rfl (fun hr => ?_) (fun hr => ?_)
        · skip
          refine ev_seg 3 (k' := 23) (L' := [(0, .ref c), (1, .ref a1), (2, .int x2), (3, .int x3)]) (st' := [.ref c, .int x2, .ref a1]) rfl ?_
          refine ev_getR (c := c) (v := c + 1) rfl (isB_sh hc) rfl (isB_row hc) ?_
          refine ev_seg 1 (k' := 25) (L' := [(0, .ref c), (1, .ref a1), (2, .int x2), (3, .int x3)]) (st' := [.ref c, .ref (c + 1), .int x2, .ref a1]) rfl ?_
          refine ev_getI (c := c) rfl (isB_sh hc) rfl (Or.inl rfl) ?_
          refine ev_seg 1 (k' := 27) (L' := [(0, .ref c), (1, .ref a1), (2, .int x2), (3, .int x3)]) (st' := [.int x3, .int (gI s c 1), .ref (c + 1), .int x2, .ref a1]) rfl ?_
          refine ev_gA hr (fun h3 hr => ?_)
          refine ev_copy (rest := []) hr rfl h3 (isB_arr hc) rfl (fun s2 hr => ?_)
          refine ev_seg 2 (k' := 30) (L' := [(0, .ref c), (1, .ref a1), (2, .int x2), (3, .int x3)]) (st' := [.ref c, .ref c]) rfl ?_
          refine ev_getI (c := c) rfl (isB_sh hc) rfl (Or.inl rfl) ?_
          refine ev_seg 2 (k' := 33) (L' := [(0, .ref c), (1, .ref a1), (2, .int x2), (3, .int x3)]) (st' := [.int ((gI s2 c 1) + x3), .ref c]) rfl ?_
          refine ev_putI (c := c) hr rfl (isB_sh hc) rfl (fun s4 hr => ?_)
          refine ev_seg 1 (k' := 35) (L' := [(0, .ref c), (1, .ref a1), (2, .int x2), (3, .int x3)]) (st' := [.int 1]) rfl ?_
          exact ev_iret hr rfl rfl rfl
        · skip
          refine ev_seg 1 (k' := 19) (L' := [(0, .ref c), (1, .ref a1), (2, .int x2), (3, .int x3)]) (st' := [.int 0]) rfl ?_
          exact ev_iret hr rfl rfl rfl
set_option maxRecDepth 20000 in
theorem eBy_putVarint (d : Nat) (c : Nat) (y1 : Int64) (s : aT) (hc : isB c) : ∀ r, (fBy_putVarint_10 (d + 1) c ((y1 <<< ((1 : Int32).toInt64 &&& 63)) ^^^ (y1 >>> ((63 : Int32).toInt64 &&& 63))) 0 s) = some r → fBy_putVarint (d + 1) c y1 s = some r := by
  intro r hr
  show ev (d + 1) q_64 0 [(0, .ref c), (1, .long y1)] [] s = some r
  refine ev_seg 10 (k' := 10) (L' := [(5, .int 0), (3, .long ((y1 <<< ((1 : Int32).toInt64 &&& 63)) ^^^ (y1 >>> ((63 : Int32).toInt64 &&& 63)))), (0, .ref c), (1, .long y1)]) (st' := []) rfl ?_
  refine ev_join (L' := [(0, .ref c), (3, .long ((y1 <<< ((1 : Int32).toInt64 &&& 63)) ^^^ (y1 >>> ((63 : Int32).toInt64 &&& 63)))), (5, .int 0)]) [2, 1, 0] [5, 3, 0, 1] [0, 3, 5] rfl rfl (by decide) (by decide) rfl ?_
  exact hr
set_option maxRecDepth 20000 in
theorem eBy_putVarint_10 (d : Nat) (c : Nat) (l3 : Int64) (z5 : Int32) (s : aT) (hc : isB c) : ∀ r, (if 10 ≤ z5 then rI 1 s else if ¬ aLcmp (l3 &&& (-128)) 0 = 0 then fBy_putVarint_22 (d + 1) c l3 z5 0 s else fBy_putVarint_22 (d + 1) c l3 z5 1 s) = some r → fBy_putVarint_10 (d + 1) c l3 z5 s = some r := by
  intro r hr
  show ev (d + 1) q_64 10 [(0, .ref c), (3, .long l3), (5, .int z5)] [] s = some r
  refine ev_seg 2 (k' := 12) (L' := [(0, .ref c), (3, .long l3), (5, .int z5)]) (st' := [.int 10, .int z5]) rfl ?_
  refine ev_br (P := 10 ≤ z5) (L' := [(0, .ref c), (3, .long l3), (5, .int z5)]) (st' := []) hr rfl rfl rfl (fun hr => ?_) (fun hr => ?_)
  · skip
    refine ev_seg 1 (k' := 49) (L' := [(0, .ref c), (3, .long l3), (5, .int z5)]) (st' := [.int 1]) rfl ?_
    exact ev_iret hr rfl rfl rfl
  · skip
    refine ev_seg 5 (k' := 18) (L' := [(0, .ref c), (3, .long l3), (5, .int z5)]) (st' := [.int (aLcmp (l3 &&& (-128)) 0)]) rfl ?_
    refine ev_br (P := ¬ aLcmp (l3 &&& (-128)) 0 = 0) (L' := [(0, .ref c), (3, .long l3), (5, .int z5)]) (st' := []) hr rfl rfl rfl (fun hr => ?_) (fun hr => ?_)
    · skip
      refine ev_seg 1 (k' := 22) (L' := [(0, .ref c), (3, .long l3), (5, .int z5)]) (st' := [.int 0]) rfl ?_
      exact hr
    · skip
      refine ev_seg 2 (k' := 22) (L' := [(0, .ref c), (3, .long l3), (5, .int z5)]) (st' := [.int 1]) rfl ?_
      exact hr
set_option maxRecDepth 20000 in
theorem eBy_putVarint_22 (d : Nat) (c : Nat) (l3 : Int64) (z5 : Int32) (u0 : Int32) (s : aT) (hc : isB c) : ∀ r, (if u0 = 0 then fBy_putVarint_33 (d + 1) c l3 z5 u0 128 ((l3 &&& 127).toInt32) s else fBy_putVarint_33 (d + 1) c l3 z5 u0 0 ((l3 &&& 127).toInt32) s) = some r → fBy_putVarint_22 (d + 1) c l3 z5 u0 s = some r := by
  intro r hr
  show ev (d + 1) q_64 22 [(0, .ref c), (3, .long l3), (5, .int z5)] [.int u0] s = some r
  refine ev_seg 7 (k' := 29) (L' := [(6, .int u0), (0, .ref c), (3, .long l3), (5, .int z5)]) (st' := [.int u0, .int ((l3 &&& 127).toInt32), .ref c]) rfl ?_
  refine ev_br (P := u0 = 0) (L' := [(6, .int u0), (0, .ref c), (3, .long l3), (5, .int z5)]) (st' := [.int ((l3 &&& 127).toInt32), .ref c]) hr rfl rfl rfl (fun hr => ?_) (fun hr => ?_)
  · skip
    refine ev_seg 1 (k' := 33) (L' := [(6, .int u0), (0, .ref c), (3, .long l3), (5, .int z5)]) (st' := [.int 128, .int ((l3 &&& 127).toInt32), .ref c]) rfl ?_
    refine ev_join (L' := [(0, .ref c), (3, .long l3), (5, .int z5), (6, .int u0)]) [1, 2, 3, 0] [6, 0, 3, 5] [0, 3, 5, 6] rfl rfl (by decide) (by decide) rfl ?_
    exact hr
  · skip
    refine ev_seg 2 (k' := 33) (L' := [(6, .int u0), (0, .ref c), (3, .long l3), (5, .int z5)]) (st' := [.int 0, .int ((l3 &&& 127).toInt32), .ref c]) rfl ?_
    refine ev_join (L' := [(0, .ref c), (3, .long l3), (5, .int z5), (6, .int u0)]) [1, 2, 3, 0] [6, 0, 3, 5] [0, 3, 5, 6] rfl rfl (by decide) (by decide) rfl ?_
    exact hr
set_option maxRecDepth 20000 in
theorem eBy_putVarint_33 (d : Nat) (c : Nat) (l3 : Int64) (z5 : Int32) (z6 : Int32) (u0 : Int32) (u1 : Int32) (s : aT) (hc : isB c) : ∀ r, (cG (fBy_put d c (u1 ||| u0) s) (kI fun v2 s1 => if ¬ v2 = 0 then if z6 = 0 then fBy_putVarint_10 (d + 1) c ((l3.toUInt64 >>> ((7 : Int32).toInt64.toUInt64 &&& Int64.toUInt64 63)).toInt64) (z5 + 1) s1 else rI 1 s1 else rI 0 s1)) = some r → fBy_putVarint_33 (d + 1) c l3 z5 z6 u0 u1 s = some r := by
  intro r hr
  show ev (d + 1) q_64 33 [(0, .ref c), (3, .long l3), (5, .int z5), (6, .int z6)] [.int u0, .int u1, .ref c] s = some r
  refine ev_seg 1 (k' := 34) (L' := [(0, .ref c), (3, .long l3), (5, .int z5), (6, .int z6)]) (st' := [.int (u1 ||| u0), .ref c]) rfl ?_
  refine ev_callV (q' := q_16) (x := 16) (y := 0) (c := c) (As := [.int (u1 ||| u0)]) (rest := []) hr rfl rfl rfl rfl rfl rfl (isB_sh hc) rfl rfl rfl rfl rfl (fun rv s1 hq => ev_kI hq (fun v2 e9 hr => ?_))
  subst e9
  refine ev_st (st' := [.int v2]) rfl ?_
  refine ev_br (P := ¬ v2 = 0) (L' := [(0, .ref c), (3, .long l3), (5, .int z5), (6, .int z6)]) (st' := []) hr rfl rfl rfl (fun hr => ?_) (fun hr => ?_)
  · skip
    refine ev_seg 1 (k' := 39) (L' := [(0, .ref c), (3, .long l3), (5, .int z5), (6, .int z6)]) (st' := [.int z6]) rfl ?_
    refine ev_br (P := z6 = 0) (L' := [(0, .ref c), (3, .long l3), (5, .int z5), (6, .int z6)]) (st' := []) hr rfl rfl rfl (fun hr => ?_) (fun hr => ?_)
    · skip
      refine ev_seg 6 (k' := 10) (L' := [(5, .int (z5 + 1)), (3, .long ((l3.toUInt64 >>> ((7 : Int32).toInt64.toUInt64 &&& Int64.toUInt64 63)).toInt64)), (0, .ref c), (6, .int z6)]) (st' := []) rfl ?_
      refine ev_join (L' := [(0, .ref c), (3, .long ((l3.toUInt64 >>> ((7 : Int32).toInt64.toUInt64 &&& Int64.toUInt64 63)).toInt64)), (5, .int (z5 + 1))]) [2, 1, 0] [5, 3, 0, 6] [0, 3, 5] rfl rfl (by decide) (by decide) rfl ?_
      exact hr
    · skip
      refine ev_seg 1 (k' := 41) (L' := [(0, .ref c), (3, .long l3), (5, .int z5), (6, .int z6)]) (st' := [.int 1]) rfl ?_
      exact ev_iret hr rfl rfl rfl
  · skip
    refine ev_seg 1 (k' := 37) (L' := [(0, .ref c), (3, .long l3), (5, .int z5), (6, .int z6)]) (st' := [.int 0]) rfl ?_
    exact ev_iret hr rfl rfl rfl
set_option maxRecDepth 20000 in
theorem eBy_putWord (d : Nat) (c : Nat) (w1 : Nat) (s : aT) (hc : isB c) : ∀ r, (fBy_putWord_4 (d + 6) c w1 1 0 s) = some r → fBy_putWord (d + 6) c w1 s = some r := by
  intro r hr
  show ev (d + 6) q_71 0 [(0, .ref c), (1, .ref w1)] [] s = some r
  refine ev_seg 4 (k' := 4) (L' := [(3, .int 0), (2, .int 1), (0, .ref c), (1, .ref w1)]) (st' := []) rfl ?_
  refine ev_join (L' := [(0, .ref c), (1, .ref w1), (2, .int 1), (3, .int 0)]) [2, 3, 1, 0] [3, 2, 0, 1] [0, 1, 2, 3] rfl rfl (by decide) (by decide) rfl ?_
  exact hr
set_option maxRecDepth 20000 in
theorem eBy_putWord_4 (d : Nat) (c : Nat) (w1 : Nat) (z2 : Int32) (z3 : Int32) (s : aT) (hc : isB c) : ∀ r, (cP 900 [.ref w1] (fun v1 => if v1 ≤ z3 then rZ z2 s else cP 901 [.ref w1, .int z3] (fun v2 => cG (fBy_put (d + 5) c v2 s) (kI fun v4 s3 => fBy_putWord_4 (d + 6) c w1 v4 (z3 + 1) s3)))) = some r → fBy_putWord_4 (d + 6) c w1 z2 z3 s = some r := by
  intro r hr
  show ev (d + 6) q_71 4 [(0, .ref c), (1, .ref w1), (2, .int z2), (3, .int z3)] [] s = some r
  refine ev_seg 2 (k' := 6) (L' := [(0, .ref c), (1, .ref w1), (2, .int z2), (3, .int z3)]) (st' := [.ref w1, .int z3]) rfl ?_
  refine ev_primV (x := 900) (As := [.ref w1]) (rest := [.int z3]) hr rfl rfl rfl rfl (fun v1 hr => ?_)
  refine ev_br (P := v1 ≤ z3) (L' := [(0, .ref c), (1, .ref w1), (2, .int z2), (3, .int z3)]) (st' := []) hr rfl rfl rfl (fun hr => ?_) (fun hr => ?_)
  · skip
    refine ev_seg 1 (k' := 17) (L' := [(0, .ref c), (1, .ref w1), (2, .int z2), (3, .int z3)]) (st' := [.int z2]) rfl ?_
    exact ev_zret hr rfl rfl
  · skip
    refine ev_seg 3 (k' := 11) (L' := [(0, .ref c), (1, .ref w1), (2, .int z2), (3, .int z3)]) (st' := [.int z3, .ref w1, .ref c]) rfl ?_
    refine ev_primV (x := 901) (As := [.ref w1, .int z3]) (rest := [.ref c]) hr rfl rfl rfl rfl (fun v2 hr => ?_)
    refine ev_callV (q' := q_16) (x := 16) (y := 0) (c := c) (As := [.int v2]) (rest := []) hr rfl rfl rfl rfl rfl rfl (isB_sh hc) rfl rfl rfl rfl rfl (fun rv s3 hq => ev_kI hq (fun v4 e9 hr => ?_))
    subst e9
    refine ev_st (st' := [.int v4]) rfl ?_
    refine ev_seg 3 (k' := 4) (L' := [(3, .int (z3 + 1)), (2, .int v4), (0, .ref c), (1, .ref w1)]) (st' := []) rfl ?_
    refine ev_join (L' := [(0, .ref c), (1, .ref w1), (2, .int v4), (3, .int (z3 + 1))]) [2, 3, 1, 0] [3, 2, 0, 1] [0, 1, 2, 3] rfl rfl (by decide) (by decide) rfl ?_
    exact hr
set_option maxRecDepth 20000 in
theorem eBy_putNumber (d : Nat) (c : Nat) (y1 : Int64) (x3 : Int32) (s : aT) (hc : isB c) : ∀ r, (fBy_putNumber_4 (d + 1) c y1 (x3 - 1) s) = some r → fBy_putNumber (d + 1) c y1 x3 s = some r := by
  intro r hr
  show ev (d + 1) q_83 0 [(0, .ref c), (1, .long y1), (3, .int x3)] [] s = some r
  refine ev_seg 4 (k' := 4) (L' := [(4, .int (x3 - 1)), (0, .ref c), (1, .long y1), (3, .int x3)]) (st' := []) rfl ?_
  refine ev_join (L' := [(0, .ref c), (1, .long y1), (4, .int (x3 - 1))]) [1, 2, 0] [4, 0, 1, 3] [0, 1, 4] rfl rfl (by decide) (by decide) rfl ?_
  exact hr
set_option maxRecDepth 20000 in
theorem eBy_putNumber_4 (d : Nat) (c : Nat) (y1 : Int64) (z4 : Int32) (s : aT) (hc : isB c) : ∀ r, (if z4 < 0 then rV s else cG (fBy_put d c (((y1.toUInt64 >>> ((8 * z4).toInt64.toUInt64 &&& Int64.toUInt64 63)).toInt64).toInt32) s) (kI fun v2 s1 => fBy_putNumber_4 (d + 1) c y1 (z4 + (-1)) s1)) = some r → fBy_putNumber_4 (d + 1) c y1 z4 s = some r := by
  intro r hr
  show ev (d + 1) q_83 4 [(0, .ref c), (1, .long y1), (4, .int z4)] [] s = some r
  refine ev_seg 1 (k' := 5) (L' := [(0, .ref c), (1, .long y1), (4, .int z4)]) (st' := [.int z4]) rfl ?_
  refine ev_br (P := z4 < 0) (L' := [(0, .ref c), (1, .long y1), (4, .int z4)]) (st' := []) hr rfl rfl rfl (fun hr => ?_) (fun hr => ?_)
  · skip
    exact ev_vret hr rfl rfl
  · skip
    refine ev_seg 7 (k' := 13) (L' := [(0, .ref c), (1, .long y1), (4, .int z4)]) (st' := [.int (((y1.toUInt64 >>> ((8 * z4).toInt64.toUInt64 &&& Int64.toUInt64 63)).toInt64).toInt32), .ref c]) rfl ?_
    refine ev_callV (q' := q_16) (x := 16) (y := 0) (c := c) (As := [.int (((y1.toUInt64 >>> ((8 * z4).toInt64.toUInt64 &&& Int64.toUInt64 63)).toInt64).toInt32)]) (rest := []) hr rfl rfl rfl rfl rfl rfl (isB_sh hc) rfl rfl rfl rfl rfl (fun rv s1 hq => ev_kI hq (fun v2 e9 hr => ?_))
    subst e9
    refine ev_st (st' := [.int v2]) rfl ?_
    refine ev_seg 3 (k' := 4) (L' := [(4, .int (z4 + (-1))), (0, .ref c), (1, .long y1)]) (st' := []) rfl ?_
    refine ev_join (L' := [(0, .ref c), (1, .long y1), (4, .int (z4 + (-1)))]) [1, 2, 0] [4, 0, 1] [0, 1, 4] rfl rfl (by decide) (by decide) rfl ?_
    exact hr
set_option maxRecDepth 20000 in
theorem eBy_putZeros (d : Nat) (c : Nat) (x1 : Int32) (s : aT) (hc : isB c) : ∀ r, (fBy_putZeros_4 (d + 1) c x1 1 0 s) = some r → fBy_putZeros (d + 1) c x1 s = some r := by
  intro r hr
  show ev (d + 1) q_114 0 [(0, .ref c), (1, .int x1)] [] s = some r
  refine ev_seg 4 (k' := 4) (L' := [(3, .int 0), (2, .int 1), (0, .ref c), (1, .int x1)]) (st' := []) rfl ?_
  refine ev_join (L' := [(0, .ref c), (1, .int x1), (2, .int 1), (3, .int 0)]) [2, 3, 1, 0] [3, 2, 0, 1] [0, 1, 2, 3] rfl rfl (by decide) (by decide) rfl ?_
  exact hr
set_option maxRecDepth 20000 in
theorem eBy_putZeros_4 (d : Nat) (c : Nat) (x1 : Int32) (z2 : Int32) (z3 : Int32) (s : aT) (hc : isB c) : ∀ r, (if x1 ≤ z3 then rZ z2 s else cG (fBy_put d c 0 s) (kI fun v2 s1 => fBy_putZeros_4 (d + 1) c x1 v2 (z3 + 1) s1)) = some r → fBy_putZeros_4 (d + 1) c x1 z2 z3 s = some r := by
  intro r hr
  show ev (d + 1) q_114 4 [(0, .ref c), (1, .int x1), (2, .int z2), (3, .int z3)] [] s = some r
  refine ev_seg 2 (k' := 6) (L' := [(0, .ref c), (1, .int x1), (2, .int z2), (3, .int z3)]) (st' := [.int x1, .int z3]) rfl ?_
  refine ev_br (P := x1 ≤ z3) (L' := [(0, .ref c), (1, .int x1), (2, .int z2), (3, .int z3)]) (st' := []) hr rfl rfl rfl (fun hr => ?_) (fun hr => ?_)
  · skip
    refine ev_seg 1 (k' := 14) (L' := [(0, .ref c), (1, .int x1), (2, .int z2), (3, .int z3)]) (st' := [.int z2]) rfl ?_
    exact ev_zret hr rfl rfl
  · skip
    refine ev_seg 2 (k' := 9) (L' := [(0, .ref c), (1, .int x1), (2, .int z2), (3, .int z3)]) (st' := [.int 0, .ref c]) rfl ?_
    refine ev_callV (q' := q_16) (x := 16) (y := 0) (c := c) (As := [.int 0]) (rest := []) hr rfl rfl rfl rfl rfl rfl (isB_sh hc) rfl rfl rfl rfl rfl (fun rv s1 hq => ev_kI hq (fun v2 e9 hr => ?_))
    subst e9
    refine ev_st (st' := [.int v2]) rfl ?_
    refine ev_seg 3 (k' := 4) (L' := [(3, .int (z3 + 1)), (2, .int v2), (0, .ref c), (1, .int x1)]) (st' := []) rfl ?_
    refine ev_join (L' := [(0, .ref c), (1, .int x1), (2, .int v2), (3, .int (z3 + 1))]) [2, 3, 1, 0] [3, 2, 0, 1] [0, 1, 2, 3] rfl rfl (by decide) (by decide) rfl ?_
    exact hr
set_option maxRecDepth 20000 in
theorem eBy_insertVarint (d : Nat) (c : Nat) (x1 : Int32) (y2 : Int64) (s : aT) (hc : isB c) : ∀ r, (cG (fBy_varintBytes (d + 5) y2 s) (kI fun v2 s1 => if x1 < 0 then rV s1 else if gI s1 c 1 < x1 then rV s1 else if v2 ≤ (nI (alen (c + 1))) - (gI s1 c 1) then cpB s1 (c + 1) x1 (c + 1) (x1 + v2) ((gI s1 c 1) - x1) (fun s3 => wI s3 c 1 x1 (fun s4 => cG (fBy_putVarint (d + 5) c y2 s4) (kI fun v6 s5 => wI s5 c 1 ((gI s1 c 1) + v2) (fun s7 => rV s7)))) else rV s1)) = some r → fBy_insertVarint (d + 6) c x1 y2 s = some r := by
  intro r hr
  show ev (d + 6) q_132 0 [(0, .ref c), (1, .int x1), (2, .long y2)] [] s = some r
  refine ev_seg 1 (k' := 1) (L' := [(0, .ref c), (1, .int x1), (2, .long y2)]) (st' := [.long y2]) rfl ?_
  refine ev_callS (q' := q_133) (x := 133) (vs := [.long y2]) (rest := []) hr rfl rfl rfl rfl rfl rfl rfl rfl rfl rfl (fun rv s1 hq => ev_kI hq (fun v2 e9 hr => ?_))
  subst e9
  refine ev_st (st' := [.int v2]) rfl ?_
  refine ev_seg 2 (k' := 4) (L' := [(4, .int v2), (0, .ref c), (1, .int x1), (2, .long y2)]) (st' := [.int x1]) rfl ?_
  refine ev_br (P := x1 < 0) (L' := [(4, .int v2), (0, .ref c), (1, .int x1), (2, .long y2)]) (st' := []) hr rfl rfl rfl (fun hr => ?_) (fun hr => ?_)
  · skip
    exact ev_vret hr rfl rfl
  · skip
    refine ev_seg 2 (k' := 7) (L' := [(4, .int v2), (0, .ref c), (1, .int x1), (2, .long y2)]) (st' := [.ref c, .int x1]) rfl ?_
    refine ev_getI (c := c) rfl (isB_sh hc) rfl (Or.inl rfl) ?_
    refine ev_br (P := gI s1 c 1 < x1) (L' := [(4, .int v2), (0, .ref c), (1, .int x1), (2, .long y2)]) (st' := []) hr rfl rfl rfl (fun hr => ?_) (fun hr => ?_)
    · skip
      exact ev_vret hr rfl rfl
    · skip
      refine ev_seg 2 (k' := 11) (L' := [(4, .int v2), (0, .ref c), (1, .int x1), (2, .long y2)]) (st' := [.ref c, .int v2]) rfl ?_
      refine ev_getR (c := c) (v := c + 1) rfl (isB_sh hc) rfl (isB_row hc) ?_
      refine ev_alen (t := 0) (n := alen (c + 1)) hr rfl (isB_arr hc) (by decide) (fun hr => ?_)
      refine ev_seg 1 (k' := 14) (L' := [(4, .int v2), (0, .ref c), (1, .int x1), (2, .long y2)]) (st' := [.ref c, .int (nI (alen (c + 1))), .int v2]) rfl ?_
      refine ev_getI (c := c) rfl (isB_sh hc) rfl (Or.inl rfl) ?_
      refine ev_seg 1 (k' := 16) (L' := [(4, .int v2), (0, .ref c), (1, .int x1), (2, .long y2)]) (st' := [.int ((nI (alen (c + 1))) - (gI s1 c 1)), .int v2]) rfl ?_
      refine ev_br (P := v2 ≤ (nI (alen (c + 1))) - (gI s1 c 1)) (L' := [(4, .int v2), (0, .ref c), (1, .int x1), (2, .long y2)]) (st' := []) hr rfl rfl rfl (fun hr => ?_) (fun hr => ?_)
      · skip
        refine ev_seg 1 (k' := 19) (L' := [(4, .int v2), (0, .ref c), (1, .int x1), (2, .long y2)]) (st' := [.ref c]) rfl ?_
        refine ev_getI (c := c) rfl (isB_sh hc) rfl (Or.inl rfl) ?_
        refine ev_seg 4 (k' := 24) (L' := [(5, .int ((gI s1 c 1) + v2)), (4, .int v2), (0, .ref c), (1, .int x1), (2, .long y2)]) (st' := [.ref c]) rfl ?_
        refine ev_getR (c := c) (v := c + 1) rfl (isB_sh hc) rfl (isB_row hc) ?_
        refine ev_seg 2 (k' := 27) (L' := [(5, .int ((gI s1 c 1) + v2)), (4, .int v2), (0, .ref c), (1, .int x1), (2, .long y2)]) (st' := [.ref c, .int x1, .ref (c + 1)]) rfl ?_
        refine ev_getR (c := c) (v := c + 1) rfl (isB_sh hc) rfl (isB_row hc) ?_
        refine ev_seg 4 (k' := 32) (L' := [(5, .int ((gI s1 c 1) + v2)), (4, .int v2), (0, .ref c), (1, .int x1), (2, .long y2)]) (st' := [.ref c, .int (x1 + v2), .ref (c + 1), .int x1, .ref (c + 1)]) rfl ?_
        refine ev_getI (c := c) rfl (isB_sh hc) rfl (Or.inl rfl) ?_
        refine ev_seg 2 (k' := 35) (L' := [(5, .int ((gI s1 c 1) + v2)), (4, .int v2), (0, .ref c), (1, .int x1), (2, .long y2)]) (st' := [.int ((gI s1 c 1) - x1), .int (x1 + v2), .ref (c + 1), .int x1, .ref (c + 1)]) rfl ?_
        refine ev_copy (rest := []) hr rfl (isB_arr hc) (isB_arr hc) rfl (fun s3 hr => ?_)
        refine ev_seg 2 (k' := 38) (L' := [(5, .int ((gI s1 c 1) + v2)), (4, .int v2), (0, .ref c), (1, .int x1), (2, .long y2)]) (st' := [.int x1, .ref c]) rfl ?_
        refine ev_putI (c := c) hr rfl (isB_sh hc) rfl (fun s4 hr => ?_)
        refine ev_seg 2 (k' := 41) (L' := [(5, .int ((gI s1 c 1) + v2)), (4, .int v2), (0, .ref c), (1, .int x1), (2, .long y2)]) (st' := [.long y2, .ref c]) rfl ?_
        refine ev_callV (q' := q_64) (x := 64) (y := 0) (c := c) (As := [.long y2]) (rest := []) hr rfl rfl rfl rfl rfl rfl (isB_sh hc) rfl rfl rfl rfl rfl (fun rv s5 hq => ev_kI hq (fun v6 e9 hr => ?_))
        subst e9
        refine ev_st (st' := [.int v6]) rfl ?_
        refine ev_seg 3 (k' := 45) (L' := [(5, .int ((gI s1 c 1) + v2)), (4, .int v2), (0, .ref c), (1, .int x1), (2, .long y2)]) (st' := [.int ((gI s1 c 1) + v2), .ref c]) rfl ?_
        refine ev_putI (c := c) hr rfl (isB_sh hc) rfl (fun s7 hr => ?_)
        exact ev_vret hr rfl rfl
      · skip
        exact ev_vret hr rfl rfl
set_option maxRecDepth 20000 in
theorem eBy_varintBytes (d : Nat) (y0 : Int64) (s : aT) : ∀ r, (fBy_varintBytes_12 d ((y0 <<< ((1 : Int32).toInt64 &&& 63)) ^^^ (y0 >>> ((63 : Int32).toInt64 &&& 63))) 1 1 s) = some r → fBy_varintBytes d y0 s = some r := by
  intro r hr
  show ev d q_133 0 [(0, .long y0)] [] s = some r
  refine ev_seg 12 (k' := 12) (L' := [(5, .int 1), (4, .int 1), (2, .long ((y0 <<< ((1 : Int32).toInt64 &&& 63)) ^^^ (y0 >>> ((63 : Int32).toInt64 &&& 63)))), (0, .long y0)]) (st' := []) rfl ?_
  refine ev_join (L' := [(2, .long ((y0 <<< ((1 : Int32).toInt64 &&& 63)) ^^^ (y0 >>> ((63 : Int32).toInt64 &&& 63)))), (4, .int 1), (5, .int 1)]) [2, 1, 0] [5, 4, 2, 0] [2, 4, 5] rfl rfl (by decide) (by decide) rfl ?_
  exact hr
set_option maxRecDepth 20000 in
theorem eBy_varintBytes_12 (d : Nat) (l2 : Int64) (z4 : Int32) (z5 : Int32) (s : aT) : ∀ r, (if 10 ≤ z5 then rI z4 s else if aLcmp (l2 &&& (-128)) 0 = 0 then rI z4 s else fBy_varintBytes_12 d ((l2.toUInt64 >>> ((7 : Int32).toInt64.toUInt64 &&& Int64.toUInt64 63)).toInt64) (z4 + 1) (z5 + 1) s) = some r → fBy_varintBytes_12 d l2 z4 z5 s = some r := by
  intro r hr
  show ev d q_133 12 [(2, .long l2), (4, .int z4), (5, .int z5)] [] s = some r
  refine ev_seg 2 (k' := 14) (L' := [(2, .long l2), (4, .int z4), (5, .int z5)]) (st' := [.int 10, .int z5]) rfl ?_
  refine ev_br (P := 10 ≤ z5) (L' := [(2, .long l2), (4, .int z4), (5, .int z5)]) (st' := []) hr rfl rfl rfl (fun hr => ?_) (fun hr => ?_)
  · skip
    refine ev_seg 1 (k' := 29) (L' := [(2, .long l2), (4, .int z4), (5, .int z5)]) (st' := [.int z4]) rfl ?_
    exact ev_iret hr rfl rfl rfl
  · skip
    refine ev_seg 5 (k' := 20) (L' := [(2, .long l2), (4, .int z4), (5, .int z5)]) (st' := [.int (aLcmp (l2 &&& (-128)) 0)]) rfl ?_
    refine ev_br (P := aLcmp (l2 &&& (-128)) 0 = 0) (L' := [(2, .long l2), (4, .int z4), (5, .int z5)]) (st' := []) hr rfl rfl rfl (fun hr => ?_) (fun hr => ?_)
    · skip
      refine ev_seg 1 (k' := 29) (L' := [(2, .long l2), (4, .int z4), (5, .int z5)]) (st' := [.int z4]) rfl ?_
      exact ev_iret hr rfl rfl rfl
    · skip
      refine ev_seg 7 (k' := 12) (L' := [(5, .int (z5 + 1)), (4, .int (z4 + 1)), (2, .long ((l2.toUInt64 >>> ((7 : Int32).toInt64.toUInt64 &&& Int64.toUInt64 63)).toInt64))]) (st' := []) rfl ?_
      refine ev_join (L' := [(2, .long ((l2.toUInt64 >>> ((7 : Int32).toInt64.toUInt64 &&& Int64.toUInt64 63)).toInt64)), (4, .int (z4 + 1)), (5, .int (z5 + 1))]) [2, 1, 0] [5, 4, 2] [2, 4, 5] rfl rfl (by decide) (by decide) rfl ?_
      exact hr
set_option maxRecDepth 20000 in
theorem eBy_isSame (d : Nat) (c : Nat) (b1 : Nat) (s : aT) (hc : isB c) (hb1 : isB b1) : ∀ r, (if gI s c 1 = gI s b1 1 then fBy_isSame_9 d c b1 0 s else rI 0 s) = some r → fBy_isSame d c b1 s = some r := by
  intro r hr
  show ev d q_162 0 [(0, .ref c), (1, .ref b1)] [] s = some r
  refine ev_seg 1 (k' := 1) (L' := [(0, .ref c), (1, .ref b1)]) (st' := [.ref c]) rfl ?_
  refine ev_getI (c := c) rfl (isB_sh hc) rfl (Or.inl rfl) ?_
  refine ev_seg 1 (k' := 3) (L' := [(0, .ref c), (1, .ref b1)]) (st' := [.ref b1, .int (gI s c 1)]) rfl ?_
  refine ev_getI (c := b1) rfl (isB_sh hb1) rfl (Or.inl rfl) ?_
  refine ev_br (P := gI s c 1 = gI s b1 1) (L' := [(0, .ref c), (1, .ref b1)]) (st' := []) hr rfl rfl rfl (fun hr => ?_) (fun hr => ?_)
  · skip
    refine ev_seg 2 (k' := 9) (L' := [(2, .int 0), (0, .ref c), (1, .ref b1)]) (st' := []) rfl ?_
    refine ev_join (L' := [(0, .ref c), (1, .ref b1), (2, .int 0)]) [1, 2, 0] [2, 0, 1] [0, 1, 2] rfl rfl (by decide) (by decide) rfl ?_
    exact hr
  · skip
    refine ev_seg 1 (k' := 6) (L' := [(0, .ref c), (1, .ref b1)]) (st' := [.int 0]) rfl ?_
    exact ev_iret hr rfl rfl rfl
set_option maxRecDepth 20000 in
theorem eBy_isSame_9 (d : Nat) (c : Nat) (b1 : Nat) (z2 : Int32) (s : aT) (hc : isB c) (hb1 : isB b1) : ∀ r, (if gI s c 1 ≤ z2 then rI 1 s else ldI (alen (c + 1)) s (c + 1) z2 (fun v1 => ldI (alen (b1 + 1)) s (b1 + 1) z2 (fun v2 => if v1 = v2 then fBy_isSame_9 d c b1 (z2 + 1) s else rI 0 s))) = some r → fBy_isSame_9 d c b1 z2 s = some r := by
  intro r hr
  show ev d q_162 9 [(0, .ref c), (1, .ref b1), (2, .int z2)] [] s = some r
  refine ev_seg 2 (k' := 11) (L' := [(0, .ref c), (1, .ref b1), (2, .int z2)]) (st' := [.ref c, .int z2]) rfl ?_
  refine ev_getI (c := c) rfl (isB_sh hc) rfl (Or.inl rfl) ?_
  refine ev_br (P := gI s c 1 ≤ z2) (L' := [(0, .ref c), (1, .ref b1), (2, .int z2)]) (st' := []) hr rfl rfl rfl (fun hr => ?_) (fun hr => ?_)
  · skip
    refine ev_seg 1 (k' := 27) (L' := [(0, .ref c), (1, .ref b1), (2, .int z2)]) (st' := [.int 1]) rfl ?_
    exact ev_iret hr rfl rfl rfl
  · skip
    refine ev_seg 1 (k' := 14) (L' := [(0, .ref c), (1, .ref b1), (2, .int z2)]) (st' := [.ref c]) rfl ?_
    refine ev_getR (c := c) (v := c + 1) rfl (isB_sh hc) rfl (isB_row hc) ?_
    refine ev_seg 1 (k' := 16) (L' := [(0, .ref c), (1, .ref b1), (2, .int z2)]) (st' := [.int z2, .ref (c + 1)]) rfl ?_
    refine ev_ldX hr rfl (fun v1 hr => ?_)
    refine ev_seg 1 (k' := 18) (L' := [(0, .ref c), (1, .ref b1), (2, .int z2)]) (st' := [.ref b1, .int v1]) rfl ?_
    refine ev_getR (c := b1) (v := b1 + 1) rfl (isB_sh hb1) rfl (isB_row hb1) ?_
    refine ev_seg 1 (k' := 20) (L' := [(0, .ref c), (1, .ref b1), (2, .int z2)]) (st' := [.int z2, .ref (b1 + 1), .int v1]) rfl ?_
    refine ev_ldX hr rfl (fun v2 hr => ?_)
    refine ev_br (P := v1 = v2) (L' := [(0, .ref c), (1, .ref b1), (2, .int z2)]) (st' := []) hr rfl rfl rfl (fun hr => ?_) (fun hr => ?_)
    · skip
      refine ev_seg 2 (k' := 9) (L' := [(2, .int (z2 + 1)), (0, .ref c), (1, .ref b1)]) (st' := []) rfl ?_
      refine ev_join (L' := [(0, .ref c), (1, .ref b1), (2, .int (z2 + 1))]) [1, 2, 0] [2, 0, 1] [0, 1, 2] rfl rfl (by decide) (by decide) rfl ?_
      exact hr
    · skip
      refine ev_seg 1 (k' := 23) (L' := [(0, .ref c), (1, .ref b1), (2, .int z2)]) (st' := [.int 0]) rfl ?_
      exact ev_iret hr rfl rfl rfl
