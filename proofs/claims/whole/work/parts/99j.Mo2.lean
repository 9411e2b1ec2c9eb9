/-! RecordLakeModel: what its pieces do -/
set_option maxRecDepth 20000 in
theorem eMo_insert_33 (d : Nat) (x1 : Int32) (x2 : Int32) (z3 : Int32) (s : aT) : ∀ r, (wI s 67 22 x1 (fun s1 => cG (fMo_putVarint d x2.toInt64 s1) (kV fun s2 => wI s2 67 22 ((gI s 67 22) + z3) (fun s3 => rV s3)))) = some r → fMo_insert_33 (d + 1) x1 x2 z3 s = some r := by
  intro r hr
  show ev (d + 1) q_264 33 [(0, .ref 67), (1, .int x1), (2, .int x2), (3, .int z3)] [] s = some r
  refine ev_seg 5 (k' := 38) (L' := [(4, .int (gI s 67 22)), (0, .ref 67), (1, .int x1), (2, .int x2), (3, .int z3)]) (st' := [.int x1, .ref 67]) rfl ?_
  refine ev_putI (c := 67) hr rfl rfl rfl (fun s1 hr => ?_)
  refine ev_seg 3 (k' := 42) (L' := [(4, .int (gI s 67 22)), (0, .ref 67), (1, .int x1), (2, .int x2), (3, .int z3)]) (st' := [.long x2.toInt64, .ref 67]) rfl ?_
  refine ev_callV (q' := q_258) (x := 258) (y := 13) (c := 67) (As := [.long x2.toInt64]) (rest := []) hr rfl rfl rfl rfl rfl rfl rfl rfl rfl rfl rfl rfl (fun rv s2 hq => ev_kV hq (fun e9 hr => ?_))
  subst e9
  refine ev_st (st' := []) rfl ?_
  refine ev_seg 4 (k' := 47) (L' := [(4, .int (gI s 67 22)), (0, .ref 67), (1, .int x1), (2, .int x2), (3, .int z3)]) (st' := [.int ((gI s 67 22) + z3), .ref 67]) rfl ?_
  refine ev_putI (c := 67) hr rfl rfl rfl (fun s3 hr => ?_)
  exact ev_vret hr rfl rfl
set_option maxRecDepth 20000 in
theorem eMo_varintSize (d : Nat) (y0 : Int64) (s : aT) : ∀ r, (fMo_varintSize_10 d ((y0 <<< ((1 : Int32).toInt64 &&& 63)) ^^^ (y0 >>> ((63 : Int32).toInt64 &&& 63))) 1 s) = some r → fMo_varintSize d y0 s = some r := by
  intro r hr
  show ev d q_265 0 [(0, .long y0)] [] s = some r
  refine ev_seg 10 (k' := 10) (L' := [(4, .int 1), (2, .long ((y0 <<< ((1 : Int32).toInt64 &&& 63)) ^^^ (y0 >>> ((63 : Int32).toInt64 &&& 63)))), (0, .long y0)]) (st' := []) rfl ?_
  refine ev_join (L' := [(2, .long ((y0 <<< ((1 : Int32).toInt64 &&& 63)) ^^^ (y0 >>> ((63 : Int32).toInt64 &&& 63)))), (4, .int 1)]) [1, 0] [4, 2, 0] [2, 4] rfl rfl (by decide) (by decide) rfl ?_
  exact hr
set_option maxRecDepth 20000 in
theorem eMo_varintSize_10 (d : Nat) (l2 : Int64) (z4 : Int32) (s : aT) : ∀ r, (if aLcmp ((l2.toUInt64 >>> ((7 : Int32).toInt64.toUInt64 &&& Int64.toUInt64 63)).toInt64) 0 = 0 then rI z4 s else fMo_varintSize_10 d ((l2.toUInt64 >>> ((7 : Int32).toInt64.toUInt64 &&& Int64.toUInt64 63)).toInt64) (z4 + 1) s) = some r → fMo_varintSize_10 d l2 z4 s = some r := by
  intro r hr
  show ev d q_265 10 [(2, .long l2), (4, .int z4)] [] s = some r
  refine ev_seg 5 (k' := 15) (L' := [(2, .long l2), (4, .int z4)]) (st' := [.int (aLcmp ((l2.toUInt64 >>> ((7 : Int32).toInt64.toUInt64 &&& Int64.toUInt64 63)).toInt64) 0)]) rfl ?_
  refine ev_br (P := aLcmp ((l2.toUInt64 >>> ((7 : Int32).toInt64.toUInt64 &&& Int64.toUInt64 63)).toInt64) 0 = 0) (L' := [(2, .long l2), (4, .int z4)]) (st' := []) hr rfl rfl rfl (fun hr => ?_) (fun hr => ?_)
  · skip
    refine ev_seg 1 (k' := 23) (L' := [(2, .long l2), (4, .int z4)]) (st' := [.int z4]) rfl ?_
    exact ev_iret hr rfl rfl rfl
  · skip
    refine ev_seg 6 (k' := 10) (L' := [(4, .int (z4 + 1)), (2, .long ((l2.toUInt64 >>> ((7 : Int32).toInt64.toUInt64 &&& Int64.toUInt64 63)).toInt64))]) (st' := []) rfl ?_
    refine ev_join (L' := [(2, .long ((l2.toUInt64 >>> ((7 : Int32).toInt64.toUInt64 &&& Int64.toUInt64 63)).toInt64)), (4, .int (z4 + 1))]) [1, 0] [4, 2] [2, 4] rfl rfl (by decide) (by decide) rfl ?_
    exact hr
set_option maxRecDepth 20000 in
theorem eMo_place (d : Nat) (s : aT) : ∀ r, (wI s 67 0 0 (fun s1 => rI (gI s1 67 3) s1)) = some r → fMo_place d s = some r := by
  intro r hr
  show ev d q_266 0 [(0, .ref 67)] [] s = some r
  refine ev_seg 2 (k' := 2) (L' := [(0, .ref 67)]) (st' := [.int 0, .ref 67]) rfl ?_
  refine ev_putI (c := 67) hr rfl rfl rfl (fun s1 hr => ?_)
  refine ev_seg 2 (k' := 5) (L' := [(0, .ref 67)]) (st' := [.int (gI s1 67 3)]) rfl ?_
  exact ev_iret hr rfl rfl rfl
set_option maxRecDepth 20000 in
theorem eMo_load (d : Nat) (x1 : Int32) (x2 : Int32) (s : aT) : ∀ r, (cG (fMo_isSubject d x1 s) (kI fun v2 s1 => if v2 = 0 then fMo_load_12 (d + 1) x1 x2 s1 else if ¬ gI s1 67 11 = 0 then fMo_load_14 (d + 1) x1 x2 s1 else cG (fMo_isVersion d x1 x2 s1) (kI fun v4 s3 => if ¬ v4 = 0 then fMo_load_14 (d + 1) x1 x2 s3 else fMo_load_12 (d + 1) x1 x2 s3))) = some r → fMo_load (d + 1) x1 x2 s = some r := by
  intro r hr
  show ev (d + 1) q_267 0 [(0, .ref 67), (1, .int x1), (2, .int x2)] [] s = some r
  refine ev_seg 2 (k' := 2) (L' := [(0, .ref 67), (1, .int x1), (2, .int x2)]) (st' := [.int x1, .ref 67]) rfl ?_
  refine ev_callS (q' := q_233) (x := 233) (vs := [.int x1]) (rest := [.ref 67]) hr rfl rfl rfl rfl rfl rfl rfl rfl rfl rfl (fun rv s1 hq => ev_kI hq (fun v2 e9 hr => ?_))
  subst e9
  refine ev_st (st' := [.int v2, .ref 67]) rfl ?_
  refine ev_br (P := v2 = 0) (L' := [(0, .ref 67), (1, .int x1), (2, .int x2)]) (st' := [.ref 67]) hr rfl rfl rfl (fun hr => ?_) (fun hr => ?_)
  · skip
    exact hr
  · skip
    refine ev_seg 2 (k' := 6) (L' := [(0, .ref 67), (1, .int x1), (2, .int x2)]) (st' := [.int (gI s1 67 11), .ref 67]) rfl ?_
    refine ev_br (P := ¬ gI s1 67 11 = 0) (L' := [(0, .ref 67), (1, .int x1), (2, .int x2)]) (st' := [.ref 67]) hr rfl rfl rfl (fun hr => ?_) (fun hr => ?_)
    · skip
      exact hr
    · skip
      refine ev_seg 3 (k' := 10) (L' := [(0, .ref 67), (1, .int x1), (2, .int x2)]) (st' := [.int x2, .int x1, .ref 67, .ref 67]) rfl ?_
      refine ev_callV (q' := q_250) (x := 250) (y := 13) (c := 67) (As := [.int x1, .int x2]) (rest := [.ref 67]) hr rfl rfl rfl rfl rfl rfl rfl rfl rfl rfl rfl rfl (fun rv s3 hq => ev_kI hq (fun v4 e9 hr => ?_))
      subst e9
      refine ev_st (st' := [.int v4, .ref 67]) rfl ?_
      refine ev_br (P := ¬ v4 = 0) (L' := [(0, .ref 67), (1, .int x1), (2, .int x2)]) (st' := [.ref 67]) hr rfl rfl rfl (fun hr => ?_) (fun hr => ?_)
      · skip
        exact hr
      · skip
        exact hr
set_option maxRecDepth 20000 in
theorem eMo_load_12 (d : Nat) (x1 : Int32) (x2 : Int32) (s : aT) : ∀ r, (fMo_load_15 (d + 1) x1 x2 1 s) = some r → fMo_load_12 (d + 1) x1 x2 s = some r := by
  intro r hr
  show ev (d + 1) q_267 12 [(0, .ref 67), (1, .int x1), (2, .int x2)] [.ref 67] s = some r
  refine ev_seg 2 (k' := 15) (L' := [(0, .ref 67), (1, .int x1), (2, .int x2)]) (st' := [.int 1, .ref 67]) rfl ?_
  exact hr
set_option maxRecDepth 20000 in
theorem eMo_load_14 (d : Nat) (x1 : Int32) (x2 : Int32) (s : aT) : ∀ r, (fMo_load_15 (d + 1) x1 x2 0 s) = some r → fMo_load_14 (d + 1) x1 x2 s = some r := by
  intro r hr
  show ev (d + 1) q_267 14 [(0, .ref 67), (1, .int x1), (2, .int x2)] [.ref 67] s = some r
  refine ev_seg 1 (k' := 15) (L' := [(0, .ref 67), (1, .int x1), (2, .int x2)]) (st' := [.int 0, .ref 67]) rfl ?_
  exact hr
set_option maxRecDepth 20000 in
theorem eMo_load_15 (d : Nat) (x1 : Int32) (x2 : Int32) (u0 : Int32) (s : aT) : ∀ r, (cG (fMo_refused d u0 0 s) (kI fun v2 s1 => if v2 = 0 then if gI s1 67 11 = 0 then cG (fMo_readVersion d 91 x1 x2 s1) (kV fun s3 => cN (fMo_lookAtRows d 91 1 s3) (kI fun v5 s4 => if 1 ≤ v5 then if gI s4 67 22 ≤ 4096 then cG (fMo_wanted d v5 (gI s4 67 22) s4) (kI fun v7 s6 => fMo_load_59 (d + 1) v5 v7 x2 x1 s6) else fMo_load_59 (d + 1) v5 4097 x2 x1 s4 else if ¬ v5 = 0 then rI v5 s4 else rI (-34) s4)) else rI (-33) s1 else rI 0 s1)) = some r → fMo_load_15 (d + 1) x1 x2 u0 s = some r := by
  intro r hr
  show ev (d + 1) q_267 15 [(0, .ref 67), (1, .int x1), (2, .int x2)] [.int u0, .ref 67] s = some r
  refine ev_seg 1 (k' := 16) (L' := [(0, .ref 67), (1, .int x1), (2, .int x2)]) (st' := [.int 0, .int u0, .ref 67]) rfl ?_
  refine ev_callV (q' := q_189) (x := 189) (y := 13) (c := 67) (As := [.int u0, .int 0]) (rest := []) hr rfl rfl rfl rfl rfl rfl rfl rfl rfl rfl rfl rfl (fun rv s1 hq => ev_kI hq (fun v2 e9 hr => ?_))
  subst e9
  refine ev_st (st' := [.int v2]) rfl ?_
  refine ev_br (P := v2 = 0) (L' := [(0, .ref 67), (1, .int x1), (2, .int x2)]) (st' := []) hr rfl rfl rfl (fun hr => ?_) (fun hr => ?_)
  · skip
    refine ev_seg 2 (k' := 22) (L' := [(0, .ref 67), (1, .int x1), (2, .int x2)]) (st' := [.int (gI s1 67 11)]) rfl ?_
    refine ev_br (P := gI s1 67 11 = 0) (L' := [(0, .ref 67), (1, .int x1), (2, .int x2)]) (st' := []) hr rfl rfl rfl (fun hr => ?_) (fun hr => ?_)
    · skip
      refine ev_seg 5 (k' := 30) (L' := [(0, .ref 67), (1, .int x1), (2, .int x2)]) (st' := [.int x2, .int x1, .ref 91, .ref 67]) rfl ?_
      refine ev_callV (q' := q_235) (x := 235) (y := 13) (c := 67) (As := [.ref 91, .int x1, .int x2]) (rest := []) hr rfl rfl rfl rfl rfl rfl rfl rfl rfl rfl rfl rfl (fun rv s3 hq => ev_kV hq (fun e9 hr => ?_))
      subst e9
      refine ev_st (st' := []) rfl ?_
      refine ev_seg 4 (k' := 35) (L' := [(0, .ref 67), (1, .int x1), (2, .int x2)]) (st' := [.int 1, .ref 91, .ref 67]) rfl ?_
      refine ev_callN (q' := q_251) (x := 251) (y := 13) (c := 67) (As := [.ref 91, .int 1]) (rest := []) hr rfl rfl rfl rfl rfl rfl rfl rfl rfl (fun rv s4 hq => ev_kI hq (fun v5 e9 hr => ?_))
      subst e9
      refine ev_st (st' := [.int v5]) rfl ?_
      refine ev_seg 3 (k' := 39) (L' := [(3, .int v5), (0, .ref 67), (1, .int x1), (2, .int x2)]) (st' := [.int 1, .int v5]) rfl ?_
      refine ev_br (P := 1 ≤ v5) (L' := [(3, .int v5), (0, .ref 67), (1, .int x1), (2, .int x2)]) (st' := []) hr rfl rfl rfl (fun hr => ?_) (fun hr => ?_)
      · skip
        refine ev_seg 6 (k' := 52) (L' := [(3, .int v5), (0, .ref 67), (1, .int x1), (2, .int x2)]) (st' := [.int 4096, .int (gI s4 67 22), .int x2, .int x1, .ref 67]) rfl ?_
        refine ev_br (P := gI s4 67 22 ≤ 4096) (L' := [(3, .int v5), (0, .ref 67), (1, .int x1), (2, .int x2)]) (st' := [.int x2, .int x1, .ref 67]) hr rfl rfl rfl (fun hr => ?_) (fun hr => ?_)
        · skip
          refine ev_seg 3 (k' := 58) (L' := [(3, .int v5), (0, .ref 67), (1, .int x1), (2, .int x2)]) (st' := [.int (gI s4 67 22), .int v5, .int x2, .int x1, .ref 67]) rfl ?_
          refine ev_callS (q' := q_268) (x := 268) (vs := [.int v5, .int (gI s4 67 22)]) (rest := [.int x2, .int x1, .ref 67]) hr rfl rfl rfl rfl rfl rfl rfl rfl rfl rfl (fun rv s6 hq => ev_kI hq (fun v7 e9 hr => ?_))
          subst e9
          refine ev_st (st' := [.int v7, .int x2, .int x1, .ref 67]) rfl ?_
          refine ev_join (L' := [(0, .ref 67), (3, .int v5)]) [1, 0] [3, 0, 1, 2] [0, 3] rfl rfl (by decide) (by decide) rfl ?_
          exact hr
        · skip
          refine ev_seg 2 (k' := 59) (L' := [(3, .int v5), (0, .ref 67), (1, .int x1), (2, .int x2)]) (st' := [.int 4097, .int x2, .int x1, .ref 67]) rfl ?_
          refine ev_join (L' := [(0, .ref 67), (3, .int v5)]) [1, 0] [3, 0, 1, 2] [0, 3] rfl rfl (by decide) (by decide) rfl ?_
          exact hr
      · skip
        refine ev_seg 1 (k' := 41) (L' := [(3, .int v5), (0, .ref 67), (1, .int x1), (2, .int x2)]) (st' := [.int v5]) rfl ?_
        refine ev_br (P := ¬ v5 = 0) (L' := [(3, .int v5), (0, .ref 67), (1, .int x1), (2, .int x2)]) (st' := []) hr rfl rfl rfl (fun hr => ?_) (fun hr => ?_)
        · skip
          refine ev_seg 1 (k' := 45) (L' := [(3, .int v5), (0, .ref 67), (1, .int x1), (2, .int x2)]) (st' := [.int v5]) rfl ?_
          exact ev_iret hr rfl rfl rfl
        · skip
          refine ev_seg 2 (k' := 45) (L' := [(3, .int v5), (0, .ref 67), (1, .int x1), (2, .int x2)]) (st' := [.int (-34)]) rfl ?_
          exact ev_iret hr rfl rfl rfl
    · skip
      refine ev_seg 1 (k' := 24) (L' := [(0, .ref 67), (1, .int x1), (2, .int x2)]) (st' := [.int (-33)]) rfl ?_
      exact ev_iret hr rfl rfl rfl
  · skip
    refine ev_seg 1 (k' := 19) (L' := [(0, .ref 67), (1, .int x1), (2, .int x2)]) (st' := [.int 0]) rfl ?_
    exact ev_iret hr rfl rfl rfl
set_option maxRecDepth 20000 in
theorem eMo_load_59 (d : Nat) (z3 : Int32) (u0 : Int32) (u1 : Int32) (u2 : Int32) (s : aT) : ∀ r, (if gI s 67 22 ≤ 4096 then fMo_load_68 (d + 1) z3 (gI s 67 22) z3 u0 u1 u2 s else fMo_load_68 (d + 1) z3 0 z3 u0 u1 u2 s) = some r → fMo_load_59 (d + 1) z3 u0 u1 u2 s = some r := by
  intro r hr
  show ev (d + 1) q_267 59 [(0, .ref 67), (3, .int z3)] [.int u0, .int u1, .int u2, .ref 67] s = some r
  refine ev_seg 4 (k' := 63) (L' := [(0, .ref 67), (3, .int z3)]) (st' := [.int 4096, .int (gI s 67 22), .int z3, .int u0, .int u1, .int u2, .ref 67]) rfl ?_
  refine ev_br (P := gI s 67 22 ≤ 4096) (L' := [(0, .ref 67), (3, .int z3)]) (st' := [.int z3, .int u0, .int u1, .int u2, .ref 67]) hr rfl rfl rfl (fun hr => ?_) (fun hr => ?_)
  · skip
    refine ev_seg 2 (k' := 68) (L' := [(0, .ref 67), (3, .int z3)]) (st' := [.int (gI s 67 22), .int z3, .int u0, .int u1, .int u2, .ref 67]) rfl ?_
    exact hr
  · skip
    refine ev_seg 2 (k' := 68) (L' := [(0, .ref 67), (3, .int z3)]) (st' := [.int 0, .int z3, .int u0, .int u1, .int u2, .ref 67]) rfl ?_
    exact hr
set_option maxRecDepth 20000 in
theorem eMo_load_68 (d : Nat) (z3 : Int32) (u0 : Int32) (u1 : Int32) (u2 : Int32) (u3 : Int32) (u4 : Int32) (s : aT) : ∀ r, (cG (fMo_write d u4 u3 u2 u1 u0 144 (gI s 67 13) 0 s) (kI fun v2 s1 => if ¬ v2 = (-31) then wI s1 67 2 0 (fun s3 => if 0 ≤ v2 then rI z3 s3 else rI v2 s3) else rI (-31) s1)) = some r → fMo_load_68 (d + 1) z3 u0 u1 u2 u3 u4 s = some r := by
  intro r hr
  show ev (d + 1) q_267 68 [(0, .ref 67), (3, .int z3)] [.int u0, .int u1, .int u2, .int u3, .int u4, .ref 67] s = some r
  refine ev_seg 5 (k' := 73) (L' := [(0, .ref 67), (3, .int z3)]) (st' := [.int 0, .int (gI s 67 13), .ref 144, .int u0, .int u1, .int u2, .int u3, .int u4, .ref 67]) rfl ?_
  refine ev_callV (q' := q_245) (x := 245) (y := 13) (c := 67) (As := [.int u4, .int u3, .int u2, .int u1, .int u0, .ref 144, .int (gI s 67 13), .int 0]) (rest := []) hr rfl rfl rfl rfl rfl rfl rfl rfl rfl rfl rfl rfl (fun rv s1 hq => ev_kI hq (fun v2 e9 hr => ?_))
  subst e9
  refine ev_st (st' := [.int v2]) rfl ?_
  refine ev_seg 3 (k' := 77) (L' := [(4, .int v2), (0, .ref 67), (3, .int z3)]) (st' := [.int (-31), .int v2]) rfl ?_
  refine ev_br (P := ¬ v2 = (-31)) (L' := [(4, .int v2), (0, .ref 67), (3, .int z3)]) (st' := []) hr rfl rfl rfl (fun hr => ?_) (fun hr => ?_)
  · skip
    refine ev_seg 2 (k' := 82) (L' := [(4, .int v2), (0, .ref 67), (3, .int z3)]) (st' := [.int 0, .ref 67]) rfl ?_
    refine ev_putI (c := 67) hr rfl rfl rfl (fun s3 hr => ?_)
    refine ev_seg 1 (k' := 84) (L' := [(4, .int v2), (0, .ref 67), (3, .int z3)]) (st' := [.int v2]) rfl ?_
    refine ev_br (P := 0 ≤ v2) (L' := [(4, .int v2), (0, .ref 67), (3, .int z3)]) (st' := []) hr rfl rfl rfl (fun hr => ?_) (fun hr => ?_)
    · skip
      refine ev_seg 1 (k' := 88) (L' := [(4, .int v2), (0, .ref 67), (3, .int z3)]) (st' := [.int z3]) rfl ?_
      exact ev_iret hr rfl rfl rfl
    · skip
      refine ev_seg 2 (k' := 88) (L' := [(4, .int v2), (0, .ref 67), (3, .int z3)]) (st' := [.int v2]) rfl ?_
      exact ev_iret hr rfl rfl rfl
  · skip
    refine ev_seg 1 (k' := 79) (L' := [(4, .int v2), (0, .ref 67), (3, .int z3)]) (st' := [.int (-31)]) rfl ?_
    exact ev_iret hr rfl rfl rfl
set_option maxRecDepth 20000 in
theorem eMo_wanted (d : Nat) (x0 : Int32) (x1 : Int32) (s : aT) : ∀ r, (cG (fMo_varintSize d x0.toInt64 s) (kI fun v2 s1 => cG (fMo_varintSize d x1.toInt64 s1) (kI fun v4 s3 => rI ((((11 + v2) + v4) + x1) + 8) s3))) = some r → fMo_wanted (d + 1) x0 x1 s = some r := by
  intro r hr
  show ev (d + 1) q_268 0 [(0, .int x0), (1, .int x1)] [] s = some r
  refine ev_seg 3 (k' := 3) (L' := [(0, .int x0), (1, .int x1)]) (st' := [.long x0.toInt64, .int 11]) rfl ?_
  refine ev_callS (q' := q_265) (x := 265) (vs := [.long x0.toInt64]) (rest := [.int 11]) hr rfl rfl rfl rfl rfl rfl rfl rfl rfl rfl (fun rv s1 hq => ev_kI hq (fun v2 e9 hr => ?_))
  subst e9
  refine ev_st (st' := [.int v2, .int 11]) rfl ?_
  refine ev_seg 3 (k' := 7) (L' := [(0, .int x0), (1, .int x1)]) (st' := [.long x1.toInt64, .int (11 + v2)]) rfl ?_
  refine ev_callS (q' := q_265) (x := 265) (vs := [.long x1.toInt64]) (rest := [.int (11 + v2)]) hr rfl rfl rfl rfl rfl rfl rfl rfl rfl rfl (fun rv s3 hq => ev_kI hq (fun v4 e9 hr => ?_))
  subst e9
  refine ev_st (st' := [.int v4, .int (11 + v2)]) rfl ?_
  refine ev_seg 5 (k' := 13) (L' := [(0, .int x0), (1, .int x1)]) (st' := [.int ((((11 + v2) + v4) + x1) + 8)]) rfl ?_
  exact ev_iret hr rfl rfl rfl
set_option maxRecDepth 20000 in
theorem eMo_fits (d : Nat) (x1 : Int32) (x2 : Int32) (x3 : Int32) (x4 : Int32) (s : aT) : ∀ r, (cG (fMo_isSubject d x1 s) (kI fun v2 s1 => if v2 = 0 then fMo_fits_6 (d + 1) x1 x2 x3 x4 s1 else cG (fMo_isSubject d x3 s1) (kI fun v4 s3 => if ¬ v4 = 0 then fMo_fits_9 (d + 1) x1 x2 x3 x4 0 s3 else fMo_fits_6 (d + 1) x1 x2 x3 x4 s3))) = some r → fMo_fits (d + 1) x1 x2 x3 x4 s = some r := by
  intro r hr
  show ev (d + 1) q_269 0 [(0, .ref 67), (1, .int x1), (2, .int x2), (3, .int x3), (4, .int x4)] [] s = some r
  refine ev_seg 1 (k' := 1) (L' := [(0, .ref 67), (1, .int x1), (2, .int x2), (3, .int x3), (4, .int x4)]) (st' := [.int x1]) rfl ?_
  refine ev_callS (q' := q_233) (x := 233) (vs := [.int x1]) (rest := []) hr rfl rfl rfl rfl rfl rfl rfl rfl rfl rfl (fun rv s1 hq => ev_kI hq (fun v2 e9 hr => ?_))
  subst e9
  refine ev_st (st' := [.int v2]) rfl ?_
  refine ev_br (P := v2 = 0) (L' := [(0, .ref 67), (1, .int x1), (2, .int x2), (3, .int x3), (4, .int x4)]) (st' := []) hr rfl rfl rfl (fun hr => ?_) (fun hr => ?_)
  · skip
    exact hr
  · skip
    refine ev_seg 1 (k' := 4) (L' := [(0, .ref 67), (1, .int x1), (2, .int x2), (3, .int x3), (4, .int x4)]) (st' := [.int x3]) rfl ?_
    refine ev_callS (q' := q_233) (x := 233) (vs := [.int x3]) (rest := []) hr rfl rfl rfl rfl rfl rfl rfl rfl rfl rfl (fun rv s3 hq => ev_kI hq (fun v4 e9 hr => ?_))
    subst e9
    refine ev_st (st' := [.int v4]) rfl ?_
    refine ev_br (P := ¬ v4 = 0) (L' := [(0, .ref 67), (1, .int x1), (2, .int x2), (3, .int x3), (4, .int x4)]) (st' := []) hr rfl rfl rfl (fun hr => ?_) (fun hr => ?_)
    · skip
      refine ev_seg 1 (k' := 9) (L' := [(0, .ref 67), (1, .int x1), (2, .int x2), (3, .int x3), (4, .int x4)]) (st' := [.int 0]) rfl ?_
      exact hr
    · skip
      exact hr
set_option maxRecDepth 20000 in
theorem eMo_fits_6 (d : Nat) (x1 : Int32) (x2 : Int32) (x3 : Int32) (x4 : Int32) (s : aT) : ∀ r, (fMo_fits_9 (d + 1) x1 x2 x3 x4 1 s) = some r → fMo_fits_6 (d + 1) x1 x2 x3 x4 s = some r := by
  intro r hr
  show ev (d + 1) q_269 6 [(0, .ref 67), (1, .int x1), (2, .int x2), (3, .int x3), (4, .int x4)] [] s = some r
  refine ev_seg 2 (k' := 9) (L' := [(0, .ref 67), (1, .int x1), (2, .int x2), (3, .int x3), (4, .int x4)]) (st' := [.int 1]) rfl ?_
  exact hr
set_option maxRecDepth 20000 in
theorem eMo_fits_9 (d : Nat) (x1 : Int32) (x2 : Int32) (x3 : Int32) (x4 : Int32) (u0 : Int32) (s : aT) : ∀ r, (if ¬ u0 = 0 then fMo_fits_25 (d + 1) x1 x2 x3 x4 s else if ¬ gI s 67 11 = 0 then fMo_fits_27 (d + 1) x1 x2 x3 x4 s else cG (fMo_isVersion d x1 x2 s) (kI fun v2 s1 => if v2 = 0 then fMo_fits_25 (d + 1) x1 x2 x3 x4 s1 else cG (fMo_isVersion d x3 x4 s1) (kI fun v4 s3 => if ¬ v4 = 0 then fMo_fits_27 (d + 1) x1 x2 x3 x4 s3 else fMo_fits_25 (d + 1) x1 x2 x3 x4 s3))) = some r → fMo_fits_9 (d + 1) x1 x2 x3 x4 u0 s = some r := by
  intro r hr
  show ev (d + 1) q_269 9 [(0, .ref 67), (1, .int x1), (2, .int x2), (3, .int x3), (4, .int x4)] [.int u0] s = some r
  refine ev_seg 2 (k' := 11) (L' := [(5, .int u0), (0, .ref 67), (1, .int x1), (2, .int x2), (3, .int x3), (4, .int x4)]) (st' := [.int u0]) rfl ?_
  refine ev_br (P := ¬ u0 = 0) (L' := [(5, .int u0), (0, .ref 67), (1, .int x1), (2, .int x2), (3, .int x3), (4, .int x4)]) (st' := []) hr rfl rfl rfl (fun hr => ?_) (fun hr => ?_)
  · skip
    refine ev_join (L' := [(0, .ref 67), (1, .int x1), (2, .int x2), (3, .int x3), (4, .int x4)]) [1, 2, 3, 4, 5] [5, 0, 1, 2, 3, 4] [0, 1, 2, 3, 4] rfl rfl (by decide) (by decide) rfl ?_
    exact hr
  · skip
    refine ev_seg 2 (k' := 14) (L' := [(5, .int u0), (0, .ref 67), (1, .int x1), (2, .int x2), (3, .int x3), (4, .int x4)]) (st' := [.int (gI s 67 11)]) rfl ?_
    refine ev_br (P := ¬ gI s 67 11 = 0) (L' := [(5, .int u0), (0, .ref 67), (1, .int x1), (2, .int x2), (3, .int x3), (4, .int x4)]) (st' := []) hr rfl rfl rfl (fun hr => ?_) (fun hr => ?_)
    · skip
      refine ev_join (L' := [(0, .ref 67), (1, .int x1), (2, .int x2), (3, .int x3), (4, .int x4)]) [1, 2, 3, 4, 5] [5, 0, 1, 2, 3, 4] [0, 1, 2, 3, 4] rfl rfl (by decide) (by decide) rfl ?_
      exact hr
    · skip
      refine ev_seg 3 (k' := 18) (L' := [(5, .int u0), (0, .ref 67), (1, .int x1), (2, .int x2), (3, .int x3), (4, .int x4)]) (st' := [.int x2, .int x1, .ref 67]) rfl ?_
      refine ev_callV (q' := q_250) (x := 250) (y := 13) (c := 67) (As := [.int x1, .int x2]) (rest := []) hr rfl rfl rfl rfl rfl rfl rfl rfl rfl rfl rfl rfl (fun rv s1 hq => ev_kI hq (fun v2 e9 hr => ?_))
      subst e9
      refine ev_st (st' := [.int v2]) rfl ?_
      refine ev_br (P := v2 = 0) (L' := [(5, .int u0), (0, .ref 67), (1, .int x1), (2, .int x2), (3, .int x3), (4, .int x4)]) (st' := []) hr rfl rfl rfl (fun hr => ?_) (fun hr => ?_)
      · skip
        refine ev_join (L' := [(0, .ref 67), (1, .int x1), (2, .int x2), (3, .int x3), (4, .int x4)]) [1, 2, 3, 4, 5] [5, 0, 1, 2, 3, 4] [0, 1, 2, 3, 4] rfl rfl (by decide) (by decide) rfl ?_
        exact hr
      · skip
        refine ev_seg 3 (k' := 23) (L' := [(5, .int u0), (0, .ref 67), (1, .int x1), (2, .int x2), (3, .int x3), (4, .int x4)]) (st' := [.int x4, .int x3, .ref 67]) rfl ?_
        refine ev_callV (q' := q_250) (x := 250) (y := 13) (c := 67) (As := [.int x3, .int x4]) (rest := []) hr rfl rfl rfl rfl rfl rfl rfl rfl rfl rfl rfl rfl (fun rv s3 hq => ev_kI hq (fun v4 e9 hr => ?_))
        subst e9
        refine ev_st (st' := [.int v4]) rfl ?_
        refine ev_br (P := ¬ v4 = 0) (L' := [(5, .int u0), (0, .ref 67), (1, .int x1), (2, .int x2), (3, .int x3), (4, .int x4)]) (st' := []) hr rfl rfl rfl (fun hr => ?_) (fun hr => ?_)
        · skip
          refine ev_join (L' := [(0, .ref 67), (1, .int x1), (2, .int x2), (3, .int x3), (4, .int x4)]) [1, 2, 3, 4, 5] [5, 0, 1, 2, 3, 4] [0, 1, 2, 3, 4] rfl rfl (by decide) (by decide) rfl ?_
          exact hr
        · skip
          refine ev_join (L' := [(0, .ref 67), (1, .int x1), (2, .int x2), (3, .int x3), (4, .int x4)]) [1, 2, 3, 4, 5] [5, 0, 1, 2, 3, 4] [0, 1, 2, 3, 4] rfl rfl (by decide) (by decide) rfl ?_
          exact hr
set_option maxRecDepth 20000 in
theorem eMo_fits_25 (d : Nat) (x1 : Int32) (x2 : Int32) (x3 : Int32) (x4 : Int32) (s : aT) : ∀ r, (fMo_fits_28 (d + 1) x1 x2 x3 x4 1 s) = some r → fMo_fits_25 (d + 1) x1 x2 x3 x4 s = some r := by
  intro r hr
  show ev (d + 1) q_269 25 [(0, .ref 67), (1, .int x1), (2, .int x2), (3, .int x3), (4, .int x4)] [] s = some r
  refine ev_seg 2 (k' := 28) (L' := [(0, .ref 67), (1, .int x1), (2, .int x2), (3, .int x3), (4, .int x4)]) (st' := [.int 1]) rfl ?_
  exact hr
set_option maxRecDepth 20000 in
theorem eMo_fits_27 (d : Nat) (x1 : Int32) (x2 : Int32) (x3 : Int32) (x4 : Int32) (s : aT) : ∀ r, (fMo_fits_28 (d + 1) x1 x2 x3 x4 0 s) = some r → fMo_fits_27 (d + 1) x1 x2 x3 x4 s = some r := by
  intro r hr
  show ev (d + 1) q_269 27 [(0, .ref 67), (1, .int x1), (2, .int x2), (3, .int x3), (4, .int x4)] [] s = some r
  refine ev_seg 1 (k' := 28) (L' := [(0, .ref 67), (1, .int x1), (2, .int x2), (3, .int x3), (4, .int x4)]) (st' := [.int 0]) rfl ?_
  exact hr
set_option maxRecDepth 20000 in
theorem eMo_fits_28 (d : Nat) (x1 : Int32) (x2 : Int32) (x3 : Int32) (x4 : Int32) (u0 : Int32) (s : aT) : ∀ r, (cG (fMo_refused d u0 0 s) (kI fun v2 s1 => if ¬ v2 = 0 then rI 0 s1 else if gI s1 67 11 = 0 then cG (fMo_readVersion d 91 x1 x2 s1) (kV fun s3 => cG (fMo_readVersion d 113 x3 x4 s3) (kV fun s4 => cG (fMo_fitsAll d 91 113 s4) (kI fun v6 s5 => rZ v6 s5))) else rI 0 s1)) = some r → fMo_fits_28 (d + 1) x1 x2 x3 x4 u0 s = some r := by
  intro r hr
  show ev (d + 1) q_269 28 [(0, .ref 67), (1, .int x1), (2, .int x2), (3, .int x3), (4, .int x4)] [.int u0] s = some r
  refine ev_seg 4 (k' := 32) (L' := [(5, .int u0), (0, .ref 67), (1, .int x1), (2, .int x2), (3, .int x3), (4, .int x4)]) (st' := [.int 0, .int u0, .ref 67]) rfl ?_
  refine ev_callV (q' := q_189) (x := 189) (y := 13) (c := 67) (As := [.int u0, .int 0]) (rest := []) hr rfl rfl rfl rfl rfl rfl rfl rfl rfl rfl rfl rfl (fun rv s1 hq => ev_kI hq (fun v2 e9 hr => ?_))
  subst e9
  refine ev_st (st' := [.int v2]) rfl ?_
  refine ev_br (P := ¬ v2 = 0) (L' := [(5, .int u0), (0, .ref 67), (1, .int x1), (2, .int x2), (3, .int x3), (4, .int x4)]) (st' := []) hr rfl rfl rfl (fun hr => ?_) (fun hr => ?_)
  · skip
    refine ev_seg 1 (k' := 38) (L' := [(5, .int u0), (0, .ref 67), (1, .int x1), (2, .int x2), (3, .int x3), (4, .int x4)]) (st' := [.int 0]) rfl ?_
    exact ev_iret hr rfl rfl rfl
  · skip
    refine ev_seg 2 (k' := 36) (L' := [(5, .int u0), (0, .ref 67), (1, .int x1), (2, .int x2), (3, .int x3), (4, .int x4)]) (st' := [.int (gI s1 67 11)]) rfl ?_
    refine ev_br (P := gI s1 67 11 = 0) (L' := [(5, .int u0), (0, .ref 67), (1, .int x1), (2, .int x2), (3, .int x3), (4, .int x4)]) (st' := []) hr rfl rfl rfl (fun hr => ?_) (fun hr => ?_)
    · skip
      refine ev_seg 5 (k' := 44) (L' := [(5, .int u0), (0, .ref 67), (1, .int x1), (2, .int x2), (3, .int x3), (4, .int x4)]) (st' := [.int x2, .int x1, .ref 91, .ref 67]) rfl ?_
      refine ev_callV (q' := q_235) (x := 235) (y := 13) (c := 67) (As := [.ref 91, .int x1, .int x2]) (rest := []) hr rfl rfl rfl rfl rfl rfl rfl rfl rfl rfl rfl rfl (fun rv s3 hq => ev_kV hq (fun e9 hr => ?_))
      subst e9
      refine ev_st (st' := []) rfl ?_
      refine ev_seg 5 (k' := 50) (L' := [(5, .int u0), (0, .ref 67), (1, .int x1), (2, .int x2), (3, .int x3), (4, .int x4)]) (st' := [.int x4, .int x3, .ref 113, .ref 67]) rfl ?_
      refine ev_callV (q' := q_235) (x := 235) (y := 13) (c := 67) (As := [.ref 113, .int x3, .int x4]) (rest := []) hr rfl rfl rfl rfl rfl rfl rfl rfl rfl rfl rfl rfl (fun rv s4 hq => ev_kV hq (fun e9 hr => ?_))
      subst e9
      refine ev_st (st' := []) rfl ?_
      refine ev_seg 5 (k' := 56) (L' := [(5, .int u0), (0, .ref 67), (1, .int x1), (2, .int x2), (3, .int x3), (4, .int x4)]) (st' := [.ref 113, .ref 91, .ref 67]) rfl ?_
      refine ev_callV (q' := q_237) (x := 237) (y := 13) (c := 67) (As := [.ref 91, .ref 113]) (rest := []) hr rfl rfl rfl rfl rfl rfl rfl rfl rfl rfl rfl rfl (fun rv s5 hq => ev_kI hq (fun v6 e9 hr => ?_))
      subst e9
      refine ev_st (st' := [.int v6]) rfl ?_
      exact ev_zret hr rfl rfl
    · skip
      refine ev_seg 1 (k' := 38) (L' := [(5, .int u0), (0, .ref 67), (1, .int x1), (2, .int x2), (3, .int x3), (4, .int x4)]) (st' := [.int 0]) rfl ?_
      exact ev_iret hr rfl rfl rfl
set_option maxRecDepth 20000 in
theorem eMo_read (d : Nat) (x1 : Int32) (x2 : Int32) (x3 : Int32) (s : aT) : ∀ r, (cG (fMo_isSubject d x1 s) (kI fun v2 s1 => if v2 = 0 then fMo_read_20 (d + 1) x1 x2 x3 s1 else if ¬ gI s1 67 11 = 0 then fMo_read_22 (d + 1) x1 x2 x3 s1 else cG (fMo_isVersion d x1 x2 s1) (kI fun v4 s3 => if v4 = 0 then fMo_read_20 (d + 1) x1 x2 x3 s3 else cG (fMo_rows d x1 s3) (kI fun v6 s5 => cG (fMo_within d x3 0 (v6 - 1) s5) (kI fun v8 s7 => if ¬ v8 = 0 then fMo_read_22 (d + 1) x1 x2 x3 s7 else fMo_read_20 (d + 1) x1 x2 x3 s7))))) = some r → fMo_read (d + 1) x1 x2 x3 s = some r := by
  intro r hr
  show ev (d + 1) q_270 0 [(0, .ref 67), (1, .int x1), (2, .int x2), (3, .int x3)] [] s = some r
  refine ev_seg 1 (k' := 1) (L' := [(0, .ref 67), (1, .int x1), (2, .int x2), (3, .int x3)]) (st' := [.int x1]) rfl ?_
  refine ev_callS (q' := q_233) (x := 233) (vs := [.int x1]) (rest := []) hr rfl rfl rfl rfl rfl rfl rfl rfl rfl rfl (fun rv s1 hq => ev_kI hq (fun v2 e9 hr => ?_))
  subst e9
  refine ev_st (st' := [.int v2]) rfl ?_
  refine ev_br (P := v2 = 0) (L' := [(0, .ref 67), (1, .int x1), (2, .int x2), (3, .int x3)]) (st' := []) hr rfl rfl rfl (fun hr => ?_) (fun hr => ?_)
  · skip
    exact hr
  · skip
    refine ev_seg 2 (k' := 5) (L' := [(0, .ref 67), (1, .int x1), (2, .int x2), (3, .int x3)]) (st' := [.int (gI s1 67 11)]) rfl ?_
    refine ev_br (P := ¬ gI s1 67 11 = 0) (L' := [(0, .ref 67), (1, .int x1), (2, .int x2), (3, .int x3)]) (st' := []) hr rfl rfl rfl (fun hr => ?_) (fun hr => ?_)
    · skip
      exact hr
    · skip
      refine ev_seg 3 (k' := 9) (L' := [(0, .ref 67), (1, .int x1), (2, .int x2), (3, .int x3)]) (st' := [.int x2, .int x1, .ref 67]) rfl ?_
      refine ev_callV (q' := q_250) (x := 250) (y := 13) (c := 67) (As := [.int x1, .int x2]) (rest := []) hr rfl rfl rfl rfl rfl rfl rfl rfl rfl rfl rfl rfl (fun rv s3 hq => ev_kI hq (fun v4 e9 hr => ?_))
      subst e9
      refine ev_st (st' := [.int v4]) rfl ?_
      refine ev_br (P := v4 = 0) (L' := [(0, .ref 67), (1, .int x1), (2, .int x2), (3, .int x3)]) (st' := []) hr rfl rfl rfl (fun hr => ?_) (fun hr => ?_)
      · skip
        exact hr
      · skip
        refine ev_seg 4 (k' := 15) (L' := [(0, .ref 67), (1, .int x1), (2, .int x2), (3, .int x3)]) (st' := [.int x1, .ref 67, .int 0, .int x3]) rfl ?_
        refine ev_callV (q' := q_271) (x := 271) (y := 13) (c := 67) (As := [.int x1]) (rest := [.int 0, .int x3]) hr rfl rfl rfl rfl rfl rfl rfl rfl rfl rfl rfl rfl (fun rv s5 hq => ev_kI hq (fun v6 e9 hr => ?_))
        subst e9
        refine ev_st (st' := [.int v6, .int 0, .int x3]) rfl ?_
        refine ev_seg 2 (k' := 18) (L' := [(0, .ref 67), (1, .int x1), (2, .int x2), (3, .int x3)]) (st' := [.int (v6 - 1), .int 0, .int x3]) rfl ?_
        refine ev_callS (q' := q_192) (x := 192) (vs := [.int x3, .int 0, .int (v6 - 1)]) (rest := []) hr rfl rfl rfl rfl rfl rfl rfl rfl rfl rfl (fun rv s7 hq => ev_kI hq (fun v8 e9 hr => ?_))
        subst e9
        refine ev_st (st' := [.int v8]) rfl ?_
        refine ev_br (P := ¬ v8 = 0) (L' := [(0, .ref 67), (1, .int x1), (2, .int x2), (3, .int x3)]) (st' := []) hr rfl rfl rfl (fun hr => ?_) (fun hr => ?_)
        · skip
          exact hr
        · skip
          exact hr
set_option maxRecDepth 20000 in
theorem eMo_read_20 (d : Nat) (x1 : Int32) (x2 : Int32) (x3 : Int32) (s : aT) : ∀ r, (fMo_read_23 (d + 1) x1 x2 x3 1 s) = some r → fMo_read_20 (d + 1) x1 x2 x3 s = some r := by
  intro r hr
  show ev (d + 1) q_270 20 [(0, .ref 67), (1, .int x1), (2, .int x2), (3, .int x3)] [] s = some r
  refine ev_seg 2 (k' := 23) (L' := [(0, .ref 67), (1, .int x1), (2, .int x2), (3, .int x3)]) (st' := [.int 1]) rfl ?_
  exact hr
set_option maxRecDepth 20000 in
theorem eMo_read_22 (d : Nat) (x1 : Int32) (x2 : Int32) (x3 : Int32) (s : aT) : ∀ r, (fMo_read_23 (d + 1) x1 x2 x3 0 s) = some r → fMo_read_22 (d + 1) x1 x2 x3 s = some r := by
  intro r hr
  show ev (d + 1) q_270 22 [(0, .ref 67), (1, .int x1), (2, .int x2), (3, .int x3)] [] s = some r
  refine ev_seg 1 (k' := 23) (L' := [(0, .ref 67), (1, .int x1), (2, .int x2), (3, .int x3)]) (st' := [.int 0]) rfl ?_
  exact hr
set_option maxRecDepth 20000 in
theorem eMo_read_23 (d : Nat) (x1 : Int32) (x2 : Int32) (x3 : Int32) (u0 : Int32) (s : aT) : ∀ r, (cG (fMo_refused d u0 0 s) (kI fun v2 s1 => if v2 = 0 then if gI s1 67 11 = 0 then fMo_read_40 (d + 1) x1 x2 0 x3 s1 else rI (-33) s1 else rI 0 s1)) = some r → fMo_read_23 (d + 1) x1 x2 x3 u0 s = some r := by
  intro r hr
  show ev (d + 1) q_270 23 [(0, .ref 67), (1, .int x1), (2, .int x2), (3, .int x3)] [.int u0] s = some r
  refine ev_seg 4 (k' := 27) (L' := [(4, .int u0), (0, .ref 67), (1, .int x1), (2, .int x2), (3, .int x3)]) (st' := [.int 0, .int u0, .ref 67]) rfl ?_
  refine ev_callV (q' := q_189) (x := 189) (y := 13) (c := 67) (As := [.int u0, .int 0]) (rest := []) hr rfl rfl rfl rfl rfl rfl rfl rfl rfl rfl rfl rfl (fun rv s1 hq => ev_kI hq (fun v2 e9 hr => ?_))
  subst e9
  refine ev_st (st' := [.int v2]) rfl ?_
  refine ev_br (P := v2 = 0) (L' := [(4, .int u0), (0, .ref 67), (1, .int x1), (2, .int x2), (3, .int x3)]) (st' := []) hr rfl rfl rfl (fun hr => ?_) (fun hr => ?_)
  · skip
    refine ev_seg 2 (k' := 33) (L' := [(4, .int u0), (0, .ref 67), (1, .int x1), (2, .int x2), (3, .int x3)]) (st' := [.int (gI s1 67 11)]) rfl ?_
    refine ev_br (P := gI s1 67 11 = 0) (L' := [(4, .int u0), (0, .ref 67), (1, .int x1), (2, .int x2), (3, .int x3)]) (st' := []) hr rfl rfl rfl (fun hr => ?_) (fun hr => ?_)
    · skip
      refine ev_seg 4 (k' := 40) (L' := [(6, .int x3), (5, .int 0), (4, .int u0), (0, .ref 67), (1, .int x1), (2, .int x2), (3, .int x3)]) (st' := []) rfl ?_
      refine ev_join (L' := [(0, .ref 67), (1, .int x1), (2, .int x2), (5, .int 0), (6, .int x3)]) [3, 4, 5, 1, 0] [6, 5, 4, 0, 1, 2, 3] [0, 1, 2, 5, 6] rfl rfl (by decide) (by decide) rfl ?_
      exact hr
    · skip
      refine ev_seg 1 (k' := 35) (L' := [(4, .int u0), (0, .ref 67), (1, .int x1), (2, .int x2), (3, .int x3)]) (st' := [.int (-33)]) rfl ?_
      exact ev_iret hr rfl rfl rfl
  · skip
    refine ev_seg 1 (k' := 30) (L' := [(4, .int u0), (0, .ref 67), (1, .int x1), (2, .int x2), (3, .int x3)]) (st' := [.int 0]) rfl ?_
    exact ev_iret hr rfl rfl rfl
set_option maxRecDepth 20000 in
theorem eMo_read_40 (d : Nat) (x1 : Int32) (x2 : Int32) (z5 : Int32) (z6 : Int32) (s : aT) : ∀ r, (ldI 41 s 137 z5 (fun v1 => if ¬ v1 = x1 then fMo_read_57 (d + 1) x1 x2 z5 z6 s else ldI 41 s 141 z5 (fun v2 => if v2 < 0 then fMo_read_57 (d + 1) x1 x2 z5 z6 s else ldI 41 s 141 z5 (fun v3 => if z6 < v3 then ldI 41 s 138 z5 (fun v4 => cG (fMo_readVersion d 91 x1 v4 s) (kV fun s5 => cG (fMo_readVersion d 113 x1 x2 s5) (kV fun s6 => ldI 41 s6 139 z5 (fun v7 => wI s6 67 31 (256 * v7) (fun s8 => fMo_read_104 (d + 1) z6 0 s8))))) else fMo_read_57 (d + 1) x1 x2 z5 z6 s)))) = some r → fMo_read_40 (d + 1) x1 x2 z5 z6 s = some r := by
  intro r hr
  show ev (d + 1) q_270 40 [(0, .ref 67), (1, .int x1), (2, .int x2), (5, .int z5), (6, .int z6)] [] s = some r
  refine ev_seg 3 (k' := 43) (L' := [(0, .ref 67), (1, .int x1), (2, .int x2), (5, .int z5), (6, .int z6)]) (st' := [.int z5, .ref 137]) rfl ?_
  refine ev_ldI hr rfl rfl (fun v1 hr => ?_)
  refine ev_seg 1 (k' := 45) (L' := [(0, .ref 67), (1, .int x1), (2, .int x2), (5, .int z5), (6, .int z6)]) (st' := [.int x1, .int v1]) rfl ?_
  refine ev_br (P := ¬ v1 = x1) (L' := [(0, .ref 67), (1, .int x1), (2, .int x2), (5, .int z5), (6, .int z6)]) (st' := []) hr rfl rfl rfl (fun hr => ?_) (fun hr => ?_)
  · skip
    exact hr
  · skip
    refine ev_seg 3 (k' := 49) (L' := [(0, .ref 67), (1, .int x1), (2, .int x2), (5, .int z5), (6, .int z6)]) (st' := [.int z5, .ref 141]) rfl ?_
    refine ev_ldI hr rfl rfl (fun v2 hr => ?_)
    refine ev_br (P := v2 < 0) (L' := [(0, .ref 67), (1, .int x1), (2, .int x2), (5, .int z5), (6, .int z6)]) (st' := []) hr rfl rfl rfl (fun hr => ?_) (fun hr => ?_)
    · skip
      exact hr
    · skip
      refine ev_seg 4 (k' := 55) (L' := [(0, .ref 67), (1, .int x1), (2, .int x2), (5, .int z5), (6, .int z6)]) (st' := [.int z5, .ref 141, .int z6]) rfl ?_
      refine ev_ldI hr rfl rfl (fun v3 hr => ?_)
      refine ev_br (P := z6 < v3) (L' := [(0, .ref 67), (1, .int x1), (2, .int x2), (5, .int z5), (6, .int z6)]) (st' := []) hr rfl rfl rfl (fun hr => ?_) (fun hr => ?_)
      · skip
        refine ev_seg 7 (k' := 86) (L' := [(0, .ref 67), (1, .int x1), (2, .int x2), (5, .int z5), (6, .int z6)]) (st' := [.int z5, .ref 138, .int x1, .ref 91, .ref 67]) rfl ?_
        refine ev_ldI hr rfl rfl (fun v4 hr => ?_)
        refine ev_callV (q' := q_235) (x := 235) (y := 13) (c := 67) (As := [.ref 91, .int x1, .int v4]) (rest := []) hr rfl rfl rfl rfl rfl rfl rfl rfl rfl rfl rfl rfl (fun rv s5 hq => ev_kV hq (fun e9 hr => ?_))
        subst e9
        refine ev_st (st' := []) rfl ?_
        refine ev_seg 5 (k' := 93) (L' := [(0, .ref 67), (1, .int x1), (2, .int x2), (5, .int z5), (6, .int z6)]) (st' := [.int x2, .int x1, .ref 113, .ref 67]) rfl ?_
        refine ev_callV (q' := q_235) (x := 235) (y := 13) (c := 67) (As := [.ref 113, .int x1, .int x2]) (rest := []) hr rfl rfl rfl rfl rfl rfl rfl rfl rfl rfl rfl rfl (fun rv s6 hq => ev_kV hq (fun e9 hr => ?_))
        subst e9
        refine ev_st (st' := []) rfl ?_
        refine ev_seg 5 (k' := 99) (L' := [(0, .ref 67), (1, .int x1), (2, .int x2), (5, .int z5), (6, .int z6)]) (st' := [.int z5, .ref 139, .int 256, .ref 67]) rfl ?_
        refine ev_ldI hr rfl rfl (fun v7 hr => ?_)
        refine ev_seg 1 (k' := 101) (L' := [(0, .ref 67), (1, .int x1), (2, .int x2), (5, .int z5), (6, .int z6)]) (st' := [.int (256 * v7), .ref 67]) rfl ?_
        refine ev_putI (c := 67) hr rfl rfl rfl (fun s8 hr => ?_)
        refine ev_seg 2 (k' := 104) (L' := [(7, .int 0), (0, .ref 67), (1, .int x1), (2, .int x2), (5, .int z5), (6, .int z6)]) (st' := []) rfl ?_
        refine ev_join (L' := [(0, .ref 67), (6, .int z6), (7, .int 0)]) [1, 5, 0] [7, 0, 1, 2, 5, 6] [0, 6, 7] rfl rfl (by decide) (by decide) rfl ?_
        exact hr
      · skip
        exact hr
set_option maxRecDepth 20000 in
theorem eMo_read_57 (d : Nat) (x1 : Int32) (x2 : Int32) (z5 : Int32) (z6 : Int32) (s : aT) : ∀ r, (ldI 41 s 137 z5 (fun v1 => if ¬ v1 = x1 then fMo_read_75 (d + 1) x1 x2 z5 z6 s else ldI 41 s 141 z5 (fun v2 => if v2 < 0 then fMo_read_75 (d + 1) x1 x2 z5 z6 s else ldI 41 s 141 z5 (fun v3 => fMo_read_76 (d + 1) x1 x2 z5 (z6 - v3) s)))) = some r → fMo_read_57 (d + 1) x1 x2 z5 z6 s = some r := by
  intro r hr
  show ev (d + 1) q_270 57 [(0, .ref 67), (1, .int x1), (2, .int x2), (5, .int z5), (6, .int z6)] [] s = some r
  refine ev_seg 3 (k' := 60) (L' := [(0, .ref 67), (1, .int x1), (2, .int x2), (5, .int z5), (6, .int z6)]) (st' := [.int z5, .ref 137]) rfl ?_
  refine ev_ldI hr rfl rfl (fun v1 hr => ?_)
  refine ev_seg 1 (k' := 62) (L' := [(0, .ref 67), (1, .int x1), (2, .int x2), (5, .int z5), (6, .int z6)]) (st' := [.int x1, .int v1]) rfl ?_
  refine ev_br (P := ¬ v1 = x1) (L' := [(0, .ref 67), (1, .int x1), (2, .int x2), (5, .int z5), (6, .int z6)]) (st' := []) hr rfl rfl rfl (fun hr => ?_) (fun hr => ?_)
  · skip
    exact hr
  · skip
    refine ev_seg 3 (k' := 66) (L' := [(0, .ref 67), (1, .int x1), (2, .int x2), (5, .int z5), (6, .int z6)]) (st' := [.int z5, .ref 141]) rfl ?_
    refine ev_ldI hr rfl rfl (fun v2 hr => ?_)
    refine ev_br (P := v2 < 0) (L' := [(0, .ref 67), (1, .int x1), (2, .int x2), (5, .int z5), (6, .int z6)]) (st' := []) hr rfl rfl rfl (fun hr => ?_) (fun hr => ?_)
    · skip
      exact hr
    · skip
      refine ev_seg 4 (k' := 72) (L' := [(0, .ref 67), (1, .int x1), (2, .int x2), (5, .int z5), (6, .int z6)]) (st' := [.int z5, .ref 141, .int z6]) rfl ?_
      refine ev_ldI hr rfl rfl (fun v3 hr => ?_)
      refine ev_seg 2 (k' := 76) (L' := [(0, .ref 67), (1, .int x1), (2, .int x2), (5, .int z5), (6, .int z6)]) (st' := [.int (z6 - v3)]) rfl ?_
      refine ev_join (L' := [(0, .ref 67), (1, .int x1), (2, .int x2), (5, .int z5)]) [0, 1, 2, 3] [0, 1, 2, 5, 6] [0, 1, 2, 5] rfl rfl (by decide) (by decide) rfl ?_
      exact hr
set_option maxRecDepth 20000 in
theorem eMo_read_104 (d : Nat) (z6 : Int32) (z7 : Int32) (s : aT) : ∀ r, (if z6 ≤ z7 then wI s 67 22 0 (fun s1 => wI s1 67 10 0 (fun s2 => cN (fMo_tellRow d 4096 s2) (kI fun v4 s3 => if 0 ≤ v4 then wI s3 67 10 (gI s3 67 22) (fun s5 => fMo_read_136 (d + 1) 0 s5) else rI v4 s3))) else cG (fMo_skip d 91 (gI s 91 31) s) (kV fun s6 => fMo_read_104 (d + 1) z6 (z7 + 1) s6)) = some r → fMo_read_104 (d + 1) z6 z7 s = some r := by
  intro r hr
  show ev (d + 1) q_270 104 [(0, .ref 67), (6, .int z6), (7, .int z7)] [] s = some r
  refine ev_seg 2 (k' := 106) (L' := [(0, .ref 67), (6, .int z6), (7, .int z7)]) (st' := [.int z6, .int z7]) rfl ?_
  refine ev_br (P := z6 ≤ z7) (L' := [(0, .ref 67), (6, .int z6), (7, .int z7)]) (st' := []) hr rfl rfl rfl (fun hr => ?_) (fun hr => ?_)
  · skip
    refine ev_seg 2 (k' := 118) (L' := [(0, .ref 67), (6, .int z6), (7, .int z7)]) (st' := [.int 0, .ref 67]) rfl ?_
    refine ev_putI (c := 67) hr rfl rfl rfl (fun s1 hr => ?_)
    refine ev_seg 2 (k' := 121) (L' := [(0, .ref 67), (6, .int z6), (7, .int z7)]) (st' := [.int 0, .ref 67]) rfl ?_
    refine ev_putI (c := 67) hr rfl rfl rfl (fun s2 hr => ?_)
    refine ev_seg 2 (k' := 124) (L' := [(0, .ref 67), (6, .int z6), (7, .int z7)]) (st' := [.int 4096, .ref 67]) rfl ?_
    refine ev_callN (q' := q_276) (x := 276) (y := 13) (c := 67) (As := [.int 4096]) (rest := []) hr rfl rfl rfl rfl rfl rfl rfl rfl rfl (fun rv s3 hq => ev_kI hq (fun v4 e9 hr => ?_))
    subst e9
    refine ev_st (st' := [.int v4]) rfl ?_
    refine ev_seg 2 (k' := 127) (L' := [(7, .int v4), (0, .ref 67), (6, .int z6)]) (st' := [.int v4]) rfl ?_
    refine ev_br (P := 0 ≤ v4) (L' := [(7, .int v4), (0, .ref 67), (6, .int z6)]) (st' := []) hr rfl rfl rfl (fun hr => ?_) (fun hr => ?_)
    · skip
      refine ev_seg 3 (k' := 133) (L' := [(7, .int v4), (0, .ref 67), (6, .int z6)]) (st' := [.int (gI s3 67 22), .ref 67]) rfl ?_
      refine ev_putI (c := 67) hr rfl rfl rfl (fun s5 hr => ?_)
      refine ev_seg 2 (k' := 136) (L' := [(8, .int 0), (7, .int v4), (0, .ref 67), (6, .int z6)]) (st' := []) rfl ?_
      refine ev_join (L' := [(0, .ref 67), (8, .int 0)]) [2, 0] [8, 7, 0, 6] [0, 8] rfl rfl (by decide) (by decide) rfl ?_
      exact hr
    · skip
      refine ev_seg 1 (k' := 129) (L' := [(7, .int v4), (0, .ref 67), (6, .int z6)]) (st' := [.int v4]) rfl ?_
      exact ev_iret hr rfl rfl rfl
  · skip
    refine ev_seg 6 (k' := 113) (L' := [(0, .ref 67), (6, .int z6), (7, .int z7)]) (st' := [.int (gI s 91 31), .ref 91, .ref 67]) rfl ?_
    refine ev_callV (q' := q_272) (x := 272) (y := 13) (c := 67) (As := [.ref 91, .int (gI s 91 31)]) (rest := []) hr rfl rfl rfl rfl rfl rfl rfl rfl rfl rfl rfl rfl (fun rv s6 hq => ev_kV hq (fun e9 hr => ?_))
    subst e9
    refine ev_st (st' := []) rfl ?_
    refine ev_seg 2 (k' := 104) (L' := [(7, .int (z7 + 1)), (0, .ref 67), (6, .int z6)]) (st' := []) rfl ?_
    refine ev_join (L' := [(0, .ref 67), (6, .int z6), (7, .int (z7 + 1))]) [1, 2, 0] [7, 0, 6] [0, 6, 7] rfl rfl (by decide) (by decide) rfl ?_
    exact hr
set_option maxRecDepth 20000 in
theorem eMo_read_75 (d : Nat) (x1 : Int32) (x2 : Int32) (z5 : Int32) (z6 : Int32) (s : aT) : ∀ r, (fMo_read_76 (d + 1) x1 x2 z5 z6 s) = some r → fMo_read_75 (d + 1) x1 x2 z5 z6 s = some r := by
  intro r hr
  show ev (d + 1) q_270 75 [(0, .ref 67), (1, .int x1), (2, .int x2), (5, .int z5), (6, .int z6)] [] s = some r
  refine ev_seg 1 (k' := 76) (L' := [(0, .ref 67), (1, .int x1), (2, .int x2), (5, .int z5), (6, .int z6)]) (st' := [.int z6]) rfl ?_
  refine ev_join (L' := [(0, .ref 67), (1, .int x1), (2, .int x2), (5, .int z5)]) [0, 1, 2, 3] [0, 1, 2, 5, 6] [0, 1, 2, 5] rfl rfl (by decide) (by decide) rfl ?_
  exact hr
set_option maxRecDepth 20000 in
theorem eMo_read_76 (d : Nat) (x1 : Int32) (x2 : Int32) (z5 : Int32) (u0 : Int32) (s : aT) : ∀ r, (fMo_read_40 (d + 1) x1 x2 (z5 + 1) u0 s) = some r → fMo_read_76 (d + 1) x1 x2 z5 u0 s = some r := by
  intro r hr
  show ev (d + 1) q_270 76 [(0, .ref 67), (1, .int x1), (2, .int x2), (5, .int z5)] [.int u0] s = some r
  refine ev_seg 3 (k' := 40) (L' := [(5, .int (z5 + 1)), (6, .int u0), (0, .ref 67), (1, .int x1), (2, .int x2)]) (st' := []) rfl ?_
  refine ev_join (L' := [(0, .ref 67), (1, .int x1), (2, .int x2), (5, .int (z5 + 1)), (6, .int u0)]) [2, 3, 4, 0, 1] [5, 6, 0, 1, 2] [0, 1, 2, 5, 6] rfl rfl (by decide) (by decide) rfl ?_
  exact hr
set_option maxRecDepth 20000 in
theorem eMo_read_136 (d : Nat) (z8 : Int32) (s : aT) : ∀ r, (if gI s 67 10 ≤ z8 then rI (gI s 67 10) s else ldI 4200 s 144 z8 (fun v1 => stI 4096 s 136 z8 (vp_nar .byte v1) (fun s2 => fMo_read_136 (d + 1) (z8 + 1) s2))) = some r → fMo_read_136 (d + 1) z8 s = some r := by
  intro r hr
  show ev (d + 1) q_270 136 [(0, .ref 67), (8, .int z8)] [] s = some r
  refine ev_seg 3 (k' := 139) (L' := [(0, .ref 67), (8, .int z8)]) (st' := [.int (gI s 67 10), .int z8]) rfl ?_
  refine ev_br (P := gI s 67 10 ≤ z8) (L' := [(0, .ref 67), (8, .int z8)]) (st' := []) hr rfl rfl rfl (fun hr => ?_) (fun hr => ?_)
  · skip
    refine ev_seg 2 (k' := 152) (L' := [(0, .ref 67), (8, .int z8)]) (st' := [.int (gI s 67 10)]) rfl ?_
    exact ev_iret hr rfl rfl rfl
  · skip
    refine ev_seg 6 (k' := 146) (L' := [(0, .ref 67), (8, .int z8)]) (st' := [.int z8, .ref 144, .int z8, .ref 136]) rfl ?_
    refine ev_ldB hr rfl rfl (fun v1 hr => ?_)
    refine ev_stB hr rfl rfl (fun s2 hr => ?_)
    refine ev_seg 2 (k' := 136) (L' := [(8, .int (z8 + 1)), (0, .ref 67)]) (st' := []) rfl ?_
    refine ev_join (L' := [(0, .ref 67), (8, .int (z8 + 1))]) [1, 0] [8, 0] [0, 8] rfl rfl (by decide) (by decide) rfl ?_
    exact hr
set_option maxRecDepth 20000 in
theorem eMo_rows (d : Nat) (x1 : Int32) (s : aT) : ∀ r, (fMo_rows_4 d x1 0 0 s) = some r → fMo_rows d x1 s = some r := by
  intro r hr
  show ev d q_271 0 [(0, .ref 67), (1, .int x1)] [] s = some r
  refine ev_seg 4 (k' := 4) (L' := [(3, .int 0), (2, .int 0), (0, .ref 67), (1, .int x1)]) (st' := []) rfl ?_
  refine ev_join (L' := [(0, .ref 67), (1, .int x1), (2, .int 0), (3, .int 0)]) [2, 3, 1, 0] [3, 2, 0, 1] [0, 1, 2, 3] rfl rfl (by decide) (by decide) rfl ?_
  exact hr
set_option maxRecDepth 20000 in
theorem eMo_rows_4 (d : Nat) (x1 : Int32) (z2 : Int32) (z3 : Int32) (s : aT) : ∀ r, (if gI s 67 13 ≤ z3 then rI z2 s else ldI 41 s 137 z3 (fun v1 => if ¬ v1 = x1 then fMo_rows_26 d x1 z2 z3 s else ldI 41 s 141 z3 (fun v2 => if v2 < 0 then fMo_rows_26 d x1 z2 z3 s else ldI 41 s 141 z3 (fun v3 => fMo_rows_27 d x1 z3 (z2 + v3) s)))) = some r → fMo_rows_4 d x1 z2 z3 s = some r := by
  intro r hr
  show ev d q_271 4 [(0, .ref 67), (1, .int x1), (2, .int z2), (3, .int z3)] [] s = some r
  refine ev_seg 3 (k' := 7) (L' := [(0, .ref 67), (1, .int x1), (2, .int z2), (3, .int z3)]) (st' := [.int (gI s 67 13), .int z3]) rfl ?_
  refine ev_br (P := gI s 67 13 ≤ z3) (L' := [(0, .ref 67), (1, .int x1), (2, .int z2), (3, .int z3)]) (st' := []) hr rfl rfl rfl (fun hr => ?_) (fun hr => ?_)
  · skip
    refine ev_seg 1 (k' := 31) (L' := [(0, .ref 67), (1, .int x1), (2, .int z2), (3, .int z3)]) (st' := [.int z2]) rfl ?_
    exact ev_iret hr rfl rfl rfl
  · skip
    refine ev_seg 3 (k' := 11) (L' := [(0, .ref 67), (1, .int x1), (2, .int z2), (3, .int z3)]) (st' := [.int z3, .ref 137]) rfl ?_
    refine ev_ldI hr rfl rfl (fun v1 hr => ?_)
    refine ev_seg 1 (k' := 13) (L' := [(0, .ref 67), (1, .int x1), (2, .int z2), (3, .int z3)]) (st' := [.int x1, .int v1]) rfl ?_
    refine ev_br (P := ¬ v1 = x1) (L' := [(0, .ref 67), (1, .int x1), (2, .int z2), (3, .int z3)]) (st' := []) hr rfl rfl rfl (fun hr => ?_) (fun hr => ?_)
    · skip
      exact hr
    · skip
      refine ev_seg 3 (k' := 17) (L' := [(0, .ref 67), (1, .int x1), (2, .int z2), (3, .int z3)]) (st' := [.int z3, .ref 141]) rfl ?_
      refine ev_ldI hr rfl rfl (fun v2 hr => ?_)
      refine ev_br (P := v2 < 0) (L' := [(0, .ref 67), (1, .int x1), (2, .int z2), (3, .int z3)]) (st' := []) hr rfl rfl rfl (fun hr => ?_) (fun hr => ?_)
      · skip
        exact hr
      · skip
        refine ev_seg 4 (k' := 23) (L' := [(0, .ref 67), (1, .int x1), (2, .int z2), (3, .int z3)]) (st' := [.int z3, .ref 141, .int z2]) rfl ?_
        refine ev_ldI hr rfl rfl (fun v3 hr => ?_)
        refine ev_seg 2 (k' := 27) (L' := [(0, .ref 67), (1, .int x1), (2, .int z2), (3, .int z3)]) (st' := [.int (z2 + v3)]) rfl ?_
        refine ev_join (L' := [(0, .ref 67), (1, .int x1), (3, .int z3)]) [0, 1, 3] [0, 1, 2, 3] [0, 1, 3] rfl rfl (by decide) (by decide) rfl ?_
        exact hr
set_option maxRecDepth 20000 in
theorem eMo_rows_26 (d : Nat) (x1 : Int32) (z2 : Int32) (z3 : Int32) (s : aT) : ∀ r, (fMo_rows_27 d x1 z3 z2 s) = some r → fMo_rows_26 d x1 z2 z3 s = some r := by
  intro r hr
  show ev d q_271 26 [(0, .ref 67), (1, .int x1), (2, .int z2), (3, .int z3)] [] s = some r
  refine ev_seg 1 (k' := 27) (L' := [(0, .ref 67), (1, .int x1), (2, .int z2), (3, .int z3)]) (st' := [.int z2]) rfl ?_
  refine ev_join (L' := [(0, .ref 67), (1, .int x1), (3, .int z3)]) [0, 1, 3] [0, 1, 2, 3] [0, 1, 3] rfl rfl (by decide) (by decide) rfl ?_
  exact hr
set_option maxRecDepth 20000 in
theorem eMo_rows_27 (d : Nat) (x1 : Int32) (z3 : Int32) (u0 : Int32) (s : aT) : ∀ r, (fMo_rows_4 d x1 u0 (z3 + 1) s) = some r → fMo_rows_27 d x1 z3 u0 s = some r := by
  intro r hr
  show ev d q_271 27 [(0, .ref 67), (1, .int x1), (3, .int z3)] [.int u0] s = some r
  refine ev_seg 3 (k' := 4) (L' := [(3, .int (z3 + 1)), (2, .int u0), (0, .ref 67), (1, .int x1)]) (st' := []) rfl ?_
  refine ev_join (L' := [(0, .ref 67), (1, .int x1), (2, .int u0), (3, .int (z3 + 1))]) [2, 3, 1, 0] [3, 2, 0, 1] [0, 1, 2, 3] rfl rfl (by decide) (by decide) rfl ?_
  exact hr
set_option maxRecDepth 20000 in
theorem eMo_readVarint (d : Nat) (s : aT) : ∀ r, (fMo_readVarint_6 d 0 0 128 s) = some r → fMo_readVarint d s = some r := by
  intro r hr
  show ev d q_273 0 [(0, .ref 67)] [] s = some r
  refine ev_seg 6 (k' := 6) (L' := [(4, .int 128), (3, .int 0), (1, .long 0), (0, .ref 67)]) (st' := []) rfl ?_
  refine ev_join (L' := [(0, .ref 67), (1, .long 0), (3, .int 0), (4, .int 128)]) [3, 2, 1, 0] [4, 3, 1, 0] [0, 1, 3, 4] rfl rfl (by decide) (by decide) rfl ?_
  exact hr
set_option maxRecDepth 20000 in
theorem eMo_readVarint_6 (d : Nat) (l1 : Int64) (z3 : Int32) (z4 : Int32) (s : aT) : ∀ r, (if z4 ≤ 127 then rL (((l1.toUInt64 >>> ((1 : Int32).toInt64.toUInt64 &&& Int64.toUInt64 63)).toInt64) ^^^ (-(l1 &&& 1))) s else ldI 32768 s 143 (gI s 67 31) (fun v1 => wI s 67 31 ((gI s 67 31) + 1) (fun s2 => fMo_readVarint_6 d (l1 ||| ((((v1 &&& 255) &&& 127).toInt64) <<< (z3.toInt64 &&& 63))) (z3 + 7) (v1 &&& 255) s2))) = some r → fMo_readVarint_6 d l1 z3 z4 s = some r := by
  intro r hr
  show ev d q_273 6 [(0, .ref 67), (1, .long l1), (3, .int z3), (4, .int z4)] [] s = some r
  refine ev_seg 2 (k' := 8) (L' := [(0, .ref 67), (1, .long l1), (3, .int z3), (4, .int z4)]) (st' := [.int 127, .int z4]) rfl ?_
  refine ev_br (P := z4 ≤ 127) (L' := [(0, .ref 67), (1, .long l1), (3, .int z3), (4, .int z4)]) (st' := []) hr rfl rfl rfl (fun hr => ?_) (fun hr => ?_)
  · skip
    refine ev_seg 8 (k' := 45) (L' := [(0, .ref 67), (1, .long l1), (3, .int z3), (4, .int z4)]) (st' := [.long (((l1.toUInt64 >>> ((1 : Int32).toInt64.toUInt64 &&& Int64.toUInt64 63)).toInt64) ^^^ (-(l1 &&& 1)))]) rfl ?_
    exact ev_lret hr rfl rfl
  · skip
    refine ev_seg 4 (k' := 13) (L' := [(0, .ref 67), (1, .long l1), (3, .int z3), (4, .int z4)]) (st' := [.int (gI s 67 31), .ref 143]) rfl ?_
    refine ev_ldB hr rfl rfl (fun v1 hr => ?_)
    refine ev_seg 8 (k' := 22) (L' := [(4, .int (v1 &&& 255)), (0, .ref 67), (1, .long l1), (3, .int z3)]) (st' := [.int ((gI s 67 31) + 1), .ref 67]) rfl ?_
    refine ev_putI (c := 67) hr rfl rfl rfl (fun s2 hr => ?_)
    refine ev_seg 14 (k' := 6) (L' := [(3, .int (z3 + 7)), (1, .long (l1 ||| ((((v1 &&& 255) &&& 127).toInt64) <<< (z3.toInt64 &&& 63)))), (4, .int (v1 &&& 255)), (0, .ref 67)]) (st' := []) rfl ?_
    refine ev_join (L' := [(0, .ref 67), (1, .long (l1 ||| ((((v1 &&& 255) &&& 127).toInt64) <<< (z3.toInt64 &&& 63)))), (3, .int (z3 + 7)), (4, .int (v1 &&& 255))]) [3, 1, 0, 2] [3, 1, 4, 0] [0, 1, 3, 4] rfl rfl (by decide) (by decide) rfl ?_
    exact hr
set_option maxRecDepth 20000 in
theorem eMo_copyBytes (d : Nat) (y1 : Int64) (x3 : Int32) (s : aT) : ∀ r, (fMo_copyBytes_2 (d + 1) y1 x3 0 s) = some r → fMo_copyBytes (d + 1) y1 x3 s = some r := by
  intro r hr
  show ev (d + 1) q_274 0 [(0, .ref 67), (1, .long y1), (3, .int x3)] [] s = some r
  refine ev_seg 2 (k' := 2) (L' := [(4, .long 0), (0, .ref 67), (1, .long y1), (3, .int x3)]) (st' := []) rfl ?_
  refine ev_join (L' := [(0, .ref 67), (1, .long y1), (3, .int x3), (4, .long 0)]) [1, 2, 3, 0] [4, 0, 1, 3] [0, 1, 3, 4] rfl rfl (by decide) (by decide) rfl ?_
  exact hr
set_option maxRecDepth 20000 in
theorem eMo_copyBytes_2 (d : Nat) (y1 : Int64) (x3 : Int32) (l4 : Int64) (s : aT) : ∀ r, (if 0 ≤ aLcmp l4 y1 then rV s else if x3 = 0 then fMo_copyBytes_15 (d + 1) y1 x3 l4 s else ldI 32768 s 143 (gI s 67 31) (fun v1 => cG (fMo_tellByte d v1 s) (kV fun s2 => fMo_copyBytes_15 (d + 1) y1 x3 l4 s2))) = some r → fMo_copyBytes_2 (d + 1) y1 x3 l4 s = some r := by
  intro r hr
  show ev (d + 1) q_274 2 [(0, .ref 67), (1, .long y1), (3, .int x3), (4, .long l4)] [] s = some r
  refine ev_seg 3 (k' := 5) (L' := [(0, .ref 67), (1, .long y1), (3, .int x3), (4, .long l4)]) (st' := [.int (aLcmp l4 y1)]) rfl ?_
  refine ev_br (P := 0 ≤ aLcmp l4 y1) (L' := [(0, .ref 67), (1, .long y1), (3, .int x3), (4, .long l4)]) (st' := []) hr rfl rfl rfl (fun hr => ?_) (fun hr => ?_)
  · skip
    exact ev_vret hr rfl rfl
  · skip
    refine ev_seg 1 (k' := 7) (L' := [(0, .ref 67), (1, .long y1), (3, .int x3), (4, .long l4)]) (st' := [.int x3]) rfl ?_
    refine ev_br (P := x3 = 0) (L' := [(0, .ref 67), (1, .long y1), (3, .int x3), (4, .long l4)]) (st' := []) hr rfl rfl rfl (fun hr => ?_) (fun hr => ?_)
    · skip
      exact hr
    · skip
      refine ev_seg 5 (k' := 13) (L' := [(0, .ref 67), (1, .long y1), (3, .int x3), (4, .long l4)]) (st' := [.int (gI s 67 31), .ref 143, .ref 67]) rfl ?_
      refine ev_ldB hr rfl rfl (fun v1 hr => ?_)
      refine ev_callV (q' := q_275) (x := 275) (y := 13) (c := 67) (As := [.int v1]) (rest := []) hr rfl rfl rfl rfl rfl rfl rfl rfl rfl rfl rfl rfl (fun rv s2 hq => ev_kV hq (fun e9 hr => ?_))
      subst e9
      refine ev_st (st' := []) rfl ?_
      exact hr
set_option maxRecDepth 20000 in
theorem eMo_copyBytes_15 (d : Nat) (y1 : Int64) (x3 : Int32) (l4 : Int64) (s : aT) : ∀ r, (wI s 67 31 ((gI s 67 31) + 1) (fun s1 => fMo_copyBytes_2 (d + 1) y1 x3 (l4 + 1) s1)) = some r → fMo_copyBytes_15 (d + 1) y1 x3 l4 s = some r := by
  intro r hr
  show ev (d + 1) q_274 15 [(0, .ref 67), (1, .long y1), (3, .int x3), (4, .long l4)] [] s = some r
  refine ev_seg 5 (k' := 20) (L' := [(0, .ref 67), (1, .long y1), (3, .int x3), (4, .long l4)]) (st' := [.int ((gI s 67 31) + 1), .ref 67]) rfl ?_
  refine ev_putI (c := 67) hr rfl rfl rfl (fun s1 hr => ?_)
  refine ev_seg 5 (k' := 2) (L' := [(4, .long (l4 + 1)), (0, .ref 67), (1, .long y1), (3, .int x3)]) (st' := []) rfl ?_
  refine ev_join (L' := [(0, .ref 67), (1, .long y1), (3, .int x3), (4, .long (l4 + 1))]) [1, 2, 3, 0] [4, 0, 1, 3] [0, 1, 3, 4] rfl rfl (by decide) (by decide) rfl ?_
  exact hr
set_option maxRecDepth 20000 in
theorem eMo_tellByte (d : Nat) (x1 : Int32) (s : aT) : ∀ r, (if ¬ gI s 67 22 = gI s 67 32 then fMo_tellByte_9 (d + 1) x1 s else cG (fMo_failBytes d 31 0 s) (kV fun s1 => fMo_tellByte_9 (d + 1) x1 s1)) = some r → fMo_tellByte (d + 1) x1 s = some r := by
  intro r hr
  show ev (d + 1) q_275 0 [(0, .ref 67), (1, .int x1)] [] s = some r
  refine ev_seg 4 (k' := 4) (L' := [(0, .ref 67), (1, .int x1)]) (st' := [.int (gI s 67 32), .int (gI s 67 22)]) rfl ?_
  refine ev_br (P := ¬ gI s 67 22 = gI s 67 32) (L' := [(0, .ref 67), (1, .int x1)]) (st' := []) hr rfl rfl rfl (fun hr => ?_) (fun hr => ?_)
  · skip
    exact hr
  · skip
    refine ev_seg 3 (k' := 8) (L' := [(0, .ref 67), (1, .int x1)]) (st' := [.int 0, .int 31, .ref 67]) rfl ?_
    refine ev_callV (q' := q_253) (x := 253) (y := 13) (c := 67) (As := [.int 31, .int 0]) (rest := []) hr rfl rfl rfl rfl rfl rfl rfl rfl rfl rfl rfl rfl (fun rv s1 hq => ev_kV hq (fun e9 hr => ?_))
    subst e9
    refine ev_st (st' := []) rfl ?_
    exact hr
set_option maxRecDepth 20000 in
theorem eMo_tellByte_9 (d : Nat) (x1 : Int32) (s : aT) : ∀ r, (stI 4200 s 144 (gI s 67 22) (vp_nar .byte x1.toInt8.toInt32) (fun s1 => wI s1 67 22 ((gI s1 67 22) + 1) (fun s2 => rV s2))) = some r → fMo_tellByte_9 (d + 1) x1 s = some r := by
  intro r hr
  show ev (d + 1) q_275 9 [(0, .ref 67), (1, .int x1)] [] s = some r
  refine ev_seg 6 (k' := 15) (L' := [(0, .ref 67), (1, .int x1)]) (st' := [.int x1.toInt8.toInt32, .int (gI s 67 22), .ref 144]) rfl ?_
  refine ev_stB hr rfl rfl (fun s1 hr => ?_)
  refine ev_seg 5 (k' := 21) (L' := [(0, .ref 67), (1, .int x1)]) (st' := [.int ((gI s1 67 22) + 1), .ref 67]) rfl ?_
  refine ev_putI (c := 67) hr rfl rfl rfl (fun s2 hr => ?_)
  exact ev_vret hr rfl rfl
set_option maxRecDepth 20000 in
theorem eMo_tellRow (d : Nat) (x1 : Int32) (s : aT) : ∀ r, (wI s 67 32 ((gI s 67 22) + x1) (fun s1 => cC (fMo_tell d 91 (gI s1 91 31) 113 (gI s1 113 31) s1) (kV fun s2 => rI 0 s2) (fun s2 => rI (-(gI s2 67 24)) s2))) = some r → fMo_tellRow (d + 1) x1 s = some r := by
  intro r hr
  show ev (d + 1) q_276 0 [(0, .ref 67), (1, .int x1)] [] s = some r
  refine ev_seg 5 (k' := 5) (L' := [(0, .ref 67), (1, .int x1)]) (st' := [.int ((gI s 67 22) + x1), .ref 67]) rfl ?_
  refine ev_putI (c := 67) hr rfl rfl rfl (fun s1 hr => ?_)
  refine ev_seg 11 (k' := 17) (L' := [(0, .ref 67), (1, .int x1)]) (st' := [.int (gI s1 113 31), .ref 113, .int (gI s1 91 31), .ref 91, .ref 67]) rfl ?_
  refine ev_callC (q' := q_277) (x := 277) (y := 13) (c := 67) (As := [.ref 91, .int (gI s1 91 31), .ref 113, .int (gI s1 113 31)]) (rest := []) (z := (10, 36, 39, 163, 19, 2)) (L' := [(0, .ref 67), (1, .int x1)]) hr rfl rfl rfl rfl rfl rfl rfl rfl rfl rfl rfl rfl rfl rfl (fun rv s2 hq => ev_kV hq (fun e9 hr => ?_)) (fun s2 hr => ?_)
  · skip
    subst e9
    refine ev_st (st' := []) rfl ?_
    refine ev_seg 2 (k' := 25) (L' := [(0, .ref 67), (1, .int x1)]) (st' := [.int 0]) rfl ?_
    exact ev_iret hr rfl rfl rfl
  · skip
    refine ev_seg 3 (k' := 23) (L' := [(0, .ref 67), (1, .int x1)]) (st' := [.int (-(gI s2 67 24))]) rfl ?_
    exact ev_iret hr rfl rfl rfl
set_option maxRecDepth 20000 in
theorem eMo_unresolved (d : Nat) (s : aT) : ∀ r, (cG (fMo_failBytes d 20 0 s) (kV fun s1 => rV s1)) = some r → fMo_unresolved (d + 1) s = some r := by
  intro r hr
  show ev (d + 1) q_278 0 [(0, .ref 67)] [] s = some r
  refine ev_seg 3 (k' := 3) (L' := [(0, .ref 67)]) (st' := [.int 0, .int 20, .ref 67]) rfl ?_
  refine ev_callV (q' := q_253) (x := 253) (y := 13) (c := 67) (As := [.int 20, .int 0]) (rest := []) hr rfl rfl rfl rfl rfl rfl rfl rfl rfl rfl rfl rfl (fun rv s1 hq => ev_kV hq (fun e9 hr => ?_))
  subst e9
  refine ev_st (st' := []) rfl ?_
  exact ev_vret hr rfl rfl
set_option maxRecDepth 20000 in
theorem eMo_tellVarint (d : Nat) (y1 : Int64) (s : aT) : ∀ r, (fMo_tellVarint_8 (d + 1) ((y1 <<< ((1 : Int32).toInt64 &&& 63)) ^^^ (y1 >>> ((63 : Int32).toInt64 &&& 63))) s) = some r → fMo_tellVarint (d + 1) y1 s = some r := by
  intro r hr
  show ev (d + 1) q_279 0 [(0, .ref 67), (1, .long y1)] [] s = some r
  refine ev_seg 8 (k' := 8) (L' := [(3, .long ((y1 <<< ((1 : Int32).toInt64 &&& 63)) ^^^ (y1 >>> ((63 : Int32).toInt64 &&& 63)))), (0, .ref 67), (1, .long y1)]) (st' := []) rfl ?_
  refine ev_join (L' := [(0, .ref 67), (3, .long ((y1 <<< ((1 : Int32).toInt64 &&& 63)) ^^^ (y1 >>> ((63 : Int32).toInt64 &&& 63))))]) [1, 0] [3, 0, 1] [0, 3] rfl rfl (by decide) (by decide) rfl ?_
  exact hr
set_option maxRecDepth 20000 in
theorem eMo_tellVarint_8 (d : Nat) (l3 : Int64) (s : aT) : ∀ r, (if aLcmp ((l3.toUInt64 >>> ((7 : Int32).toInt64.toUInt64 &&& Int64.toUInt64 63)).toInt64) 0 = 0 then cG (fMo_tellByte d l3.toInt32 s) (kV fun s1 => rV s1) else cG (fMo_tellByte d (((l3 &&& 127).toInt32) ||| 128) s) (kV fun s2 => fMo_tellVarint_8 (d + 1) ((l3.toUInt64 >>> ((7 : Int32).toInt64.toUInt64 &&& Int64.toUInt64 63)).toInt64) s2)) = some r → fMo_tellVarint_8 (d + 1) l3 s = some r := by
  intro r hr
  show ev (d + 1) q_279 8 [(0, .ref 67), (3, .long l3)] [] s = some r
  refine ev_seg 5 (k' := 13) (L' := [(0, .ref 67), (3, .long l3)]) (st' := [.int (aLcmp ((l3.toUInt64 >>> ((7 : Int32).toInt64.toUInt64 &&& Int64.toUInt64 63)).toInt64) 0)]) rfl ?_
  refine ev_br (P := aLcmp ((l3.toUInt64 >>> ((7 : Int32).toInt64.toUInt64 &&& Int64.toUInt64 63)).toInt64) 0 = 0) (L' := [(0, .ref 67), (3, .long l3)]) (st' := []) hr rfl rfl rfl (fun hr => ?_) (fun hr => ?_)
  · skip
    refine ev_seg 3 (k' := 30) (L' := [(0, .ref 67), (3, .long l3)]) (st' := [.int l3.toInt32, .ref 67]) rfl ?_
    refine ev_callV (q' := q_275) (x := 275) (y := 13) (c := 67) (As := [.int l3.toInt32]) (rest := []) hr rfl rfl rfl rfl rfl rfl rfl rfl rfl rfl rfl rfl (fun rv s1 hq => ev_kV hq (fun e9 hr => ?_))
    subst e9
    refine ev_st (st' := []) rfl ?_
    exact ev_vret hr rfl rfl
  · skip
    refine ev_seg 7 (k' := 21) (L' := [(0, .ref 67), (3, .long l3)]) (st' := [.int (((l3 &&& 127).toInt32) ||| 128), .ref 67]) rfl ?_
    refine ev_callV (q' := q_275) (x := 275) (y := 13) (c := 67) (As := [.int (((l3 &&& 127).toInt32) ||| 128)]) (rest := []) hr rfl rfl rfl rfl rfl rfl rfl rfl rfl rfl rfl rfl (fun rv s2 hq => ev_kV hq (fun e9 hr => ?_))
    subst e9
    refine ev_st (st' := []) rfl ?_
    refine ev_seg 5 (k' := 8) (L' := [(3, .long ((l3.toUInt64 >>> ((7 : Int32).toInt64.toUInt64 &&& Int64.toUInt64 63)).toInt64)), (0, .ref 67)]) (st' := []) rfl ?_
    refine ev_join (L' := [(0, .ref 67), (3, .long ((l3.toUInt64 >>> ((7 : Int32).toInt64.toUInt64 &&& Int64.toUInt64 63)).toInt64))]) [1, 0] [3, 0] [0, 3] rfl rfl (by decide) (by decide) rfl ?_
    exact hr
set_option maxRecDepth 20000 in
theorem eMo_tellSix (d : Nat) (x1 : Int32) (s : aT) : ∀ r, (if x1 = 0 then rV s else if x1 = 1 then cG (fMo_copyBytes d 1 1 s) (kV fun s3 => rV s3) else if x1 = 2 then cG (fMo_readVarint d s) (kL fun v6 s5 => cG (fMo_tellVarint d v6 s5) (kV fun s7 => rV s7)) else if x1 = 3 then cG (fMo_readVarint d s) (kL fun v10 s9 => cG (fMo_tellVarint d v10 s9) (kV fun s11 => rV s11)) else cG (fMo_readVarint d s) (kL fun v13 s12 => cG (fMo_tellVarint d v13 s12) (kV fun s14 => cG (fMo_copyBytes d v13 1 s14) (kV fun s15 => rV s15)))) = some r → fMo_tellSix (d + 1) x1 s = some r := by
  intro r hr
  show ev (d + 1) q_280 0 [(0, .ref 67), (1, .int x1)] [] s = some r
  refine ev_seg 1 (k' := 1) (L' := [(0, .ref 67), (1, .int x1)]) (st' := [.int x1]) rfl ?_
  refine ev_if hr (fun h1 hr => ?_) (fun h1 hr => ?_)
  · skip
    refine ev_tab (o := 31) (t := 2) rfl (by rw [h1]; rfl) rfl ?_
    refine ev_seg 1 (k' := 23) (L' := [(0, .ref 67), (1, .int x1)]) (st' := []) rfl ?_
    exact ev_vret hr rfl rfl
  refine ev_if hr (fun h2 hr => ?_) (fun h2 hr => ?_)
  · skip
    refine ev_tab (o := 34) (t := 3) rfl (by rw [h2]; rfl) rfl ?_
    refine ev_seg 3 (k' := 6) (L' := [(0, .ref 67), (1, .int x1)]) (st' := [.int 1, .long 1, .ref 67]) rfl ?_
    refine ev_callV (q' := q_274) (x := 274) (y := 13) (c := 67) (As := [.long 1, .int 1]) (rest := []) hr rfl rfl rfl rfl rfl rfl rfl rfl rfl rfl rfl rfl (fun rv s3 hq => ev_kV hq (fun e9 hr => ?_))
    subst e9
    refine ev_st (st' := []) rfl ?_
    refine ev_seg 1 (k' := 23) (L' := [(0, .ref 67), (1, .int x1)]) (st' := []) rfl ?_
    exact ev_vret hr rfl rfl
  refine ev_if hr (fun h4 hr => ?_) (fun h4 hr => ?_)
  · skip
    refine ev_tab (o := 43) (t := 8) rfl (by rw [h4]; rfl) rfl ?_
    refine ev_seg 2 (k' := 10) (L' := [(0, .ref 67), (1, .int x1)]) (st' := [.ref 67, .ref 67]) rfl ?_
    refine ev_callV (q' := q_273) (x := 273) (y := 13) (c := 67) (As := []) (rest := [.ref 67]) hr rfl rfl rfl rfl rfl rfl rfl rfl rfl rfl rfl rfl (fun rv s5 hq => ev_kL hq (fun v6 e9 hr => ?_))
    subst e9
    refine ev_st (st' := [.long v6, .ref 67]) rfl ?_
    refine ev_callV (q' := q_279) (x := 279) (y := 13) (c := 67) (As := [.long v6]) (rest := []) hr rfl rfl rfl rfl rfl rfl rfl rfl rfl rfl rfl rfl (fun rv s7 hq => ev_kV hq (fun e9 hr => ?_))
    subst e9
    refine ev_st (st' := []) rfl ?_
    refine ev_seg 1 (k' := 23) (L' := [(0, .ref 67), (1, .int x1)]) (st' := []) rfl ?_
    exact ev_vret hr rfl rfl
  refine ev_if hr (fun h8 hr => ?_) (fun h8 hr => ?_)
  · skip
    refine ev_tab (o := 43) (t := 8) rfl (by rw [h8]; rfl) rfl ?_
    refine ev_seg 2 (k' := 10) (L' := [(0, .ref 67), (1, .int x1)]) (st' := [.ref 67, .ref 67]) rfl ?_
    refine ev_callV (q' := q_273) (x := 273) (y := 13) (c := 67) (As := []) (rest := [.ref 67]) hr rfl rfl rfl rfl rfl rfl rfl rfl rfl rfl rfl rfl (fun rv s9 hq => ev_kL hq (fun v10 e9 hr => ?_))
    subst e9
    refine ev_st (st' := [.long v10, .ref 67]) rfl ?_
    refine ev_callV (q' := q_279) (x := 279) (y := 13) (c := 67) (As := [.long v10]) (rest := []) hr rfl rfl rfl rfl rfl rfl rfl rfl rfl rfl rfl rfl (fun rv s11 hq => ev_kV hq (fun e9 hr => ?_))
    subst e9
    refine ev_st (st' := []) rfl ?_
    refine ev_seg 1 (k' := 23) (L' := [(0, .ref 67), (1, .int x1)]) (st' := []) rfl ?_
    exact ev_vret hr rfl rfl
  refine ev_tab (o := 54) (t := 13) rfl (tab_in (by have e0 := i_neL (z := 0) (w := 0) rfl h1; have e1 := i_neL (z := 1) (w := 1) rfl h2; have e2 := i_neL (z := 2) (w := 2) rfl h4; have e3 := i_neL (z := 3) (w := 3) rfl h8; omega)) rfl ?_
  refine ev_seg 1 (k' := 14) (L' := [(0, .ref 67), (1, .int x1)]) (st' := [.ref 67]) rfl ?_
  refine ev_callV (q' := q_273) (x := 273) (y := 13) (c := 67) (As := []) (rest := []) hr rfl rfl rfl rfl rfl rfl rfl rfl rfl rfl rfl rfl (fun rv s12 hq => ev_kL hq (fun v13 e9 hr => ?_))
  subst e9
  refine ev_st (st' := [.long v13]) rfl ?_
  refine ev_seg 3 (k' := 18) (L' := [(2, .long v13), (0, .ref 67), (1, .int x1)]) (st' := [.long v13, .ref 67]) rfl ?_
  refine ev_callV (q' := q_279) (x := 279) (y := 13) (c := 67) (As := [.long v13]) (rest := []) hr rfl rfl rfl rfl rfl rfl rfl rfl rfl rfl rfl rfl (fun rv s14 hq => ev_kV hq (fun e9 hr => ?_))
  subst e9
  refine ev_st (st' := []) rfl ?_
  refine ev_seg 3 (k' := 22) (L' := [(2, .long v13), (0, .ref 67), (1, .int x1)]) (st' := [.int 1, .long v13, .ref 67]) rfl ?_
  refine ev_callV (q' := q_274) (x := 274) (y := 13) (c := 67) (As := [.long v13, .int 1]) (rest := []) hr rfl rfl rfl rfl rfl rfl rfl rfl rfl rfl rfl rfl (fun rv s15 hq => ev_kV hq (fun e9 hr => ?_))
  subst e9
  refine ev_st (st' := []) rfl ?_
  exact ev_vret hr rfl rfl
set_option maxRecDepth 20000 in
theorem eMo_tellRecord (d : Nat) (t1 : Nat) (x2 : Int32) (t3 : Nat) (x4 : Int32) (s : aT) (ht1 : isT t1) (ht3 : isT t3) : ∀ r, (ldI 140 s (t3 + 12) x4 (fun v1 => fMo_tellRecord_8 (d + 1) t1 x2 t3 (gI s 67 31) v1 s)) = some r → fMo_tellRecord (d + 1) t1 x2 t3 x4 s = some r := by
  intro r hr
  show ev (d + 1) q_281 0 [(0, .ref 67), (1, .ref t1), (2, .int x2), (3, .ref t3), (4, .int x4)] [] s = some r
  refine ev_seg 4 (k' := 4) (L' := [(5, .int (gI s 67 31)), (0, .ref 67), (1, .ref t1), (2, .int x2), (3, .ref t3), (4, .int x4)]) (st' := [.ref t3]) rfl ?_
  refine ev_getR (c := t3) (v := t3 + 12) rfl (isT_sh ht3) rfl (isT_r12 ht3) ?_
  refine ev_seg 1 (k' := 6) (L' := [(5, .int (gI s 67 31)), (0, .ref 67), (1, .ref t1), (2, .int x2), (3, .ref t3), (4, .int x4)]) (st' := [.int x4, .ref (t3 + 12)]) rfl ?_
  refine ev_ldI hr rfl (isT_a12 ht3) (fun v1 hr => ?_)
  refine ev_seg 1 (k' := 8) (L' := [(6, .int v1), (5, .int (gI s 67 31)), (0, .ref 67), (1, .ref t1), (2, .int x2), (3, .ref t3), (4, .int x4)]) (st' := []) rfl ?_
  refine ev_join (L' := [(0, .ref 67), (1, .ref t1), (2, .int x2), (3, .ref t3), (5, .int (gI s 67 31)), (6, .int v1)]) [2, 3, 4, 5, 1, 0] [6, 5, 0, 1, 2, 3, 4] [0, 1, 2, 3, 5, 6] rfl rfl (by decide) (by decide) rfl ?_
  exact hr
set_option maxRecDepth 20000 in
theorem eMo_tellRecord_8 (d : Nat) (t1 : Nat) (x2 : Int32) (t3 : Nat) (z5 : Int32) (z6 : Int32) (s : aT) (ht1 : isT t1) (ht3 : isT t3) : ∀ r, (if z6 < 0 then wI s 67 31 z5 (fun s1 => cG (fMo_skip d t1 x2 s1) (kV fun s2 => rV s2)) else cG (fMo_fieldLike d t1 x2 t3 z6 s) (kI fun v4 s3 => if v4 < 0 then ldI 2200 s3 (t3 + 17) z6 (fun v5 => if v5 < 0 then cG (fMo_unresolved d s3) (kV fun s6 => fMo_tellRecord_74 (d + 1) t1 x2 t3 z5 z6 s6) else ldI 2200 s3 (t3 + 17) z6 (fun v7 => ldI 2200 s3 (t3 + 15) z6 (fun v8 => cG (fMo_tellDefault d t3 v7 v8 s3) (kV fun s9 => fMo_tellRecord_74 (d + 1) t1 x2 t3 z5 z6 s9)))) else wI s3 67 31 z5 (fun s10 => ldI 140 s10 (t1 + 12) x2 (fun v11 => fMo_tellRecord_26 (d + 1) t1 x2 t3 z5 z6 v4 v11 s10)))) = some r → fMo_tellRecord_8 (d + 1) t1 x2 t3 z5 z6 s = some r := by
  intro r hr
  show ev (d + 1) q_281 8 [(0, .ref 67), (1, .ref t1), (2, .int x2), (3, .ref t3), (5, .int z5), (6, .int z6)] [] s = some r
  refine ev_seg 1 (k' := 9) (L' := [(0, .ref 67), (1, .ref t1), (2, .int x2), (3, .ref t3), (5, .int z5), (6, .int z6)]) (st' := [.int z6]) rfl ?_
  refine ev_br (P := z6 < 0) (L' := [(0, .ref 67), (1, .ref t1), (2, .int x2), (3, .ref t3), (5, .int z5), (6, .int z6)]) (st' := []) hr rfl rfl rfl (fun hr => ?_) (fun hr => ?_)
  · skip
    refine ev_seg 2 (k' := 82) (L' := [(0, .ref 67), (1, .ref t1), (2, .int x2), (3, .ref t3), (5, .int z5), (6, .int z6)]) (st' := [.int z5, .ref 67]) rfl ?_
    refine ev_putI (c := 67) hr rfl rfl rfl (fun s1 hr => ?_)
    refine ev_seg 3 (k' := 86) (L' := [(0, .ref 67), (1, .ref t1), (2, .int x2), (3, .ref t3), (5, .int z5), (6, .int z6)]) (st' := [.int x2, .ref t1, .ref 67]) rfl ?_
    refine ev_callV (q' := q_272) (x := 272) (y := 13) (c := 67) (As := [.ref t1, .int x2]) (rest := []) hr rfl rfl rfl rfl rfl rfl rfl rfl rfl rfl rfl rfl (fun rv s2 hq => ev_kV hq (fun e9 hr => ?_))
    subst e9
    refine ev_st (st' := []) rfl ?_
    exact ev_vret hr rfl rfl
  · skip
    refine ev_seg 4 (k' := 14) (L' := [(0, .ref 67), (1, .ref t1), (2, .int x2), (3, .ref t3), (5, .int z5), (6, .int z6)]) (st' := [.int z6, .ref t3, .int x2, .ref t1]) rfl ?_
    refine ev_callS (q' := q_244) (x := 244) (vs := [.ref t1, .int x2, .ref t3, .int z6]) (rest := []) hr rfl rfl rfl rfl rfl rfl rfl rfl rfl rfl (fun rv s3 hq => ev_kI hq (fun v4 e9 hr => ?_))
    subst e9
    refine ev_st (st' := [.int v4]) rfl ?_
    refine ev_seg 2 (k' := 17) (L' := [(7, .int v4), (0, .ref 67), (1, .ref t1), (2, .int x2), (3, .ref t3), (5, .int z5), (6, .int z6)]) (st' := [.int v4]) rfl ?_
    refine ev_br (P := v4 < 0) (L' := [(7, .int v4), (0, .ref 67), (1, .ref t1), (2, .int x2), (3, .ref t3), (5, .int z5), (6, .int z6)]) (st' := []) hr rfl rfl rfl (fun hr => ?_) (fun hr => ?_)
    · skip
      refine ev_seg 1 (k' := 56) (L' := [(7, .int v4), (0, .ref 67), (1, .ref t1), (2, .int x2), (3, .ref t3), (5, .int z5), (6, .int z6)]) (st' := [.ref t3]) rfl ?_
      refine ev_getR (c := t3) (v := t3 + 17) rfl (isT_sh ht3) rfl (isT_r17 ht3) ?_
      refine ev_seg 1 (k' := 58) (L' := [(7, .int v4), (0, .ref 67), (1, .ref t1), (2, .int x2), (3, .ref t3), (5, .int z5), (6, .int z6)]) (st' := [.int z6, .ref (t3 + 17)]) rfl ?_
      refine ev_ldI hr rfl (isT_a17 ht3) (fun v5 hr => ?_)
      refine ev_br (P := v5 < 0) (L' := [(7, .int v4), (0, .ref 67), (1, .ref t1), (2, .int x2), (3, .ref t3), (5, .int z5), (6, .int z6)]) (st' := []) hr rfl rfl rfl (fun hr => ?_) (fun hr => ?_)
      · skip
        refine ev_seg 1 (k' := 73) (L' := [(7, .int v4), (0, .ref 67), (1, .ref t1), (2, .int x2), (3, .ref t3), (5, .int z5), (6, .int z6)]) (st' := [.ref 67]) rfl ?_
        refine ev_callV (q' := q_278) (x := 278) (y := 13) (c := 67) (As := []) (rest := []) hr rfl rfl rfl rfl rfl rfl rfl rfl rfl rfl rfl rfl (fun rv s6 hq => ev_kV hq (fun e9 hr => ?_))
        subst e9
        refine ev_st (st' := []) rfl ?_
        refine ev_join (L' := [(0, .ref 67), (1, .ref t1), (2, .int x2), (3, .ref t3), (5, .int z5), (6, .int z6)]) [1, 2, 3, 4, 5, 6] [7, 0, 1, 2, 3, 5, 6] [0, 1, 2, 3, 5, 6] rfl rfl (by decide) (by decide) rfl ?_
        exact hr
      · skip
        refine ev_seg 3 (k' := 63) (L' := [(7, .int v4), (0, .ref 67), (1, .ref t1), (2, .int x2), (3, .ref t3), (5, .int z5), (6, .int z6)]) (st' := [.ref t3, .ref t3, .ref 67]) rfl ?_
        refine ev_getR (c := t3) (v := t3 + 17) rfl (isT_sh ht3) rfl (isT_r17 ht3) ?_
        refine ev_seg 1 (k' := 65) (L' := [(7, .int v4), (0, .ref 67), (1, .ref t1), (2, .int x2), (3, .ref t3), (5, .int z5), (6, .int z6)]) (st' := [.int z6, .ref (t3 + 17), .ref t3, .ref 67]) rfl ?_
        refine ev_ldI hr rfl (isT_a17 ht3) (fun v7 hr => ?_)
        refine ev_seg 1 (k' := 67) (L' := [(7, .int v4), (0, .ref 67), (1, .ref t1), (2, .int x2), (3, .ref t3), (5, .int z5), (6, .int z6)]) (st' := [.ref t3, .int v7, .ref t3, .ref 67]) rfl ?_
        refine ev_getR (c := t3) (v := t3 + 15) rfl (isT_sh ht3) rfl (isT_r15 ht3) ?_
        refine ev_seg 1 (k' := 69) (L' := [(7, .int v4), (0, .ref 67), (1, .ref t1), (2, .int x2), (3, .ref t3), (5, .int z5), (6, .int z6)]) (st' := [.int z6, .ref (t3 + 15), .int v7, .ref t3, .ref 67]) rfl ?_
        refine ev_ldI hr rfl (isT_a15 ht3) (fun v8 hr => ?_)
        refine ev_callV (q' := q_282) (x := 282) (y := 13) (c := 67) (As := [.ref t3, .int v7, .int v8]) (rest := []) hr rfl rfl rfl rfl rfl rfl rfl rfl rfl rfl rfl rfl (fun rv s9 hq => ev_kV hq (fun e9 hr => ?_))
        subst e9
        refine ev_st (st' := []) rfl ?_
        refine ev_seg 1 (k' := 74) (L' := [(7, .int v4), (0, .ref 67), (1, .ref t1), (2, .int x2), (3, .ref t3), (5, .int z5), (6, .int z6)]) (st' := []) rfl ?_
        refine ev_join (L' := [(0, .ref 67), (1, .ref t1), (2, .int x2), (3, .ref t3), (5, .int z5), (6, .int z6)]) [1, 2, 3, 4, 5, 6] [7, 0, 1, 2, 3, 5, 6] [0, 1, 2, 3, 5, 6] rfl rfl (by decide) (by decide) rfl ?_
        exact hr
    · skip
      refine ev_seg 2 (k' := 20) (L' := [(7, .int v4), (0, .ref 67), (1, .ref t1), (2, .int x2), (3, .ref t3), (5, .int z5), (6, .int z6)]) (st' := [.int z5, .ref 67]) rfl ?_
      refine ev_putI (c := 67) hr rfl rfl rfl (fun s10 hr => ?_)
      refine ev_seg 1 (k' := 22) (L' := [(7, .int v4), (0, .ref 67), (1, .ref t1), (2, .int x2), (3, .ref t3), (5, .int z5), (6, .int z6)]) (st' := [.ref t1]) rfl ?_
      refine ev_getR (c := t1) (v := t1 + 12) rfl (isT_sh ht1) rfl (isT_r12 ht1) ?_
      refine ev_seg 1 (k' := 24) (L' := [(7, .int v4), (0, .ref 67), (1, .ref t1), (2, .int x2), (3, .ref t3), (5, .int z5), (6, .int z6)]) (st' := [.int x2, .ref (t1 + 12)]) rfl ?_
      refine ev_ldI hr rfl (isT_a12 ht1) (fun v11 hr => ?_)
      refine ev_seg 1 (k' := 26) (L' := [(8, .int v11), (7, .int v4), (0, .ref 67), (1, .ref t1), (2, .int x2), (3, .ref t3), (5, .int z5), (6, .int z6)]) (st' := []) rfl ?_
      refine ev_join (L' := [(0, .ref 67), (1, .ref t1), (2, .int x2), (3, .ref t3), (5, .int z5), (6, .int z6), (7, .int v4), (8, .int v11)]) [2, 3, 4, 5, 6, 7, 1, 0] [8, 7, 0, 1, 2, 3, 5, 6] [0, 1, 2, 3, 5, 6, 7, 8] rfl rfl (by decide) (by decide) rfl ?_
      exact hr
set_option maxRecDepth 20000 in
theorem eMo_tellRecord_74 (d : Nat) (t1 : Nat) (x2 : Int32) (t3 : Nat) (z5 : Int32) (z6 : Int32) (s : aT) (ht1 : isT t1) (ht3 : isT t3) : ∀ r, (ldI 2200 s (t3 + 18) z6 (fun v1 => fMo_tellRecord_8 (d + 1) t1 x2 t3 z5 v1 s)) = some r → fMo_tellRecord_74 (d + 1) t1 x2 t3 z5 z6 s = some r := by
  intro r hr
  show ev (d + 1) q_281 74 [(0, .ref 67), (1, .ref t1), (2, .int x2), (3, .ref t3), (5, .int z5), (6, .int z6)] [] s = some r
  refine ev_seg 1 (k' := 75) (L' := [(0, .ref 67), (1, .ref t1), (2, .int x2), (3, .ref t3), (5, .int z5), (6, .int z6)]) (st' := [.ref t3]) rfl ?_
  refine ev_getR (c := t3) (v := t3 + 18) rfl (isT_sh ht3) rfl (isT_r18 ht3) ?_
  refine ev_seg 1 (k' := 77) (L' := [(0, .ref 67), (1, .ref t1), (2, .int x2), (3, .ref t3), (5, .int z5), (6, .int z6)]) (st' := [.int z6, .ref (t3 + 18)]) rfl ?_
  refine ev_ldI hr rfl (isT_a18 ht3) (fun v1 hr => ?_)
  refine ev_seg 2 (k' := 8) (L' := [(6, .int v1), (0, .ref 67), (1, .ref t1), (2, .int x2), (3, .ref t3), (5, .int z5)]) (st' := []) rfl ?_
  refine ev_join (L' := [(0, .ref 67), (1, .ref t1), (2, .int x2), (3, .ref t3), (5, .int z5), (6, .int v1)]) [1, 2, 3, 4, 5, 0] [6, 0, 1, 2, 3, 5] [0, 1, 2, 3, 5, 6] rfl rfl (by decide) (by decide) rfl ?_
  exact hr
set_option maxRecDepth 20000 in
theorem eMo_tellRecord_26 (d : Nat) (t1 : Nat) (x2 : Int32) (t3 : Nat) (z5 : Int32) (z6 : Int32) (z7 : Int32) (z8 : Int32) (s : aT) (ht1 : isT t1) (ht3 : isT t3) : ∀ r, (if z8 = z7 then ldI 2200 s (t1 + 15) z7 (fun v1 => ldI 2200 s (t3 + 15) z6 (fun v2 => cG (fMo_tell d t1 v1 t3 v2 s) (kV fun s3 => fMo_tellRecord_74 (d + 1) t1 x2 t3 z5 z6 s3))) else ldI 2200 s (t1 + 15) z8 (fun v4 => cG (fMo_skip d t1 v4 s) (kV fun s5 => ldI 2200 s5 (t1 + 18) z8 (fun v6 => fMo_tellRecord_26 (d + 1) t1 x2 t3 z5 z6 z7 v6 s5)))) = some r → fMo_tellRecord_26 (d + 1) t1 x2 t3 z5 z6 z7 z8 s = some r := by
  intro r hr
  show ev (d + 1) q_281 26 [(0, .ref 67), (1, .ref t1), (2, .int x2), (3, .ref t3), (5, .int z5), (6, .int z6), (7, .int z7), (8, .int z8)] [] s = some r
  refine ev_seg 2 (k' := 28) (L' := [(0, .ref 67), (1, .ref t1), (2, .int x2), (3, .ref t3), (5, .int z5), (6, .int z6), (7, .int z7), (8, .int z8)]) (st' := [.int z7, .int z8]) rfl ?_
  refine ev_br (P := z8 = z7) (L' := [(0, .ref 67), (1, .ref t1), (2, .int x2), (3, .ref t3), (5, .int z5), (6, .int z6), (7, .int z7), (8, .int z8)]) (st' := []) hr rfl rfl rfl (fun hr => ?_) (fun hr => ?_)
  · skip
    refine ev_seg 3 (k' := 45) (L' := [(0, .ref 67), (1, .ref t1), (2, .int x2), (3, .ref t3), (5, .int z5), (6, .int z6), (7, .int z7), (8, .int z8)]) (st' := [.ref t1, .ref t1, .ref 67]) rfl ?_
    refine ev_getR (c := t1) (v := t1 + 15) rfl (isT_sh ht1) rfl (isT_r15 ht1) ?_
    refine ev_seg 1 (k' := 47) (L' := [(0, .ref 67), (1, .ref t1), (2, .int x2), (3, .ref t3), (5, .int z5), (6, .int z6), (7, .int z7), (8, .int z8)]) (st' := [.int z7, .ref (t1 + 15), .ref t1, .ref 67]) rfl ?_
    refine ev_ldI hr rfl (isT_a15 ht1) (fun v1 hr => ?_)
    refine ev_seg 2 (k' := 50) (L' := [(0, .ref 67), (1, .ref t1), (2, .int x2), (3, .ref t3), (5, .int z5), (6, .int z6), (7, .int z7), (8, .int z8)]) (st' := [.ref t3, .ref t3, .int v1, .ref t1, .ref 67]) rfl ?_
    refine ev_getR (c := t3) (v := t3 + 15) rfl (isT_sh ht3) rfl (isT_r15 ht3) ?_
    refine ev_seg 1 (k' := 52) (L' := [(0, .ref 67), (1, .ref t1), (2, .int x2), (3, .ref t3), (5, .int z5), (6, .int z6), (7, .int z7), (8, .int z8)]) (st' := [.int z6, .ref (t3 + 15), .ref t3, .int v1, .ref t1, .ref 67]) rfl ?_
    refine ev_ldI hr rfl (isT_a15 ht3) (fun v2 hr => ?_)
    refine ev_callV (q' := q_277) (x := 277) (y := 13) (c := 67) (As := [.ref t1, .int v1, .ref t3, .int v2]) (rest := []) hr rfl rfl rfl rfl rfl rfl rfl rfl rfl rfl rfl rfl (fun rv s3 hq => ev_kV hq (fun e9 hr => ?_))
    subst e9
    refine ev_st (st' := []) rfl ?_
    refine ev_seg 1 (k' := 74) (L' := [(0, .ref 67), (1, .ref t1), (2, .int x2), (3, .ref t3), (5, .int z5), (6, .int z6), (7, .int z7), (8, .int z8)]) (st' := []) rfl ?_
    refine ev_join (L' := [(0, .ref 67), (1, .ref t1), (2, .int x2), (3, .ref t3), (5, .int z5), (6, .int z6)]) [0, 1, 2, 3, 4, 5] [0, 1, 2, 3, 5, 6, 7, 8] [0, 1, 2, 3, 5, 6] rfl rfl (by decide) (by decide) rfl ?_
    exact hr
  · skip
    refine ev_seg 3 (k' := 32) (L' := [(0, .ref 67), (1, .ref t1), (2, .int x2), (3, .ref t3), (5, .int z5), (6, .int z6), (7, .int z7), (8, .int z8)]) (st' := [.ref t1, .ref t1, .ref 67]) rfl ?_
    refine ev_getR (c := t1) (v := t1 + 15) rfl (isT_sh ht1) rfl (isT_r15 ht1) ?_
    refine ev_seg 1 (k' := 34) (L' := [(0, .ref 67), (1, .ref t1), (2, .int x2), (3, .ref t3), (5, .int z5), (6, .int z6), (7, .int z7), (8, .int z8)]) (st' := [.int z8, .ref (t1 + 15), .ref t1, .ref 67]) rfl ?_
    refine ev_ldI hr rfl (isT_a15 ht1) (fun v4 hr => ?_)
    refine ev_callV (q' := q_272) (x := 272) (y := 13) (c := 67) (As := [.ref t1, .int v4]) (rest := []) hr rfl rfl rfl rfl rfl rfl rfl rfl rfl rfl rfl rfl (fun rv s5 hq => ev_kV hq (fun e9 hr => ?_))
    subst e9
    refine ev_st (st' := []) rfl ?_
    refine ev_seg 1 (k' := 37) (L' := [(0, .ref 67), (1, .ref t1), (2, .int x2), (3, .ref t3), (5, .int z5), (6, .int z6), (7, .int z7), (8, .int z8)]) (st' := [.ref t1]) rfl ?_
    refine ev_getR (c := t1) (v := t1 + 18) rfl (isT_sh ht1) rfl (isT_r18 ht1) ?_
    refine ev_seg 1 (k' := 39) (L' := [(0, .ref 67), (1, .ref t1), (2, .int x2), (3, .ref t3), (5, .int z5), (6, .int z6), (7, .int z7), (8, .int z8)]) (st' := [.int z8, .ref (t1 + 18)]) rfl ?_
    refine ev_ldI hr rfl (isT_a18 ht1) (fun v6 hr => ?_)
    refine ev_seg 2 (k' := 26) (L' := [(8, .int v6), (0, .ref 67), (1, .ref t1), (2, .int x2), (3, .ref t3), (5, .int z5), (6, .int z6), (7, .int z7)]) (st' := []) rfl ?_
    refine ev_join (L' := [(0, .ref 67), (1, .ref t1), (2, .int x2), (3, .ref t3), (5, .int z5), (6, .int z6), (7, .int z7), (8, .int v6)]) [1, 2, 3, 4, 5, 6, 7, 0] [8, 0, 1, 2, 3, 5, 6, 7] [0, 1, 2, 3, 5, 6, 7, 8] rfl rfl (by decide) (by decide) rfl ?_
    exact hr
set_option maxRecDepth 20000 in
theorem eMo_tellDefault (d : Nat) (t1 : Nat) (x2 : Int32) (x3 : Int32) (s : aT) (ht1 : isT t1) : ∀ r, (ldI 140 s (t1 + 9) x3 (fun v1 => if v1 = 0 then rV s else if v1 = 1 then ldI 4200 s (t1 + 2) x2 (fun v4 => if ¬ v4 = 4 then fMo_tellDefault_16 (d + 1) 0 s else fMo_tellDefault_16 (d + 1) 1 s) else if v1 = 2 then ldL 4200 s (t1 + 4) x2 (fun v6 => cG (fMo_tellVarint d v6 s) (kV fun s7 => rV s7)) else if v1 = 3 then ldL 4200 s (t1 + 4) x2 (fun v9 => cG (fMo_tellVarint d v9 s) (kV fun s10 => rV s10)) else if v1 = 4 then ldI 4200 s (t1 + 5) x2 (fun v12 => cG (fMo_tellVarint d v12.toInt64 s) (kV fun s13 => cG (fMo_tellString d t1 x2 s13) (kV fun s14 => rV s14))) else if v1 = 5 then ldI 4200 s (t1 + 5) x2 (fun v16 => cG (fMo_tellVarint d v16.toInt64 s) (kV fun s17 => cG (fMo_tellString d t1 x2 s17) (kV fun s18 => rV s18))) else if v1 = 6 then ldI 4200 s (t1 + 6) x2 (fun v20 => if v20 < 0 then fMo_tellDefault_106 (d + 1) t1 x2 x3 s else ldI 4200 s (t1 + 5) x2 (fun v21 => cG (fMo_tellVarint d v21.toInt64 s) (kV fun s22 => fMo_tellDefault_106 (d + 1) t1 x2 x3 s22))) else if v1 = 7 then ldI 4200 s (t1 + 6) x2 (fun v24 => fMo_tellDefault_141 (d + 1) t1 x2 x3 0 v24 s) else if v1 = 8 then cG (fMo_tellVarint d 0 s) (kV fun s26 => ldI 140 s26 (t1 + 12) x3 (fun v27 => ldI 2200 s26 (t1 + 15) v27 (fun v28 => cG (fMo_tellDefault d t1 x2 v28 s26) (kV fun s29 => rV s29)))) else if v1 = 9 then cG (fMo_tellString d t1 x2 s) (kV fun s31 => rV s31) else if v1 = 10 then cN (fMt_symbol d t1 x3 t1 x2 s) (kI fun v34 s33 => cG (fMo_tellVarint d v34.toInt64 s33) (kV fun s35 => rV s35)) else if v1 = 11 then ldI 140 s (t1 + 12) x3 (fun v37 => fMo_tellDefault_71 (d + 1) t1 x2 v37 s) else ldI 4200 s (t1 + 6) x2 (fun v38 => fMo_tellDefault_141 (d + 1) t1 x2 x3 0 v38 s))) = some r → fMo_tellDefault (d + 1) t1 x2 x3 s = some r := by
  intro r hr
  show ev (d + 1) q_282 0 [(0, .ref 67), (1, .ref t1), (2, .int x2), (3, .int x3)] [] s = some r
  refine ev_seg 1 (k' := 1) (L' := [(0, .ref 67), (1, .ref t1), (2, .int x2), (3, .int x3)]) (st' := [.ref t1]) rfl ?_
  refine ev_getR (c := t1) (v := t1 + 9) rfl (isT_sh ht1) rfl (isT_r9 ht1) ?_
  refine ev_seg 1 (k' := 3) (L' := [(0, .ref 67), (1, .ref t1), (2, .int x2), (3, .int x3)]) (st' := [.int x3, .ref (t1 + 9)]) rfl ?_
  refine ev_ldI hr rfl (isT_a9 ht1) (fun v1 hr => ?_)
  refine ev_if hr (fun h2 hr => ?_) (fun h2 hr => ?_)
  · skip
    refine ev_tab (o := 62) (t := 5) rfl (by rw [h2]; rfl) rfl ?_
    refine ev_seg 1 (k' := 203) (L' := [(0, .ref 67), (1, .ref t1), (2, .int x2), (3, .int x3)]) (st' := []) rfl ?_
    exact ev_vret hr rfl rfl
  refine ev_if hr (fun h3 hr => ?_) (fun h3 hr => ?_)
  · skip
    refine ev_tab (o := 65) (t := 6) rfl (by rw [h3]; rfl) rfl ?_
    refine ev_seg 2 (k' := 8) (L' := [(0, .ref 67), (1, .ref t1), (2, .int x2), (3, .int x3)]) (st' := [.ref t1, .ref 67]) rfl ?_
    refine ev_getR (c := t1) (v := t1 + 2) rfl (isT_sh ht1) rfl (isT_r2 ht1) ?_
    refine ev_seg 1 (k' := 10) (L' := [(0, .ref 67), (1, .ref t1), (2, .int x2), (3, .int x3)]) (st' := [.int x2, .ref (t1 + 2), .ref 67]) rfl ?_
    refine ev_ldI hr rfl (isT_a2 ht1) (fun v4 hr => ?_)
    refine ev_seg 1 (k' := 12) (L' := [(0, .ref 67), (1, .ref t1), (2, .int x2), (3, .int x3)]) (st' := [.int 4, .int v4, .ref 67]) rfl ?_
    refine ev_br (P := ¬ v4 = 4) (L' := [(0, .ref 67), (1, .ref t1), (2, .int x2), (3, .int x3)]) (st' := [.ref 67]) hr rfl rfl rfl (fun hr => ?_) (fun hr => ?_)
    · skip
      refine ev_seg 1 (k' := 16) (L' := [(0, .ref 67), (1, .ref t1), (2, .int x2), (3, .int x3)]) (st' := [.int 0, .ref 67]) rfl ?_
      refine ev_join (L' := []) [] [0, 1, 2, 3] [] rfl rfl (by decide) (by decide) rfl ?_
      exact hr
    · skip
      refine ev_seg 2 (k' := 16) (L' := [(0, .ref 67), (1, .ref t1), (2, .int x2), (3, .int x3)]) (st' := [.int 1, .ref 67]) rfl ?_
      refine ev_join (L' := []) [] [0, 1, 2, 3] [] rfl rfl (by decide) (by decide) rfl ?_
      exact hr
  refine ev_if hr (fun h5 hr => ?_) (fun h5 hr => ?_)
  · skip
    refine ev_tab (o := 87) (t := 18) rfl (by rw [h5]; rfl) rfl ?_
    refine ev_seg 2 (k' := 20) (L' := [(0, .ref 67), (1, .ref t1), (2, .int x2), (3, .int x3)]) (st' := [.ref t1, .ref 67]) rfl ?_
    refine ev_getR (c := t1) (v := t1 + 4) rfl (isT_sh ht1) rfl (isT_r4 ht1) ?_
    refine ev_seg 1 (k' := 22) (L' := [(0, .ref 67), (1, .ref t1), (2, .int x2), (3, .int x3)]) (st' := [.int x2, .ref (t1 + 4), .ref 67]) rfl ?_
    refine ev_ldL hr rfl (isT_a4 ht1) (fun v6 hr => ?_)
    refine ev_callV (q' := q_279) (x := 279) (y := 13) (c := 67) (As := [.long v6]) (rest := []) hr rfl rfl rfl rfl rfl rfl rfl rfl rfl rfl rfl rfl (fun rv s7 hq => ev_kV hq (fun e9 hr => ?_))
    subst e9
    refine ev_st (st' := []) rfl ?_
    refine ev_seg 1 (k' := 203) (L' := [(0, .ref 67), (1, .ref t1), (2, .int x2), (3, .int x3)]) (st' := []) rfl ?_
    exact ev_vret hr rfl rfl
  refine ev_if hr (fun h8 hr => ?_) (fun h8 hr => ?_)
  · skip
    refine ev_tab (o := 87) (t := 18) rfl (by rw [h8]; rfl) rfl ?_
    refine ev_seg 2 (k' := 20) (L' := [(0, .ref 67), (1, .ref t1), (2, .int x2), (3, .int x3)]) (st' := [.ref t1, .ref 67]) rfl ?_
    refine ev_getR (c := t1) (v := t1 + 4) rfl (isT_sh ht1) rfl (isT_r4 ht1) ?_
    refine ev_seg 1 (k' := 22) (L' := [(0, .ref 67), (1, .ref t1), (2, .int x2), (3, .int x3)]) (st' := [.int x2, .ref (t1 + 4), .ref 67]) rfl ?_
    refine ev_ldL hr rfl (isT_a4 ht1) (fun v9 hr => ?_)
    refine ev_callV (q' := q_279) (x := 279) (y := 13) (c := 67) (As := [.long v9]) (rest := []) hr rfl rfl rfl rfl rfl rfl rfl rfl rfl rfl rfl rfl (fun rv s10 hq => ev_kV hq (fun e9 hr => ?_))
    subst e9
    refine ev_st (st' := []) rfl ?_
    refine ev_seg 1 (k' := 203) (L' := [(0, .ref 67), (1, .ref t1), (2, .int x2), (3, .int x3)]) (st' := []) rfl ?_
    exact ev_vret hr rfl rfl
  refine ev_if hr (fun h11 hr => ?_) (fun h11 hr => ?_)
  · skip
    refine ev_tab (o := 100) (t := 25) rfl (by rw [h11]; rfl) rfl ?_
    refine ev_seg 2 (k' := 27) (L' := [(0, .ref 67), (1, .ref t1), (2, .int x2), (3, .int x3)]) (st' := [.ref t1, .ref 67]) rfl ?_
    refine ev_getR (c := t1) (v := t1 + 5) rfl (isT_sh ht1) rfl (isT_r5 ht1) ?_
    refine ev_seg 1 (k' := 29) (L' := [(0, .ref 67), (1, .ref t1), (2, .int x2), (3, .int x3)]) (st' := [.int x2, .ref (t1 + 5), .ref 67]) rfl ?_
    refine ev_ldI hr rfl (isT_a5 ht1) (fun v12 hr => ?_)
    refine ev_seg 1 (k' := 31) (L' := [(0, .ref 67), (1, .ref t1), (2, .int x2), (3, .int x3)]) (st' := [.long v12.toInt64, .ref 67]) rfl ?_
    refine ev_callV (q' := q_279) (x := 279) (y := 13) (c := 67) (As := [.long v12.toInt64]) (rest := []) hr rfl rfl rfl rfl rfl rfl rfl rfl rfl rfl rfl rfl (fun rv s13 hq => ev_kV hq (fun e9 hr => ?_))
    subst e9
    refine ev_st (st' := []) rfl ?_
    refine ev_seg 3 (k' := 35) (L' := [(0, .ref 67), (1, .ref t1), (2, .int x2), (3, .int x3)]) (st' := [.int x2, .ref t1, .ref 67]) rfl ?_
    refine ev_callV (q' := q_283) (x := 283) (y := 13) (c := 67) (As := [.ref t1, .int x2]) (rest := []) hr rfl rfl rfl rfl rfl rfl rfl rfl rfl rfl rfl rfl (fun rv s14 hq => ev_kV hq (fun e9 hr => ?_))
    subst e9
    refine ev_st (st' := []) rfl ?_
    refine ev_seg 1 (k' := 203) (L' := [(0, .ref 67), (1, .ref t1), (2, .int x2), (3, .int x3)]) (st' := []) rfl ?_
    exact ev_vret hr rfl rfl
  refine ev_if hr (fun h15 hr => ?_) (fun h15 hr => ?_)
  · skip
    refine ev_tab (o := 100) (t := 25) rfl (by rw [h15]; rfl) rfl ?_
    refine ev_seg 2 (k' := 27) (L' := [(0, .ref 67), (1, .ref t1), (2, .int x2), (3, .int x3)]) (st' := [.ref t1, .ref 67]) rfl ?_
    refine ev_getR (c := t1) (v := t1 + 5) rfl (isT_sh ht1) rfl (isT_r5 ht1) ?_
    refine ev_seg 1 (k' := 29) (L' := [(0, .ref 67), (1, .ref t1), (2, .int x2), (3, .int x3)]) (st' := [.int x2, .ref (t1 + 5), .ref 67]) rfl ?_
    refine ev_ldI hr rfl (isT_a5 ht1) (fun v16 hr => ?_)
    refine ev_seg 1 (k' := 31) (L' := [(0, .ref 67), (1, .ref t1), (2, .int x2), (3, .int x3)]) (st' := [.long v16.toInt64, .ref 67]) rfl ?_
    refine ev_callV (q' := q_279) (x := 279) (y := 13) (c := 67) (As := [.long v16.toInt64]) (rest := []) hr rfl rfl rfl rfl rfl rfl rfl rfl rfl rfl rfl rfl (fun rv s17 hq => ev_kV hq (fun e9 hr => ?_))
    subst e9
    refine ev_st (st' := []) rfl ?_
    refine ev_seg 3 (k' := 35) (L' := [(0, .ref 67), (1, .ref t1), (2, .int x2), (3, .int x3)]) (st' := [.int x2, .ref t1, .ref 67]) rfl ?_
    refine ev_callV (q' := q_283) (x := 283) (y := 13) (c := 67) (As := [.ref t1, .int x2]) (rest := []) hr rfl rfl rfl rfl rfl rfl rfl rfl rfl rfl rfl rfl (fun rv s18 hq => ev_kV hq (fun e9 hr => ?_))
    subst e9
    refine ev_st (st' := []) rfl ?_
    refine ev_seg 1 (k' := 203) (L' := [(0, .ref 67), (1, .ref t1), (2, .int x2), (3, .int x3)]) (st' := []) rfl ?_
    exact ev_vret hr rfl rfl
  refine ev_if hr (fun h19 hr => ?_) (fun h19 hr => ?_)
  · skip
    refine ev_tab (o := 221) (t := 94) rfl (by rw [h19]; rfl) rfl ?_
    refine ev_seg 1 (k' := 95) (L' := [(0, .ref 67), (1, .ref t1), (2, .int x2), (3, .int x3)]) (st' := [.ref t1]) rfl ?_
    refine ev_getR (c := t1) (v := t1 + 6) rfl (isT_sh ht1) rfl (isT_r6 ht1) ?_
    refine ev_seg 1 (k' := 97) (L' := [(0, .ref 67), (1, .ref t1), (2, .int x2), (3, .int x3)]) (st' := [.int x2, .ref (t1 + 6)]) rfl ?_
    refine ev_ldI hr rfl (isT_a6 ht1) (fun v20 hr => ?_)
    refine ev_br (P := v20 < 0) (L' := [(0, .ref 67), (1, .ref t1), (2, .int x2), (3, .int x3)]) (st' := []) hr rfl rfl rfl (fun hr => ?_) (fun hr => ?_)
    · skip
      exact hr
    · skip
      refine ev_seg 2 (k' := 101) (L' := [(0, .ref 67), (1, .ref t1), (2, .int x2), (3, .int x3)]) (st' := [.ref t1, .ref 67]) rfl ?_
      refine ev_getR (c := t1) (v := t1 + 5) rfl (isT_sh ht1) rfl (isT_r5 ht1) ?_
      refine ev_seg 1 (k' := 103) (L' := [(0, .ref 67), (1, .ref t1), (2, .int x2), (3, .int x3)]) (st' := [.int x2, .ref (t1 + 5), .ref 67]) rfl ?_
      refine ev_ldI hr rfl (isT_a5 ht1) (fun v21 hr => ?_)
      refine ev_seg 1 (k' := 105) (L' := [(0, .ref 67), (1, .ref t1), (2, .int x2), (3, .int x3)]) (st' := [.long v21.toInt64, .ref 67]) rfl ?_
      refine ev_callV (q' := q_279) (x := 279) (y := 13) (c := 67) (As := [.long v21.toInt64]) (rest := []) hr rfl rfl rfl rfl rfl rfl rfl rfl rfl rfl rfl rfl (fun rv s22 hq => ev_kV hq (fun e9 hr => ?_))
      subst e9
      refine ev_st (st' := []) rfl ?_
      exact hr
  refine ev_if hr (fun h23 hr => ?_) (fun h23 hr => ?_)
  · skip
    refine ev_tab (o := 292) (t := 134) rfl (by rw [h23]; rfl) rfl ?_
    refine ev_seg 3 (k' := 137) (L' := [(4, .int 0), (0, .ref 67), (1, .ref t1), (2, .int x2), (3, .int x3)]) (st' := [.ref t1]) rfl ?_
    refine ev_getR (c := t1) (v := t1 + 6) rfl (isT_sh ht1) rfl (isT_r6 ht1) ?_
    refine ev_seg 1 (k' := 139) (L' := [(4, .int 0), (0, .ref 67), (1, .ref t1), (2, .int x2), (3, .int x3)]) (st' := [.int x2, .ref (t1 + 6)]) rfl ?_
    refine ev_ldI hr rfl (isT_a6 ht1) (fun v24 hr => ?_)
    refine ev_seg 1 (k' := 141) (L' := [(5, .int v24), (4, .int 0), (0, .ref 67), (1, .ref t1), (2, .int x2), (3, .int x3)]) (st' := []) rfl ?_
    refine ev_join (L' := [(0, .ref 67), (1, .ref t1), (2, .int x2), (3, .int x3), (4, .int 0), (5, .int v24)]) [2, 3, 4, 5, 1, 0] [5, 4, 0, 1, 2, 3] [0, 1, 2, 3, 4, 5] rfl rfl (by decide) (by decide) rfl ?_
    exact hr
  refine ev_if hr (fun h25 hr => ?_) (fun h25 hr => ?_)
  · skip
    refine ev_tab (o := 144) (t := 51) rfl (by rw [h25]; rfl) rfl ?_
    refine ev_seg 2 (k' := 53) (L' := [(0, .ref 67), (1, .ref t1), (2, .int x2), (3, .int x3)]) (st' := [.long 0, .ref 67]) rfl ?_
    refine ev_callV (q' := q_279) (x := 279) (y := 13) (c := 67) (As := [.long 0]) (rest := []) hr rfl rfl rfl rfl rfl rfl rfl rfl rfl rfl rfl rfl (fun rv s26 hq => ev_kV hq (fun e9 hr => ?_))
    subst e9
    refine ev_st (st' := []) rfl ?_
    refine ev_seg 4 (k' := 58) (L' := [(0, .ref 67), (1, .ref t1), (2, .int x2), (3, .int x3)]) (st' := [.ref t1, .int x2, .ref t1, .ref 67]) rfl ?_
    refine ev_getR (c := t1) (v := t1 + 15) rfl (isT_sh ht1) rfl (isT_r15 ht1) ?_
    refine ev_seg 1 (k' := 60) (L' := [(0, .ref 67), (1, .ref t1), (2, .int x2), (3, .int x3)]) (st' := [.ref t1, .ref (t1 + 15), .int x2, .ref t1, .ref 67]) rfl ?_
    refine ev_getR (c := t1) (v := t1 + 12) rfl (isT_sh ht1) rfl (isT_r12 ht1) ?_
    refine ev_seg 1 (k' := 62) (L' := [(0, .ref 67), (1, .ref t1), (2, .int x2), (3, .int x3)]) (st' := [.int x3, .ref (t1 + 12), .ref (t1 + 15), .int x2, .ref t1, .ref 67]) rfl ?_
    refine ev_ldI hr rfl (isT_a12 ht1) (fun v27 hr => ?_)
    refine ev_ldI hr rfl (isT_a15 ht1) (fun v28 hr => ?_)
    refine ev_callV (q' := q_282) (x := 282) (y := 13) (c := 67) (As := [.ref t1, .int x2, .int v28]) (rest := []) hr rfl rfl rfl rfl rfl rfl rfl rfl rfl rfl rfl rfl (fun rv s29 hq => ev_kV hq (fun e9 hr => ?_))
    subst e9
    refine ev_st (st' := []) rfl ?_
    refine ev_seg 1 (k' := 203) (L' := [(0, .ref 67), (1, .ref t1), (2, .int x2), (3, .int x3)]) (st' := []) rfl ?_
    exact ev_vret hr rfl rfl
  refine ev_if hr (fun h30 hr => ?_) (fun h30 hr => ?_)
  · skip
    refine ev_tab (o := 120) (t := 37) rfl (by rw [h30]; rfl) rfl ?_
    refine ev_seg 3 (k' := 40) (L' := [(0, .ref 67), (1, .ref t1), (2, .int x2), (3, .int x3)]) (st' := [.int x2, .ref t1, .ref 67]) rfl ?_
    refine ev_callV (q' := q_283) (x := 283) (y := 13) (c := 67) (As := [.ref t1, .int x2]) (rest := []) hr rfl rfl rfl rfl rfl rfl rfl rfl rfl rfl rfl rfl (fun rv s31 hq => ev_kV hq (fun e9 hr => ?_))
    subst e9
    refine ev_st (st' := []) rfl ?_
    refine ev_seg 1 (k' := 203) (L' := [(0, .ref 67), (1, .ref t1), (2, .int x2), (3, .int x3)]) (st' := []) rfl ?_
    exact ev_vret hr rfl rfl
  refine ev_if hr (fun h32 hr => ?_) (fun h32 hr => ?_)
  · skip
    refine ev_tab (o := 129) (t := 42) rfl (by rw [h32]; rfl) rfl ?_
    refine ev_seg 5 (k' := 47) (L' := [(0, .ref 67), (1, .ref t1), (2, .int x2), (3, .int x3)]) (st' := [.int x2, .ref t1, .int x3, .ref t1, .ref 67]) rfl ?_
    refine ev_callN (q' := q_223) (x := 223) (y := 112) (c := t1) (As := [.int x3, .ref t1, .int x2]) (rest := [.ref 67]) hr rfl rfl rfl rfl rfl rfl (isT_sh ht1) rfl rfl (fun rv s33 hq => ev_kI hq (fun v34 e9 hr => ?_))
    subst e9
    refine ev_st (st' := [.int v34, .ref 67]) rfl ?_
    refine ev_seg 1 (k' := 49) (L' := [(0, .ref 67), (1, .ref t1), (2, .int x2), (3, .int x3)]) (st' := [.long v34.toInt64, .ref 67]) rfl ?_
    refine ev_callV (q' := q_279) (x := 279) (y := 13) (c := 67) (As := [.long v34.toInt64]) (rest := []) hr rfl rfl rfl rfl rfl rfl rfl rfl rfl rfl rfl rfl (fun rv s35 hq => ev_kV hq (fun e9 hr => ?_))
    subst e9
    refine ev_st (st' := []) rfl ?_
    refine ev_seg 1 (k' := 203) (L' := [(0, .ref 67), (1, .ref t1), (2, .int x2), (3, .int x3)]) (st' := []) rfl ?_
    exact ev_vret hr rfl rfl
  refine ev_if hr (fun h36 hr => ?_) (fun h36 hr => ?_)
  · skip
    refine ev_tab (o := 169) (t := 66) rfl (by rw [h36]; rfl) rfl ?_
    refine ev_seg 1 (k' := 67) (L' := [(0, .ref 67), (1, .ref t1), (2, .int x2), (3, .int x3)]) (st' := [.ref t1]) rfl ?_
    refine ev_getR (c := t1) (v := t1 + 12) rfl (isT_sh ht1) rfl (isT_r12 ht1) ?_
    refine ev_seg 1 (k' := 69) (L' := [(0, .ref 67), (1, .ref t1), (2, .int x2), (3, .int x3)]) (st' := [.int x3, .ref (t1 + 12)]) rfl ?_
    refine ev_ldI hr rfl (isT_a12 ht1) (fun v37 hr => ?_)
    refine ev_seg 1 (k' := 71) (L' := [(4, .int v37), (0, .ref 67), (1, .ref t1), (2, .int x2), (3, .int x3)]) (st' := []) rfl ?_
    refine ev_join (L' := [(0, .ref 67), (1, .ref t1), (2, .int x2), (4, .int v37)]) [1, 2, 3, 0] [4, 0, 1, 2, 3] [0, 1, 2, 4] rfl rfl (by decide) (by decide) rfl ?_
    exact hr
  refine ev_tab (o := 292) (t := 134) rfl (tab_in (by have e0 := i_neL (z := 0) (w := 0) rfl h2; have e1 := i_neL (z := 1) (w := 1) rfl h3; have e2 := i_neL (z := 2) (w := 2) rfl h5; have e3 := i_neL (z := 3) (w := 3) rfl h8; have e4 := i_neL (z := 4) (w := 4) rfl h11; have e5 := i_neL (z := 5) (w := 5) rfl h15; have e6 := i_neL (z := 6) (w := 6) rfl h19; have e7 := i_neL (z := 7) (w := 7) rfl h23; have e8 := i_neL (z := 8) (w := 8) rfl h25; have e9 := i_neL (z := 9) (w := 9) rfl h30; have e10 := i_neL (z := 10) (w := 10) rfl h32; have e11 := i_neL (z := 11) (w := 11) rfl h36; omega)) rfl ?_
  refine ev_seg 3 (k' := 137) (L' := [(4, .int 0), (0, .ref 67), (1, .ref t1), (2, .int x2), (3, .int x3)]) (st' := [.ref t1]) rfl ?_
  refine ev_getR (c := t1) (v := t1 + 6) rfl (isT_sh ht1) rfl (isT_r6 ht1) ?_
  refine ev_seg 1 (k' := 139) (L' := [(4, .int 0), (0, .ref 67), (1, .ref t1), (2, .int x2), (3, .int x3)]) (st' := [.int x2, .ref (t1 + 6)]) rfl ?_
  refine ev_ldI hr rfl (isT_a6 ht1) (fun v38 hr => ?_)
  refine ev_seg 1 (k' := 141) (L' := [(5, .int v38), (4, .int 0), (0, .ref 67), (1, .ref t1), (2, .int x2), (3, .int x3)]) (st' := []) rfl ?_
  refine ev_join (L' := [(0, .ref 67), (1, .ref t1), (2, .int x2), (3, .int x3), (4, .int 0), (5, .int v38)]) [2, 3, 4, 5, 1, 0] [5, 4, 0, 1, 2, 3] [0, 1, 2, 3, 4, 5] rfl rfl (by decide) (by decide) rfl ?_
  exact hr
set_option maxRecDepth 20000 in
theorem eMo_tellDefault_16 (d : Nat) (u0 : Int32) (s : aT) : ∀ r, (cG (fMo_tellByte d u0 s) (kV fun s1 => rV s1)) = some r → fMo_tellDefault_16 (d + 1) u0 s = some r := by
  intro r hr
  show ev (d + 1) q_282 16 [] [.int u0, .ref 67] s = some r
  refine ev_callV (q' := q_275) (x := 275) (y := 13) (c := 67) (As := [.int u0]) (rest := []) hr rfl rfl rfl rfl rfl rfl rfl rfl rfl rfl rfl rfl (fun rv s1 hq => ev_kV hq (fun e9 hr => ?_))
  subst e9
  refine ev_st (st' := []) rfl ?_
  refine ev_seg 1 (k' := 203) (L' := []) (st' := []) rfl ?_
  exact ev_vret hr rfl rfl
set_option maxRecDepth 20000 in
theorem eMo_tellDefault_106 (d : Nat) (t1 : Nat) (x2 : Int32) (x3 : Int32) (s : aT) (ht1 : isT t1) : ∀ r, (ldI 4200 s (t1 + 6) x2 (fun v1 => fMo_tellDefault_111 (d + 1) t1 x3 v1 s)) = some r → fMo_tellDefault_106 (d + 1) t1 x2 x3 s = some r := by
  intro r hr
  show ev (d + 1) q_282 106 [(0, .ref 67), (1, .ref t1), (2, .int x2), (3, .int x3)] [] s = some r
  refine ev_seg 1 (k' := 107) (L' := [(0, .ref 67), (1, .ref t1), (2, .int x2), (3, .int x3)]) (st' := [.ref t1]) rfl ?_
  refine ev_getR (c := t1) (v := t1 + 6) rfl (isT_sh ht1) rfl (isT_r6 ht1) ?_
  refine ev_seg 1 (k' := 109) (L' := [(0, .ref 67), (1, .ref t1), (2, .int x2), (3, .int x3)]) (st' := [.int x2, .ref (t1 + 6)]) rfl ?_
  refine ev_ldI hr rfl (isT_a6 ht1) (fun v1 hr => ?_)
  refine ev_seg 1 (k' := 111) (L' := [(4, .int v1), (0, .ref 67), (1, .ref t1), (2, .int x2), (3, .int x3)]) (st' := []) rfl ?_
  refine ev_join (L' := [(0, .ref 67), (1, .ref t1), (3, .int x3), (4, .int v1)]) [1, 2, 4, 0] [4, 0, 1, 2, 3] [0, 1, 3, 4] rfl rfl (by decide) (by decide) rfl ?_
  exact hr
set_option maxRecDepth 20000 in
theorem eMo_tellDefault_141 (d : Nat) (t1 : Nat) (x2 : Int32) (x3 : Int32) (z4 : Int32) (z5 : Int32) (s : aT) (ht1 : isT t1) : ∀ r, (if z5 < 0 then if z4 ≤ 0 then fMo_tellDefault_159 (d + 1) t1 x2 x3 s else cG (fMo_tellVarint d z4.toInt64 s) (kV fun s1 => fMo_tellDefault_159 (d + 1) t1 x2 x3 s1) else ldI 4200 s (t1 + 7) z5 (fun v2 => ldI 4200 s (t1 + 7) v2 (fun v3 => fMo_tellDefault_141 (d + 1) t1 x2 x3 (z4 + 1) v3 s))) = some r → fMo_tellDefault_141 (d + 1) t1 x2 x3 z4 z5 s = some r := by
  intro r hr
  show ev (d + 1) q_282 141 [(0, .ref 67), (1, .ref t1), (2, .int x2), (3, .int x3), (4, .int z4), (5, .int z5)] [] s = some r
  refine ev_seg 1 (k' := 142) (L' := [(0, .ref 67), (1, .ref t1), (2, .int x2), (3, .int x3), (4, .int z4), (5, .int z5)]) (st' := [.int z5]) rfl ?_
  refine ev_br (P := z5 < 0) (L' := [(0, .ref 67), (1, .ref t1), (2, .int x2), (3, .int x3), (4, .int z4), (5, .int z5)]) (st' := []) hr rfl rfl rfl (fun hr => ?_) (fun hr => ?_)
  · skip
    refine ev_seg 1 (k' := 154) (L' := [(0, .ref 67), (1, .ref t1), (2, .int x2), (3, .int x3), (4, .int z4), (5, .int z5)]) (st' := [.int z4]) rfl ?_
    refine ev_br (P := z4 ≤ 0) (L' := [(0, .ref 67), (1, .ref t1), (2, .int x2), (3, .int x3), (4, .int z4), (5, .int z5)]) (st' := []) hr rfl rfl rfl (fun hr => ?_) (fun hr => ?_)
    · skip
      refine ev_join (L' := [(0, .ref 67), (1, .ref t1), (2, .int x2), (3, .int x3)]) [0, 1, 2, 3] [0, 1, 2, 3, 4, 5] [0, 1, 2, 3] rfl rfl (by decide) (by decide) rfl ?_
      exact hr
    · skip
      refine ev_seg 3 (k' := 158) (L' := [(0, .ref 67), (1, .ref t1), (2, .int x2), (3, .int x3), (4, .int z4), (5, .int z5)]) (st' := [.long z4.toInt64, .ref 67]) rfl ?_
      refine ev_callV (q' := q_279) (x := 279) (y := 13) (c := 67) (As := [.long z4.toInt64]) (rest := []) hr rfl rfl rfl rfl rfl rfl rfl rfl rfl rfl rfl rfl (fun rv s1 hq => ev_kV hq (fun e9 hr => ?_))
      subst e9
      refine ev_st (st' := []) rfl ?_
      refine ev_join (L' := [(0, .ref 67), (1, .ref t1), (2, .int x2), (3, .int x3)]) [0, 1, 2, 3] [0, 1, 2, 3, 4, 5] [0, 1, 2, 3] rfl rfl (by decide) (by decide) rfl ?_
      exact hr
  · skip
    refine ev_seg 2 (k' := 145) (L' := [(4, .int (z4 + 1)), (0, .ref 67), (1, .ref t1), (2, .int x2), (3, .int x3), (5, .int z5)]) (st' := [.ref t1]) rfl ?_
    refine ev_getR (c := t1) (v := t1 + 7) rfl (isT_sh ht1) rfl (isT_r7 ht1) ?_
    refine ev_seg 1 (k' := 147) (L' := [(4, .int (z4 + 1)), (0, .ref 67), (1, .ref t1), (2, .int x2), (3, .int x3), (5, .int z5)]) (st' := [.ref t1, .ref (t1 + 7)]) rfl ?_
    refine ev_getR (c := t1) (v := t1 + 7) rfl (isT_sh ht1) rfl (isT_r7 ht1) ?_
    refine ev_seg 1 (k' := 149) (L' := [(4, .int (z4 + 1)), (0, .ref 67), (1, .ref t1), (2, .int x2), (3, .int x3), (5, .int z5)]) (st' := [.int z5, .ref (t1 + 7), .ref (t1 + 7)]) rfl ?_
    refine ev_ldI hr rfl (isT_a7 ht1) (fun v2 hr => ?_)
    refine ev_ldI hr rfl (isT_a7 ht1) (fun v3 hr => ?_)
    refine ev_seg 2 (k' := 141) (L' := [(5, .int v3), (4, .int (z4 + 1)), (0, .ref 67), (1, .ref t1), (2, .int x2), (3, .int x3)]) (st' := []) rfl ?_
    refine ev_join (L' := [(0, .ref 67), (1, .ref t1), (2, .int x2), (3, .int x3), (4, .int (z4 + 1)), (5, .int v3)]) [2, 3, 4, 5, 1, 0] [5, 4, 0, 1, 2, 3] [0, 1, 2, 3, 4, 5] rfl rfl (by decide) (by decide) rfl ?_
    exact hr
set_option maxRecDepth 20000 in
theorem eMo_tellDefault_71 (d : Nat) (t1 : Nat) (x2 : Int32) (z4 : Int32) (s : aT) (ht1 : isT t1) : ∀ r, (if z4 < 0 then rV s else ldI 2200 s (t1 + 16) z4 (fun v1 => cN (fMt_memberLike d t1 x2 v1 s) (kI fun v3 s2 => ldI 2200 s2 (t1 + 15) z4 (fun v4 => cG (fMo_tellDefault d t1 v3 v4 s2) (kV fun s5 => ldI 2200 s5 (t1 + 18) z4 (fun v6 => fMo_tellDefault_71 (d + 1) t1 x2 v6 s5)))))) = some r → fMo_tellDefault_71 (d + 1) t1 x2 z4 s = some r := by
  intro r hr
  show ev (d + 1) q_282 71 [(0, .ref 67), (1, .ref t1), (2, .int x2), (4, .int z4)] [] s = some r
  refine ev_seg 1 (k' := 72) (L' := [(0, .ref 67), (1, .ref t1), (2, .int x2), (4, .int z4)]) (st' := [.int z4]) rfl ?_
  refine ev_br (P := z4 < 0) (L' := [(0, .ref 67), (1, .ref t1), (2, .int x2), (4, .int z4)]) (st' := []) hr rfl rfl rfl (fun hr => ?_) (fun hr => ?_)
  · skip
    refine ev_seg 1 (k' := 203) (L' := [(0, .ref 67), (1, .ref t1), (2, .int x2), (4, .int z4)]) (st' := []) rfl ?_
    exact ev_vret hr rfl rfl
  · skip
    refine ev_seg 5 (k' := 78) (L' := [(0, .ref 67), (1, .ref t1), (2, .int x2), (4, .int z4)]) (st' := [.ref t1, .int x2, .ref t1, .ref t1, .ref 67]) rfl ?_
    refine ev_getR (c := t1) (v := t1 + 16) rfl (isT_sh ht1) rfl (isT_r16 ht1) ?_
    refine ev_seg 1 (k' := 80) (L' := [(0, .ref 67), (1, .ref t1), (2, .int x2), (4, .int z4)]) (st' := [.int z4, .ref (t1 + 16), .int x2, .ref t1, .ref t1, .ref 67]) rfl ?_
    refine ev_ldI hr rfl (isT_a16 ht1) (fun v1 hr => ?_)
    refine ev_callN (q' := q_226) (x := 226) (y := 112) (c := t1) (As := [.int x2, .int v1]) (rest := [.ref t1, .ref 67]) hr rfl rfl rfl rfl rfl rfl (isT_sh ht1) rfl rfl (fun rv s2 hq => ev_kI hq (fun v3 e9 hr => ?_))
    subst e9
    refine ev_st (st' := [.int v3, .ref t1, .ref 67]) rfl ?_
    refine ev_seg 1 (k' := 83) (L' := [(0, .ref 67), (1, .ref t1), (2, .int x2), (4, .int z4)]) (st' := [.ref t1, .int v3, .ref t1, .ref 67]) rfl ?_
    refine ev_getR (c := t1) (v := t1 + 15) rfl (isT_sh ht1) rfl (isT_r15 ht1) ?_
    refine ev_seg 1 (k' := 85) (L' := [(0, .ref 67), (1, .ref t1), (2, .int x2), (4, .int z4)]) (st' := [.int z4, .ref (t1 + 15), .int v3, .ref t1, .ref 67]) rfl ?_
    refine ev_ldI hr rfl (isT_a15 ht1) (fun v4 hr => ?_)
    refine ev_callV (q' := q_282) (x := 282) (y := 13) (c := 67) (As := [.ref t1, .int v3, .int v4]) (rest := []) hr rfl rfl rfl rfl rfl rfl rfl rfl rfl rfl rfl rfl (fun rv s5 hq => ev_kV hq (fun e9 hr => ?_))
    subst e9
    refine ev_st (st' := []) rfl ?_
    refine ev_seg 1 (k' := 88) (L' := [(0, .ref 67), (1, .ref t1), (2, .int x2), (4, .int z4)]) (st' := [.ref t1]) rfl ?_
    refine ev_getR (c := t1) (v := t1 + 18) rfl (isT_sh ht1) rfl (isT_r18 ht1) ?_
    refine ev_seg 1 (k' := 90) (L' := [(0, .ref 67), (1, .ref t1), (2, .int x2), (4, .int z4)]) (st' := [.int z4, .ref (t1 + 18)]) rfl ?_
    refine ev_ldI hr rfl (isT_a18 ht1) (fun v6 hr => ?_)
    refine ev_seg 2 (k' := 71) (L' := [(4, .int v6), (0, .ref 67), (1, .ref t1), (2, .int x2)]) (st' := []) rfl ?_
    refine ev_join (L' := [(0, .ref 67), (1, .ref t1), (2, .int x2), (4, .int v6)]) [1, 2, 3, 0] [4, 0, 1, 2] [0, 1, 2, 4] rfl rfl (by decide) (by decide) rfl ?_
    exact hr
set_option maxRecDepth 20000 in
theorem eMo_tellDefault_111 (d : Nat) (t1 : Nat) (x3 : Int32) (z4 : Int32) (s : aT) (ht1 : isT t1) : ∀ r, (if z4 < 0 then cG (fMo_tellVarint d 0 s) (kV fun s1 => rV s1) else ldI 140 s (t1 + 12) x3 (fun v2 => ldI 2200 s (t1 + 15) v2 (fun v3 => cG (fMo_tellDefault d t1 z4 v3 s) (kV fun s4 => ldI 4200 s4 (t1 + 7) z4 (fun v5 => fMo_tellDefault_111 (d + 1) t1 x3 v5 s4))))) = some r → fMo_tellDefault_111 (d + 1) t1 x3 z4 s = some r := by
  intro r hr
  show ev (d + 1) q_282 111 [(0, .ref 67), (1, .ref t1), (3, .int x3), (4, .int z4)] [] s = some r
  refine ev_seg 1 (k' := 112) (L' := [(0, .ref 67), (1, .ref t1), (3, .int x3), (4, .int z4)]) (st' := [.int z4]) rfl ?_
  refine ev_br (P := z4 < 0) (L' := [(0, .ref 67), (1, .ref t1), (3, .int x3), (4, .int z4)]) (st' := []) hr rfl rfl rfl (fun hr => ?_) (fun hr => ?_)
  · skip
    refine ev_seg 2 (k' := 132) (L' := [(0, .ref 67), (1, .ref t1), (3, .int x3), (4, .int z4)]) (st' := [.long 0, .ref 67]) rfl ?_
    refine ev_callV (q' := q_279) (x := 279) (y := 13) (c := 67) (As := [.long 0]) (rest := []) hr rfl rfl rfl rfl rfl rfl rfl rfl rfl rfl rfl rfl (fun rv s1 hq => ev_kV hq (fun e9 hr => ?_))
    subst e9
    refine ev_st (st' := []) rfl ?_
    refine ev_seg 1 (k' := 203) (L' := [(0, .ref 67), (1, .ref t1), (3, .int x3), (4, .int z4)]) (st' := []) rfl ?_
    exact ev_vret hr rfl rfl
  · skip
    refine ev_seg 4 (k' := 117) (L' := [(0, .ref 67), (1, .ref t1), (3, .int x3), (4, .int z4)]) (st' := [.ref t1, .int z4, .ref t1, .ref 67]) rfl ?_
    refine ev_getR (c := t1) (v := t1 + 15) rfl (isT_sh ht1) rfl (isT_r15 ht1) ?_
    refine ev_seg 1 (k' := 119) (L' := [(0, .ref 67), (1, .ref t1), (3, .int x3), (4, .int z4)]) (st' := [.ref t1, .ref (t1 + 15), .int z4, .ref t1, .ref 67]) rfl ?_
    refine ev_getR (c := t1) (v := t1 + 12) rfl (isT_sh ht1) rfl (isT_r12 ht1) ?_
    refine ev_seg 1 (k' := 121) (L' := [(0, .ref 67), (1, .ref t1), (3, .int x3), (4, .int z4)]) (st' := [.int x3, .ref (t1 + 12), .ref (t1 + 15), .int z4, .ref t1, .ref 67]) rfl ?_
    refine ev_ldI hr rfl (isT_a12 ht1) (fun v2 hr => ?_)
    refine ev_ldI hr rfl (isT_a15 ht1) (fun v3 hr => ?_)
    refine ev_callV (q' := q_282) (x := 282) (y := 13) (c := 67) (As := [.ref t1, .int z4, .int v3]) (rest := []) hr rfl rfl rfl rfl rfl rfl rfl rfl rfl rfl rfl rfl (fun rv s4 hq => ev_kV hq (fun e9 hr => ?_))
    subst e9
    refine ev_st (st' := []) rfl ?_
    refine ev_seg 1 (k' := 125) (L' := [(0, .ref 67), (1, .ref t1), (3, .int x3), (4, .int z4)]) (st' := [.ref t1]) rfl ?_
    refine ev_getR (c := t1) (v := t1 + 7) rfl (isT_sh ht1) rfl (isT_r7 ht1) ?_
    refine ev_seg 1 (k' := 127) (L' := [(0, .ref 67), (1, .ref t1), (3, .int x3), (4, .int z4)]) (st' := [.int z4, .ref (t1 + 7)]) rfl ?_
    refine ev_ldI hr rfl (isT_a7 ht1) (fun v5 hr => ?_)
    refine ev_seg 2 (k' := 111) (L' := [(4, .int v5), (0, .ref 67), (1, .ref t1), (3, .int x3)]) (st' := []) rfl ?_
    refine ev_join (L' := [(0, .ref 67), (1, .ref t1), (3, .int x3), (4, .int v5)]) [1, 2, 3, 0] [4, 0, 1, 3] [0, 1, 3, 4] rfl rfl (by decide) (by decide) rfl ?_
    exact hr
set_option maxRecDepth 20000 in
theorem eMo_tellDefault_159 (d : Nat) (t1 : Nat) (x2 : Int32) (x3 : Int32) (s : aT) (ht1 : isT t1) : ∀ r, (ldI 4200 s (t1 + 6) x2 (fun v1 => fMo_tellDefault_164 (d + 1) t1 x3 v1 s)) = some r → fMo_tellDefault_159 (d + 1) t1 x2 x3 s = some r := by
  intro r hr
  show ev (d + 1) q_282 159 [(0, .ref 67), (1, .ref t1), (2, .int x2), (3, .int x3)] [] s = some r
  refine ev_seg 1 (k' := 160) (L' := [(0, .ref 67), (1, .ref t1), (2, .int x2), (3, .int x3)]) (st' := [.ref t1]) rfl ?_
  refine ev_getR (c := t1) (v := t1 + 6) rfl (isT_sh ht1) rfl (isT_r6 ht1) ?_
  refine ev_seg 1 (k' := 162) (L' := [(0, .ref 67), (1, .ref t1), (2, .int x2), (3, .int x3)]) (st' := [.int x2, .ref (t1 + 6)]) rfl ?_
  refine ev_ldI hr rfl (isT_a6 ht1) (fun v1 hr => ?_)
  refine ev_seg 1 (k' := 164) (L' := [(5, .int v1), (0, .ref 67), (1, .ref t1), (2, .int x2), (3, .int x3)]) (st' := []) rfl ?_
  refine ev_join (L' := [(0, .ref 67), (1, .ref t1), (3, .int x3), (5, .int v1)]) [1, 2, 4, 0] [5, 0, 1, 2, 3] [0, 1, 3, 5] rfl rfl (by decide) (by decide) rfl ?_
  exact hr
set_option maxRecDepth 20000 in
theorem eMo_tellDefault_164 (d : Nat) (t1 : Nat) (x3 : Int32) (z5 : Int32) (s : aT) (ht1 : isT t1) : ∀ r, (if z5 < 0 then cG (fMo_tellVarint d 0 s) (kV fun s1 => rV s1) else ldI 4200 s (t1 + 5) z5 (fun v2 => cG (fMo_tellVarint d v2.toInt64 s) (kV fun s3 => cG (fMo_tellString d t1 z5 s3) (kV fun s4 => ldI 4200 s4 (t1 + 7) z5 (fun v5 => ldI 140 s4 (t1 + 12) x3 (fun v6 => ldI 2200 s4 (t1 + 15) v6 (fun v7 => cG (fMo_tellDefault d t1 v5 v7 s4) (kV fun s8 => ldI 4200 s8 (t1 + 7) z5 (fun v9 => ldI 4200 s8 (t1 + 7) v9 (fun v10 => fMo_tellDefault_164 (d + 1) t1 x3 v10 s8)))))))))) = some r → fMo_tellDefault_164 (d + 1) t1 x3 z5 s = some r := by
  intro r hr
  show ev (d + 1) q_282 164 [(0, .ref 67), (1, .ref t1), (3, .int x3), (5, .int z5)] [] s = some r
  refine ev_seg 1 (k' := 165) (L' := [(0, .ref 67), (1, .ref t1), (3, .int x3), (5, .int z5)]) (st' := [.int z5]) rfl ?_
  refine ev_br (P := z5 < 0) (L' := [(0, .ref 67), (1, .ref t1), (3, .int x3), (5, .int z5)]) (st' := []) hr rfl rfl rfl (fun hr => ?_) (fun hr => ?_)
  · skip
    refine ev_seg 2 (k' := 202) (L' := [(0, .ref 67), (1, .ref t1), (3, .int x3), (5, .int z5)]) (st' := [.long 0, .ref 67]) rfl ?_
    refine ev_callV (q' := q_279) (x := 279) (y := 13) (c := 67) (As := [.long 0]) (rest := []) hr rfl rfl rfl rfl rfl rfl rfl rfl rfl rfl rfl rfl (fun rv s1 hq => ev_kV hq (fun e9 hr => ?_))
    subst e9
    refine ev_st (st' := []) rfl ?_
    exact ev_vret hr rfl rfl
  · skip
    refine ev_seg 2 (k' := 168) (L' := [(0, .ref 67), (1, .ref t1), (3, .int x3), (5, .int z5)]) (st' := [.ref t1, .ref 67]) rfl ?_
    refine ev_getR (c := t1) (v := t1 + 5) rfl (isT_sh ht1) rfl (isT_r5 ht1) ?_
    refine ev_seg 1 (k' := 170) (L' := [(0, .ref 67), (1, .ref t1), (3, .int x3), (5, .int z5)]) (st' := [.int z5, .ref (t1 + 5), .ref 67]) rfl ?_
    refine ev_ldI hr rfl (isT_a5 ht1) (fun v2 hr => ?_)
    refine ev_seg 1 (k' := 172) (L' := [(0, .ref 67), (1, .ref t1), (3, .int x3), (5, .int z5)]) (st' := [.long v2.toInt64, .ref 67]) rfl ?_
    refine ev_callV (q' := q_279) (x := 279) (y := 13) (c := 67) (As := [.long v2.toInt64]) (rest := []) hr rfl rfl rfl rfl rfl rfl rfl rfl rfl rfl rfl rfl (fun rv s3 hq => ev_kV hq (fun e9 hr => ?_))
    subst e9
    refine ev_st (st' := []) rfl ?_
    refine ev_seg 3 (k' := 176) (L' := [(0, .ref 67), (1, .ref t1), (3, .int x3), (5, .int z5)]) (st' := [.int z5, .ref t1, .ref 67]) rfl ?_
    refine ev_callV (q' := q_283) (x := 283) (y := 13) (c := 67) (As := [.ref t1, .int z5]) (rest := []) hr rfl rfl rfl rfl rfl rfl rfl rfl rfl rfl rfl rfl (fun rv s4 hq => ev_kV hq (fun e9 hr => ?_))
    subst e9
    refine ev_st (st' := []) rfl ?_
    refine ev_seg 3 (k' := 180) (L' := [(0, .ref 67), (1, .ref t1), (3, .int x3), (5, .int z5)]) (st' := [.ref t1, .ref t1, .ref 67]) rfl ?_
    refine ev_getR (c := t1) (v := t1 + 7) rfl (isT_sh ht1) rfl (isT_r7 ht1) ?_
    refine ev_seg 1 (k' := 182) (L' := [(0, .ref 67), (1, .ref t1), (3, .int x3), (5, .int z5)]) (st' := [.int z5, .ref (t1 + 7), .ref t1, .ref 67]) rfl ?_
    refine ev_ldI hr rfl (isT_a7 ht1) (fun v5 hr => ?_)
    refine ev_seg 1 (k' := 184) (L' := [(0, .ref 67), (1, .ref t1), (3, .int x3), (5, .int z5)]) (st' := [.ref t1, .int v5, .ref t1, .ref 67]) rfl ?_
    refine ev_getR (c := t1) (v := t1 + 15) rfl (isT_sh ht1) rfl (isT_r15 ht1) ?_
    refine ev_seg 1 (k' := 186) (L' := [(0, .ref 67), (1, .ref t1), (3, .int x3), (5, .int z5)]) (st' := [.ref t1, .ref (t1 + 15), .int v5, .ref t1, .ref 67]) rfl ?_
    refine ev_getR (c := t1) (v := t1 + 12) rfl (isT_sh ht1) rfl (isT_r12 ht1) ?_
    refine ev_seg 1 (k' := 188) (L' := [(0, .ref 67), (1, .ref t1), (3, .int x3), (5, .int z5)]) (st' := [.int x3, .ref (t1 + 12), .ref (t1 + 15), .int v5, .ref t1, .ref 67]) rfl ?_
    refine ev_ldI hr rfl (isT_a12 ht1) (fun v6 hr => ?_)
    refine ev_ldI hr rfl (isT_a15 ht1) (fun v7 hr => ?_)
    refine ev_callV (q' := q_282) (x := 282) (y := 13) (c := 67) (As := [.ref t1, .int v5, .int v7]) (rest := []) hr rfl rfl rfl rfl rfl rfl rfl rfl rfl rfl rfl rfl (fun rv s8 hq => ev_kV hq (fun e9 hr => ?_))
    subst e9
    refine ev_st (st' := []) rfl ?_
    refine ev_seg 1 (k' := 192) (L' := [(0, .ref 67), (1, .ref t1), (3, .int x3), (5, .int z5)]) (st' := [.ref t1]) rfl ?_
    refine ev_getR (c := t1) (v := t1 + 7) rfl (isT_sh ht1) rfl (isT_r7 ht1) ?_
    refine ev_seg 1 (k' := 194) (L' := [(0, .ref 67), (1, .ref t1), (3, .int x3), (5, .int z5)]) (st' := [.ref t1, .ref (t1 + 7)]) rfl ?_
    refine ev_getR (c := t1) (v := t1 + 7) rfl (isT_sh ht1) rfl (isT_r7 ht1) ?_
    refine ev_seg 1 (k' := 196) (L' := [(0, .ref 67), (1, .ref t1), (3, .int x3), (5, .int z5)]) (st' := [.int z5, .ref (t1 + 7), .ref (t1 + 7)]) rfl ?_
    refine ev_ldI hr rfl (isT_a7 ht1) (fun v9 hr => ?_)
    refine ev_ldI hr rfl (isT_a7 ht1) (fun v10 hr => ?_)
    refine ev_seg 2 (k' := 164) (L' := [(5, .int v10), (0, .ref 67), (1, .ref t1), (3, .int x3)]) (st' := []) rfl ?_
    refine ev_join (L' := [(0, .ref 67), (1, .ref t1), (3, .int x3), (5, .int v10)]) [1, 2, 3, 0] [5, 0, 1, 3] [0, 1, 3, 5] rfl rfl (by decide) (by decide) rfl ?_
    exact hr
set_option maxRecDepth 20000 in
theorem eMo_tellString (d : Nat) (t1 : Nat) (x2 : Int32) (s : aT) (ht1 : isT t1) : ∀ r, (fMo_tellString_2 (d + 1) t1 x2 0 s) = some r → fMo_tellString (d + 1) t1 x2 s = some r := by
  intro r hr
  show ev (d + 1) q_283 0 [(0, .ref 67), (1, .ref t1), (2, .int x2)] [] s = some r
  refine ev_seg 2 (k' := 2) (L' := [(3, .int 0), (0, .ref 67), (1, .ref t1), (2, .int x2)]) (st' := []) rfl ?_
  refine ev_join (L' := [(0, .ref 67), (1, .ref t1), (2, .int x2), (3, .int 0)]) [1, 2, 3, 0] [3, 0, 1, 2] [0, 1, 2, 3] rfl rfl (by decide) (by decide) rfl ?_
  exact hr
set_option maxRecDepth 20000 in
theorem eMo_tellString_2 (d : Nat) (t1 : Nat) (x2 : Int32) (z3 : Int32) (s : aT) (ht1 : isT t1) : ∀ r, (ldI 4200 s (t1 + 5) x2 (fun v1 => if v1 ≤ z3 then rV s else ldL 4200 s (t1 + 4) x2 (fun v2 => ldI 4200 s (t1 + 8) (v2.toInt32 + z3) (fun v3 => cG (fMo_tellByte d v3 s) (kV fun s4 => fMo_tellString_2 (d + 1) t1 x2 (z3 + 1) s4))))) = some r → fMo_tellString_2 (d + 1) t1 x2 z3 s = some r := by
  intro r hr
  show ev (d + 1) q_283 2 [(0, .ref 67), (1, .ref t1), (2, .int x2), (3, .int z3)] [] s = some r
  refine ev_seg 2 (k' := 4) (L' := [(0, .ref 67), (1, .ref t1), (2, .int x2), (3, .int z3)]) (st' := [.ref t1, .int z3]) rfl ?_
  refine ev_getR (c := t1) (v := t1 + 5) rfl (isT_sh ht1) rfl (isT_r5 ht1) ?_
  refine ev_seg 1 (k' := 6) (L' := [(0, .ref 67), (1, .ref t1), (2, .int x2), (3, .int z3)]) (st' := [.int x2, .ref (t1 + 5), .int z3]) rfl ?_
  refine ev_ldI hr rfl (isT_a5 ht1) (fun v1 hr => ?_)
  refine ev_br (P := v1 ≤ z3) (L' := [(0, .ref 67), (1, .ref t1), (2, .int x2), (3, .int z3)]) (st' := []) hr rfl rfl rfl (fun hr => ?_) (fun hr => ?_)
  · skip
    exact ev_vret hr rfl rfl
  · skip
    refine ev_seg 2 (k' := 10) (L' := [(0, .ref 67), (1, .ref t1), (2, .int x2), (3, .int z3)]) (st' := [.ref t1, .ref 67]) rfl ?_
    refine ev_getR (c := t1) (v := t1 + 8) rfl (isT_sh ht1) rfl (isT_r8 ht1) ?_
    refine ev_seg 1 (k' := 12) (L' := [(0, .ref 67), (1, .ref t1), (2, .int x2), (3, .int z3)]) (st' := [.ref t1, .ref (t1 + 8), .ref 67]) rfl ?_
    refine ev_getR (c := t1) (v := t1 + 4) rfl (isT_sh ht1) rfl (isT_r4 ht1) ?_
    refine ev_seg 1 (k' := 14) (L' := [(0, .ref 67), (1, .ref t1), (2, .int x2), (3, .int z3)]) (st' := [.int x2, .ref (t1 + 4), .ref (t1 + 8), .ref 67]) rfl ?_
    refine ev_ldL hr rfl (isT_a4 ht1) (fun v2 hr => ?_)
    refine ev_seg 3 (k' := 18) (L' := [(0, .ref 67), (1, .ref t1), (2, .int x2), (3, .int z3)]) (st' := [.int (v2.toInt32 + z3), .ref (t1 + 8), .ref 67]) rfl ?_
    refine ev_ldB hr rfl (isT_a8 ht1) (fun v3 hr => ?_)
    refine ev_callV (q' := q_275) (x := 275) (y := 13) (c := 67) (As := [.int v3]) (rest := []) hr rfl rfl rfl rfl rfl rfl rfl rfl rfl rfl rfl rfl (fun rv s4 hq => ev_kV hq (fun e9 hr => ?_))
    subst e9
    refine ev_st (st' := []) rfl ?_
    refine ev_seg 2 (k' := 2) (L' := [(3, .int (z3 + 1)), (0, .ref 67), (1, .ref t1), (2, .int x2)]) (st' := []) rfl ?_
    refine ev_join (L' := [(0, .ref 67), (1, .ref t1), (2, .int x2), (3, .int (z3 + 1))]) [1, 2, 3, 0] [3, 0, 1, 2] [0, 1, 2, 3] rfl rfl (by decide) (by decide) rfl ?_
    exact hr
set_option maxRecDepth 20000 in
theorem eMo_copy (d : Nat) (x1 : Int32) (x2 : Int32) (x3 : Int32) (s : aT) : ∀ r, (cG (fMo_isSubject d x1 s) (kI fun v2 s1 => if v2 = 0 then fMo_copy_14 (d + 1) x1 x2 x3 s1 else cG (fMo_isSubject d x2 s1) (kI fun v4 s3 => if v4 = 0 then fMo_copy_14 (d + 1) x1 x2 x3 s3 else if ¬ gI s3 67 11 = 0 then fMo_copy_16 (d + 1) x1 x2 x3 s3 else cG (fMo_isVersion d x2 x3 s3) (kI fun v6 s5 => if ¬ v6 = 0 then fMo_copy_16 (d + 1) x1 x2 x3 s5 else fMo_copy_14 (d + 1) x1 x2 x3 s5)))) = some r → fMo_copy (d + 1) x1 x2 x3 s = some r := by
  intro r hr
  show ev (d + 1) q_284 0 [(0, .ref 67), (1, .int x1), (2, .int x2), (3, .int x3)] [] s = some r
  refine ev_seg 1 (k' := 1) (L' := [(0, .ref 67), (1, .int x1), (2, .int x2), (3, .int x3)]) (st' := [.int x1]) rfl ?_
  refine ev_callS (q' := q_233) (x := 233) (vs := [.int x1]) (rest := []) hr rfl rfl rfl rfl rfl rfl rfl rfl rfl rfl (fun rv s1 hq => ev_kI hq (fun v2 e9 hr => ?_))
  subst e9
  refine ev_st (st' := [.int v2]) rfl ?_
  refine ev_br (P := v2 = 0) (L' := [(0, .ref 67), (1, .int x1), (2, .int x2), (3, .int x3)]) (st' := []) hr rfl rfl rfl (fun hr => ?_) (fun hr => ?_)
  · skip
    exact hr
  · skip
    refine ev_seg 1 (k' := 4) (L' := [(0, .ref 67), (1, .int x1), (2, .int x2), (3, .int x3)]) (st' := [.int x2]) rfl ?_
    refine ev_callS (q' := q_233) (x := 233) (vs := [.int x2]) (rest := []) hr rfl rfl rfl rfl rfl rfl rfl rfl rfl rfl (fun rv s3 hq => ev_kI hq (fun v4 e9 hr => ?_))
    subst e9
    refine ev_st (st' := [.int v4]) rfl ?_
    refine ev_br (P := v4 = 0) (L' := [(0, .ref 67), (1, .int x1), (2, .int x2), (3, .int x3)]) (st' := []) hr rfl rfl rfl (fun hr => ?_) (fun hr => ?_)
    · skip
      exact hr
    · skip
      refine ev_seg 2 (k' := 8) (L' := [(0, .ref 67), (1, .int x1), (2, .int x2), (3, .int x3)]) (st' := [.int (gI s3 67 11)]) rfl ?_
      refine ev_br (P := ¬ gI s3 67 11 = 0) (L' := [(0, .ref 67), (1, .int x1), (2, .int x2), (3, .int x3)]) (st' := []) hr rfl rfl rfl (fun hr => ?_) (fun hr => ?_)
      · skip
        exact hr
      · skip
        refine ev_seg 3 (k' := 12) (L' := [(0, .ref 67), (1, .int x1), (2, .int x2), (3, .int x3)]) (st' := [.int x3, .int x2, .ref 67]) rfl ?_
        refine ev_callV (q' := q_250) (x := 250) (y := 13) (c := 67) (As := [.int x2, .int x3]) (rest := []) hr rfl rfl rfl rfl rfl rfl rfl rfl rfl rfl rfl rfl (fun rv s5 hq => ev_kI hq (fun v6 e9 hr => ?_))
        subst e9
        refine ev_st (st' := [.int v6]) rfl ?_
        refine ev_br (P := ¬ v6 = 0) (L' := [(0, .ref 67), (1, .int x1), (2, .int x2), (3, .int x3)]) (st' := []) hr rfl rfl rfl (fun hr => ?_) (fun hr => ?_)
        · skip
          exact hr
        · skip
          exact hr
set_option maxRecDepth 20000 in
theorem eMo_copy_14 (d : Nat) (x1 : Int32) (x2 : Int32) (x3 : Int32) (s : aT) : ∀ r, (fMo_copy_17 (d + 1) x1 x2 x3 1 s) = some r → fMo_copy_14 (d + 1) x1 x2 x3 s = some r := by
  intro r hr
  show ev (d + 1) q_284 14 [(0, .ref 67), (1, .int x1), (2, .int x2), (3, .int x3)] [] s = some r
  refine ev_seg 2 (k' := 17) (L' := [(0, .ref 67), (1, .int x1), (2, .int x2), (3, .int x3)]) (st' := [.int 1]) rfl ?_
  exact hr
set_option maxRecDepth 20000 in
theorem eMo_copy_16 (d : Nat) (x1 : Int32) (x2 : Int32) (x3 : Int32) (s : aT) : ∀ r, (fMo_copy_17 (d + 1) x1 x2 x3 0 s) = some r → fMo_copy_16 (d + 1) x1 x2 x3 s = some r := by
  intro r hr
  show ev (d + 1) q_284 16 [(0, .ref 67), (1, .int x1), (2, .int x2), (3, .int x3)] [] s = some r
  refine ev_seg 1 (k' := 17) (L' := [(0, .ref 67), (1, .int x1), (2, .int x2), (3, .int x3)]) (st' := [.int 0]) rfl ?_
  exact hr
