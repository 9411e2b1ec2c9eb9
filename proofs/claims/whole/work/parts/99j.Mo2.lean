/-! RecordLakeModel: what its pieces do -/
set_option maxRecDepth 20000 in
theorem eMo_insert_33 (d : Nat) (x1 : Int32) (x2 : Int32) (z3 : Int32) (s : aT) : ∀ r, (wI s 67 22 x1 (fun s1 => cG (fMo_putVarint d x2.toInt64 s1) (kV fun s2 => wI s2 67 22 ((gI s 67 22) + z3) (fun s3 => rV s3)))) = some r → fMo_insert_33 (d + 1) x1 x2 z3 s = some r := by
  intro r hr
  show ev (d + 1) q_264 33 [(0, .ref 67), (1, .int x1), (2, .int x2), (3, .int z3)] [] s = some r
  refine ev_seg 5 (k' := 38) (L' := [(4, .int (gI s 67 22)), (0, .ref 67), (1, .int x1), (2, .int x2), (3, .int z3)]) (st' := [.int x1, .ref 67]) rfl ?_
  refine ev_putI (c := 67) hr rfl rfl rfl (fun s1 hr => ?_)
  refine ev_seg 3 (k' := 42) (L' := [(4, .int (gI s 67 22)), (0, .ref 67), (1, .int x1), (2, .int x2), (3, .int z3)]) (st' := [.long x2.toInt64, .ref 67]) rfl ?_
  refine ev_callV (q' := q_258) (x := 258) (y := 13) (c := 67) (As := [.long x2.toInt64]) (rest := []) hr rfl rfl rfl rfl rfl rfl rfl rfl rfl rfl rfl rfl (fun rv s2 hq => ev_kV hq (fun e9 hr => ?_))
  subst e9
  refine ev_st (st' := []) rfl ?_
  refine ev_seg 4 (k' := 47) (L' := [(4, .int (gI s 67 22)), (0, .ref 67), (1, .int x1), (2, .int x2), (3, .int z3)]) (st' := [.int ((gI s 67 22) + z3), .ref 67]) rfl ?_
  refine ev_putI (c := 67) hr rfl rfl rfl (fun s3 hr => ?_)
  exact ev_vret hr rfl rfl
set_option maxRecDepth 20000 in
theorem eMo_varintSize (d : Nat) (y0 : Int64) (s : aT) : ∀ r, (fMo_varintSize_10 d ((y0 <<< ((1 : Int32).toInt64 &&& 63)) ^^^ (y0 >>> ((63 : Int32).toInt64 &&& 63))) 1 s) = some r → fMo_varintSize d y0 s = some r := by
  intro r hr
  show ev d q_265 0 [(0, .long y0)] [] s = some r
  refine ev_seg 10 (k' := 10) (L' := [(4, .int 1), (2, .long ((y0 <<< ((1 : Int32).toInt64 &&& 63)) ^^^ (y0 >>> ((63 : Int32).toInt64 &&& 63)))), (0, .long y0)]) (st' := []) rfl ?_
  refine ev_join (L' := [(2, .long ((y0 <<< ((1 : Int32).toInt64 &&& 63)) ^^^ (y0 >>> ((63 : Int32).toInt64 &&& 63)))), (4, .int 1)]) [1, 0] [4, 2, 0] [2, 4] rfl rfl (by decide) (by decide) rfl ?_
  exact hr
set_option maxRecDepth 20000 in
theorem eMo_varintSize_10 (d : Nat) (l2 : Int64) (z4 : Int32) (s : aT) : ∀ r, (if aLcmp ((l2.toUInt64 >>> ((7 : Int32).toInt64.toUInt64 &&& Int64.toUInt64 63)).toInt64) 0 = 0 then rI z4 s else fMo_varintSize_10 d ((l2.toUInt64 >>> ((7 : Int32).toInt64.toUInt64 &&& Int64.toUInt64 63)).toInt64) (z4 + 1) s) = some r → fMo_varintSize_10 d l2 z4 s = some r := by
  intro r hr
  show ev d q_265 10 [(2, .long l2), (4, .int z4)] [] s = some r
  refine ev_seg 5 (k' := 15) (L' := [(2, .long l2), (4, .int z4)]) (st' := [.int (aLcmp ((l2.toUInt64 >>> ((7 : Int32).toInt64.toUInt64 &&& Int64.toUInt64 63)).toInt64) 0)]) rfl ?_
  refine ev_br (P := aLcmp ((l2.toUInt64 >>> ((7 : Int32).toInt64.toUInt64 &&& Int64.toUInt64 63)).toInt64) 0 = 0) (L' := [(2, .long l2), (4, .int z4)]) (st' := []) hr rfl rfl rfl (fun hr => ?_) (fun hr => ?_)
  · skip
    refine ev_seg 1 (k' := 23) (L' := [(2, .long l2), (4, .int z4)]) (st' := [.int z4]) rfl ?_
    exact ev_iret hr rfl rfl rfl
  · skip
    refine ev_seg 6 (k' := 10) (L' := [(4, .int (z4 + 1)), (2, .long ((l2.toUInt64 >>> ((7 : Int32).toInt64.toUInt64 &&& Int64.toUInt64 63)).toInt64))]) (st' := []) rfl ?_
    refine ev_join (L' := [(2, .long ((l2.toUInt64 >>> ((7 : Int32).toInt64.toUInt64 &&& Int64.toUInt64 63)).toInt64)), (4, .int (z4 + 1))]) [1, 0] [4, 2] [2, 4] rfl rfl (by decide) (by decide) rfl ?_
    exact hr
set_option maxRecDepth 20000 in
theorem eMo_place (d : Nat) (s : aT) : ∀ r, (wI s 67 0 0 (fun s1 => rI (gI s1 67 3) s1)) = some r → fMo_place d s = some r := by
  intro r hr
  show ev d q_266 0 [(0, .ref 67)] [] s = some r
  refine ev_seg 2 (k' := 2) (L' := [(0, .ref 67)]) (st' := [.int 0, .ref 67]) rfl ?_
  refine ev_putI (c := 67) hr rfl rfl rfl (fun s1 hr => ?_)
  refine ev_seg 2 (k' := 5) (L' := [(0, .ref 67)]) (st' := [.int (gI s1 67 3)]) rfl ?_
  exact ev_iret hr rfl rfl rfl
set_option maxRecDepth 20000 in
theorem eMo_load (d : Nat) (x1 : Int32) (x2 : Int32) (s : aT) : ∀ r, (cG (fMo_isSubject d x1 s) (kI fun v2 s1 => if v2 = 0 then fMo_load_12 (d + 1) x1 x2 s1 else if ¬ gI s1 67 11 = 0 then fMo_load_14 (d + 1) x1 x2 s1 else cG (fMo_isVersion d x1 x2 s1) (kI fun v4 s3 => if ¬ v4 = 0 then fMo_load_14 (d + 1) x1 x2 s3 else fMo_load_12 (d + 1) x1 x2 s3))) = some r → fMo_load (d + 1) x1 x2 s = some r := by
  intro r hr
  show ev (d + 1) q_267 0 [(0, .ref 67), (1, .int x1), (2, .int x2)] [] s = some r
  refine ev_seg 2 (k' := 2) (L' := [(0, .ref 67), (1, .int x1), (2, .int x2)]) (st' := [.int x1, .ref 67]) rfl ?_
  refine ev_callS (q' := q_233) (x := 233) (vs := [.int x1]) (rest := [.ref 67]) hr rfl rfl rfl rfl rfl rfl rfl rfl rfl rfl (fun rv s1 hq => ev_kI hq (fun v2 e9 hr => ?_))
  subst e9
  refine ev_st (st' := [.int v2, .ref 67]) rfl ?_
  refine ev_br (P := v2 = 0) (L' := [(0, .ref 67), (1, .int x1), (2, .int x2)]) (st' := [.ref 67]) hr rfl rfl rfl (fun hr => ?_) (fun hr => ?_)
  · skip
    exact hr
  · skip
    refine ev_seg 2 (k' := 6) (L' := [(0, .ref 67), (1, .int x1), (2, .int x2)]) (st' := [.int (gI s1 67 11), .ref 67]) rfl ?_
    refine ev_br (P := ¬ gI s1 67 11 = 0) (L' := [(0, .ref 67), (1, .int x1), (2, .int x2)]) (st' := [.ref 67]) hr rfl rfl rfl (fun hr => ?_) (fun hr => ?_)
    · skip
      exact hr
    · skip
      refine ev_seg 3 (k' := 10) (L' := [(0, .ref 67), (1, .int x1), (2, .int x2)]) (st' := [.int x2, .int x1, .ref 67, .ref 67]) rfl ?_
      refine ev_callV (q' := q_250) (x := 250) (y := 13) (c := 67) (As := [.int x1, .int x2]) (rest := [.ref 67]) hr rfl rfl rfl rfl rfl rfl rfl rfl rfl rfl rfl rfl (fun rv s3 hq => ev_kI hq (fun v4 e9 hr => ?_))
      subst e9
      refine ev_st (st' := [.int v4, .ref 67]) rfl ?_
      refine ev_br (P := ¬ v4 = 0) (L' := [(0, .ref 67), (1, .int x1), (2, .int x2)]) (st' := [.ref 67]) hr rfl rfl rfl (fun hr => ?_) (fun hr => ?_)
      · skip
        exact hr
      · skip
        exact hr
set_option maxRecDepth 20000 in
theorem eMo_load_12 (d : Nat) (x1 : Int32) (x2 : Int32) (s : aT) : ∀ r, (fMo_load_15 (d + 1) x1 x2 1 s) = some r → fMo_load_12 (d + 1) x1 x2 s = some r := by
  intro r hr
  show ev (d + 1) q_267 12 [(0, .ref 67), (1, .int x1), (2, .int x2)] [.ref 67] s = some r
  refine ev_seg 2 (k' := 15) (L' := [(0, .ref 67), (1, .int x1), (2, .int x2)]) (st' := [.int 1, .ref 67]) rfl ?_
  exact hr
set_option maxRecDepth 20000 in
theorem eMo_load_14 (d : Nat) (x1 : Int32) (x2 : Int32) (s : aT) : ∀ r, (fMo_load_15 (d + 1) x1 x2 0 s) = some r → fMo_load_14 (d + 1) x1 x2 s = some r := by
  intro r hr
  show ev (d + 1) q_267 14 [(0, .ref 67), (1, .int x1), (2, .int x2)] [.ref 67] s = some r
  refine ev_seg 1 (k' := 15) (L' := [(0, .ref 67), (1, .int x1), (2, .int x2)]) (st' := [.int 0, .ref 67]) rfl ?_
  exact hr
set_option maxRecDepth 20000 in
theorem eMo_load_15 (d : Nat) (x1 : Int32) (x2 : Int32) (u0 : Int32) (s : aT) : ∀ r, (cG (fMo_refused d u0 0 s) (kI fun v2 s1 => if v2 = 0 then if gI s1 67 11 = 0 then cG (fMo_readVersion d 91 x1 x2 s1) (kV fun s3 => cN (fMo_lookAtRows d 91 1 s3) (kI fun v5 s4 => if 1 ≤ v5 then if gI s4 67 22 ≤ 4096 then cG (fMo_wanted d v5 (gI s4 67 22) s4) (kI fun v7 s6 => fMo_load_59 (d + 1) v5 v7 x2 x1 s6) else fMo_load_59 (d + 1) v5 4097 x2 x1 s4 else if ¬ v5 = 0 then rI v5 s4 else rI (-34) s4)) else rI (-33) s1 else rI 0 s1)) = some r → fMo_load_15 (d + 1) x1 x2 u0 s = some r := by
  intro r hr
  show ev (d + 1) q_267 15 [(0, .ref 67), (1, .int x1), (2, .int x2)] [.int u0, .ref 67] s = some r
  refine ev_seg 1 (k' := 16) (L' := [(0, .ref 67), (1, .int x1), (2, .int x2)]) (st' := [.int 0, .int u0, .ref 67]) rfl ?_
  refine ev_callV (q' := q_189) (x := 189) (y := 13) (c := 67) (As := [.int u0, .int 0]) (rest := []) hr rfl rfl rfl rfl rfl rfl rfl rfl rfl rfl rfl rfl (fun rv s1 hq => ev_kI hq (fun v2 e9 hr => ?_))
  subst e9
  refine ev_st (st' := [.int v2]) rfl ?_
  refine ev_br (P := v2 = 0) (L' := [(0, .ref 67), (1, .int x1), (2, .int x2)]) (st' := []) hr rfl rfl rfl (fun hr => ?_) (fun hr => ?_)
  · skip
    refine ev_seg 2 (k' := 22) (L' := [(0, .ref 67), (1, .int x1), (2, .int x2)]) (st' := [.int (gI s1 67 11)]) rfl ?_
    refine ev_br (P := gI s1 67 11 = 0) (L' := [(0, .ref 67), (1, .int x1), (2, .int x2)]) (st' := []) hr rfl rfl rfl (fun hr => ?_) (fun hr => ?_)
    · skip
      refine ev_seg 5 (k' := 30) (L' := [(0, .ref 67), (1, .int x1), (2, .int x2)]) (st' := [.int x2, .int x1, .ref 91, .ref 67]) rfl ?_
      refine ev_callV (q' := q_235) (x := 235) (y := 13) (c := 67) (As := [.ref 91, .int x1, .int x2]) (rest := []) hr rfl rfl rfl rfl rfl rfl rfl rfl rfl rfl rfl rfl (fun rv s3 hq => ev_kV hq (fun e9 hr => ?_))
      subst e9
      refine ev_st (st' := []) rfl ?_
      refine ev_seg 4 (k' := 35) (L' := [(0, .ref 67), (1, .int x1), (2, .int x2)]) (st' := [.int 1, .ref 91, .ref 67]) rfl ?_
      refine ev_callN (q' := q_251) (x := 251) (y := 13) (c := 67) (As := [.ref 91, .int 1]) (rest := []) hr rfl rfl rfl rfl rfl rfl rfl rfl rfl (fun rv s4 hq => ev_kI hq (fun v5 e9 hr => ?_))
      subst e9
      refine ev_st (st' := [.int v5]) rfl ?_
      refine ev_seg 3 (k' := 39) (L' := [(3, .int v5), (0, .ref 67), (1, .int x1), (2, .int x2)]) (st' := [.int 1, .int v5]) rfl ?_
      refine ev_br (P := 1 ≤ v5) (L' := [(3, .int v5), (0, .ref 67), (1, .int x1), (2, .int x2)]) (st' := []) hr rfl rfl rfl (fun hr => ?_) (fun hr => ?_)
      · skip
        refine ev_seg 6 (k' := 52) (L' := [(3, .int v5), (0, .ref 67), (1, .int x1), (2, .int x2)]) (st' := [.int 4096, .int (gI s4 67 22), .int x2, .int x1, .ref 67]) rfl ?_
        refine ev_br (P := gI s4 67 22 ≤ 4096) (L' := [(3, .int v5), (0, .ref 67), (1, .int x1), (2, .int x2)]) (st' := [.int x2, .int x1, .ref 67]) hr rfl rfl rfl (fun hr => ?_) (fun hr => ?_)
        · skip
          refine ev_seg 3 (k' := 58) (L' := [(3, .int v5), (0, .ref 67), (1, .int x1), (2, .int x2)]) (st' := [.int (gI s4 67 22), .int v5, .int x2, .int x1, .ref 67]) rfl ?_
          refine ev_callS (q' := q_268) (x := 268) (vs := [.int v5, .int (gI s4 67 22)]) (rest := [.int x2, .int x1, .ref 67]) hr rfl rfl rfl rfl rfl rfl rfl rfl rfl rfl (fun rv s6 hq => ev_kI hq (fun v7 e9 hr => ?_))
          subst e9
          refine ev_st (st' := [.int v7, .int x2, .int x1, .ref 67]) rfl ?_
          refine ev_join (L' := [(0, .ref 67), (3, .int v5)]) [1, 0] [3, 0, 1, 2] [0, 3] rfl rfl (by decide) (by decide) rfl ?_
          exact hr
        · skip
          refine ev_seg 2 (k' := 59) (L' := [(3, .int v5), (0, .ref 67), (1, .int x1), (2, .int x2)]) (st' := [.int 4097, .int x2, .int x1, .ref 67]) rfl ?_
          refine ev_join (L' := [(0, .ref 67), (3, .int v5)]) [1, 0] [3, 0, 1, 2] [0, 3] rfl rfl (by decide) (by decide) rfl ?_
          exact hr
      · skip
        refine ev_seg 1 (k' := 41) (L' := [(3, .int v5), (0, .ref 67), (1, .int x1), (2, .int x2)]) (st' := [.int v5]) rfl ?_
        refine ev_br (P := ¬ v5 = 0) (L' := [(3, .int v5), (0, .ref 67), (1, .int x1), (2, .int x2)]) (st' := []) hr rfl rfl rfl (fun hr => ?_) (fun hr => ?_)
        · skip
          refine ev_seg 1 (k' := 45) (L' := [(3, .int v5), (0, .ref 67), (1, .int x1), (2, .int x2)]) (st' := [.int v5]) rfl ?_
          exact ev_iret hr rfl rfl rfl
        · skip
          refine ev_seg 2 (k' := 45) (L' := [(3, .int v5), (0, .ref 67), (1, .int x1), (2, .int x2)]) (st' := [.int (-34)]) rfl ?_
          exact ev_iret hr rfl rfl rfl
    · skip
      refine ev_seg 1 (k' := 24) (L' := [(0, .ref 67), (1, .int x1), (2, .int x2)]) (st' := [.int (-33)]) rfl ?_
      exact ev_iret hr rfl rfl rfl
  · skip
    refine ev_seg 1 (k' := 19) (L' := [(0, .ref 67), (1, .int x1), (2, .int x2)]) (st' := [.int 0]) rfl ?_
    exact ev_iret hr rfl rfl rfl
set_option maxRecDepth 20000 in
theorem eMo_load_59 (d : Nat) (z3 : Int32) (u0 : Int32) (u1 : Int32) (u2 : Int32) (s : aT) : ∀ r, (if gI s 67 22 ≤ 4096 then fMo_load_68 (d + 1) z3 (gI s 67 22) z3 u0 u1 u2 s else fMo_load_68 (d + 1) z3 0 z3 u0 u1 u2 s) = some r → fMo_load_59 (d + 1) z3 u0 u1 u2 s = some r := by
  intro r hr
  show ev (d + 1) q_267 59 [(0, .ref 67), (3, .int z3)] [.int u0, .int u1, .int u2, .ref 67] s = some r
  refine ev_seg 4 (k' := 63) (L' := [(0, .ref 67), (3, .int z3)]) (st' := [.int 4096, .int (gI s 67 22), .int z3, .int u0, .int u1, .int u2, .ref 67]) rfl ?_
  refine ev_br (P := gI s 67 22 ≤ 4096) (L' := [(0, .ref 67), (3, .int z3)]) (st' := [.int z3, .int u0, .int u1, .int u2, .ref 67]) hr rfl rfl rfl (fun hr => ?_) (fun hr => ?_)
  · skip
    refine ev_seg 2 (k' := 68) (L' := [(0, .ref 67), (3, .int z3)]) (st' := [.int (gI s 67 22), .int z3, .int u0, .int u1, .int u2, .ref 67]) rfl ?_
    exact hr
  · skip
    refine ev_seg 2 (k' := 68) (L' := [(0, .ref 67), (3, .int z3)]) (st' := [.int 0, .int z3, .int u0, .int u1, .int u2, .ref 67]) rfl ?_
    exact hr
set_option maxRecDepth 20000 in
theorem eMo_load_68 (d : Nat) (z3 : Int32) (u0 : Int32) (u1 : Int32) (u2 : Int32) (u3 : Int32) (u4 : Int32) (s : aT) : ∀ r, (cG (fMo_write d u4 u3 u2 u1 u0 144 (gI s 67 13) 0 s) (kI fun v2 s1 => if ¬ v2 = (-31) then wI s1 67 2 0 (fun s3 => if 0 ≤ v2 then rI z3 s3 else rI v2 s3) else rI (-31) s1)) = some r → fMo_load_68 (d + 1) z3 u0 u1 u2 u3 u4 s = some r := by
  intro r hr
  show ev (d + 1) q_267 68 [(0, .ref 67), (3, .int z3)] [.int u0, .int u1, .int u2, .int u3, .int u4, .ref 67] s = some r
  refine ev_seg 5 (k' := 73) (L' := [(0, .ref 67), (3, .int z3)]) (st' := [.int 0, .int (gI s 67 13), .ref 144, .int u0, .int u1, .int u2, .int u3, .int u4, .ref 67]) rfl ?_
  refine ev_callV (q' := q_245) (x := 245) (y := 13) (c := 67) (As := [.int u4, .int u3, .int u2, .int u1, .int u0, .ref 144, .int (gI s 67 13), .int 0]) (rest := []) hr rfl rfl rfl rfl rfl rfl rfl rfl rfl rfl rfl rfl (fun rv s1 hq => ev_kI hq (fun v2 e9 hr => ?_))
  subst e9
  refine ev_st (st' := [.int v2]) rfl ?_
  refine ev_seg 3 (k' := 77) (L' := [(4, .int v2), (0, .ref 67), (3, .int z3)]) (st' := [.int (-31), .int v2]) rfl ?_
  refine ev_br (P := ¬ v2 = (-31)) (L' := [(4, .int v2), (0, .ref 67), (3, .int z3)]) (st' := []) hr rfl rfl rfl (fun hr => ?_) (fun hr => ?_)
  · skip
    refine ev_seg 2 (k' := 82) (L' := [(4, .int v2), (0, .ref 67), (3, .int z3)]) (st' := [.int 0, .ref 67]) rfl ?_
    refine ev_putI (c := 67) hr rfl rfl rfl (fun s3 hr => ?_)
    refine ev_seg 1 (k' := 84) (L' := [(4, .int v2), (0, .ref 67), (3, .int z3)]) (st' := [.int v2]) rfl ?_
    refine ev_br (P := 0 ≤ v2) (L' := [(4, .int v2), (0, .ref 67), (3, .int z3)]) (st' := []) hr rfl rfl rfl (fun hr => ?_) (fun hr => ?_)
    · skip
      refine ev_seg 1 (k' := 88) (L' := [(4, .int v2), (0, .ref 67), (3, .int z3)]) (st' := [.int z3]) rfl ?_
      exact ev_iret hr rfl rfl rfl
    · skip
      refine ev_seg 2 (k' := 88) (L' := [(4, .int v2), (0, .ref 67), (3, .int z3)]) (st' := [.int v2]) rfl ?_
      exact ev_iret hr rfl rfl rfl
  · skip
    refine ev_seg 1 (k' := 79) (L' := [(4, .int v2), (0, .ref 67), (3, .int z3)]) (st' := [.int (-31)]) rfl ?_
    exact ev_iret hr rfl rfl rfl
set_option maxRecDepth 20000 in
theorem eMo_wanted (d : Nat) (x0 : Int32) (x1 : Int32) (s : aT) : ∀ r, (cG (fMo_varintSize d x0.toInt64 s) (kI fun v2 s1 => cG (fMo_varintSize d x1.toInt64 s1) (kI fun v4 s3 => rI ((((11 + v2) + v4) + x1) + 8) s3))) = some r → fMo_wanted (d + 1) x0 x1 s = some r := by
  intro r hr
  show ev (d + 1) q_268 0 [(0, .int x0), (1, .int x1)] [] s = some r
  refine ev_seg 3 (k' := 3) (L' := [(0, .int x0), (1, .int x1)]) (st' := [.long x0.toInt64, .int 11]) rfl ?_
  refine ev_callS (q' := q_265) (x := 265) (vs := [.long x0.toInt64]) (rest := [.int 11]) hr rfl rfl rfl rfl rfl rfl rfl rfl rfl rfl (fun rv s1 hq => ev_kI hq (fun v2 e9 hr => ?_))
  subst e9
  refine ev_st (st' := [.int v2, .int 11]) rfl ?_
  refine ev_seg 3 (k' := 7) (L' := [(0, .int x0), (1, .int x1)]) (st' := [.long x1.toInt64, .int (11 + v2)]) rfl ?_
  refine ev_callS (q' := q_265) (x := 265) (vs := [.long x1.toInt64]) (rest := [.int (11 + v2)]) hr rfl rfl rfl rfl rfl rfl rfl rfl rfl rfl (fun rv s3 hq => ev_kI hq (fun v4 e9 hr => ?_))
  subst e9
  refine ev_st (st' := [.int v4, .int (11 + v2)]) rfl ?_
  refine ev_seg 5 (k' := 13) (L' := [(0, .int x0), (1, .int x1)]) (st' := [.int ((((11 + v2) + v4) + x1) + 8)]) rfl ?_
  exact ev_iret hr rfl rfl rfl
set_option maxRecDepth 20000 in
theorem eMo_fits (d : Nat) (x1 : Int32) (x2 : Int32) (x3 : Int32) (x4 : Int32) (s : aT) : ∀ r, (cG (fMo_isSubject d x1 s) (kI fun v2 s1 => if v2 = 0 then fMo_fits_6 (d + 1) x1 x2 x3 x4 s1 else cG (fMo_isSubject d x3 s1) (kI fun v4 s3 => if ¬ v4 = 0 then fMo_fits_9 (d + 1) x1 x2 x3 x4 0 s3 else fMo_fits_6 (d + 1) x1 x2 x3 x4 s3))) = some r → fMo_fits (d + 1) x1 x2 x3 x4 s = some r := by
  intro r hr
  show ev (d + 1) q_269 0 [(0, .ref 67), (1, .int x1), (2, .int x2), (3, .int x3), (4, .int x4)] [] s = some r
  refine ev_seg 1 (k' := 1) (L' := [(0, .ref 67), (1, .int x1), (2, .int x2), (3, .int x3), (4, .int x4)]) (st' := [.int x1]) rfl ?_
  refine ev_callS (q' := q_233) (x := 233) (vs := [.int x1]) (rest := []) hr rfl rfl rfl rfl rfl rfl rfl rfl rfl rfl (fun rv s1 hq => ev_kI hq (fun v2 e9 hr => ?_))
  subst e9
  refine ev_st (st' := [.int v2]) rfl ?_
  refine ev_br (P := v2 = 0) (L' := [(0, .ref 67), (1, .int x1), (2, .int x2), (3, .int x3), (4, .int x4)]) (st' := []) hr rfl rfl rfl (fun hr => ?_) (fun hr => ?_)
  · skip
    exact hr
  · skip
    refine ev_seg 1 (k' := 4) (L' := [(0, .ref 67), (1, .int x1), (2, .int x2), (3, .int x3), (4, .int x4)]) (st' := [.int x3]) rfl ?_
    refine ev_callS (q' := q_233) (x := 233) (vs := [.int x3]) (rest := []) hr rfl rfl rfl rfl rfl rfl rfl rfl rfl rfl (fun rv s3 hq => ev_kI hq (fun v4 e9 hr => ?_))
    subst e9
    refine ev_st (st' := [.int v4]) rfl ?_
    refine ev_br (P := ¬ v4 = 0) (L' := [(0, .ref 67), (1, .int x1), (2, .int x2), (3, .int x3), (4, .int x4)]) (st' := []) hr rfl rfl rfl (fun hr => ?_) (fun hr => ?_)
    · skip
      refine ev_seg 1 (k' := 9) (L' := [(0, .ref 67), (1, .int x1), (2, .int x2), (3, .int x3), (4, .int x4)]) (st' := [.int 0]) rfl ?_
      exact hr
    · skip
      exact hr
set_option maxRecDepth 20000 in
theorem eMo_fits_6 (d : Nat) (x1 : Int32) (x2 : Int32) (x3 : Int32) (x4 : Int32) (s : aT) : ∀ r, (fMo_fits_9 (d + 1) x1 x2 x3 x4 1 s) = some r → fMo_fits_6 (d + 1) x1 x2 x3 x4 s = some r := by
  intro r hr
  show ev (d + 1) q_269 6 [(0, .ref 67), (1, .int x1), (2, .int x2), (3, .int x3), (4, .int x4)] [] s = some r
  refine ev_seg 2 (k' := 9) (L' := [(0, .ref 67), (1, .int x1), (2, .int x2), (3, .int x3), (4, .int x4)]) (st' := [.int 1]) rfl ?_
  exact hr
set_option maxRecDepth 20000 in
theorem eMo_fits_9 (d : Nat) (x1 : Int32) (x2 : Int32) (x3 : Int32) (x4 : Int32) (u0 : Int32) (s : aT) : ∀ r, (if ¬ u0 = 0 then fMo_fits_25 (d + 1) x1 x2 x3 x4 s else if ¬ gI s 67 11 = 0 then fMo_fits_27 (d + 1) x1 x2 x3 x4 s else cG (fMo_isVersion d x1 x2 s) (kI fun v2 s1 => if v2 = 0 then fMo_fits_25 (d + 1) x1 x2 x3 x4 s1 else cG (fMo_isVersion d x3 x4 s1) (kI fun v4 s3 => if ¬ v4 = 0 then fMo_fits_27 (d + 1) x1 x2 x3 x4 s3 else fMo_fits_25 (d + 1) x1 x2 x3 x4 s3))) = some r → fMo_fits_9 (d + 1) x1 x2 x3 x4 u0 s = some r := by
  intro r hr
  show ev (d + 1) q_269 9 [(0, .ref 67), (1, .int x1), (2, .int x2), (3, .int x3), (4, .int x4)] [.int u0] s = some r
  refine ev_seg 2 (k' := 11) (L' := [(5, .int u0), (0, .ref 67), (1, .int x1), (2, .int x2), (3, .int x3), (4, .int x4)]) (st' := [.int u0]) rfl ?_
  refine ev_br (P := ¬ u0 = 0) (L' := [(5, .int u0), (0, .ref 67), (1, .int x1), (2, .int x2), (3, .int x3), (4, .int x4)]) (st' := []) hr rfl rfl rfl (fun hr => ?_) (fun hr => ?_)
  · skip
    refine ev_join (L' := [(0, .ref 67), (1, .int x1), (2, .int x2), (3, .int x3), (4, .int x4)]) [1, 2, 3, 4, 5] [5, 0, 1, 2, 3, 4] [0, 1, 2, 3, 4] rfl rfl (by decide) (by decide) rfl ?_
    exact hr
  · skip
    refine ev_seg 2 (k' := 14) (L' := [(5, .int u0), (0, .ref 67), (1, .int x1), (2, .int x2), (3, .int x3), (4, .int x4)]) (st' := [.int (gI s 67 11)]) rfl ?_
    refine ev_br (P := ¬ gI s 67 11 = 0) (L' := [(5, .int u0), (0, .ref 67), (1, .int x1), (2, .int x2), (3, .int x3), (4, .int x4)]) (st' := []) hr rfl rfl rfl (fun hr => ?_) (fun hr => ?_)
    · skip
      refine ev_join (L' := [(0, .ref 67), (1, .int x1), (2, .int x2), (3, .int x3), (4, .int x4)]) [1, 2, 3, 4, 5] [5, 0, 1, 2, 3, 4] [0, 1, 2, 3, 4] rfl rfl (by decide) (by decide) rfl ?_
      exact hr
    · skip
      refine ev_seg 3 (k' := 18) (L' := [(5, .int u0), (0, .ref 67), (1, .int x1), (2, .int x2), (3, .int x3), (4, .int x4)]) (st' := [.int x2, .int x1, .ref 67]) rfl ?_
      refine ev_callV (q' := q_250) (x := 250) (y := 13) (c := 67) (As := [.int x1, .int x2]) (rest := []) hr rfl rfl rfl rfl rfl rfl rfl rfl rfl rfl rfl rfl (fun rv s1 hq => ev_kI hq (fun v2 e9 hr => ?_))
      subst e9
      refine ev_st (st' := [.int v2]) rfl ?_
      refine ev_br (P := v2 = 0) (L' := [(5, .int u0), (0, .ref 67), (1, .int x1), (2, .int x2), (3, .int x3), (4, .int x4)]) (st' := []) hr rfl rfl rfl (fun hr => ?_) (fun hr => ?_)
      · skip
        refine ev_join (L' := [(0, .ref 67), (1, .int x1), (2, .int x2), (3, .int x3), (4, .int x4)]) [1, 2, 3, 4, 5] [5, 0, 1, 2, 3, 4] [0, 1, 2, 3, 4] rfl rfl (by decide) (by decide) rfl ?_
        exact hr
      · skip
        refine ev_seg 3 (k' := 23) (L' := [(5, .int u0), (0, .ref 67), (1, .int x1), (2, .int x2), (3, .int x3), (4, .int x4)]) (st' := [.int x4, .int x3, .ref 67]) rfl ?_
        refine ev_callV (q' := q_250) (x := 250) (y := 13) (c := 67) (As := [.int x3, .int x4]) (rest := []) hr rfl rfl rfl rfl rfl rfl rfl rfl rfl rfl rfl rfl (fun rv s3 hq => ev_kI hq (fun v4 e9 hr => ?_))
        subst e9
        refine ev_st (st' := [.int v4]) rfl ?_
        refine ev_br (P := ¬ v4 = 0) (L' := [(5, .int u0), (0, .ref 67), (1, .int x1), (2, .int x2), (3, .int x3), (4, .int x4)]) (st' := []) hr rfl rfl rfl (fun hr => ?_) (fun hr => ?_)
        · skip
          refine ev_join (L' := [(0, .ref 67), (1, .int x1), (2, .int x2), (3, .int x3), (4, .int x4)]) [1, 2, 3, 4, 5] [5, 0, 1, 2, 3, 4] [0, 1, 2, 3, 4] rfl rfl (by decide) (by decide) rfl ?_
          exact hr
        · skip
          refine ev_join (L' := [(0, .ref 67), (1, .int x1), (2, .int x2), (3, .int x3), (4, .int x4)]) [1, 2, 3, 4, 5] [5, 0, 1, 2, 3, 4] [0, 1, 2, 3, 4] rfl rfl (by decide) (by decide) rfl ?_
          exact hr
set_option maxRecDepth 20000 in
theorem eMo_fits_25 (d : Nat) (x1 : Int32) (x2 : Int32) (x3 : Int32) (x4 : Int32) (s : aT) : ∀ r, (fMo_fits_28 (d + 1) x1 x2 x3 x4 1 s) = some r → fMo_fits_25 (d + 1) x1 x2 x3 x4 s = some r := by
  intro r hr
  show ev (d + 1) q_269 25 [(0, .ref 67), (1, .int x1), (2, .int x2), (3, .int x3), (4, .int x4)] [] s = some r
  refine ev_seg 2 (k' := 28) (L' := [(0, .ref 67), (1, .int x1), (2, .int x2), (3, .int x3), (4, .int x4)]) (st' := [.int 1]) rfl ?_
  exact hr
set_option maxRecDepth 20000 in
theorem eMo_fits_27 (d : Nat) (x1 : Int32) (x2 : Int32) (x3 : Int32) (x4 : Int32) (s : aT) : ∀ r, (fMo_fits_28 (d + 1) x1 x2 x3 x4 0 s) = some r → fMo_fits_27 (d + 1) x1 x2 x3 x4 s = some r := by
  intro r hr
  show ev (d + 1) q_269 27 [(0, .ref 67), (1, .int x1), (2, .int x2), (3, .int x3), (4, .int x4)] [] s = some r
  refine ev_seg 1 (k' := 28) (L' := [(0, .ref 67), (1, .int x1), (2, .int x2), (3, .int x3), (4, .int x4)]) (st' := [.int 0]) rfl ?_
  exact hr
set_option maxRecDepth 20000 in
theorem eMo_fits_28 (d : Nat) (x1 : Int32) (x2 : Int32) (x3 : Int32) (x4 : Int32) (u0 : Int32) (s : aT) : ∀ r, (cG (fMo_refused d u0 0 s) (kI fun v2 s1 => if ¬ v2 = 0 then rI 0 s1 else if gI s1 67 11 = 0 then cG (fMo_readVersion d 91 x1 x2 s1) (kV fun s3 => cG (fMo_readVersion d 113 x3 x4 s3) (kV fun s4 => cG (fMo_fitsAll d 91 113 s4) (kI fun v6 s5 => rZ v6 s5))) else rI 0 s1)) = some r → fMo_fits_28 (d + 1) x1 x2 x3 x4 u0 s = some r := by
  intro r hr
  show ev (d + 1) q_269 28 [(0, .ref 67), (1, .int x1), (2, .int x2), (3, .int x3), (4, .int x4)] [.int u0] s = some r
  refine ev_seg 4 (k' := 32) (L' := [(5, .int u0), (0, .ref 67), (1, .int x1), (2, .int x2), (3, .int x3), (4, .int x4)]) (st' := [.int 0, .int u0, .ref 67]) rfl ?_
  refine ev_callV (q' := q_189) (x := 189) (y := 13) (c := 67) (As := [.int u0, .int 0]) (rest := []) hr rfl rfl rfl rfl rfl rfl rfl rfl rfl rfl rfl rfl (fun rv s1 hq => ev_kI hq (fun v2 e9 hr => ?_))
  subst e9
  refine ev_st (st' := [.int v2]) rfl ?_
  refine ev_br (P := ¬ v2 = 0) (L' := [(5, .int u0), (0, .ref 67), (1, .int x1), (2, .int x2), (3, .int x3), (4, .int x4)]) (st' := []) hr rfl rfl rfl (fun hr => ?_) (fun hr => ?_)
  · skip
    refine ev_seg 1 (k' := 38) (L' := [(5, .int u0), (0, .ref 67), (1, .int x1), (2, .int x2), (3, .int x3), (4, .int x4)]) (st' := [.int 0]) rfl ?_
    exact ev_iret hr rfl rfl rfl
  · skip
    refine ev_seg 2 (k' := 36) (L' := [(5, .int u0), (0, .ref 67), (1, .int x1), (2, .int x2), (3, .int x3), (4, .int x4)]) (st' := [.int (gI s1 67 11)]) rfl ?_
    refine ev_br (P := gI s1 67 11 = 0) (L' := [(5, .int u0), (0, .ref 67), (1, .int x1), (2, .int x2), (3, .int x3), (4, .int x4)]) (st' := []) hr rfl rfl rfl (fun hr => ?_) (fun hr => ?_)
    · skip
      refine ev_seg 5 (k' := 44) (L' := [(5, .int u0), (0, .ref 67), (1, .int x1), (2, .int x2), (3, .int x3), (4, .int x4)]) (st' := [.int x2, .int x1, .ref 91, .ref 67]) rfl ?_
      refine ev_callV (q' := q_235) (x := 235) (y := 13) (c := 67) (As := [.ref 91, .int x1, .int x2]) (rest := []) hr rfl rfl rfl rfl rfl rfl rfl rfl rfl rfl rfl rfl (fun rv s3 hq => ev_kV hq (fun e9 hr => ?_))
      subst e9
      refine ev_st (st' := []) rfl ?_
      refine ev_seg 5 (k' := 50) (L' := [(5, .int u0), (0, .ref 67), (1, .int x1), (2, .int x2), (3, .int x3), (4, .int x4)]) (st' := [.int x4, .int x3, .ref 113, .ref 67]) rfl ?_
      refine ev_callV (q' := q_235) (x := 235) (y := 13) (c := 67) (As := [.ref 113, .int x3, .int x4]) (rest := []) hr rfl rfl rfl rfl rfl rfl rfl rfl rfl rfl rfl rfl (fun rv s4 hq => ev_kV hq (fun e9 hr => ?_))
      subst e9
      refine ev_st (st' := []) rfl ?_
      refine ev_seg 5 (k' := 56) (L' := [(5, .int u0), (0, .ref 67), (1, .int x1), (2, .int x2), (3, .int x3), (4, .int x4)]) (st' := [.ref 113, .ref 91, .ref 67]) rfl ?_
      refine ev_callV (q' := q_237) (x := 237) (y := 13) (c := 67) (As := [.ref 91, .ref 113]) (rest := []) hr rfl rfl rfl rfl rfl rfl rfl rfl rfl rfl rfl rfl (fun rv s5 hq => ev_kI hq (fun v6 e9 hr => ?_))
      subst e9
      refine ev_st (st' := [.int v6]) rfl ?_
      exact ev_zret hr rfl rfl
    · skip
      refine ev_seg 1 (k' := 38) (L' := [(5, .int u0), (0, .ref 67), (1, .int x1), (2, .int x2), (3, .int x3), (4, .int x4)]) (st' := [.int 0]) rfl ?_
      exact ev_iret hr rfl rfl rfl
set_option maxRecDepth 20000 in
theorem eMo_read (d : Nat) (x1 : Int32) (x2 : Int32) (x3 : Int32) (s : aT) : ∀ r, (cG (fMo_isSubject d x1 s) (kI fun v2 s1 => if v2 = 0 then fMo_read_20 (d + 1) x1 x2 x3 s1 else if ¬ gI s1 67 11 = 0 then fMo_read_22 (d + 1) x1 x2 x3 s1 else cG (fMo_isVersion d x1 x2 s1) (kI fun v4 s3 => if v4 = 0 then fMo_read_20 (d + 1) x1 x2 x3 s3 else cG (fMo_rows d x1 s3) (kI fun v6 s5 => cG (fMo_within d x3 0 (v6 - 1) s5) (kI fun v8 s7 => if ¬ v8 = 0 then fMo_read_22 (d + 1) x1 x2 x3 s7 else fMo_read_20 (d + 1) x1 x2 x3 s7))))) = some r → fMo_read (d + 1) x1 x2 x3 s = some r := by
  intro r hr
  show ev (d + 1) q_270 0 [(0, .ref 67), (1, .int x1), (2, .int x2), (3, .int x3)] [] s = some r
  refine ev_seg 1 (k' := 1) (L' := [(0, .ref 67), (1, .int x1), (2, .int x2), (3, .int x3)]) (st' := [.int x1]) rfl ?_
  refine ev_callS (q' := q_233) (x := 233) (vs := [.int x1]) (rest := []) hr rfl rfl rfl rfl rfl rfl rfl rfl rfl rfl (fun rv s1 hq => ev_kI hq (fun v2 e9 hr => ?_))
  subst e9
  refine ev_st (st' := [.int v2]) rfl ?_
  refine ev_br (P := v2 = 0) (L' := [(0, .ref 67), (1, .int x1), (2, .int x2), (3, .int x3)]) (st' := []) hr rfl rfl rfl (fun hr => ?_) (fun hr => ?_)
  · skip
    exact hr
  · skip
    refine ev_seg 2 (k' := 5) (L' := [(0, .ref 67), (1, .int x1), (2, .int x2), (3, .int x3)]) (st' := [.int (gI s1 67 11)]) rfl ?_
    refine ev_br (P := ¬ gI s1 67 11 = 0) (L' := [(0, .ref 67), (1, .int x1), (2, .int x2), (3, .int x3)]) (st' := []) hr rfl rfl rfl (fun hr => ?_) (fun hr => ?_)
    · skip
      exact hr
    · skip
      refine ev_seg 3 (k' := 9) (L' := [(0, .ref 67), (1, .int x1), (2, .int x2), (3, .int x3)]) (st' := [.int x2, .int x1, .ref 67]) rfl ?_
      refine ev_callV (q' := q_250) (x := 250) (y := 13) (c := 67) (As := [.int x1, .int x2]) (rest := []) hr rfl rfl rfl rfl rfl rfl rfl rfl rfl rfl rfl rfl (fun rv s3 hq => ev_kI hq (fun v4 e9 hr => ?_))
      subst e9
      refine ev_st (st' := [.int v4]) rfl ?_
      refine ev_br (P := v4 = 0) (L' := [(0, .ref 67), (1, .int x1), (2, .int x2), (3, .int x3)]) (st' := []) hr rfl rfl rfl (fun hr => ?_) (fun hr => ?_)
      · skip
        exact hr
      · skip
        refine ev_seg 4 (k' := 15) (L' := [(0, .ref 67), (1, .int x1), (2, .int x2), (3, .int x3)]) (st' := [.int x1, .ref 67, .int 0, .int x3]) rfl ?_
        refine ev_callV (q' := q_271) (x := 271) (y := 13) (c := 67) (As := [.int x1]) (rest := [.int 0, .int x3]) hr rfl rfl rfl rfl rfl rfl rfl rfl rfl rfl rfl rfl (fun rv s5 hq => ev_kI hq (fun v6 e9 hr => ?_))
        subst e9
        refine ev_st (st' := [.int v6, .int 0, .int x3]) rfl ?_
        refine ev_seg 2 (k' := 18) (L' := [(0, .ref 67), (1, .int x1), (2, .int x2), (3, .int x3)]) (st' := [.int (v6 - 1), .int 0, .int x3]) rfl ?_
        refine ev_callS (q' := q_192) (x := 192) (vs := [.int x3, .int 0, .int (v6 - 1)]) (rest := []) hr rfl rfl rfl rfl rfl rfl rfl rfl rfl rfl (fun rv s7 hq => ev_kI hq (fun v8 e9 hr => ?_))
        subst e9
        refine ev_st (st' := [.int v8]) rfl ?_
        refine ev_br (P := ¬ v8 = 0) (L' := [(0, .ref 67), (1, .int x1), (2, .int x2), (3, .int x3)]) (st' := []) hr rfl rfl rfl (fun hr => ?_) (fun hr => ?_)
        · skip
          exact hr
        · skip
          exact hr
set_option maxRecDepth 20000 in
theorem eMo_read_20 (d : Nat) (x1 : Int32) (x2 : Int32) (x3 : Int32) (s : aT) : ∀ r, (fMo_read_23 (d + 1) x1 x2 x3 1 s) = some r → fMo_read_20 (d + 1) x1 x2 x3 s = some r := by
  intro r hr
  show ev (d + 1) q_270 20 [(0, .ref 67), (1, .int x1), (2, .int x2), (3, .int x3)] [] s = some r
  refine ev_seg 2 (k' := 23) (L' := [(0, .ref 67), (1, .int x1), (2, .int x2), (3, .int x3)]) (st' := [.int 1]) rfl ?_
  exact hr
set_option maxRecDepth 20000 in
theorem eMo_read_22 (d : Nat) (x1 : Int32) (x2 : Int32) (x3 : Int32) (s : aT) : ∀ r, (fMo_read_23 (d + 1) x1 x2 x3 0 s) = some r → fMo_read_22 (d + 1) x1 x2 x3 s = some r := by
  intro r hr
  show ev (d + 1) q_270 22 [(0, .ref 67), (1, .int x1), (2, .int x2), (3, .int x3)] [] s = some r
  refine ev_seg 1 (k' := 23) (L' := [(0, .ref 67), (1, .int x1), (2, .int x2), (3, .int x3)]) (st' := [.int 0]) rfl ?_
  exact hr
set_option maxRecDepth 20000 in
theorem eMo_read_23 (d : Nat) (x1 : Int32) (x2 : Int32) (x3 : Int32) (u0 : Int32) (s : aT) : ∀ r, (cG (fMo_refused d u0 0 s) (kI fun v2 s1 => if v2 = 0 then if gI s1 67 11 = 0 then fMo_read_40 (d + 1) x1 x2 0 x3 s1 else rI (-33) s1 else rI 0 s1)) = some r → fMo_read_23 (d + 1) x1 x2 x3 u0 s = some r := by
  intro r hr
  show ev (d + 1) q_270 23 [(0, .ref 67), (1, .int x1), (2, .int x2), (3, .int x3)] [.int u0] s = some r
  refine ev_seg 4 (k' := 27) (L' := [(4, .int u0), (0, .ref 67), (1, .int x1), (2, .int x2), (3, .int x3)]) (st' := [.int 0, .int u0, .ref 67]) rfl ?_
  refine ev_callV (q' := q_189) (x := 189) (y := 13) (c := 67) (As := [.int u0, .int 0]) (rest := []) hr rfl rfl rfl rfl rfl rfl rfl rfl rfl rfl rfl rfl (fun rv s1 hq => ev_kI hq (fun v2 e9 hr => ?_))
  subst e9
  refine ev_st (st' := [.int v2]) rfl ?_
  refine ev_br (P := v2 = 0) (L' := [(4, .int u0), (0, .ref 67), (1, .int x1), (2, .int x2), (3, .int x3)]) (st' := []) hr rfl rfl rfl (fun hr => ?_) (fun hr => ?_)
  · skip
    refine ev_seg 2 (k' := 33) (L' := [(4, .int u0), (0, .ref 67), (1, .int x1), (2, .int x2), (3, .int x3)]) (st' := [.int (gI s1 67 11)]) rfl ?_
    refine ev_br (P := gI s1 67 11 = 0) (L' := [(4, .int u0), (0, .ref 67), (1, .int x1), (2, .int x2), (3, .int x3)]) (st' := []) hr rfl rfl rfl (fun hr => ?_) (fun hr => ?_)
    · skip
      refine ev_seg 4 (k' := 40) (L' := [(6, .int x3), (5, .int 0), (4, .int u0), (0, .ref 67), (1, .int x1), (2, .int x2), (3, .int x3)]) (st' := []) rfl ?_
      refine ev_join (L' := [(0, .ref 67), (1, .int x1), (2, .int x2), (5, .int 0), (6, .int x3)]) [3, 4, 5, 1, 0] [6, 5, 4, 0, 1, 2, 3] [0, 1, 2, 5, 6] rfl rfl (by decide) (by decide) rfl ?_
      exact hr
    · skip
      refine ev_seg 1 (k' := 35) (L' := [(4, .int u0), (0, .ref 67), (1, .int x1), (2, .int x2), (3, .int x3)]) (st' := [.int (-33)]) rfl ?_
      exact ev_iret hr rfl rfl rfl
  · skip
    refine ev_seg 1 (k' := 30) (L' := [(4, .int u0), (0, .ref 67), (1, .int x1), (2, .int x2), (3, .int x3)]) (st' := [.int 0]) rfl ?_
    exact ev_iret hr rfl rfl rfl
set_option maxRecDepth 20000 in
theorem eMo_read_40 (d : Nat) (x1 : Int32) (x2 : Int32) (z5 : Int32) (z6 : Int32) (s : aT) : ∀ r, (ldI 41 s 137 z5 (fun v1 => if ¬ v1 = x1 then fMo_read_57 (d + 1) x1 x2 z5 z6 s else ldI 41 s 141 z5 (fun v2 => if v2 < 0 then fMo_read_57 (d + 1) x1 x2 z5 z6 s else ldI 41 s 141 z5 (fun v3 => if z6 < v3 then ldI 41 s 138 z5 (fun v4 => cG (fMo_readVersion d 91 x1 v4 s) (kV fun s5 => cG (fMo_readVersion d 113 x1 x2 s5) (kV fun s6 => ldI 41 s6 139 z5 (fun v7 => wI s6 67 31 (256 * v7) (fun s8 => fMo_read_104 (d + 1) z6 0 s8))))) else fMo_read_57 (d + 1) x1 x2 z5 z6 s)))) = some r → fMo_read_40 (d + 1) x1 x2 z5 z6 s = some r := by
  intro r hr
  show ev (d + 1) q_270 40 [(0, .ref 67), (1, .int x1), (2, .int x2), (5, .int z5), (6, .int z6)] [] s = some r
  refine ev_seg 3 (k' := 43) (L' := [(0, .ref 67), (1, .int x1), (2, .int x2), (5, .int z5), (6, .int z6)]) (st' := [.int z5, .ref 137]) rfl ?_
  refine ev_ldI hr rfl rfl (fun v1 hr => ?_)
  refine ev_seg 1 (k' := 45) (L' := [(0, .ref 67), (1, .int x1), (2, .int x2), (5, .int z5), (6, .int z6)]) (st' := [.int x1, .int v1]) rfl ?_
  refine ev_br (P := ¬ v1 = x1) (L' := [(0, .ref 67), (1, .int x1), (2, .int x2), (5, .int z5), (6, .int z6)]) (st' := []) hr rfl rfl rfl (fun hr => ?_) (fun hr => ?_)
  · skip
    exact hr
  · skip
    refine ev_seg 3 (k' := 49) (L' := [(0, .ref 67), (1, .int x1), (2, .int x2), (5, .int z5), (6, .int z6)]) (st' := [.int z5, .ref 141]) rfl ?_
    refine ev_ldI hr rfl rfl (fun v2 hr => ?_)
    refine ev_br (P := v2 < 0) (L' := [(0, .ref 67), (1, .int x1), (2, .int x2), (5, .int z5), (6, .int z6)]) (st' := []) hr rfl rfl rfl (fun hr => ?_) (fun hr => ?_)
    · skip
      exact hr
    · skip
      refine ev_seg 4 (k' := 55) (L' := [(0, .ref 67), (1, .int x1), (2, .int x2), (5, .int z5), (6, .int z6)]) (st' := [.int z5, .ref 141, .int z6]) rfl ?_
      refine ev_ldI hr rfl rfl (fun v3 hr => ?_)
      refine ev_br (P := z6 < v3) (L' := [(0, .ref 67), (1, .int x1), (2, .int x2), (5, .int z5), (6, .int z6)]) (st' := []) hr rfl rfl rfl (fun hr => ?_) (fun hr => ?_)
      · skip
        refine ev_seg 7 (k' := 86) (L' := [(0, .ref 67), (1, .int x1), (2, .int x2), (5, .int z5), (6, .int z6)]) (st' := [.int z5, .ref 138, .int x1, .ref 91, .ref 67]) rfl ?_
        refine ev_ldI hr rfl rfl (fun v4 hr => ?_)
        refine ev_callV (q' := q_235) (x := 235) (y := 13) (c := 67) (As := [.ref 91, .int x1, .int v4]) (rest := []) hr rfl rfl rfl rfl rfl rfl rfl rfl rfl rfl rfl rfl (fun rv s5 hq => ev_kV hq (fun e9 hr => ?_))
        subst e9
        refine ev_st (st' := []) rfl ?_
        refine ev_seg 5 (k' := 93) (L' := [(0, .ref 67), (1, .int x1), (2, .int x2), (5, .int z5), (6, .int z6)]) (st' := [.int x2, .int x1, .ref 113, .ref 67]) rfl ?_
        refine ev_callV (q' := q_235) (x := 235) (y := 13) (c := 67) (As := [.ref 113, .int x1, .int x2]) (rest := []) hr rfl rfl rfl rfl rfl rfl rfl rfl rfl rfl rfl rfl (fun rv s6 hq => ev_kV hq (fun e9 hr => ?_))
        subst e9
        refine ev_st (st' := []) rfl ?_
        refine ev_seg 5 (k' := 99) (L' := [(0, .ref 67), (1, .int x1), (2, .int x2), (5, .int z5), (6, .int z6)]) (st' := [.int z5, .ref 139, .int 256, .ref 67]) rfl ?_
        refine ev_ldI hr rfl rfl (fun v7 hr => ?_)
        refine ev_seg 1 (k' := 101) (L' := [(0, .ref 67), (1, .int x1), (2, .int x2), (5, .int z5), (6, .int z6)]) (st' := [.int (256 * v7), .ref 67]) rfl ?_
        refine ev_putI (c := 67) hr rfl rfl rfl (fun s8 hr => ?_)
        refine ev_seg 2 (k' := 104) (L' := [(7, .int 0), (0, .ref 67), (1, .int x1), (2, .int x2), (5, .int z5), (6, .int z6)]) (st' := []) rfl ?_
        refine ev_join (L' := [(0, .ref 67), (6, .int z6), (7, .int 0)]) [1, 5, 0] [7, 0, 1, 2, 5, 6] [0, 6, 7] rfl rfl (by decide) (by decide) rfl ?_
        exact hr
      · skip
        exact hr
set_option maxRecDepth 20000 in
theorem eMo_read_57 (d : Nat) (x1 : Int32) (x2 : Int32) (z5 : Int32) (z6 : Int32) (s : aT) : ∀ r, (ldI 41 s 137 z5 (fun v1 => if ¬ v1 = x1 then fMo_read_75 (d + 1) x1 x2 z5 z6 s else ldI 41 s 141 z5 (fun v2 => if v2 < 0 then fMo_read_75 (d + 1) x1 x2 z5 z6 s else ldI 41 s 141 z5 (fun v3 => fMo_read_76 (d + 1) x1 x2 z5 (z6 - v3) s)))) = some r → fMo_read_57 (d + 1) x1 x2 z5 z6 s = some r := by
  intro r hr
  show ev (d + 1) q_270 57 [(0, .ref 67), (1, .int x1), (2, .int x2), (5, .int z5), (6, .int z6)] [] s = some r
  refine ev_seg 3 (k' := 60) (L' := [(0, .ref 67), (1, .int x1), (2, .int x2), (5, .int z5), (6, .int z6)]) (st' := [.int z5, .ref 137]) rfl ?_
  refine ev_ldI hr rfl rfl (fun v1 hr => ?_)
  refine ev_seg 1 (k' := 62) (L' := [(0, .ref 67), (1, .int x1), (2, .int x2), (5, .int z5), (6, .int z6)]) (st' := [.int x1, .int v1]) rfl ?_
  refine ev_br (P := ¬ v1 = x1) (L' := [(0, .ref 67), (1, .int x1), (2, .int x2), (5, .int z5), (6, .int z6)]) (st' := []) hr rfl rfl rfl (fun hr => ?_) (fun hr => ?_)
  · skip
    exact hr
  · skip
    refine ev_seg 3 (k' := 66) (L' := [(0, .ref 67), (1, .int x1), (2, .int x2), (5, .int z5), (6, .int z6)]) (st' := [.int z5, .ref 141]) rfl ?_
    refine ev_ldI hr rfl rfl (fun v2 hr => ?_)
    refine ev_br (P := v2 < 0) (L' := [(0, .ref 67), (1, .int x1), (2, .int x2), (5, .int z5), (6, .int z6)]) (st' := []) hr rfl rfl rfl (fun hr => ?_) (fun hr => ?_)
    · skip
      exact hr
    · skip
      refine ev_seg 4 (k' := 72) (L' := [(0, .ref 67), (1, .int x1), (2, .int x2), (5, .int z5), (6, .int z6)]) (st' := [.int z5, .ref 141, .int z6]) rfl ?_
      refine ev_ldI hr rfl rfl (fun v3 hr => ?_)
      refine ev_seg 2 (k' := 76) (L' := [(0, .ref 67), (1, .int x1), (2, .int x2), (5, .int z5), (6, .int z6)]) (st' := [.int (z6 - v3)]) rfl ?_
      refine ev_join (L' := [(0, .ref 67), (1, .int x1), (2, .int x2), (5, .int z5)]) [0, 1, 2, 3] [0, 1, 2, 5, 6] [0, 1, 2, 5] rfl rfl (by decide) (by decide) rfl ?_
      exact hr
set_option maxRecDepth 20000 in
theorem eMo_read_104 (d : Nat) (z6 : Int32) (z7 : Int32) (s : aT) : ∀ r, (if z6 ≤ z7 then wI s 67 22 0 (fun s1 => wI s1 67 10 0 (fun s2 => cN (fMo_tellRow d 4096 s2) (kI fun v4 s3 => if 0 ≤ v4 then wI s3 67 10 (gI s3 67 22) (fun s5 => fMo_read_136 (d + 1) 0 s5) else rI v4 s3))) else cG (fMo_skip d 91 (gI s 91 31) s) (kV fun s6 => fMo_read_104 (d + 1) z6 (z7 + 1) s6)) = some r → fMo_read_104 (d + 1) z6 z7 s = some r := by
  intro r hr
  show ev (d + 1) q_270 104 [(0, .ref 67), (6, .int z6), (7, .int z7)] [] s = some r
  refine ev_seg 2 (k' := 106) (L' := [(0, .ref 67), (6, .int z6), (7, .int z7)]) (st' := [.int z6, .int z7]) rfl ?_
  refine ev_br (P := z6 ≤ z7) (L' := [(0, .ref 67), (6, .int z6), (7, .int z7)]) (st' := []) hr rfl rfl rfl (fun hr => ?_) (fun hr => ?_)
  · skip
    refine ev_seg 2 (k' := 118) (L' := [(0, .ref 67), (6, .int z6), (7, .int z7)]) (st' := [.int 0, .ref 67]) rfl ?_
    refine ev_putI (c := 67) hr rfl rfl rfl (fun s1 hr => ?_)
    refine ev_seg 2 (k' := 121) (L' := [(0, .ref 67), (6, .int z6), (7, .int z7)]) (st' := [.int 0, .ref 67]) rfl ?_
    refine ev_putI (c := 67) hr rfl rfl rfl (fun s2 hr => ?_)
    refine ev_seg 2 (k' := 124) (L' := [(0, .ref 67), (6, .int z6), (7, .int z7)]) (st' := [.int 4096, .ref 67]) rfl ?_
    refine ev_callN (q' := q_276) (x := 276) (y := 13) (c := 67) (As := [.int 4096]) (rest := []) hr rfl rfl rfl rfl rfl rfl rfl rfl rfl (fun rv s3 hq => ev_kI hq (fun v4 e9 hr => ?_))
    subst e9
    refine ev_st (st' := [.int v4]) rfl ?_
    refine ev_seg 2 (k' := 127) (L' := [(7, .int v4), (0, .ref 67), (6, .int z6)]) (st' := [.int v4]) rfl ?_
    refine ev_br (P := 0 ≤ v4) (L' := [(7, .int v4), (0, .ref 67), (6, .int z6)]) (st' := []) hr rfl rfl rfl (fun hr => ?_) (fun hr => ?_)
    · skip
      refine ev_seg 3 (k' := 133) (L' := [(7, .int v4), (0, .ref 67), (6, .int z6)]) (st' := [.int (gI s3 67 22), .ref 67]) rfl ?_
      refine ev_putI (c := 67) hr rfl rfl rfl (fun s5 hr => ?_)
      refine ev_seg 2 (k' := 136) (L' := [(8, .int 0), (7, .int v4), (0, .ref 67), (6, .int z6)]) (st' := []) rfl ?_
      refine ev_join (L' := [(0, .ref 67), (8, .int 0)]) [2, 0] [8, 7, 0, 6] [0, 8] rfl rfl (by decide) (by decide) rfl ?_
      exact hr
    · skip
      refine ev_seg 1 (k' := 129) (L' := [(7, .int v4), (0, .ref 67), (6, .int z6)]) (st' := [.int v4]) rfl ?_
      exact ev_iret hr rfl rfl rfl
  · skip
    refine ev_seg 6 (k' := 113) (L' := [(0, .ref 67), (6, .int z6), (7, .int z7)]) (st' := [.int (gI s 91 31), .ref 91, .ref 67]) rfl ?_
    refine ev_callV (q' := q_272) (x := 272) (y := 13) (c := 67) (As := [.ref 91, .int (gI s 91 31)]) (rest := []) hr rfl rfl rfl rfl rfl rfl rfl rfl rfl rfl rfl rfl (fun rv s6 hq => ev_kV hq (fun e9 hr => ?_))
    subst e9
    refine ev_st (st' := []) rfl ?_
    refine ev_seg 2 (k' := 104) (L' := [(7, .int (z7 + 1)), (0, .ref 67), (6, .int z6)]) (st' := []) rfl ?_
    refine ev_join (L' := [(0, .ref 67), (6, .int z6), (7, .int (z7 + 1))]) [1, 2, 0] [7, 0, 6] [0, 6, 7] rfl rfl (by decide) (by decide) rfl ?_
    exact hr
set_option maxRecDepth 20000 in
theorem eMo_read_75 (d : Nat) (x1 : Int32) (x2 : Int32) (z5 : Int32) (z6 : Int32) (s : aT) : ∀ r, (fMo_read_76 (d + 1) x1 x2 z5 z6 s) = some r → fMo_read_75 (d + 1) x1 x2 z5 z6 s = some r := by
  intro r hr
  show ev (d + 1) q_270 75 [(0, .ref 67), (1, .int x1), (2, .int x2), (5, .int z5), (6, .int z6)] [] s = some r
  refine ev_seg 1 (k' := 76) (L' := [(0, .ref 67), (1, .int x1), (2, .int x2), (5, .int z5), (6, .int z6)]) (st' := [.int z6]) rfl ?_
  refine ev_join (L' := [(0, .ref 67), (1, .int x1), (2, .int x2), (5, .int z5)]) [0, 1, 2, 3] [0, 1, 2, 5, 6] [0, 1, 2, 5] rfl rfl (by decide) (by decide) rfl ?_
  exact hr
set_option maxRecDepth 20000 in
theorem eMo_read_76 (d : Nat) (x1 : Int32) (x2 : Int32) (z5 : Int32) (u0 : Int32) (s : aT) : ∀ r, (fMo_read_40 (d + 1) x1 x2 (z5 + 1) u0 s) = some r → fMo_read_76 (d + 1) x1 x2 z5 u0 s = some r := by
  intro r hr
  show ev (d + 1) q_270 76 [(0, .ref 67), (1, .int x1), (2, .int x2), (5, .int z5)] [.int u0] s = some r
  refine ev_seg 3 (k' := 40) (L' := [(5, .int (z5 + 1)), (6, .int u0), (0, .ref 67), (1, .int x1), (2, .int x2)]) (st' := []) rfl ?_
  refine ev_join (L' := [(0, .ref 67), (1, .int x1), (2, .int x2), (5, .int (z5 + 1)), (6, .int u0)]) [2, 3, 4, 0, 1] [5, 6, 0, 1, 2] [0, 1, 2, 5, 6] rfl rfl (by decide) (by decide) rfl ?_
  exact hr
set_option maxRecDepth 20000 in
theorem eMo_read_136 (d : Nat) (z8 : Int32) (s : aT) : ∀ r, (if gI s 67 10 ≤ z8 then rI (gI s 67 10) s else ldI 4200 s 144 z8 (fun v1 => stI 4096 s 136 z8 (vp_nar .byte v1) (fun s2 => fMo_read_136 (d + 1) (z8 + 1) s2))) = some r → fMo_read_136 (d + 1) z8 s = some r := by
  intro r hr
  show ev (d + 1) q_270 136 [(0, .ref 67), (8, .int z8)] [] s = some r
  refine ev_seg 3 (k' := 139) (L' := [(0, .ref 67), (8, .int z8)]) (st' := [.int (gI s 67 10), .int z8]) rfl ?_
  refine ev_br (P := gI s 67 10 ≤ z8) (L' := [(0, .ref 67), (8, .int z8)]) (st' := []) hr rfl rfl rfl (fun hr => ?_) (fun hr => ?_)
  · skip
    refine ev_seg 2 (k' := 152) (L' := [(0, .ref 67), (8, .int z8)]) (st' := [.int (gI s 67 10)]) rfl ?_
    exact ev_iret hr rfl rfl rfl
  · skip
    refine ev_seg 6 (k' := 146) (L' := [(0, .ref 67), (8, .int z8)]) (st' := [.int z8, .ref 144, .int z8, .ref 136]) rfl ?_
    refine ev_ldB hr rfl rfl (fun v1 hr => ?_)
    refine ev_stB hr rfl rfl (fun s2 hr => ?_)
    refine ev_seg 2 (k' := 136) (L' := [(8, .int (z8 + 1)), (0, .ref 67)]) (st' := []) rfl ?_
    refine ev_join (L' := [(0, .ref 67), (8, .int (z8 + 1))]) [1, 0] [8, 0] [0, 8] rfl rfl (by decide) (by decide) rfl ?_
    exact hr
set_option maxRecDepth 20000 in
theorem eMo_rows (d : Nat) (x1 : Int32) (s : aT) : ∀ r, (fMo_rows_4 d x1 0 0 s) = some r → fMo_rows d x1 s = some r := by
  intro r hr
  show ev d q_271 0 [(0, .ref 67), (1, .int x1)] [] s = some r
  refine ev_seg 4 (k' := 4) (L' := [(3, .int 0), (2, .int 0), (0, .ref 67), (1, .int x1)]) (st' := []) rfl ?_
  refine ev_join (L' := [(0, .ref 67), (1, .int x1), (2, .int 0), (3, .int 0)]) [2, 3, 1, 0] [3, 2, 0, 1] [0, 1, 2, 3] rfl rfl (by decide) (by decide) rfl ?_
  exact hr
set_option maxRecDepth 20000 in
theorem eMo_rows_4 (d : Nat) (x1 : Int32) (z2 : Int32) (z3 : Int32) (s : aT) : ∀ r, (if gI s 67 13 ≤ z3 then rI z2 s else ldI 41 s 137 z3 (fun v1 => if ¬ v1 = x1 then fMo_rows_26 d x1 z2 z3 s else ldI 41 s 141 z3 (fun v2 => if v2 < 0 then fMo_rows_26 d x1 z2 z3 s else ldI 41 s 141 z3 (fun v3 => fMo_rows_27 d x1 z3 (z2 + v3) s)))) = some r → fMo_rows_4 d x1 z2 z3 s = some r := by
  intro r hr
  show ev d q_271 4 [(0, .ref 67), (1, .int x1), (2, .int z2), (3, .int z3)] [] s = some r
  refine ev_seg 3 (k' := 7) (L' := [(0, .ref 67), (1, .int x1), (2, .int z2), (3, .int z3)]) (st' := [.int (gI s 67 13), .int z3]) rfl ?_
  refine ev_br (P := gI s 67 13 ≤ z3) (L' := [(0, .ref 67), (1, .int x1), (2, .int z2), (3, .int z3)]) (st' := []) hr rfl rfl rfl (fun hr => ?_) (fun hr => ?_)
  · skip
    refine ev_seg 1 (k' := 31) (L' := [(0, .ref 67), (1, .int x1), (2, .int z2), (3, .int z3)]) (st' := [.int z2]) rfl ?_
    exact ev_iret hr rfl rfl rfl
  · skip
    refine ev_seg 3 (k' := 11) (L' := [(0, .ref 67), (1, .int x1), (2, .int z2), (3, .int z3)]) (st' := [.int z3, .ref 137]) rfl ?_
    refine ev_ldI hr rfl rfl (fun v1 hr => ?_)
    refine ev_seg 1 (k' := 13) (L' := [(0, .ref 67), (1, .int x1), (2, .int z2), (3, .int z3)]) (st' := [.int x1, .int v1]) rfl ?_
    refine ev_br (P := ¬ v1 = x1) (L' := [(0, .ref 67), (1, .int x1), (2, .int z2), (3, .int z3)]) (st' := []) hr rfl rfl rfl (fun hr => ?_) (fun hr => ?_)
    · skip
      exact hr
    · skip
      refine ev_seg 3 (k' := 17) (L' := [(0, .ref 67), (1, .int x1), (2, .int z2), (3, .int z3)]) (st' := [.int z3, .ref 141]) rfl ?_
      refine ev_ldI hr rfl rfl (fun v2 hr => ?_)
      refine ev_br (P := v2 < 0) (L' := [(0, .ref 67), (1, .int x1), (2, .int z2), (3, .int z3)]) (st' := []) hr rfl rfl rfl (fun hr => ?_) (fun hr => ?_)
      · skip
        exact hr
      · skip
        refine ev_seg 4 (k' := 23) (L' := [(0, .ref 67), (1, .int x1), (2, .int z2), (3, .int z3)]) (st' := [.int z3, .ref 141, .int z2]) rfl ?_
        refine ev_ldI hr rfl rfl (fun v3 hr => ?_)
        refine ev_seg 2 (k' := 27) (L' := [(0, .ref 67), (1, .int x1), (2, .int z2), (3, .int z3)]) (st' := [.int (z2 + v3)]) rfl ?_
        refine ev_join (L' := [(0, .ref 67), (1, .int x1), (3, .int z3)]) [0, 1, 3] [0, 1, 2, 3] [0, 1, 3] rfl rfl (by decide) (by decide) rfl ?_
        exact hr
set_option maxRecDepth 20000 in
theorem eMo_rows_26 (d : Nat) (x1 : Int32) (z2 : Int32) (z3 : Int32) (s : aT) : ∀ r, (fMo_rows_27 d x1 z3 z2 s) = some r → fMo_rows_26 d x1 z2 z3 s = some r := by
  intro r hr
  show ev d q_271 26 [(0, .ref 67), (1, .int x1), (2, .int z2), (3, .int z3)] [] s = some r
  refine ev_seg 1 (k' := 27) (L' := [(0, .ref 67), (1, .int x1), (2, .int z2), (3, .int z3)]) (st' := [.int z2]) rfl ?_
  refine ev_join (L' := [(0, .ref 67), (1, .int x1), (3, .int z3)]) [0, 1, 3] [0, 1, 2, 3] [0, 1, 3] rfl rfl (by decide) (by decide) rfl ?_
  exact hr
set_option maxRecDepth 20000 in
theorem eMo_rows_27 (d : Nat) (x1 : Int32) (z3 : Int32) (u0 : Int32) (s : aT) : ∀ r, (fMo_rows_4 d x1 u0 (z3 + 1) s) = some r → fMo_rows_27 d x1 z3 u0 s = some r := by
  intro r hr
  show ev d q_271 27 [(0, .ref 67), (1, .int x1), (3, .int z3)] [.int u0] s = some r
  refine ev_seg 3 (k' := 4) (L' := [(3, .int (z3 + 1)), (2, .int u0), (0, .ref 67), (1, .int x1)]) (st' := []) rfl ?_
  refine ev_join (L' := [(0, .ref 67), (1, .int x1), (2, .int u0), (3, .int (z3 + 1))]) [2, 3, 1, 0] [3, 2, 0, 1] [0, 1, 2, 3] rfl rfl (by decide) (by decide) rfl ?_
  exact hr
set_option maxRecDepth 20000 in
theorem eMo_skip (d : Nat) (t1 : Nat) (x2 : Int32) (s : aT) (ht1 : isT t1) : ∀ r, (ldI 140 s (t1 + 9) x2 (fun v1 => if v1 = 0 then rV s else if v1 = 1 then wI s 67 31 ((gI s 67 31) + 1) (fun s4 => rV s4) else if v1 = 2 then cG (fMo_readVarint d s) (kL fun v7 s6 => rV s6) else if v1 = 3 then cG (fMo_readVarint d s) (kL fun v10 s9 => rV s9) else if v1 = 4 then cG (fMo_readVarint d s) (kL fun v13 s12 => cG (fMo_copyBytes d v13 0 s12) (kV fun s14 => rV s14)) else if v1 = 5 then cG (fMo_readVarint d s) (kL fun v17 s16 => cG (fMo_copyBytes d v17 0 s16) (kV fun s18 => rV s18)) else if v1 = 6 then cG (fMo_readVarint d s) (kL fun v21 s20 => fMo_skip_71 (d + 1) t1 x2 v21 0 s20) else if v1 = 7 then cG (fMo_readVarint d s) (kL fun v24 s23 => fMo_skip_71 (d + 1) t1 x2 v24 0 s23) else if v1 = 8 then cG (fMo_readVarint d s) (kL fun v27 s26 => cN (fMt_kid d t1 x2 v27.toInt32 s26) (kI fun v29 s28 => ldI 2200 s28 (t1 + 15) v29 (fun v30 => cG (fMo_skip d t1 v30 s28) (kV fun s31 => rV s31)))) else if v1 = 9 then ldI 140 s (t1 + 11) x2 (fun v33 => cG (fMo_copyBytes d v33.toInt64 0 s) (kV fun s34 => rV s34)) else if v1 = 10 then cG (fMo_readVarint d s) (kL fun v37 s36 => rV s36) else if v1 = 11 then ldI 140 s (t1 + 12) x2 (fun v39 => fMo_skip_50 (d + 1) t1 v39 s) else cG (fMo_readVarint d s) (kL fun v41 s40 => fMo_skip_71 (d + 1) t1 x2 v41 0 s40))) = some r → fMo_skip (d + 1) t1 x2 s = some r := by
  intro r hr
  show ev (d + 1) q_272 0 [(0, .ref 67), (1, .ref t1), (2, .int x2)] [] s = some r
  refine ev_seg 1 (k' := 1) (L' := [(0, .ref 67), (1, .ref t1), (2, .int x2)]) (st' := [.ref t1]) rfl ?_
  refine ev_getR (c := t1) (v := t1 + 9) rfl (isT_sh ht1) rfl (isT_r9 ht1) ?_
  refine ev_seg 1 (k' := 3) (L' := [(0, .ref 67), (1, .ref t1), (2, .int x2)]) (st' := [.int x2, .ref (t1 + 9)]) rfl ?_
  refine ev_ldI hr rfl (isT_a9 ht1) (fun v1 hr => ?_)
  refine ev_if hr (fun h2 hr => ?_) (fun h2 hr => ?_)
  · skip
    refine ev_tab (o := 62) (t := 5) rfl (by rw [h2]; rfl) rfl ?_
    refine ev_seg 1 (k' := 108) (L' := [(0, .ref 67), (1, .ref t1), (2, .int x2)]) (st' := []) rfl ?_
    exact ev_vret hr rfl rfl
  refine ev_if hr (fun h3 hr => ?_) (fun h3 hr => ?_)
  · skip
    refine ev_tab (o := 65) (t := 6) rfl (by rw [h3]; rfl) rfl ?_
    refine ev_seg 5 (k' := 11) (L' := [(0, .ref 67), (1, .ref t1), (2, .int x2)]) (st' := [.int ((gI s 67 31) + 1), .ref 67]) rfl ?_
    refine ev_putI (c := 67) hr rfl rfl rfl (fun s4 hr => ?_)
    refine ev_seg 1 (k' := 108) (L' := [(0, .ref 67), (1, .ref t1), (2, .int x2)]) (st' := []) rfl ?_
    exact ev_vret hr rfl rfl
  refine ev_if hr (fun h5 hr => ?_) (fun h5 hr => ?_)
  · skip
    refine ev_tab (o := 78) (t := 13) rfl (by rw [h5]; rfl) rfl ?_
    refine ev_seg 1 (k' := 14) (L' := [(0, .ref 67), (1, .ref t1), (2, .int x2)]) (st' := [.ref 67]) rfl ?_
    refine ev_callV (q' := q_273) (x := 273) (y := 13) (c := 67) (As := []) (rest := []) hr rfl rfl rfl rfl rfl rfl rfl rfl rfl rfl rfl rfl (fun rv s6 hq => ev_kL hq (fun v7 e9 hr => ?_))
    subst e9
    refine ev_st (st' := [.long v7]) rfl ?_
    refine ev_seg 2 (k' := 108) (L' := [(0, .ref 67), (1, .ref t1), (2, .int x2)]) (st' := []) rfl ?_
    exact ev_vret hr rfl rfl
  refine ev_if hr (fun h8 hr => ?_) (fun h8 hr => ?_)
  · skip
    refine ev_tab (o := 78) (t := 13) rfl (by rw [h8]; rfl) rfl ?_
    refine ev_seg 1 (k' := 14) (L' := [(0, .ref 67), (1, .ref t1), (2, .int x2)]) (st' := [.ref 67]) rfl ?_
    refine ev_callV (q' := q_273) (x := 273) (y := 13) (c := 67) (As := []) (rest := []) hr rfl rfl rfl rfl rfl rfl rfl rfl rfl rfl rfl rfl (fun rv s9 hq => ev_kL hq (fun v10 e9 hr => ?_))
    subst e9
    refine ev_st (st' := [.long v10]) rfl ?_
    refine ev_seg 2 (k' := 108) (L' := [(0, .ref 67), (1, .ref t1), (2, .int x2)]) (st' := []) rfl ?_
    exact ev_vret hr rfl rfl
  refine ev_if hr (fun h11 hr => ?_) (fun h11 hr => ?_)
  · skip
    refine ev_tab (o := 86) (t := 17) rfl (by rw [h11]; rfl) rfl ?_
    refine ev_seg 2 (k' := 19) (L' := [(0, .ref 67), (1, .ref t1), (2, .int x2)]) (st' := [.ref 67, .ref 67]) rfl ?_
    refine ev_callV (q' := q_273) (x := 273) (y := 13) (c := 67) (As := []) (rest := [.ref 67]) hr rfl rfl rfl rfl rfl rfl rfl rfl rfl rfl rfl rfl (fun rv s12 hq => ev_kL hq (fun v13 e9 hr => ?_))
    subst e9
    refine ev_st (st' := [.long v13, .ref 67]) rfl ?_
    refine ev_seg 1 (k' := 21) (L' := [(0, .ref 67), (1, .ref t1), (2, .int x2)]) (st' := [.int 0, .long v13, .ref 67]) rfl ?_
    refine ev_callV (q' := q_274) (x := 274) (y := 13) (c := 67) (As := [.long v13, .int 0]) (rest := []) hr rfl rfl rfl rfl rfl rfl rfl rfl rfl rfl rfl rfl (fun rv s14 hq => ev_kV hq (fun e9 hr => ?_))
    subst e9
    refine ev_st (st' := []) rfl ?_
    refine ev_seg 1 (k' := 108) (L' := [(0, .ref 67), (1, .ref t1), (2, .int x2)]) (st' := []) rfl ?_
    exact ev_vret hr rfl rfl
  refine ev_if hr (fun h15 hr => ?_) (fun h15 hr => ?_)
  · skip
    refine ev_tab (o := 86) (t := 17) rfl (by rw [h15]; rfl) rfl ?_
    refine ev_seg 2 (k' := 19) (L' := [(0, .ref 67), (1, .ref t1), (2, .int x2)]) (st' := [.ref 67, .ref 67]) rfl ?_
    refine ev_callV (q' := q_273) (x := 273) (y := 13) (c := 67) (As := []) (rest := [.ref 67]) hr rfl rfl rfl rfl rfl rfl rfl rfl rfl rfl rfl rfl (fun rv s16 hq => ev_kL hq (fun v17 e9 hr => ?_))
    subst e9
    refine ev_st (st' := [.long v17, .ref 67]) rfl ?_
    refine ev_seg 1 (k' := 21) (L' := [(0, .ref 67), (1, .ref t1), (2, .int x2)]) (st' := [.int 0, .long v17, .ref 67]) rfl ?_
    refine ev_callV (q' := q_274) (x := 274) (y := 13) (c := 67) (As := [.long v17, .int 0]) (rest := []) hr rfl rfl rfl rfl rfl rfl rfl rfl rfl rfl rfl rfl (fun rv s18 hq => ev_kV hq (fun e9 hr => ?_))
    subst e9
    refine ev_st (st' := []) rfl ?_
    refine ev_seg 1 (k' := 108) (L' := [(0, .ref 67), (1, .ref t1), (2, .int x2)]) (st' := []) rfl ?_
    exact ev_vret hr rfl rfl
  refine ev_if hr (fun h19 hr => ?_) (fun h19 hr => ?_)
  · skip
    refine ev_tab (o := 171) (t := 66) rfl (by rw [h19]; rfl) rfl ?_
    refine ev_seg 1 (k' := 67) (L' := [(0, .ref 67), (1, .ref t1), (2, .int x2)]) (st' := [.ref 67]) rfl ?_
    refine ev_callV (q' := q_273) (x := 273) (y := 13) (c := 67) (As := []) (rest := []) hr rfl rfl rfl rfl rfl rfl rfl rfl rfl rfl rfl rfl (fun rv s20 hq => ev_kL hq (fun v21 e9 hr => ?_))
    subst e9
    refine ev_st (st' := [.long v21]) rfl ?_
    refine ev_seg 3 (k' := 71) (L' := [(5, .long 0), (3, .long v21), (0, .ref 67), (1, .ref t1), (2, .int x2)]) (st' := []) rfl ?_
    refine ev_join (L' := [(0, .ref 67), (1, .ref t1), (2, .int x2), (3, .long v21), (5, .long 0)]) [2, 3, 4, 1, 0] [5, 3, 0, 1, 2] [0, 1, 2, 3, 5] rfl rfl (by decide) (by decide) rfl ?_
    exact hr
  refine ev_if hr (fun h22 hr => ?_) (fun h22 hr => ?_)
  · skip
    refine ev_tab (o := 171) (t := 66) rfl (by rw [h22]; rfl) rfl ?_
    refine ev_seg 1 (k' := 67) (L' := [(0, .ref 67), (1, .ref t1), (2, .int x2)]) (st' := [.ref 67]) rfl ?_
    refine ev_callV (q' := q_273) (x := 273) (y := 13) (c := 67) (As := []) (rest := []) hr rfl rfl rfl rfl rfl rfl rfl rfl rfl rfl rfl rfl (fun rv s23 hq => ev_kL hq (fun v24 e9 hr => ?_))
    subst e9
    refine ev_st (st' := [.long v24]) rfl ?_
    refine ev_seg 3 (k' := 71) (L' := [(5, .long 0), (3, .long v24), (0, .ref 67), (1, .ref t1), (2, .int x2)]) (st' := []) rfl ?_
    refine ev_join (L' := [(0, .ref 67), (1, .ref t1), (2, .int x2), (3, .long v24), (5, .long 0)]) [2, 3, 4, 1, 0] [5, 3, 0, 1, 2] [0, 1, 2, 3, 5] rfl rfl (by decide) (by decide) rfl ?_
    exact hr
  refine ev_if hr (fun h25 hr => ?_) (fun h25 hr => ?_)
  · skip
    refine ev_tab (o := 113) (t := 32) rfl (by rw [h25]; rfl) rfl ?_
    refine ev_seg 3 (k' := 35) (L' := [(0, .ref 67), (1, .ref t1), (2, .int x2)]) (st' := [.ref t1, .ref t1, .ref 67]) rfl ?_
    refine ev_getR (c := t1) (v := t1 + 15) rfl (isT_sh ht1) rfl (isT_r15 ht1) ?_
    refine ev_seg 3 (k' := 39) (L' := [(0, .ref 67), (1, .ref t1), (2, .int x2)]) (st' := [.ref 67, .int x2, .ref t1, .ref (t1 + 15), .ref t1, .ref 67]) rfl ?_
    refine ev_callV (q' := q_273) (x := 273) (y := 13) (c := 67) (As := []) (rest := [.int x2, .ref t1, .ref (t1 + 15), .ref t1, .ref 67]) hr rfl rfl rfl rfl rfl rfl rfl rfl rfl rfl rfl rfl (fun rv s26 hq => ev_kL hq (fun v27 e9 hr => ?_))
    subst e9
    refine ev_st (st' := [.long v27, .int x2, .ref t1, .ref (t1 + 15), .ref t1, .ref 67]) rfl ?_
    refine ev_seg 1 (k' := 41) (L' := [(0, .ref 67), (1, .ref t1), (2, .int x2)]) (st' := [.int v27.toInt32, .int x2, .ref t1, .ref (t1 + 15), .ref t1, .ref 67]) rfl ?_
    refine ev_callN (q' := q_261) (x := 261) (y := 112) (c := t1) (As := [.int x2, .int v27.toInt32]) (rest := [.ref (t1 + 15), .ref t1, .ref 67]) hr rfl rfl rfl rfl rfl rfl (isT_sh ht1) rfl rfl (fun rv s28 hq => ev_kI hq (fun v29 e9 hr => ?_))
    subst e9
    refine ev_st (st' := [.int v29, .ref (t1 + 15), .ref t1, .ref 67]) rfl ?_
    refine ev_ldI hr rfl (isT_a15 ht1) (fun v30 hr => ?_)
    refine ev_callV (q' := q_272) (x := 272) (y := 13) (c := 67) (As := [.ref t1, .int v30]) (rest := []) hr rfl rfl rfl rfl rfl rfl rfl rfl rfl rfl rfl rfl (fun rv s31 hq => ev_kV hq (fun e9 hr => ?_))
    subst e9
    refine ev_st (st' := []) rfl ?_
    refine ev_seg 1 (k' := 108) (L' := [(0, .ref 67), (1, .ref t1), (2, .int x2)]) (st' := []) rfl ?_
    exact ev_vret hr rfl rfl
  refine ev_if hr (fun h32 hr => ?_) (fun h32 hr => ?_)
  · skip
    refine ev_tab (o := 98) (t := 23) rfl (by rw [h32]; rfl) rfl ?_
    refine ev_seg 2 (k' := 25) (L' := [(0, .ref 67), (1, .ref t1), (2, .int x2)]) (st' := [.ref t1, .ref 67]) rfl ?_
    refine ev_getR (c := t1) (v := t1 + 11) rfl (isT_sh ht1) rfl (isT_r11 ht1) ?_
    refine ev_seg 1 (k' := 27) (L' := [(0, .ref 67), (1, .ref t1), (2, .int x2)]) (st' := [.int x2, .ref (t1 + 11), .ref 67]) rfl ?_
    refine ev_ldI hr rfl (isT_a11 ht1) (fun v33 hr => ?_)
    refine ev_seg 2 (k' := 30) (L' := [(0, .ref 67), (1, .ref t1), (2, .int x2)]) (st' := [.int 0, .long v33.toInt64, .ref 67]) rfl ?_
    refine ev_callV (q' := q_274) (x := 274) (y := 13) (c := 67) (As := [.long v33.toInt64, .int 0]) (rest := []) hr rfl rfl rfl rfl rfl rfl rfl rfl rfl rfl rfl rfl (fun rv s34 hq => ev_kV hq (fun e9 hr => ?_))
    subst e9
    refine ev_st (st' := []) rfl ?_
    refine ev_seg 1 (k' := 108) (L' := [(0, .ref 67), (1, .ref t1), (2, .int x2)]) (st' := []) rfl ?_
    exact ev_vret hr rfl rfl
  refine ev_if hr (fun h35 hr => ?_) (fun h35 hr => ?_)
  · skip
    refine ev_tab (o := 78) (t := 13) rfl (by rw [h35]; rfl) rfl ?_
    refine ev_seg 1 (k' := 14) (L' := [(0, .ref 67), (1, .ref t1), (2, .int x2)]) (st' := [.ref 67]) rfl ?_
    refine ev_callV (q' := q_273) (x := 273) (y := 13) (c := 67) (As := []) (rest := []) hr rfl rfl rfl rfl rfl rfl rfl rfl rfl rfl rfl rfl (fun rv s36 hq => ev_kL hq (fun v37 e9 hr => ?_))
    subst e9
    refine ev_st (st' := [.long v37]) rfl ?_
    refine ev_seg 2 (k' := 108) (L' := [(0, .ref 67), (1, .ref t1), (2, .int x2)]) (st' := []) rfl ?_
    exact ev_vret hr rfl rfl
  refine ev_if hr (fun h38 hr => ?_) (fun h38 hr => ?_)
  · skip
    refine ev_tab (o := 136) (t := 45) rfl (by rw [h38]; rfl) rfl ?_
    refine ev_seg 1 (k' := 46) (L' := [(0, .ref 67), (1, .ref t1), (2, .int x2)]) (st' := [.ref t1]) rfl ?_
    refine ev_getR (c := t1) (v := t1 + 12) rfl (isT_sh ht1) rfl (isT_r12 ht1) ?_
    refine ev_seg 1 (k' := 48) (L' := [(0, .ref 67), (1, .ref t1), (2, .int x2)]) (st' := [.int x2, .ref (t1 + 12)]) rfl ?_
    refine ev_ldI hr rfl (isT_a12 ht1) (fun v39 hr => ?_)
    refine ev_seg 1 (k' := 50) (L' := [(3, .int v39), (0, .ref 67), (1, .ref t1), (2, .int x2)]) (st' := []) rfl ?_
    refine ev_join (L' := [(0, .ref 67), (1, .ref t1), (3, .int v39)]) [1, 2, 0] [3, 0, 1, 2] [0, 1, 3] rfl rfl (by decide) (by decide) rfl ?_
    exact hr
  refine ev_tab (o := 171) (t := 66) rfl (tab_in (by have e0 := i_neL (z := 0) (w := 0) rfl h2; have e1 := i_neL (z := 1) (w := 1) rfl h3; have e2 := i_neL (z := 2) (w := 2) rfl h5; have e3 := i_neL (z := 3) (w := 3) rfl h8; have e4 := i_neL (z := 4) (w := 4) rfl h11; have e5 := i_neL (z := 5) (w := 5) rfl h15; have e6 := i_neL (z := 6) (w := 6) rfl h19; have e7 := i_neL (z := 7) (w := 7) rfl h22; have e8 := i_neL (z := 8) (w := 8) rfl h25; have e9 := i_neL (z := 9) (w := 9) rfl h32; have e10 := i_neL (z := 10) (w := 10) rfl h35; have e11 := i_neL (z := 11) (w := 11) rfl h38; omega)) rfl ?_
  refine ev_seg 1 (k' := 67) (L' := [(0, .ref 67), (1, .ref t1), (2, .int x2)]) (st' := [.ref 67]) rfl ?_
  refine ev_callV (q' := q_273) (x := 273) (y := 13) (c := 67) (As := []) (rest := []) hr rfl rfl rfl rfl rfl rfl rfl rfl rfl rfl rfl rfl (fun rv s40 hq => ev_kL hq (fun v41 e9 hr => ?_))
  subst e9
  refine ev_st (st' := [.long v41]) rfl ?_
  refine ev_seg 3 (k' := 71) (L' := [(5, .long 0), (3, .long v41), (0, .ref 67), (1, .ref t1), (2, .int x2)]) (st' := []) rfl ?_
  refine ev_join (L' := [(0, .ref 67), (1, .ref t1), (2, .int x2), (3, .long v41), (5, .long 0)]) [2, 3, 4, 1, 0] [5, 3, 0, 1, 2] [0, 1, 2, 3, 5] rfl rfl (by decide) (by decide) rfl ?_
  exact hr
set_option maxRecDepth 20000 in
theorem eMo_skip_71 (d : Nat) (t1 : Nat) (x2 : Int32) (l3 : Int64) (l5 : Int64) (s : aT) (ht1 : isT t1) : ∀ r, (if 0 ≤ aLcmp l5 l3 then if aLcmp l3 0 ≤ 0 then rV s else cG (fMo_readVarint d s) (kL fun v2 s1 => rV s1) else ldI 140 s (t1 + 9) x2 (fun v3 => if ¬ v3 = 7 then fMo_skip_86 (d + 1) t1 x2 l3 l5 s else cG (fMo_readVarint d s) (kL fun v5 s4 => cG (fMo_copyBytes d v5 0 s4) (kV fun s6 => fMo_skip_86 (d + 1) t1 x2 l3 l5 s6)))) = some r → fMo_skip_71 (d + 1) t1 x2 l3 l5 s = some r := by
  intro r hr
  show ev (d + 1) q_272 71 [(0, .ref 67), (1, .ref t1), (2, .int x2), (3, .long l3), (5, .long l5)] [] s = some r
  refine ev_seg 3 (k' := 74) (L' := [(0, .ref 67), (1, .ref t1), (2, .int x2), (3, .long l3), (5, .long l5)]) (st' := [.int (aLcmp l5 l3)]) rfl ?_
  refine ev_br (P := 0 ≤ aLcmp l5 l3) (L' := [(0, .ref 67), (1, .ref t1), (2, .int x2), (3, .long l3), (5, .long l5)]) (st' := []) hr rfl rfl rfl (fun hr => ?_) (fun hr => ?_)
  · skip
    refine ev_seg 3 (k' := 104) (L' := [(0, .ref 67), (1, .ref t1), (2, .int x2), (3, .long l3), (5, .long l5)]) (st' := [.int (aLcmp l3 0)]) rfl ?_
    refine ev_br (P := aLcmp l3 0 ≤ 0) (L' := [(0, .ref 67), (1, .ref t1), (2, .int x2), (3, .long l3), (5, .long l5)]) (st' := []) hr rfl rfl rfl (fun hr => ?_) (fun hr => ?_)
    · skip
      exact ev_vret hr rfl rfl
    · skip
      refine ev_seg 1 (k' := 106) (L' := [(0, .ref 67), (1, .ref t1), (2, .int x2), (3, .long l3), (5, .long l5)]) (st' := [.ref 67]) rfl ?_
      refine ev_callV (q' := q_273) (x := 273) (y := 13) (c := 67) (As := []) (rest := []) hr rfl rfl rfl rfl rfl rfl rfl rfl rfl rfl rfl rfl (fun rv s1 hq => ev_kL hq (fun v2 e9 hr => ?_))
      subst e9
      refine ev_st (st' := [.long v2]) rfl ?_
      refine ev_seg 1 (k' := 108) (L' := [(0, .ref 67), (1, .ref t1), (2, .int x2), (3, .long l3), (5, .long l5)]) (st' := []) rfl ?_
      exact ev_vret hr rfl rfl
  · skip
    refine ev_seg 1 (k' := 76) (L' := [(0, .ref 67), (1, .ref t1), (2, .int x2), (3, .long l3), (5, .long l5)]) (st' := [.ref t1]) rfl ?_
    refine ev_getR (c := t1) (v := t1 + 9) rfl (isT_sh ht1) rfl (isT_r9 ht1) ?_
    refine ev_seg 1 (k' := 78) (L' := [(0, .ref 67), (1, .ref t1), (2, .int x2), (3, .long l3), (5, .long l5)]) (st' := [.int x2, .ref (t1 + 9)]) rfl ?_
    refine ev_ldI hr rfl (isT_a9 ht1) (fun v3 hr => ?_)
    refine ev_seg 1 (k' := 80) (L' := [(0, .ref 67), (1, .ref t1), (2, .int x2), (3, .long l3), (5, .long l5)]) (st' := [.int 7, .int v3]) rfl ?_
    refine ev_br (P := ¬ v3 = 7) (L' := [(0, .ref 67), (1, .ref t1), (2, .int x2), (3, .long l3), (5, .long l5)]) (st' := []) hr rfl rfl rfl (fun hr => ?_) (fun hr => ?_)
    · skip
      exact hr
    · skip
      refine ev_seg 2 (k' := 83) (L' := [(0, .ref 67), (1, .ref t1), (2, .int x2), (3, .long l3), (5, .long l5)]) (st' := [.ref 67, .ref 67]) rfl ?_
      refine ev_callV (q' := q_273) (x := 273) (y := 13) (c := 67) (As := []) (rest := [.ref 67]) hr rfl rfl rfl rfl rfl rfl rfl rfl rfl rfl rfl rfl (fun rv s4 hq => ev_kL hq (fun v5 e9 hr => ?_))
      subst e9
      refine ev_st (st' := [.long v5, .ref 67]) rfl ?_
      refine ev_seg 1 (k' := 85) (L' := [(0, .ref 67), (1, .ref t1), (2, .int x2), (3, .long l3), (5, .long l5)]) (st' := [.int 0, .long v5, .ref 67]) rfl ?_
      refine ev_callV (q' := q_274) (x := 274) (y := 13) (c := 67) (As := [.long v5, .int 0]) (rest := []) hr rfl rfl rfl rfl rfl rfl rfl rfl rfl rfl rfl rfl (fun rv s6 hq => ev_kV hq (fun e9 hr => ?_))
      subst e9
      refine ev_st (st' := []) rfl ?_
      exact hr
set_option maxRecDepth 20000 in
theorem eMo_skip_50 (d : Nat) (t1 : Nat) (z3 : Int32) (s : aT) (ht1 : isT t1) : ∀ r, (if z3 < 0 then rV s else ldI 2200 s (t1 + 15) z3 (fun v1 => cG (fMo_skip d t1 v1 s) (kV fun s2 => ldI 2200 s2 (t1 + 18) z3 (fun v3 => fMo_skip_50 (d + 1) t1 v3 s2)))) = some r → fMo_skip_50 (d + 1) t1 z3 s = some r := by
  intro r hr
  show ev (d + 1) q_272 50 [(0, .ref 67), (1, .ref t1), (3, .int z3)] [] s = some r
  refine ev_seg 1 (k' := 51) (L' := [(0, .ref 67), (1, .ref t1), (3, .int z3)]) (st' := [.int z3]) rfl ?_
  refine ev_br (P := z3 < 0) (L' := [(0, .ref 67), (1, .ref t1), (3, .int z3)]) (st' := []) hr rfl rfl rfl (fun hr => ?_) (fun hr => ?_)
  · skip
    refine ev_seg 1 (k' := 108) (L' := [(0, .ref 67), (1, .ref t1), (3, .int z3)]) (st' := []) rfl ?_
    exact ev_vret hr rfl rfl
  · skip
    refine ev_seg 3 (k' := 55) (L' := [(0, .ref 67), (1, .ref t1), (3, .int z3)]) (st' := [.ref t1, .ref t1, .ref 67]) rfl ?_
    refine ev_getR (c := t1) (v := t1 + 15) rfl (isT_sh ht1) rfl (isT_r15 ht1) ?_
    refine ev_seg 1 (k' := 57) (L' := [(0, .ref 67), (1, .ref t1), (3, .int z3)]) (st' := [.int z3, .ref (t1 + 15), .ref t1, .ref 67]) rfl ?_
    refine ev_ldI hr rfl (isT_a15 ht1) (fun v1 hr => ?_)
    refine ev_callV (q' := q_272) (x := 272) (y := 13) (c := 67) (As := [.ref t1, .int v1]) (rest := []) hr rfl rfl rfl rfl rfl rfl rfl rfl rfl rfl rfl rfl (fun rv s2 hq => ev_kV hq (fun e9 hr => ?_))
    subst e9
    refine ev_st (st' := []) rfl ?_
    refine ev_seg 1 (k' := 60) (L' := [(0, .ref 67), (1, .ref t1), (3, .int z3)]) (st' := [.ref t1]) rfl ?_
    refine ev_getR (c := t1) (v := t1 + 18) rfl (isT_sh ht1) rfl (isT_r18 ht1) ?_
    refine ev_seg 1 (k' := 62) (L' := [(0, .ref 67), (1, .ref t1), (3, .int z3)]) (st' := [.int z3, .ref (t1 + 18)]) rfl ?_
    refine ev_ldI hr rfl (isT_a18 ht1) (fun v3 hr => ?_)
    refine ev_seg 2 (k' := 50) (L' := [(3, .int v3), (0, .ref 67), (1, .ref t1)]) (st' := []) rfl ?_
    refine ev_join (L' := [(0, .ref 67), (1, .ref t1), (3, .int v3)]) [1, 2, 0] [3, 0, 1] [0, 1, 3] rfl rfl (by decide) (by decide) rfl ?_
    exact hr
set_option maxRecDepth 20000 in
theorem eMo_skip_86 (d : Nat) (t1 : Nat) (x2 : Int32) (l3 : Int64) (l5 : Int64) (s : aT) (ht1 : isT t1) : ∀ r, (ldI 140 s (t1 + 12) x2 (fun v1 => ldI 2200 s (t1 + 15) v1 (fun v2 => cG (fMo_skip d t1 v2 s) (kV fun s3 => fMo_skip_71 (d + 1) t1 x2 l3 (l5 + 1) s3)))) = some r → fMo_skip_86 (d + 1) t1 x2 l3 l5 s = some r := by
  intro r hr
  show ev (d + 1) q_272 86 [(0, .ref 67), (1, .ref t1), (2, .int x2), (3, .long l3), (5, .long l5)] [] s = some r
  refine ev_seg 3 (k' := 89) (L' := [(0, .ref 67), (1, .ref t1), (2, .int x2), (3, .long l3), (5, .long l5)]) (st' := [.ref t1, .ref t1, .ref 67]) rfl ?_
  refine ev_getR (c := t1) (v := t1 + 15) rfl (isT_sh ht1) rfl (isT_r15 ht1) ?_
  refine ev_seg 1 (k' := 91) (L' := [(0, .ref 67), (1, .ref t1), (2, .int x2), (3, .long l3), (5, .long l5)]) (st' := [.ref t1, .ref (t1 + 15), .ref t1, .ref 67]) rfl ?_
  refine ev_getR (c := t1) (v := t1 + 12) rfl (isT_sh ht1) rfl (isT_r12 ht1) ?_
  refine ev_seg 1 (k' := 93) (L' := [(0, .ref 67), (1, .ref t1), (2, .int x2), (3, .long l3), (5, .long l5)]) (st' := [.int x2, .ref (t1 + 12), .ref (t1 + 15), .ref t1, .ref 67]) rfl ?_
  refine ev_ldI hr rfl (isT_a12 ht1) (fun v1 hr => ?_)
  refine ev_ldI hr rfl (isT_a15 ht1) (fun v2 hr => ?_)
  refine ev_callV (q' := q_272) (x := 272) (y := 13) (c := 67) (As := [.ref t1, .int v2]) (rest := []) hr rfl rfl rfl rfl rfl rfl rfl rfl rfl rfl rfl rfl (fun rv s3 hq => ev_kV hq (fun e9 hr => ?_))
  subst e9
  refine ev_st (st' := []) rfl ?_
  refine ev_seg 5 (k' := 71) (L' := [(5, .long (l5 + 1)), (0, .ref 67), (1, .ref t1), (2, .int x2), (3, .long l3)]) (st' := []) rfl ?_
  refine ev_join (L' := [(0, .ref 67), (1, .ref t1), (2, .int x2), (3, .long l3), (5, .long (l5 + 1))]) [1, 2, 3, 4, 0] [5, 0, 1, 2, 3] [0, 1, 2, 3, 5] rfl rfl (by decide) (by decide) rfl ?_
  exact hr
set_option maxRecDepth 20000 in
theorem eMo_readVarint (d : Nat) (s : aT) : ∀ r, (fMo_readVarint_6 d 0 0 128 s) = some r → fMo_readVarint d s = some r := by
  intro r hr
  show ev d q_273 0 [(0, .ref 67)] [] s = some r
  refine ev_seg 6 (k' := 6) (L' := [(4, .int 128), (3, .int 0), (1, .long 0), (0, .ref 67)]) (st' := []) rfl ?_
  refine ev_join (L' := [(0, .ref 67), (1, .long 0), (3, .int 0), (4, .int 128)]) [3, 2, 1, 0] [4, 3, 1, 0] [0, 1, 3, 4] rfl rfl (by decide) (by decide) rfl ?_
  exact hr
set_option maxRecDepth 20000 in
theorem eMo_readVarint_6 (d : Nat) (l1 : Int64) (z3 : Int32) (z4 : Int32) (s : aT) : ∀ r, (if z4 ≤ 127 then rL (((l1.toUInt64 >>> ((1 : Int32).toInt64.toUInt64 &&& Int64.toUInt64 63)).toInt64) ^^^ (-(l1 &&& 1))) s else ldI 32768 s 143 (gI s 67 31) (fun v1 => wI s 67 31 ((gI s 67 31) + 1) (fun s2 => fMo_readVarint_6 d (l1 ||| ((((v1 &&& 255) &&& 127).toInt64) <<< (z3.toInt64 &&& 63))) (z3 + 7) (v1 &&& 255) s2))) = some r → fMo_readVarint_6 d l1 z3 z4 s = some r := by
  intro r hr
  show ev d q_273 6 [(0, .ref 67), (1, .long l1), (3, .int z3), (4, .int z4)] [] s = some r
  refine ev_seg 2 (k' := 8) (L' := [(0, .ref 67), (1, .long l1), (3, .int z3), (4, .int z4)]) (st' := [.int 127, .int z4]) rfl ?_
  refine ev_br (P := z4 ≤ 127) (L' := [(0, .ref 67), (1, .long l1), (3, .int z3), (4, .int z4)]) (st' := []) hr rfl rfl rfl (fun hr => ?_) (fun hr => ?_)
  · skip
    refine ev_seg 8 (k' := 45) (L' := [(0, .ref 67), (1, .long l1), (3, .int z3), (4, .int z4)]) (st' := [.long (((l1.toUInt64 >>> ((1 : Int32).toInt64.toUInt64 &&& Int64.toUInt64 63)).toInt64) ^^^ (-(l1 &&& 1)))]) rfl ?_
    exact ev_lret hr rfl rfl
  · skip
    refine ev_seg 4 (k' := 13) (L' := [(0, .ref 67), (1, .long l1), (3, .int z3), (4, .int z4)]) (st' := [.int (gI s 67 31), .ref 143]) rfl ?_
    refine ev_ldB hr rfl rfl (fun v1 hr => ?_)
    refine ev_seg 8 (k' := 22) (L' := [(4, .int (v1 &&& 255)), (0, .ref 67), (1, .long l1), (3, .int z3)]) (st' := [.int ((gI s 67 31) + 1), .ref 67]) rfl ?_
    refine ev_putI (c := 67) hr rfl rfl rfl (fun s2 hr => ?_)
    refine ev_seg 14 (k' := 6) (L' := [(3, .int (z3 + 7)), (1, .long (l1 ||| ((((v1 &&& 255) &&& 127).toInt64) <<< (z3.toInt64 &&& 63)))), (4, .int (v1 &&& 255)), (0, .ref 67)]) (st' := []) rfl ?_
    refine ev_join (L' := [(0, .ref 67), (1, .long (l1 ||| ((((v1 &&& 255) &&& 127).toInt64) <<< (z3.toInt64 &&& 63)))), (3, .int (z3 + 7)), (4, .int (v1 &&& 255))]) [3, 1, 0, 2] [3, 1, 4, 0] [0, 1, 3, 4] rfl rfl (by decide) (by decide) rfl ?_
    exact hr
set_option maxRecDepth 20000 in
theorem eMo_copyBytes (d : Nat) (y1 : Int64) (x3 : Int32) (s : aT) : ∀ r, (fMo_copyBytes_2 (d + 1) y1 x3 0 s) = some r → fMo_copyBytes (d + 1) y1 x3 s = some r := by
  intro r hr
  show ev (d + 1) q_274 0 [(0, .ref 67), (1, .long y1), (3, .int x3)] [] s = some r
  refine ev_seg 2 (k' := 2) (L' := [(4, .long 0), (0, .ref 67), (1, .long y1), (3, .int x3)]) (st' := []) rfl ?_
  refine ev_join (L' := [(0, .ref 67), (1, .long y1), (3, .int x3), (4, .long 0)]) [1, 2, 3, 0] [4, 0, 1, 3] [0, 1, 3, 4] rfl rfl (by decide) (by decide) rfl ?_
  exact hr
set_option maxRecDepth 20000 in
theorem eMo_copyBytes_2 (d : Nat) (y1 : Int64) (x3 : Int32) (l4 : Int64) (s : aT) : ∀ r, (if 0 ≤ aLcmp l4 y1 then rV s else if x3 = 0 then fMo_copyBytes_15 (d + 1) y1 x3 l4 s else ldI 32768 s 143 (gI s 67 31) (fun v1 => cG (fMo_tellByte d v1 s) (kV fun s2 => fMo_copyBytes_15 (d + 1) y1 x3 l4 s2))) = some r → fMo_copyBytes_2 (d + 1) y1 x3 l4 s = some r := by
  intro r hr
  show ev (d + 1) q_274 2 [(0, .ref 67), (1, .long y1), (3, .int x3), (4, .long l4)] [] s = some r
  refine ev_seg 3 (k' := 5) (L' := [(0, .ref 67), (1, .long y1), (3, .int x3), (4, .long l4)]) (st' := [.int (aLcmp l4 y1)]) rfl ?_
  refine ev_br (P := 0 ≤ aLcmp l4 y1) (L' := [(0, .ref 67), (1, .long y1), (3, .int x3), (4, .long l4)]) (st' := []) hr rfl rfl rfl (fun hr => ?_) (fun hr => ?_)
  · skip
    exact ev_vret hr rfl rfl
  · skip
    refine ev_seg 1 (k' := 7) (L' := [(0, .ref 67), (1, .long y1), (3, .int x3), (4, .long l4)]) (st' := [.int x3]) rfl ?_
    refine ev_br (P := x3 = 0) (L' := [(0, .ref 67), (1, .long y1), (3, .int x3), (4, .long l4)]) (st' := []) hr rfl rfl rfl (fun hr => ?_) (fun hr => ?_)
    · skip
      exact hr
    · skip
      refine ev_seg 5 (k' := 13) (L' := [(0, .ref 67), (1, .long y1), (3, .int x3), (4, .long l4)]) (st' := [.int (gI s 67 31), .ref 143, .ref 67]) rfl ?_
      refine ev_ldB hr rfl rfl (fun v1 hr => ?_)
      refine ev_callV (q' := q_275) (x := 275) (y := 13) (c := 67) (As := [.int v1]) (rest := []) hr rfl rfl rfl rfl rfl rfl rfl rfl rfl rfl rfl rfl (fun rv s2 hq => ev_kV hq (fun e9 hr => ?_))
      subst e9
      refine ev_st (st' := []) rfl ?_
      exact hr
set_option maxRecDepth 20000 in
theorem eMo_copyBytes_15 (d : Nat) (y1 : Int64) (x3 : Int32) (l4 : Int64) (s : aT) : ∀ r, (wI s 67 31 ((gI s 67 31) + 1) (fun s1 => fMo_copyBytes_2 (d + 1) y1 x3 (l4 + 1) s1)) = some r → fMo_copyBytes_15 (d + 1) y1 x3 l4 s = some r := by
  intro r hr
  show ev (d + 1) q_274 15 [(0, .ref 67), (1, .long y1), (3, .int x3), (4, .long l4)] [] s = some r
  refine ev_seg 5 (k' := 20) (L' := [(0, .ref 67), (1, .long y1), (3, .int x3), (4, .long l4)]) (st' := [.int ((gI s 67 31) + 1), .ref 67]) rfl ?_
  refine ev_putI (c := 67) hr rfl rfl rfl (fun s1 hr => ?_)
  refine ev_seg 5 (k' := 2) (L' := [(4, .long (l4 + 1)), (0, .ref 67), (1, .long y1), (3, .int x3)]) (st' := []) rfl ?_
  refine ev_join (L' := [(0, .ref 67), (1, .long y1), (3, .int x3), (4, .long (l4 + 1))]) [1, 2, 3, 0] [4, 0, 1, 3] [0, 1, 3, 4] rfl rfl (by decide) (by decide) rfl ?_
  exact hr
set_option maxRecDepth 20000 in
theorem eMo_tellByte (d : Nat) (x1 : Int32) (s : aT) : ∀ r, (if ¬ gI s 67 22 = gI s 67 32 then fMo_tellByte_9 (d + 1) x1 s else cG (fMo_failBytes d 31 0 s) (kV fun s1 => fMo_tellByte_9 (d + 1) x1 s1)) = some r → fMo_tellByte (d + 1) x1 s = some r := by
  intro r hr
  show ev (d + 1) q_275 0 [(0, .ref 67), (1, .int x1)] [] s = some r
  refine ev_seg 4 (k' := 4) (L' := [(0, .ref 67), (1, .int x1)]) (st' := [.int (gI s 67 32), .int (gI s 67 22)]) rfl ?_
  refine ev_br (P := ¬ gI s 67 22 = gI s 67 32) (L' := [(0, .ref 67), (1, .int x1)]) (st' := []) hr rfl rfl rfl (fun hr => ?_) (fun hr => ?_)
  · skip
    exact hr
  · skip
    refine ev_seg 3 (k' := 8) (L' := [(0, .ref 67), (1, .int x1)]) (st' := [.int 0, .int 31, .ref 67]) rfl ?_
    refine ev_callV (q' := q_253) (x := 253) (y := 13) (c := 67) (As := [.int 31, .int 0]) (rest := []) hr rfl rfl rfl rfl rfl rfl rfl rfl rfl rfl rfl rfl (fun rv s1 hq => ev_kV hq (fun e9 hr => ?_))
    subst e9
    refine ev_st (st' := []) rfl ?_
    exact hr
set_option maxRecDepth 20000 in
theorem eMo_tellByte_9 (d : Nat) (x1 : Int32) (s : aT) : ∀ r, (stI 4200 s 144 (gI s 67 22) (vp_nar .byte x1.toInt8.toInt32) (fun s1 => wI s1 67 22 ((gI s1 67 22) + 1) (fun s2 => rV s2))) = some r → fMo_tellByte_9 (d + 1) x1 s = some r := by
  intro r hr
  show ev (d + 1) q_275 9 [(0, .ref 67), (1, .int x1)] [] s = some r
  refine ev_seg 6 (k' := 15) (L' := [(0, .ref 67), (1, .int x1)]) (st' := [.int x1.toInt8.toInt32, .int (gI s 67 22), .ref 144]) rfl ?_
  refine ev_stB hr rfl rfl (fun s1 hr => ?_)
  refine ev_seg 5 (k' := 21) (L' := [(0, .ref 67), (1, .int x1)]) (st' := [.int ((gI s1 67 22) + 1), .ref 67]) rfl ?_
  refine ev_putI (c := 67) hr rfl rfl rfl (fun s2 hr => ?_)
  exact ev_vret hr rfl rfl
set_option maxRecDepth 20000 in
theorem eMo_tellRow (d : Nat) (x1 : Int32) (s : aT) : ∀ r, (wI s 67 32 ((gI s 67 22) + x1) (fun s1 => cC (fMo_tell d 91 (gI s1 91 31) 113 (gI s1 113 31) s1) (kV fun s2 => rI 0 s2) (fun s2 => rI (-(gI s2 67 24)) s2))) = some r → fMo_tellRow (d + 1) x1 s = some r := by
  intro r hr
  show ev (d + 1) q_276 0 [(0, .ref 67), (1, .int x1)] [] s = some r
  refine ev_seg 5 (k' := 5) (L' := [(0, .ref 67), (1, .int x1)]) (st' := [.int ((gI s 67 22) + x1), .ref 67]) rfl ?_
  refine ev_putI (c := 67) hr rfl rfl rfl (fun s1 hr => ?_)
  refine ev_seg 11 (k' := 17) (L' := [(0, .ref 67), (1, .int x1)]) (st' := [.int (gI s1 113 31), .ref 113, .int (gI s1 91 31), .ref 91, .ref 67]) rfl ?_
  refine ev_callC (q' := q_277) (x := 277) (y := 13) (c := 67) (As := [.ref 91, .int (gI s1 91 31), .ref 113, .int (gI s1 113 31)]) (rest := []) (z := (10, 36, 39, 163, 19, 2)) (L' := [(0, .ref 67), (1, .int x1)]) hr rfl rfl rfl rfl rfl rfl rfl rfl rfl rfl rfl rfl rfl rfl (fun rv s2 hq => ev_kV hq (fun e9 hr => ?_)) (fun s2 hr => ?_)
  · skip
    subst e9
    refine ev_st (st' := []) rfl ?_
    refine ev_seg 2 (k' := 25) (L' := [(0, .ref 67), (1, .int x1)]) (st' := [.int 0]) rfl ?_
    exact ev_iret hr rfl rfl rfl
  · skip
    refine ev_seg 3 (k' := 23) (L' := [(0, .ref 67), (1, .int x1)]) (st' := [.int (-(gI s2 67 24))]) rfl ?_
    exact ev_iret hr rfl rfl rfl
set_option maxRecDepth 20000 in
theorem eMo_tell (d : Nat) (t1 : Nat) (x2 : Int32) (t3 : Nat) (x4 : Int32) (s : aT) (ht1 : isT t1) (ht3 : isT t3) : ∀ r, (ldI 140 s (t1 + 9) x2 (fun v1 => if ¬ v1 = 8 then ldI 140 s (t3 + 9) x4 (fun v2 => if ¬ v2 = 8 then cG (fMo_sixOf d v1 s) (kI fun v4 s3 => if ¬ v4 = 0 then fMo_tell_85 (d + 1) t3 x4 v1 s3 else ldI 140 s3 (t3 + 9) x4 (fun v5 => cG (fMo_sixOf d v5 s3) (kI fun v7 s6 => if ¬ v7 = 0 then fMo_tell_85 (d + 1) t3 x4 v1 s6 else ldI 140 s6 (t3 + 9) x4 (fun v8 => if v1 = v8 then if v1 = 6 then fMo_tell_121 (d + 1) t1 x2 t3 x4 v1 s6 else if v1 = 7 then fMo_tell_121 (d + 1) t1 x2 t3 x4 v1 s6 else cG (fMo_matches d t1 x2 t3 x4 s6) (kI fun v10 s9 => if ¬ v10 = 0 then fMo_tell_121 (d + 1) t1 x2 t3 x4 v1 s9 else cG (fMo_unresolved d s9) (kV fun s11 => fMo_tell_121 (d + 1) t1 x2 t3 x4 v1 s11)) else fMo_tell_85 (d + 1) t3 x4 v1 s6)))) else cG (fMo_branchFor d t1 x2 t3 x4 s) (kI fun v13 s12 => if 0 ≤ v13 then fMo_tell_39 (d + 1) t1 x2 t3 x4 v13 s12 else cG (fMo_unresolved d s12) (kV fun s14 => fMo_tell_39 (d + 1) t1 x2 t3 x4 v13 s14))) else cG (fMo_readVarint d s) (kL fun v16 s15 => cN (fMt_kid d t1 x2 v16.toInt32 s15) (kI fun v18 s17 => ldI 2200 s17 (t1 + 15) v18 (fun v19 => cG (fMo_tell d t1 v19 t3 x4 s17) (kV fun s20 => rV s20)))))) = some r → fMo_tell (d + 1) t1 x2 t3 x4 s = some r := by
  intro r hr
  show ev (d + 1) q_277 0 [(0, .ref 67), (1, .ref t1), (2, .int x2), (3, .ref t3), (4, .int x4)] [] s = some r
  refine ev_seg 1 (k' := 1) (L' := [(0, .ref 67), (1, .ref t1), (2, .int x2), (3, .ref t3), (4, .int x4)]) (st' := [.ref t1]) rfl ?_
  refine ev_getR (c := t1) (v := t1 + 9) rfl (isT_sh ht1) rfl (isT_r9 ht1) ?_
  refine ev_seg 1 (k' := 3) (L' := [(0, .ref 67), (1, .ref t1), (2, .int x2), (3, .ref t3), (4, .int x4)]) (st' := [.int x2, .ref (t1 + 9)]) rfl ?_
  refine ev_ldI hr rfl (isT_a9 ht1) (fun v1 hr => ?_)
  refine ev_seg 3 (k' := 7) (L' := [(5, .int v1), (0, .ref 67), (1, .ref t1), (2, .int x2), (3, .ref t3), (4, .int x4)]) (st' := [.int 8, .int v1]) rfl ?_
  refine ev_br (P := ¬ v1 = 8) (L' := [(5, .int v1), (0, .ref 67), (1, .ref t1), (2, .int x2), (3, .ref t3), (4, .int x4)]) (st' := []) hr rfl rfl rfl (fun hr => ?_) (fun hr => ?_)
  · skip
    refine ev_seg 1 (k' := 24) (L' := [(5, .int v1), (0, .ref 67), (1, .ref t1), (2, .int x2), (3, .ref t3), (4, .int x4)]) (st' := [.ref t3]) rfl ?_
    refine ev_getR (c := t3) (v := t3 + 9) rfl (isT_sh ht3) rfl (isT_r9 ht3) ?_
    refine ev_seg 1 (k' := 26) (L' := [(5, .int v1), (0, .ref 67), (1, .ref t1), (2, .int x2), (3, .ref t3), (4, .int x4)]) (st' := [.int x4, .ref (t3 + 9)]) rfl ?_
    refine ev_ldI hr rfl (isT_a9 ht3) (fun v2 hr => ?_)
    refine ev_seg 1 (k' := 28) (L' := [(5, .int v1), (0, .ref 67), (1, .ref t1), (2, .int x2), (3, .ref t3), (4, .int x4)]) (st' := [.int 8, .int v2]) rfl ?_
    refine ev_br (P := ¬ v2 = 8) (L' := [(5, .int v1), (0, .ref 67), (1, .ref t1), (2, .int x2), (3, .ref t3), (4, .int x4)]) (st' := []) hr rfl rfl rfl (fun hr => ?_) (fun hr => ?_)
    · skip
      refine ev_seg 1 (k' := 71) (L' := [(5, .int v1), (0, .ref 67), (1, .ref t1), (2, .int x2), (3, .ref t3), (4, .int x4)]) (st' := [.int v1]) rfl ?_
      refine ev_callS (q' := q_242) (x := 242) (vs := [.int v1]) (rest := []) hr rfl rfl rfl rfl rfl rfl rfl rfl rfl rfl (fun rv s3 hq => ev_kI hq (fun v4 e9 hr => ?_))
      subst e9
      refine ev_st (st' := [.int v4]) rfl ?_
      refine ev_br (P := ¬ v4 = 0) (L' := [(5, .int v1), (0, .ref 67), (1, .ref t1), (2, .int x2), (3, .ref t3), (4, .int x4)]) (st' := []) hr rfl rfl rfl (fun hr => ?_) (fun hr => ?_)
      · skip
        refine ev_join (L' := [(0, .ref 67), (3, .ref t3), (4, .int x4), (5, .int v1)]) [1, 4, 5, 0] [5, 0, 1, 2, 3, 4] [0, 3, 4, 5] rfl rfl (by decide) (by decide) rfl ?_
        exact hr
      · skip
        refine ev_seg 1 (k' := 74) (L' := [(5, .int v1), (0, .ref 67), (1, .ref t1), (2, .int x2), (3, .ref t3), (4, .int x4)]) (st' := [.ref t3]) rfl ?_
        refine ev_getR (c := t3) (v := t3 + 9) rfl (isT_sh ht3) rfl (isT_r9 ht3) ?_
        refine ev_seg 1 (k' := 76) (L' := [(5, .int v1), (0, .ref 67), (1, .ref t1), (2, .int x2), (3, .ref t3), (4, .int x4)]) (st' := [.int x4, .ref (t3 + 9)]) rfl ?_
        refine ev_ldI hr rfl (isT_a9 ht3) (fun v5 hr => ?_)
        refine ev_callS (q' := q_242) (x := 242) (vs := [.int v5]) (rest := []) hr rfl rfl rfl rfl rfl rfl rfl rfl rfl rfl (fun rv s6 hq => ev_kI hq (fun v7 e9 hr => ?_))
        subst e9
        refine ev_st (st' := [.int v7]) rfl ?_
        refine ev_br (P := ¬ v7 = 0) (L' := [(5, .int v1), (0, .ref 67), (1, .ref t1), (2, .int x2), (3, .ref t3), (4, .int x4)]) (st' := []) hr rfl rfl rfl (fun hr => ?_) (fun hr => ?_)
        · skip
          refine ev_join (L' := [(0, .ref 67), (3, .ref t3), (4, .int x4), (5, .int v1)]) [1, 4, 5, 0] [5, 0, 1, 2, 3, 4] [0, 3, 4, 5] rfl rfl (by decide) (by decide) rfl ?_
          exact hr
        · skip
          refine ev_seg 2 (k' := 81) (L' := [(5, .int v1), (0, .ref 67), (1, .ref t1), (2, .int x2), (3, .ref t3), (4, .int x4)]) (st' := [.ref t3, .int v1]) rfl ?_
          refine ev_getR (c := t3) (v := t3 + 9) rfl (isT_sh ht3) rfl (isT_r9 ht3) ?_
          refine ev_seg 1 (k' := 83) (L' := [(5, .int v1), (0, .ref 67), (1, .ref t1), (2, .int x2), (3, .ref t3), (4, .int x4)]) (st' := [.int x4, .ref (t3 + 9), .int v1]) rfl ?_
          refine ev_ldI hr rfl (isT_a9 ht3) (fun v8 hr => ?_)
          refine ev_br (P := v1 = v8) (L' := [(5, .int v1), (0, .ref 67), (1, .ref t1), (2, .int x2), (3, .ref t3), (4, .int x4)]) (st' := []) hr rfl rfl rfl (fun hr => ?_) (fun hr => ?_)
          · skip
            refine ev_seg 2 (k' := 109) (L' := [(5, .int v1), (0, .ref 67), (1, .ref t1), (2, .int x2), (3, .ref t3), (4, .int x4)]) (st' := [.int 6, .int v1]) rfl ?_
            refine ev_br (P := v1 = 6) (L' := [(5, .int v1), (0, .ref 67), (1, .ref t1), (2, .int x2), (3, .ref t3), (4, .int x4)]) (st' := []) hr rfl rfl rfl (fun hr => ?_) (fun hr => ?_)
            · skip
              refine ev_join (L' := [(0, .ref 67), (1, .ref t1), (2, .int x2), (3, .ref t3), (4, .int x4), (5, .int v1)]) [1, 2, 3, 4, 5, 0] [5, 0, 1, 2, 3, 4] [0, 1, 2, 3, 4, 5] rfl rfl (by decide) (by decide) rfl ?_
              exact hr
            · skip
              refine ev_seg 2 (k' := 112) (L' := [(5, .int v1), (0, .ref 67), (1, .ref t1), (2, .int x2), (3, .ref t3), (4, .int x4)]) (st' := [.int 7, .int v1]) rfl ?_
              refine ev_br (P := v1 = 7) (L' := [(5, .int v1), (0, .ref 67), (1, .ref t1), (2, .int x2), (3, .ref t3), (4, .int x4)]) (st' := []) hr rfl rfl rfl (fun hr => ?_) (fun hr => ?_)
              · skip
                refine ev_join (L' := [(0, .ref 67), (1, .ref t1), (2, .int x2), (3, .ref t3), (4, .int x4), (5, .int v1)]) [1, 2, 3, 4, 5, 0] [5, 0, 1, 2, 3, 4] [0, 1, 2, 3, 4, 5] rfl rfl (by decide) (by decide) rfl ?_
                exact hr
              · skip
                refine ev_seg 4 (k' := 117) (L' := [(5, .int v1), (0, .ref 67), (1, .ref t1), (2, .int x2), (3, .ref t3), (4, .int x4)]) (st' := [.int x4, .ref t3, .int x2, .ref t1]) rfl ?_
                refine ev_callS (q' := q_241) (x := 241) (vs := [.ref t1, .int x2, .ref t3, .int x4]) (rest := []) hr rfl rfl rfl rfl rfl rfl rfl rfl rfl rfl (fun rv s9 hq => ev_kI hq (fun v10 e9 hr => ?_))
                subst e9
                refine ev_st (st' := [.int v10]) rfl ?_
                refine ev_br (P := ¬ v10 = 0) (L' := [(5, .int v1), (0, .ref 67), (1, .ref t1), (2, .int x2), (3, .ref t3), (4, .int x4)]) (st' := []) hr rfl rfl rfl (fun hr => ?_) (fun hr => ?_)
                · skip
                  refine ev_join (L' := [(0, .ref 67), (1, .ref t1), (2, .int x2), (3, .ref t3), (4, .int x4), (5, .int v1)]) [1, 2, 3, 4, 5, 0] [5, 0, 1, 2, 3, 4] [0, 1, 2, 3, 4, 5] rfl rfl (by decide) (by decide) rfl ?_
                  exact hr
                · skip
                  refine ev_seg 1 (k' := 120) (L' := [(5, .int v1), (0, .ref 67), (1, .ref t1), (2, .int x2), (3, .ref t3), (4, .int x4)]) (st' := [.ref 67]) rfl ?_
                  refine ev_callV (q' := q_278) (x := 278) (y := 13) (c := 67) (As := []) (rest := []) hr rfl rfl rfl rfl rfl rfl rfl rfl rfl rfl rfl rfl (fun rv s11 hq => ev_kV hq (fun e9 hr => ?_))
                  subst e9
                  refine ev_st (st' := []) rfl ?_
                  refine ev_join (L' := [(0, .ref 67), (1, .ref t1), (2, .int x2), (3, .ref t3), (4, .int x4), (5, .int v1)]) [1, 2, 3, 4, 5, 0] [5, 0, 1, 2, 3, 4] [0, 1, 2, 3, 4, 5] rfl rfl (by decide) (by decide) rfl ?_
                  exact hr
          · skip
            refine ev_join (L' := [(0, .ref 67), (3, .ref t3), (4, .int x4), (5, .int v1)]) [1, 4, 5, 0] [5, 0, 1, 2, 3, 4] [0, 3, 4, 5] rfl rfl (by decide) (by decide) rfl ?_
            exact hr
    · skip
      refine ev_seg 4 (k' := 33) (L' := [(5, .int v1), (0, .ref 67), (1, .ref t1), (2, .int x2), (3, .ref t3), (4, .int x4)]) (st' := [.int x4, .ref t3, .int x2, .ref t1]) rfl ?_
      refine ev_callS (q' := q_240) (x := 240) (vs := [.ref t1, .int x2, .ref t3, .int x4]) (rest := []) hr rfl rfl rfl rfl rfl rfl rfl rfl rfl rfl (fun rv s12 hq => ev_kI hq (fun v13 e9 hr => ?_))
      subst e9
      refine ev_st (st' := [.int v13]) rfl ?_
      refine ev_seg 2 (k' := 36) (L' := [(6, .int v13), (5, .int v1), (0, .ref 67), (1, .ref t1), (2, .int x2), (3, .ref t3), (4, .int x4)]) (st' := [.int v13]) rfl ?_
      refine ev_br (P := 0 ≤ v13) (L' := [(6, .int v13), (5, .int v1), (0, .ref 67), (1, .ref t1), (2, .int x2), (3, .ref t3), (4, .int x4)]) (st' := []) hr rfl rfl rfl (fun hr => ?_) (fun hr => ?_)
      · skip
        refine ev_join (L' := [(0, .ref 67), (1, .ref t1), (2, .int x2), (3, .ref t3), (4, .int x4), (6, .int v13)]) [2, 3, 4, 5, 6, 0] [6, 5, 0, 1, 2, 3, 4] [0, 1, 2, 3, 4, 6] rfl rfl (by decide) (by decide) rfl ?_
        exact hr
      · skip
        refine ev_seg 1 (k' := 38) (L' := [(6, .int v13), (5, .int v1), (0, .ref 67), (1, .ref t1), (2, .int x2), (3, .ref t3), (4, .int x4)]) (st' := [.ref 67]) rfl ?_
        refine ev_callV (q' := q_278) (x := 278) (y := 13) (c := 67) (As := []) (rest := []) hr rfl rfl rfl rfl rfl rfl rfl rfl rfl rfl rfl rfl (fun rv s14 hq => ev_kV hq (fun e9 hr => ?_))
        subst e9
        refine ev_st (st' := []) rfl ?_
        refine ev_join (L' := [(0, .ref 67), (1, .ref t1), (2, .int x2), (3, .ref t3), (4, .int x4), (6, .int v13)]) [2, 3, 4, 5, 6, 0] [6, 5, 0, 1, 2, 3, 4] [0, 1, 2, 3, 4, 6] rfl rfl (by decide) (by decide) rfl ?_
        exact hr
  · skip
    refine ev_seg 3 (k' := 11) (L' := [(5, .int v1), (0, .ref 67), (1, .ref t1), (2, .int x2), (3, .ref t3), (4, .int x4)]) (st' := [.ref t1, .ref t1, .ref 67]) rfl ?_
    refine ev_getR (c := t1) (v := t1 + 15) rfl (isT_sh ht1) rfl (isT_r15 ht1) ?_
    refine ev_seg 3 (k' := 15) (L' := [(5, .int v1), (0, .ref 67), (1, .ref t1), (2, .int x2), (3, .ref t3), (4, .int x4)]) (st' := [.ref 67, .int x2, .ref t1, .ref (t1 + 15), .ref t1, .ref 67]) rfl ?_
    refine ev_callV (q' := q_273) (x := 273) (y := 13) (c := 67) (As := []) (rest := [.int x2, .ref t1, .ref (t1 + 15), .ref t1, .ref 67]) hr rfl rfl rfl rfl rfl rfl rfl rfl rfl rfl rfl rfl (fun rv s15 hq => ev_kL hq (fun v16 e9 hr => ?_))
    subst e9
    refine ev_st (st' := [.long v16, .int x2, .ref t1, .ref (t1 + 15), .ref t1, .ref 67]) rfl ?_
    refine ev_seg 1 (k' := 17) (L' := [(5, .int v1), (0, .ref 67), (1, .ref t1), (2, .int x2), (3, .ref t3), (4, .int x4)]) (st' := [.int v16.toInt32, .int x2, .ref t1, .ref (t1 + 15), .ref t1, .ref 67]) rfl ?_
    refine ev_callN (q' := q_261) (x := 261) (y := 112) (c := t1) (As := [.int x2, .int v16.toInt32]) (rest := [.ref (t1 + 15), .ref t1, .ref 67]) hr rfl rfl rfl rfl rfl rfl (isT_sh ht1) rfl rfl (fun rv s17 hq => ev_kI hq (fun v18 e9 hr => ?_))
    subst e9
    refine ev_st (st' := [.int v18, .ref (t1 + 15), .ref t1, .ref 67]) rfl ?_
    refine ev_ldI hr rfl (isT_a15 ht1) (fun v19 hr => ?_)
    refine ev_seg 2 (k' := 21) (L' := [(5, .int v1), (0, .ref 67), (1, .ref t1), (2, .int x2), (3, .ref t3), (4, .int x4)]) (st' := [.int x4, .ref t3, .int v19, .ref t1, .ref 67]) rfl ?_
    refine ev_callV (q' := q_277) (x := 277) (y := 13) (c := 67) (As := [.ref t1, .int v19, .ref t3, .int x4]) (rest := []) hr rfl rfl rfl rfl rfl rfl rfl rfl rfl rfl rfl rfl (fun rv s20 hq => ev_kV hq (fun e9 hr => ?_))
    subst e9
    refine ev_st (st' := []) rfl ?_
    exact ev_vret hr rfl rfl
set_option maxRecDepth 20000 in
theorem eMo_tell_85 (d : Nat) (t3 : Nat) (x4 : Int32) (z5 : Int32) (s : aT) (ht3 : isT t3) : ∀ r, (cG (fMo_sixOf d z5 s) (kI fun v2 s1 => if v2 = 0 then fMo_tell_101 (d + 1) z5 s1 else ldI 140 s1 (t3 + 9) x4 (fun v3 => cG (fMo_sixOf d v3 s1) (kI fun v5 s4 => if v5 = 0 then fMo_tell_101 (d + 1) z5 s4 else ldI 140 s4 (t3 + 9) x4 (fun v6 => cG (fMo_matchesSix d z5 v6 s4) (kI fun v8 s7 => if ¬ v8 = 0 then fMo_tell_103 (d + 1) z5 s7 else fMo_tell_101 (d + 1) z5 s7)))))) = some r → fMo_tell_85 (d + 1) t3 x4 z5 s = some r := by
  intro r hr
  show ev (d + 1) q_277 85 [(0, .ref 67), (3, .ref t3), (4, .int x4), (5, .int z5)] [] s = some r
  refine ev_seg 1 (k' := 86) (L' := [(0, .ref 67), (3, .ref t3), (4, .int x4), (5, .int z5)]) (st' := [.int z5]) rfl ?_
  refine ev_callS (q' := q_242) (x := 242) (vs := [.int z5]) (rest := []) hr rfl rfl rfl rfl rfl rfl rfl rfl rfl rfl (fun rv s1 hq => ev_kI hq (fun v2 e9 hr => ?_))
  subst e9
  refine ev_st (st' := [.int v2]) rfl ?_
  refine ev_br (P := v2 = 0) (L' := [(0, .ref 67), (3, .ref t3), (4, .int x4), (5, .int z5)]) (st' := []) hr rfl rfl rfl (fun hr => ?_) (fun hr => ?_)
  · skip
    refine ev_join (L' := [(0, .ref 67), (5, .int z5)]) [0, 3] [0, 3, 4, 5] [0, 5] rfl rfl (by decide) (by decide) rfl ?_
    exact hr
  · skip
    refine ev_seg 1 (k' := 89) (L' := [(0, .ref 67), (3, .ref t3), (4, .int x4), (5, .int z5)]) (st' := [.ref t3]) rfl ?_
    refine ev_getR (c := t3) (v := t3 + 9) rfl (isT_sh ht3) rfl (isT_r9 ht3) ?_
    refine ev_seg 1 (k' := 91) (L' := [(0, .ref 67), (3, .ref t3), (4, .int x4), (5, .int z5)]) (st' := [.int x4, .ref (t3 + 9)]) rfl ?_
    refine ev_ldI hr rfl (isT_a9 ht3) (fun v3 hr => ?_)
    refine ev_callS (q' := q_242) (x := 242) (vs := [.int v3]) (rest := []) hr rfl rfl rfl rfl rfl rfl rfl rfl rfl rfl (fun rv s4 hq => ev_kI hq (fun v5 e9 hr => ?_))
    subst e9
    refine ev_st (st' := [.int v5]) rfl ?_
    refine ev_br (P := v5 = 0) (L' := [(0, .ref 67), (3, .ref t3), (4, .int x4), (5, .int z5)]) (st' := []) hr rfl rfl rfl (fun hr => ?_) (fun hr => ?_)
    · skip
      refine ev_join (L' := [(0, .ref 67), (5, .int z5)]) [0, 3] [0, 3, 4, 5] [0, 5] rfl rfl (by decide) (by decide) rfl ?_
      exact hr
    · skip
      refine ev_seg 2 (k' := 96) (L' := [(0, .ref 67), (3, .ref t3), (4, .int x4), (5, .int z5)]) (st' := [.ref t3, .int z5]) rfl ?_
      refine ev_getR (c := t3) (v := t3 + 9) rfl (isT_sh ht3) rfl (isT_r9 ht3) ?_
      refine ev_seg 1 (k' := 98) (L' := [(0, .ref 67), (3, .ref t3), (4, .int x4), (5, .int z5)]) (st' := [.int x4, .ref (t3 + 9), .int z5]) rfl ?_
      refine ev_ldI hr rfl (isT_a9 ht3) (fun v6 hr => ?_)
      refine ev_callS (q' := q_243) (x := 243) (vs := [.int z5, .int v6]) (rest := []) hr rfl rfl rfl rfl rfl rfl rfl rfl rfl rfl (fun rv s7 hq => ev_kI hq (fun v8 e9 hr => ?_))
      subst e9
      refine ev_st (st' := [.int v8]) rfl ?_
      refine ev_br (P := ¬ v8 = 0) (L' := [(0, .ref 67), (3, .ref t3), (4, .int x4), (5, .int z5)]) (st' := []) hr rfl rfl rfl (fun hr => ?_) (fun hr => ?_)
      · skip
        refine ev_join (L' := [(0, .ref 67), (5, .int z5)]) [0, 3] [0, 3, 4, 5] [0, 5] rfl rfl (by decide) (by decide) rfl ?_
        exact hr
      · skip
        refine ev_join (L' := [(0, .ref 67), (5, .int z5)]) [0, 3] [0, 3, 4, 5] [0, 5] rfl rfl (by decide) (by decide) rfl ?_
        exact hr
set_option maxRecDepth 20000 in
theorem eMo_tell_121 (d : Nat) (t1 : Nat) (x2 : Int32) (t3 : Nat) (x4 : Int32) (z5 : Int32) (s : aT) (ht1 : isT t1) (ht3 : isT t3) : ∀ r, (if z5 = 9 then ldI 140 s (t1 + 11) x2 (fun v2 => cG (fMo_copyBytes d v2.toInt64 1 s) (kV fun s3 => rV s3)) else if z5 = 10 then cG (fMo_readVarint d s) (kL fun v6 s5 => cN (fMt_kid d t1 x2 v6.toInt32 s5) (kI fun v8 s7 => ldI 2200 s7 (t1 + 16) v8 (fun v9 => cN (fMt_symbol d t3 x4 t1 v9 s7) (kI fun v11 s10 => if 0 ≤ v11 then fMo_tell_154 (d + 1) v11 s10 else ldI 140 s10 (t3 + 14) x4 (fun v12 => fMo_tell_154 (d + 1) v12 s10))))) else if z5 = 11 then cG (fMo_tellRecord d t1 x2 t3 x4 s) (kV fun s14 => rV s14) else cG (fMo_readVarint d s) (kL fun v16 s15 => if aLcmp v16 0 ≤ 0 then fMo_tell_181 (d + 1) t1 x2 t3 x4 z5 v16 s15 else cG (fMo_tellVarint d v16 s15) (kV fun s17 => fMo_tell_181 (d + 1) t1 x2 t3 x4 z5 v16 s17))) = some r → fMo_tell_121 (d + 1) t1 x2 t3 x4 z5 s = some r := by
  intro r hr
  show ev (d + 1) q_277 121 [(0, .ref 67), (1, .ref t1), (2, .int x2), (3, .ref t3), (4, .int x4), (5, .int z5)] [] s = some r
  refine ev_seg 1 (k' := 122) (L' := [(0, .ref 67), (1, .ref t1), (2, .int x2), (3, .ref t3), (4, .int x4), (5, .int z5)]) (st' := [.int z5]) rfl ?_
  refine ev_if hr (fun h1 hr => ?_) (fun h1 hr => ?_)
  · skip
    refine ev_tab (o := 27) (t := 123) rfl (by rw [h1]; rfl) rfl ?_
    refine ev_seg 2 (k' := 125) (L' := [(0, .ref 67), (1, .ref t1), (2, .int x2), (3, .ref t3), (4, .int x4), (5, .int z5)]) (st' := [.ref t1, .ref 67]) rfl ?_
    refine ev_getR (c := t1) (v := t1 + 11) rfl (isT_sh ht1) rfl (isT_r11 ht1) ?_
    refine ev_seg 1 (k' := 127) (L' := [(0, .ref 67), (1, .ref t1), (2, .int x2), (3, .ref t3), (4, .int x4), (5, .int z5)]) (st' := [.int x2, .ref (t1 + 11), .ref 67]) rfl ?_
    refine ev_ldI hr rfl (isT_a11 ht1) (fun v2 hr => ?_)
    refine ev_seg 2 (k' := 130) (L' := [(0, .ref 67), (1, .ref t1), (2, .int x2), (3, .ref t3), (4, .int x4), (5, .int z5)]) (st' := [.int 1, .long v2.toInt64, .ref 67]) rfl ?_
    refine ev_callV (q' := q_274) (x := 274) (y := 13) (c := 67) (As := [.long v2.toInt64, .int 1]) (rest := []) hr rfl rfl rfl rfl rfl rfl rfl rfl rfl rfl rfl rfl (fun rv s3 hq => ev_kV hq (fun e9 hr => ?_))
    subst e9
    refine ev_st (st' := []) rfl ?_
    refine ev_seg 1 (k' := 226) (L' := [(0, .ref 67), (1, .ref t1), (2, .int x2), (3, .ref t3), (4, .int x4), (5, .int z5)]) (st' := []) rfl ?_
    exact ev_vret hr rfl rfl
  refine ev_if hr (fun h4 hr => ?_) (fun h4 hr => ?_)
  · skip
    refine ev_tab (o := 42) (t := 132) rfl (by rw [h4]; rfl) rfl ?_
    refine ev_seg 4 (k' := 136) (L' := [(0, .ref 67), (1, .ref t1), (2, .int x2), (3, .ref t3), (4, .int x4), (5, .int z5)]) (st' := [.ref t1, .ref t1, .int x4, .ref t3]) rfl ?_
    refine ev_getR (c := t1) (v := t1 + 16) rfl (isT_sh ht1) rfl (isT_r16 ht1) ?_
    refine ev_seg 3 (k' := 140) (L' := [(0, .ref 67), (1, .ref t1), (2, .int x2), (3, .ref t3), (4, .int x4), (5, .int z5)]) (st' := [.ref 67, .int x2, .ref t1, .ref (t1 + 16), .ref t1, .int x4, .ref t3]) rfl ?_
    refine ev_callV (q' := q_273) (x := 273) (y := 13) (c := 67) (As := []) (rest := [.int x2, .ref t1, .ref (t1 + 16), .ref t1, .int x4, .ref t3]) hr rfl rfl rfl rfl rfl rfl rfl rfl rfl rfl rfl rfl (fun rv s5 hq => ev_kL hq (fun v6 e9 hr => ?_))
    subst e9
    refine ev_st (st' := [.long v6, .int x2, .ref t1, .ref (t1 + 16), .ref t1, .int x4, .ref t3]) rfl ?_
    refine ev_seg 1 (k' := 142) (L' := [(0, .ref 67), (1, .ref t1), (2, .int x2), (3, .ref t3), (4, .int x4), (5, .int z5)]) (st' := [.int v6.toInt32, .int x2, .ref t1, .ref (t1 + 16), .ref t1, .int x4, .ref t3]) rfl ?_
    refine ev_callN (q' := q_261) (x := 261) (y := 112) (c := t1) (As := [.int x2, .int v6.toInt32]) (rest := [.ref (t1 + 16), .ref t1, .int x4, .ref t3]) hr rfl rfl rfl rfl rfl rfl (isT_sh ht1) rfl rfl (fun rv s7 hq => ev_kI hq (fun v8 e9 hr => ?_))
    subst e9
    refine ev_st (st' := [.int v8, .ref (t1 + 16), .ref t1, .int x4, .ref t3]) rfl ?_
    refine ev_ldI hr rfl (isT_a16 ht1) (fun v9 hr => ?_)
    refine ev_callN (q' := q_223) (x := 223) (y := 112) (c := t3) (As := [.int x4, .ref t1, .int v9]) (rest := []) hr rfl rfl rfl rfl rfl rfl (isT_sh ht3) rfl rfl (fun rv s10 hq => ev_kI hq (fun v11 e9 hr => ?_))
    subst e9
    refine ev_st (st' := [.int v11]) rfl ?_
    refine ev_seg 2 (k' := 147) (L' := [(6, .int v11), (0, .ref 67), (1, .ref t1), (2, .int x2), (3, .ref t3), (4, .int x4), (5, .int z5)]) (st' := [.int v11]) rfl ?_
    refine ev_br (P := 0 ≤ v11) (L' := [(6, .int v11), (0, .ref 67), (1, .ref t1), (2, .int x2), (3, .ref t3), (4, .int x4), (5, .int z5)]) (st' := []) hr rfl rfl rfl (fun hr => ?_) (fun hr => ?_)
    · skip
      refine ev_seg 1 (k' := 154) (L' := [(6, .int v11), (0, .ref 67), (1, .ref t1), (2, .int x2), (3, .ref t3), (4, .int x4), (5, .int z5)]) (st' := [.int v11]) rfl ?_
      refine ev_join (L' := [(0, .ref 67)]) [1] [6, 0, 1, 2, 3, 4, 5] [0] rfl rfl (by decide) (by decide) rfl ?_
      exact hr
    · skip
      refine ev_seg 1 (k' := 149) (L' := [(6, .int v11), (0, .ref 67), (1, .ref t1), (2, .int x2), (3, .ref t3), (4, .int x4), (5, .int z5)]) (st' := [.ref t3]) rfl ?_
      refine ev_getR (c := t3) (v := t3 + 14) rfl (isT_sh ht3) rfl (isT_r14 ht3) ?_
      refine ev_seg 1 (k' := 151) (L' := [(6, .int v11), (0, .ref 67), (1, .ref t1), (2, .int x2), (3, .ref t3), (4, .int x4), (5, .int z5)]) (st' := [.int x4, .ref (t3 + 14)]) rfl ?_
      refine ev_ldI hr rfl (isT_a14 ht3) (fun v12 hr => ?_)
      refine ev_seg 1 (k' := 154) (L' := [(6, .int v11), (0, .ref 67), (1, .ref t1), (2, .int x2), (3, .ref t3), (4, .int x4), (5, .int z5)]) (st' := [.int v12]) rfl ?_
      refine ev_join (L' := [(0, .ref 67)]) [1] [6, 0, 1, 2, 3, 4, 5] [0] rfl rfl (by decide) (by decide) rfl ?_
      exact hr
  refine ev_if hr (fun h13 hr => ?_) (fun h13 hr => ?_)
  · skip
    refine ev_tab (o := 104) (t := 164) rfl (by rw [h13]; rfl) rfl ?_
    refine ev_seg 5 (k' := 169) (L' := [(0, .ref 67), (1, .ref t1), (2, .int x2), (3, .ref t3), (4, .int x4), (5, .int z5)]) (st' := [.int x4, .ref t3, .int x2, .ref t1, .ref 67]) rfl ?_
    refine ev_callV (q' := q_281) (x := 281) (y := 13) (c := 67) (As := [.ref t1, .int x2, .ref t3, .int x4]) (rest := []) hr rfl rfl rfl rfl rfl rfl rfl rfl rfl rfl rfl rfl (fun rv s14 hq => ev_kV hq (fun e9 hr => ?_))
    subst e9
    refine ev_st (st' := []) rfl ?_
    refine ev_seg 1 (k' := 226) (L' := [(0, .ref 67), (1, .ref t1), (2, .int x2), (3, .ref t3), (4, .int x4), (5, .int z5)]) (st' := []) rfl ?_
    exact ev_vret hr rfl rfl
  refine ev_tab (o := 116) (t := 171) rfl (tab_in (by have e0 := i_neL (z := 9) (w := 9) rfl h1; have e1 := i_neL (z := 10) (w := 10) rfl h4; have e2 := i_neL (z := 11) (w := 11) rfl h13; omega)) rfl ?_
  refine ev_seg 1 (k' := 172) (L' := [(0, .ref 67), (1, .ref t1), (2, .int x2), (3, .ref t3), (4, .int x4), (5, .int z5)]) (st' := [.ref 67]) rfl ?_
  refine ev_callV (q' := q_273) (x := 273) (y := 13) (c := 67) (As := []) (rest := []) hr rfl rfl rfl rfl rfl rfl rfl rfl rfl rfl rfl rfl (fun rv s15 hq => ev_kL hq (fun v16 e9 hr => ?_))
  subst e9
  refine ev_st (st' := [.long v16]) rfl ?_
  refine ev_seg 4 (k' := 177) (L' := [(7, .long v16), (0, .ref 67), (1, .ref t1), (2, .int x2), (3, .ref t3), (4, .int x4), (5, .int z5)]) (st' := [.int (aLcmp v16 0)]) rfl ?_
  refine ev_br (P := aLcmp v16 0 ≤ 0) (L' := [(7, .long v16), (0, .ref 67), (1, .ref t1), (2, .int x2), (3, .ref t3), (4, .int x4), (5, .int z5)]) (st' := []) hr rfl rfl rfl (fun hr => ?_) (fun hr => ?_)
  · skip
    refine ev_join (L' := [(0, .ref 67), (1, .ref t1), (2, .int x2), (3, .ref t3), (4, .int x4), (5, .int z5), (7, .long v16)]) [1, 2, 3, 4, 5, 6, 0] [7, 0, 1, 2, 3, 4, 5] [0, 1, 2, 3, 4, 5, 7] rfl rfl (by decide) (by decide) rfl ?_
    exact hr
  · skip
    refine ev_seg 2 (k' := 180) (L' := [(7, .long v16), (0, .ref 67), (1, .ref t1), (2, .int x2), (3, .ref t3), (4, .int x4), (5, .int z5)]) (st' := [.long v16, .ref 67]) rfl ?_
    refine ev_callV (q' := q_279) (x := 279) (y := 13) (c := 67) (As := [.long v16]) (rest := []) hr rfl rfl rfl rfl rfl rfl rfl rfl rfl rfl rfl rfl (fun rv s17 hq => ev_kV hq (fun e9 hr => ?_))
    subst e9
    refine ev_st (st' := []) rfl ?_
    refine ev_join (L' := [(0, .ref 67), (1, .ref t1), (2, .int x2), (3, .ref t3), (4, .int x4), (5, .int z5), (7, .long v16)]) [1, 2, 3, 4, 5, 6, 0] [7, 0, 1, 2, 3, 4, 5] [0, 1, 2, 3, 4, 5, 7] rfl rfl (by decide) (by decide) rfl ?_
    exact hr
set_option maxRecDepth 20000 in
theorem eMo_tell_39 (d : Nat) (t1 : Nat) (x2 : Int32) (t3 : Nat) (x4 : Int32) (z6 : Int32) (s : aT) (ht1 : isT t1) (ht3 : isT t3) : ∀ r, (ldI 140 s (t3 + 12) x4 (fun v1 => fMo_tell_46 (d + 1) t1 x2 t3 z6 0 v1 s)) = some r → fMo_tell_39 (d + 1) t1 x2 t3 x4 z6 s = some r := by
  intro r hr
  show ev (d + 1) q_277 39 [(0, .ref 67), (1, .ref t1), (2, .int x2), (3, .ref t3), (4, .int x4), (6, .int z6)] [] s = some r
  refine ev_seg 3 (k' := 42) (L' := [(7, .int 0), (0, .ref 67), (1, .ref t1), (2, .int x2), (3, .ref t3), (4, .int x4), (6, .int z6)]) (st' := [.ref t3]) rfl ?_
  refine ev_getR (c := t3) (v := t3 + 12) rfl (isT_sh ht3) rfl (isT_r12 ht3) ?_
  refine ev_seg 1 (k' := 44) (L' := [(7, .int 0), (0, .ref 67), (1, .ref t1), (2, .int x2), (3, .ref t3), (4, .int x4), (6, .int z6)]) (st' := [.int x4, .ref (t3 + 12)]) rfl ?_
  refine ev_ldI hr rfl (isT_a12 ht3) (fun v1 hr => ?_)
  refine ev_seg 1 (k' := 46) (L' := [(8, .int v1), (7, .int 0), (0, .ref 67), (1, .ref t1), (2, .int x2), (3, .ref t3), (4, .int x4), (6, .int z6)]) (st' := []) rfl ?_
  refine ev_join (L' := [(0, .ref 67), (1, .ref t1), (2, .int x2), (3, .ref t3), (6, .int z6), (7, .int 0), (8, .int v1)]) [2, 3, 4, 5, 7, 1, 0] [8, 7, 0, 1, 2, 3, 4, 6] [0, 1, 2, 3, 6, 7, 8] rfl rfl (by decide) (by decide) rfl ?_
  exact hr
set_option maxRecDepth 20000 in
theorem eMo_tell_101 (d : Nat) (z5 : Int32) (s : aT) : ∀ r, (cG (fMo_unresolved d s) (kV fun s1 => fMo_tell_103 (d + 1) z5 s1)) = some r → fMo_tell_101 (d + 1) z5 s = some r := by
  intro r hr
  show ev (d + 1) q_277 101 [(0, .ref 67), (5, .int z5)] [] s = some r
  refine ev_seg 1 (k' := 102) (L' := [(0, .ref 67), (5, .int z5)]) (st' := [.ref 67]) rfl ?_
  refine ev_callV (q' := q_278) (x := 278) (y := 13) (c := 67) (As := []) (rest := []) hr rfl rfl rfl rfl rfl rfl rfl rfl rfl rfl rfl rfl (fun rv s1 hq => ev_kV hq (fun e9 hr => ?_))
  subst e9
  refine ev_st (st' := []) rfl ?_
  exact hr
set_option maxRecDepth 20000 in
theorem eMo_tell_103 (d : Nat) (z5 : Int32) (s : aT) : ∀ r, (cG (fMo_tellSix d z5 s) (kV fun s1 => rV s1)) = some r → fMo_tell_103 (d + 1) z5 s = some r := by
  intro r hr
  show ev (d + 1) q_277 103 [(0, .ref 67), (5, .int z5)] [] s = some r
  refine ev_seg 2 (k' := 105) (L' := [(0, .ref 67), (5, .int z5)]) (st' := [.int z5, .ref 67]) rfl ?_
  refine ev_callV (q' := q_280) (x := 280) (y := 13) (c := 67) (As := [.int z5]) (rest := []) hr rfl rfl rfl rfl rfl rfl rfl rfl rfl rfl rfl rfl (fun rv s1 hq => ev_kV hq (fun e9 hr => ?_))
  subst e9
  refine ev_st (st' := []) rfl ?_
  exact ev_vret hr rfl rfl
set_option maxRecDepth 20000 in
theorem eMo_tell_154 (d : Nat) (u0 : Int32) (s : aT) : ∀ r, (if 0 ≤ u0 then fMo_tell_159 (d + 1) u0 s else cG (fMo_unresolved d s) (kV fun s1 => fMo_tell_159 (d + 1) u0 s1)) = some r → fMo_tell_154 (d + 1) u0 s = some r := by
  intro r hr
  show ev (d + 1) q_277 154 [(0, .ref 67)] [.int u0] s = some r
  refine ev_seg 2 (k' := 156) (L' := [(6, .int u0), (0, .ref 67)]) (st' := [.int u0]) rfl ?_
  refine ev_br (P := 0 ≤ u0) (L' := [(6, .int u0), (0, .ref 67)]) (st' := []) hr rfl rfl rfl (fun hr => ?_) (fun hr => ?_)
  · skip
    refine ev_join (L' := [(0, .ref 67), (6, .int u0)]) [1, 0] [6, 0] [0, 6] rfl rfl (by decide) (by decide) rfl ?_
    exact hr
  · skip
    refine ev_seg 1 (k' := 158) (L' := [(6, .int u0), (0, .ref 67)]) (st' := [.ref 67]) rfl ?_
    refine ev_callV (q' := q_278) (x := 278) (y := 13) (c := 67) (As := []) (rest := []) hr rfl rfl rfl rfl rfl rfl rfl rfl rfl rfl rfl rfl (fun rv s1 hq => ev_kV hq (fun e9 hr => ?_))
    subst e9
    refine ev_st (st' := []) rfl ?_
    refine ev_join (L' := [(0, .ref 67), (6, .int u0)]) [1, 0] [6, 0] [0, 6] rfl rfl (by decide) (by decide) rfl ?_
    exact hr
set_option maxRecDepth 20000 in
theorem eMo_tell_181 (d : Nat) (t1 : Nat) (x2 : Int32) (t3 : Nat) (x4 : Int32) (z5 : Int32) (l7 : Int64) (s : aT) (ht1 : isT t1) (ht3 : isT t3) : ∀ r, (fMo_tell_183 (d + 1) t1 x2 t3 x4 z5 l7 0 s) = some r → fMo_tell_181 (d + 1) t1 x2 t3 x4 z5 l7 s = some r := by
  intro r hr
  show ev (d + 1) q_277 181 [(0, .ref 67), (1, .ref t1), (2, .int x2), (3, .ref t3), (4, .int x4), (5, .int z5), (7, .long l7)] [] s = some r
  refine ev_seg 2 (k' := 183) (L' := [(9, .long 0), (0, .ref 67), (1, .ref t1), (2, .int x2), (3, .ref t3), (4, .int x4), (5, .int z5), (7, .long l7)]) (st' := []) rfl ?_
  refine ev_join (L' := [(0, .ref 67), (1, .ref t1), (2, .int x2), (3, .ref t3), (4, .int x4), (5, .int z5), (7, .long l7), (9, .long 0)]) [1, 2, 3, 4, 5, 6, 7, 0] [9, 0, 1, 2, 3, 4, 5, 7] [0, 1, 2, 3, 4, 5, 7, 9] rfl rfl (by decide) (by decide) rfl ?_
  exact hr
set_option maxRecDepth 20000 in
theorem eMo_tell_46 (d : Nat) (t1 : Nat) (x2 : Int32) (t3 : Nat) (z6 : Int32) (z7 : Int32) (z8 : Int32) (s : aT) (ht1 : isT t1) (ht3 : isT t3) : ∀ r, (if z8 = z6 then cG (fMo_tellVarint d z7.toInt64 s) (kV fun s1 => ldI 2200 s1 (t3 + 15) z6 (fun v2 => cG (fMo_tell d t1 x2 t3 v2 s1) (kV fun s3 => rV s3))) else ldI 2200 s (t3 + 18) z8 (fun v4 => fMo_tell_46 (d + 1) t1 x2 t3 z6 (z7 + 1) v4 s)) = some r → fMo_tell_46 (d + 1) t1 x2 t3 z6 z7 z8 s = some r := by
  intro r hr
  show ev (d + 1) q_277 46 [(0, .ref 67), (1, .ref t1), (2, .int x2), (3, .ref t3), (6, .int z6), (7, .int z7), (8, .int z8)] [] s = some r
  refine ev_seg 2 (k' := 48) (L' := [(0, .ref 67), (1, .ref t1), (2, .int x2), (3, .ref t3), (6, .int z6), (7, .int z7), (8, .int z8)]) (st' := [.int z6, .int z8]) rfl ?_
  refine ev_br (P := z8 = z6) (L' := [(0, .ref 67), (1, .ref t1), (2, .int x2), (3, .ref t3), (6, .int z6), (7, .int z7), (8, .int z8)]) (st' := []) hr rfl rfl rfl (fun hr => ?_) (fun hr => ?_)
  · skip
    refine ev_seg 3 (k' := 59) (L' := [(0, .ref 67), (1, .ref t1), (2, .int x2), (3, .ref t3), (6, .int z6), (7, .int z7), (8, .int z8)]) (st' := [.long z7.toInt64, .ref 67]) rfl ?_
    refine ev_callV (q' := q_279) (x := 279) (y := 13) (c := 67) (As := [.long z7.toInt64]) (rest := []) hr rfl rfl rfl rfl rfl rfl rfl rfl rfl rfl rfl rfl (fun rv s1 hq => ev_kV hq (fun e9 hr => ?_))
    subst e9
    refine ev_st (st' := []) rfl ?_
    refine ev_seg 5 (k' := 65) (L' := [(0, .ref 67), (1, .ref t1), (2, .int x2), (3, .ref t3), (6, .int z6), (7, .int z7), (8, .int z8)]) (st' := [.ref t3, .ref t3, .int x2, .ref t1, .ref 67]) rfl ?_
    refine ev_getR (c := t3) (v := t3 + 15) rfl (isT_sh ht3) rfl (isT_r15 ht3) ?_
    refine ev_seg 1 (k' := 67) (L' := [(0, .ref 67), (1, .ref t1), (2, .int x2), (3, .ref t3), (6, .int z6), (7, .int z7), (8, .int z8)]) (st' := [.int z6, .ref (t3 + 15), .ref t3, .int x2, .ref t1, .ref 67]) rfl ?_
    refine ev_ldI hr rfl (isT_a15 ht3) (fun v2 hr => ?_)
    refine ev_callV (q' := q_277) (x := 277) (y := 13) (c := 67) (As := [.ref t1, .int x2, .ref t3, .int v2]) (rest := []) hr rfl rfl rfl rfl rfl rfl rfl rfl rfl rfl rfl rfl (fun rv s3 hq => ev_kV hq (fun e9 hr => ?_))
    subst e9
    refine ev_st (st' := []) rfl ?_
    exact ev_vret hr rfl rfl
  · skip
    refine ev_seg 2 (k' := 51) (L' := [(7, .int (z7 + 1)), (0, .ref 67), (1, .ref t1), (2, .int x2), (3, .ref t3), (6, .int z6), (8, .int z8)]) (st' := [.ref t3]) rfl ?_
    refine ev_getR (c := t3) (v := t3 + 18) rfl (isT_sh ht3) rfl (isT_r18 ht3) ?_
    refine ev_seg 1 (k' := 53) (L' := [(7, .int (z7 + 1)), (0, .ref 67), (1, .ref t1), (2, .int x2), (3, .ref t3), (6, .int z6), (8, .int z8)]) (st' := [.int z8, .ref (t3 + 18)]) rfl ?_
    refine ev_ldI hr rfl (isT_a18 ht3) (fun v4 hr => ?_)
    refine ev_seg 2 (k' := 46) (L' := [(8, .int v4), (7, .int (z7 + 1)), (0, .ref 67), (1, .ref t1), (2, .int x2), (3, .ref t3), (6, .int z6)]) (st' := []) rfl ?_
    refine ev_join (L' := [(0, .ref 67), (1, .ref t1), (2, .int x2), (3, .ref t3), (6, .int z6), (7, .int (z7 + 1)), (8, .int v4)]) [2, 3, 4, 5, 6, 1, 0] [8, 7, 0, 1, 2, 3, 6] [0, 1, 2, 3, 6, 7, 8] rfl rfl (by decide) (by decide) rfl ?_
    exact hr
set_option maxRecDepth 20000 in
theorem eMo_tell_159 (d : Nat) (z6 : Int32) (s : aT) : ∀ r, (cG (fMo_tellVarint d z6.toInt64 s) (kV fun s1 => rV s1)) = some r → fMo_tell_159 (d + 1) z6 s = some r := by
  intro r hr
  show ev (d + 1) q_277 159 [(0, .ref 67), (6, .int z6)] [] s = some r
  refine ev_seg 3 (k' := 162) (L' := [(0, .ref 67), (6, .int z6)]) (st' := [.long z6.toInt64, .ref 67]) rfl ?_
  refine ev_callV (q' := q_279) (x := 279) (y := 13) (c := 67) (As := [.long z6.toInt64]) (rest := []) hr rfl rfl rfl rfl rfl rfl rfl rfl rfl rfl rfl rfl (fun rv s1 hq => ev_kV hq (fun e9 hr => ?_))
  subst e9
  refine ev_st (st' := []) rfl ?_
  refine ev_seg 1 (k' := 226) (L' := [(0, .ref 67), (6, .int z6)]) (st' := []) rfl ?_
  exact ev_vret hr rfl rfl
set_option maxRecDepth 20000 in
theorem eMo_tell_183 (d : Nat) (t1 : Nat) (x2 : Int32) (t3 : Nat) (x4 : Int32) (z5 : Int32) (l7 : Int64) (l9 : Int64) (s : aT) (ht1 : isT t1) (ht3 : isT t3) : ∀ r, (if 0 ≤ aLcmp l9 l7 then if aLcmp l7 0 ≤ 0 then fMo_tell_223 (d + 1) s else cG (fMo_readVarint d s) (kL fun v2 s1 => fMo_tell_223 (d + 1) s1) else if ¬ z5 = 7 then fMo_tell_193 (d + 1) t1 x2 t3 x4 z5 l7 l9 s else cG (fMo_tellSix d 5 s) (kV fun s3 => fMo_tell_193 (d + 1) t1 x2 t3 x4 z5 l7 l9 s3)) = some r → fMo_tell_183 (d + 1) t1 x2 t3 x4 z5 l7 l9 s = some r := by
  intro r hr
  show ev (d + 1) q_277 183 [(0, .ref 67), (1, .ref t1), (2, .int x2), (3, .ref t3), (4, .int x4), (5, .int z5), (7, .long l7), (9, .long l9)] [] s = some r
  refine ev_seg 3 (k' := 186) (L' := [(0, .ref 67), (1, .ref t1), (2, .int x2), (3, .ref t3), (4, .int x4), (5, .int z5), (7, .long l7), (9, .long l9)]) (st' := [.int (aLcmp l9 l7)]) rfl ?_
  refine ev_br (P := 0 ≤ aLcmp l9 l7) (L' := [(0, .ref 67), (1, .ref t1), (2, .int x2), (3, .ref t3), (4, .int x4), (5, .int z5), (7, .long l7), (9, .long l9)]) (st' := []) hr rfl rfl rfl (fun hr => ?_) (fun hr => ?_)
  · skip
    refine ev_seg 3 (k' := 219) (L' := [(0, .ref 67), (1, .ref t1), (2, .int x2), (3, .ref t3), (4, .int x4), (5, .int z5), (7, .long l7), (9, .long l9)]) (st' := [.int (aLcmp l7 0)]) rfl ?_
    refine ev_br (P := aLcmp l7 0 ≤ 0) (L' := [(0, .ref 67), (1, .ref t1), (2, .int x2), (3, .ref t3), (4, .int x4), (5, .int z5), (7, .long l7), (9, .long l9)]) (st' := []) hr rfl rfl rfl (fun hr => ?_) (fun hr => ?_)
    · skip
      refine ev_join (L' := [(0, .ref 67)]) [0] [0, 1, 2, 3, 4, 5, 7, 9] [0] rfl rfl (by decide) (by decide) rfl ?_
      exact hr
    · skip
      refine ev_seg 1 (k' := 221) (L' := [(0, .ref 67), (1, .ref t1), (2, .int x2), (3, .ref t3), (4, .int x4), (5, .int z5), (7, .long l7), (9, .long l9)]) (st' := [.ref 67]) rfl ?_
      refine ev_callV (q' := q_273) (x := 273) (y := 13) (c := 67) (As := []) (rest := []) hr rfl rfl rfl rfl rfl rfl rfl rfl rfl rfl rfl rfl (fun rv s1 hq => ev_kL hq (fun v2 e9 hr => ?_))
      subst e9
      refine ev_st (st' := [.long v2]) rfl ?_
      refine ev_seg 1 (k' := 223) (L' := [(0, .ref 67), (1, .ref t1), (2, .int x2), (3, .ref t3), (4, .int x4), (5, .int z5), (7, .long l7), (9, .long l9)]) (st' := []) rfl ?_
      refine ev_join (L' := [(0, .ref 67)]) [0] [0, 1, 2, 3, 4, 5, 7, 9] [0] rfl rfl (by decide) (by decide) rfl ?_
      exact hr
  · skip
    refine ev_seg 2 (k' := 189) (L' := [(0, .ref 67), (1, .ref t1), (2, .int x2), (3, .ref t3), (4, .int x4), (5, .int z5), (7, .long l7), (9, .long l9)]) (st' := [.int 7, .int z5]) rfl ?_
    refine ev_br (P := ¬ z5 = 7) (L' := [(0, .ref 67), (1, .ref t1), (2, .int x2), (3, .ref t3), (4, .int x4), (5, .int z5), (7, .long l7), (9, .long l9)]) (st' := []) hr rfl rfl rfl (fun hr => ?_) (fun hr => ?_)
    · skip
      exact hr
    · skip
      refine ev_seg 2 (k' := 192) (L' := [(0, .ref 67), (1, .ref t1), (2, .int x2), (3, .ref t3), (4, .int x4), (5, .int z5), (7, .long l7), (9, .long l9)]) (st' := [.int 5, .ref 67]) rfl ?_
      refine ev_callV (q' := q_280) (x := 280) (y := 13) (c := 67) (As := [.int 5]) (rest := []) hr rfl rfl rfl rfl rfl rfl rfl rfl rfl rfl rfl rfl (fun rv s3 hq => ev_kV hq (fun e9 hr => ?_))
      subst e9
      refine ev_st (st' := []) rfl ?_
      exact hr
set_option maxRecDepth 20000 in
theorem eMo_tell_223 (d : Nat) (s : aT) : ∀ r, (cG (fMo_tellVarint d 0 s) (kV fun s1 => rV s1)) = some r → fMo_tell_223 (d + 1) s = some r := by
  intro r hr
  show ev (d + 1) q_277 223 [(0, .ref 67)] [] s = some r
  refine ev_seg 2 (k' := 225) (L' := [(0, .ref 67)]) (st' := [.long 0, .ref 67]) rfl ?_
  refine ev_callV (q' := q_279) (x := 279) (y := 13) (c := 67) (As := [.long 0]) (rest := []) hr rfl rfl rfl rfl rfl rfl rfl rfl rfl rfl rfl rfl (fun rv s1 hq => ev_kV hq (fun e9 hr => ?_))
  subst e9
  refine ev_st (st' := []) rfl ?_
  exact ev_vret hr rfl rfl
set_option maxRecDepth 20000 in
theorem eMo_tell_193 (d : Nat) (t1 : Nat) (x2 : Int32) (t3 : Nat) (x4 : Int32) (z5 : Int32) (l7 : Int64) (l9 : Int64) (s : aT) (ht1 : isT t1) (ht3 : isT t3) : ∀ r, (ldI 140 s (t1 + 12) x2 (fun v1 => ldI 2200 s (t1 + 15) v1 (fun v2 => ldI 140 s (t3 + 12) x4 (fun v3 => ldI 2200 s (t3 + 15) v3 (fun v4 => cG (fMo_tell d t1 v2 t3 v4 s) (kV fun s5 => fMo_tell_183 (d + 1) t1 x2 t3 x4 z5 l7 (l9 + 1) s5)))))) = some r → fMo_tell_193 (d + 1) t1 x2 t3 x4 z5 l7 l9 s = some r := by
  intro r hr
  show ev (d + 1) q_277 193 [(0, .ref 67), (1, .ref t1), (2, .int x2), (3, .ref t3), (4, .int x4), (5, .int z5), (7, .long l7), (9, .long l9)] [] s = some r
  refine ev_seg 3 (k' := 196) (L' := [(0, .ref 67), (1, .ref t1), (2, .int x2), (3, .ref t3), (4, .int x4), (5, .int z5), (7, .long l7), (9, .long l9)]) (st' := [.ref t1, .ref t1, .ref 67]) rfl ?_
  refine ev_getR (c := t1) (v := t1 + 15) rfl (isT_sh ht1) rfl (isT_r15 ht1) ?_
  refine ev_seg 1 (k' := 198) (L' := [(0, .ref 67), (1, .ref t1), (2, .int x2), (3, .ref t3), (4, .int x4), (5, .int z5), (7, .long l7), (9, .long l9)]) (st' := [.ref t1, .ref (t1 + 15), .ref t1, .ref 67]) rfl ?_
  refine ev_getR (c := t1) (v := t1 + 12) rfl (isT_sh ht1) rfl (isT_r12 ht1) ?_
  refine ev_seg 1 (k' := 200) (L' := [(0, .ref 67), (1, .ref t1), (2, .int x2), (3, .ref t3), (4, .int x4), (5, .int z5), (7, .long l7), (9, .long l9)]) (st' := [.int x2, .ref (t1 + 12), .ref (t1 + 15), .ref t1, .ref 67]) rfl ?_
  refine ev_ldI hr rfl (isT_a12 ht1) (fun v1 hr => ?_)
  refine ev_ldI hr rfl (isT_a15 ht1) (fun v2 hr => ?_)
  refine ev_seg 2 (k' := 204) (L' := [(0, .ref 67), (1, .ref t1), (2, .int x2), (3, .ref t3), (4, .int x4), (5, .int z5), (7, .long l7), (9, .long l9)]) (st' := [.ref t3, .ref t3, .int v2, .ref t1, .ref 67]) rfl ?_
  refine ev_getR (c := t3) (v := t3 + 15) rfl (isT_sh ht3) rfl (isT_r15 ht3) ?_
  refine ev_seg 1 (k' := 206) (L' := [(0, .ref 67), (1, .ref t1), (2, .int x2), (3, .ref t3), (4, .int x4), (5, .int z5), (7, .long l7), (9, .long l9)]) (st' := [.ref t3, .ref (t3 + 15), .ref t3, .int v2, .ref t1, .ref 67]) rfl ?_
  refine ev_getR (c := t3) (v := t3 + 12) rfl (isT_sh ht3) rfl (isT_r12 ht3) ?_
  refine ev_seg 1 (k' := 208) (L' := [(0, .ref 67), (1, .ref t1), (2, .int x2), (3, .ref t3), (4, .int x4), (5, .int z5), (7, .long l7), (9, .long l9)]) (st' := [.int x4, .ref (t3 + 12), .ref (t3 + 15), .ref t3, .int v2, .ref t1, .ref 67]) rfl ?_
  refine ev_ldI hr rfl (isT_a12 ht3) (fun v3 hr => ?_)
  refine ev_ldI hr rfl (isT_a15 ht3) (fun v4 hr => ?_)
  refine ev_callV (q' := q_277) (x := 277) (y := 13) (c := 67) (As := [.ref t1, .int v2, .ref t3, .int v4]) (rest := []) hr rfl rfl rfl rfl rfl rfl rfl rfl rfl rfl rfl rfl (fun rv s5 hq => ev_kV hq (fun e9 hr => ?_))
  subst e9
  refine ev_st (st' := []) rfl ?_
  refine ev_seg 5 (k' := 183) (L' := [(9, .long (l9 + 1)), (0, .ref 67), (1, .ref t1), (2, .int x2), (3, .ref t3), (4, .int x4), (5, .int z5), (7, .long l7)]) (st' := []) rfl ?_
  refine ev_join (L' := [(0, .ref 67), (1, .ref t1), (2, .int x2), (3, .ref t3), (4, .int x4), (5, .int z5), (7, .long l7), (9, .long (l9 + 1))]) [1, 2, 3, 4, 5, 6, 7, 0] [9, 0, 1, 2, 3, 4, 5, 7] [0, 1, 2, 3, 4, 5, 7, 9] rfl rfl (by decide) (by decide) rfl ?_
  exact hr
set_option maxRecDepth 20000 in
theorem eMo_unresolved (d : Nat) (s : aT) : ∀ r, (cG (fMo_failBytes d 20 0 s) (kV fun s1 => rV s1)) = some r → fMo_unresolved (d + 1) s = some r := by
  intro r hr
  show ev (d + 1) q_278 0 [(0, .ref 67)] [] s = some r
  refine ev_seg 3 (k' := 3) (L' := [(0, .ref 67)]) (st' := [.int 0, .int 20, .ref 67]) rfl ?_
  refine ev_callV (q' := q_253) (x := 253) (y := 13) (c := 67) (As := [.int 20, .int 0]) (rest := []) hr rfl rfl rfl rfl rfl rfl rfl rfl rfl rfl rfl rfl (fun rv s1 hq => ev_kV hq (fun e9 hr => ?_))
  subst e9
  refine ev_st (st' := []) rfl ?_
  exact ev_vret hr rfl rfl
set_option maxRecDepth 20000 in
theorem eMo_tellVarint (d : Nat) (y1 : Int64) (s : aT) : ∀ r, (fMo_tellVarint_8 (d + 1) ((y1 <<< ((1 : Int32).toInt64 &&& 63)) ^^^ (y1 >>> ((63 : Int32).toInt64 &&& 63))) s) = some r → fMo_tellVarint (d + 1) y1 s = some r := by
  intro r hr
  show ev (d + 1) q_279 0 [(0, .ref 67), (1, .long y1)] [] s = some r
  refine ev_seg 8 (k' := 8) (L' := [(3, .long ((y1 <<< ((1 : Int32).toInt64 &&& 63)) ^^^ (y1 >>> ((63 : Int32).toInt64 &&& 63)))), (0, .ref 67), (1, .long y1)]) (st' := []) rfl ?_
  refine ev_join (L' := [(0, .ref 67), (3, .long ((y1 <<< ((1 : Int32).toInt64 &&& 63)) ^^^ (y1 >>> ((63 : Int32).toInt64 &&& 63))))]) [1, 0] [3, 0, 1] [0, 3] rfl rfl (by decide) (by decide) rfl ?_
  exact hr
set_option maxRecDepth 20000 in
theorem eMo_tellVarint_8 (d : Nat) (l3 : Int64) (s : aT) : ∀ r, (if aLcmp ((l3.toUInt64 >>> ((7 : Int32).toInt64.toUInt64 &&& Int64.toUInt64 63)).toInt64) 0 = 0 then cG (fMo_tellByte d l3.toInt32 s) (kV fun s1 => rV s1) else cG (fMo_tellByte d (((l3 &&& 127).toInt32) ||| 128) s) (kV fun s2 => fMo_tellVarint_8 (d + 1) ((l3.toUInt64 >>> ((7 : Int32).toInt64.toUInt64 &&& Int64.toUInt64 63)).toInt64) s2)) = some r → fMo_tellVarint_8 (d + 1) l3 s = some r := by
  intro r hr
  show ev (d + 1) q_279 8 [(0, .ref 67), (3, .long l3)] [] s = some r
  refine ev_seg 5 (k' := 13) (L' := [(0, .ref 67), (3, .long l3)]) (st' := [.int (aLcmp ((l3.toUInt64 >>> ((7 : Int32).toInt64.toUInt64 &&& Int64.toUInt64 63)).toInt64) 0)]) rfl ?_
  refine ev_br (P := aLcmp ((l3.toUInt64 >>> ((7 : Int32).toInt64.toUInt64 &&& Int64.toUInt64 63)).toInt64) 0 = 0) (L' := [(0, .ref 67), (3, .long l3)]) (st' := []) hr rfl rfl rfl (fun hr => ?_) (fun hr => ?_)
  · skip
    refine ev_seg 3 (k' := 30) (L' := [(0, .ref 67), (3, .long l3)]) (st' := [.int l3.toInt32, .ref 67]) rfl ?_
    refine ev_callV (q' := q_275) (x := 275) (y := 13) (c := 67) (As := [.int l3.toInt32]) (rest := []) hr rfl rfl rfl rfl rfl rfl rfl rfl rfl rfl rfl rfl (fun rv s1 hq => ev_kV hq (fun e9 hr => ?_))
    subst e9
    refine ev_st (st' := []) rfl ?_
    exact ev_vret hr rfl rfl
  · skip
    refine ev_seg 7 (k' := 21) (L' := [(0, .ref 67), (3, .long l3)]) (st' := [.int (((l3 &&& 127).toInt32) ||| 128), .ref 67]) rfl ?_
    refine ev_callV (q' := q_275) (x := 275) (y := 13) (c := 67) (As := [.int (((l3 &&& 127).toInt32) ||| 128)]) (rest := []) hr rfl rfl rfl rfl rfl rfl rfl rfl rfl rfl rfl rfl (fun rv s2 hq => ev_kV hq (fun e9 hr => ?_))
    subst e9
    refine ev_st (st' := []) rfl ?_
    refine ev_seg 5 (k' := 8) (L' := [(3, .long ((l3.toUInt64 >>> ((7 : Int32).toInt64.toUInt64 &&& Int64.toUInt64 63)).toInt64)), (0, .ref 67)]) (st' := []) rfl ?_
    refine ev_join (L' := [(0, .ref 67), (3, .long ((l3.toUInt64 >>> ((7 : Int32).toInt64.toUInt64 &&& Int64.toUInt64 63)).toInt64))]) [1, 0] [3, 0] [0, 3] rfl rfl (by decide) (by decide) rfl ?_
    exact hr
set_option maxRecDepth 20000 in
theorem eMo_tellSix (d : Nat) (x1 : Int32) (s : aT) : ∀ r, (if x1 = 0 then rV s else if x1 = 1 then cG (fMo_copyBytes d 1 1 s) (kV fun s3 => rV s3) else if x1 = 2 then cG (fMo_readVarint d s) (kL fun v6 s5 => cG (fMo_tellVarint d v6 s5) (kV fun s7 => rV s7)) else if x1 = 3 then cG (fMo_readVarint d s) (kL fun v10 s9 => cG (fMo_tellVarint d v10 s9) (kV fun s11 => rV s11)) else cG (fMo_readVarint d s) (kL fun v13 s12 => cG (fMo_tellVarint d v13 s12) (kV fun s14 => cG (fMo_copyBytes d v13 1 s14) (kV fun s15 => rV s15)))) = some r → fMo_tellSix (d + 1) x1 s = some r := by
  intro r hr
  show ev (d + 1) q_280 0 [(0, .ref 67), (1, .int x1)] [] s = some r
  refine ev_seg 1 (k' := 1) (L' := [(0, .ref 67), (1, .int x1)]) (st' := [.int x1]) rfl ?_
  refine ev_if hr (fun h1 hr => ?_) (fun h1 hr => ?_)
  · skip
    refine ev_tab (o := 31) (t := 2) rfl (by rw [h1]; rfl) rfl ?_
    refine ev_seg 1 (k' := 23) (L' := [(0, .ref 67), (1, .int x1)]) (st' := []) rfl ?_
    exact ev_vret hr rfl rfl
  refine ev_if hr (fun h2 hr => ?_) (fun h2 hr => ?_)
  · skip
    refine ev_tab (o := 34) (t := 3) rfl (by rw [h2]; rfl) rfl ?_
    refine ev_seg 3 (k' := 6) (L' := [(0, .ref 67), (1, .int x1)]) (st' := [.int 1, .long 1, .ref 67]) rfl ?_
    refine ev_callV (q' := q_274) (x := 274) (y := 13) (c := 67) (As := [.long 1, .int 1]) (rest := []) hr rfl rfl rfl rfl rfl rfl rfl rfl rfl rfl rfl rfl (fun rv s3 hq => ev_kV hq (fun e9 hr => ?_))
    subst e9
    refine ev_st (st' := []) rfl ?_
    refine ev_seg 1 (k' := 23) (L' := [(0, .ref 67), (1, .int x1)]) (st' := []) rfl ?_
    exact ev_vret hr rfl rfl
  refine ev_if hr (fun h4 hr => ?_) (fun h4 hr => ?_)
  · skip
    refine ev_tab (o := 43) (t := 8) rfl (by rw [h4]; rfl) rfl ?_
    refine ev_seg 2 (k' := 10) (L' := [(0, .ref 67), (1, .int x1)]) (st' := [.ref 67, .ref 67]) rfl ?_
    refine ev_callV (q' := q_273) (x := 273) (y := 13) (c := 67) (As := []) (rest := [.ref 67]) hr rfl rfl rfl rfl rfl rfl rfl rfl rfl rfl rfl rfl (fun rv s5 hq => ev_kL hq (fun v6 e9 hr => ?_))
    subst e9
    refine ev_st (st' := [.long v6, .ref 67]) rfl ?_
    refine ev_callV (q' := q_279) (x := 279) (y := 13) (c := 67) (As := [.long v6]) (rest := []) hr rfl rfl rfl rfl rfl rfl rfl rfl rfl rfl rfl rfl (fun rv s7 hq => ev_kV hq (fun e9 hr => ?_))
    subst e9
    refine ev_st (st' := []) rfl ?_
    refine ev_seg 1 (k' := 23) (L' := [(0, .ref 67), (1, .int x1)]) (st' := []) rfl ?_
    exact ev_vret hr rfl rfl
  refine ev_if hr (fun h8 hr => ?_) (fun h8 hr => ?_)
  · skip
    refine ev_tab (o := 43) (t := 8) rfl (by rw [h8]; rfl) rfl ?_
    refine ev_seg 2 (k' := 10) (L' := [(0, .ref 67), (1, .int x1)]) (st' := [.ref 67, .ref 67]) rfl ?_
    refine ev_callV (q' := q_273) (x := 273) (y := 13) (c := 67) (As := []) (rest := [.ref 67]) hr rfl rfl rfl rfl rfl rfl rfl rfl rfl rfl rfl rfl (fun rv s9 hq => ev_kL hq (fun v10 e9 hr => ?_))
    subst e9
    refine ev_st (st' := [.long v10, .ref 67]) rfl ?_
    refine ev_callV (q' := q_279) (x := 279) (y := 13) (c := 67) (As := [.long v10]) (rest := []) hr rfl rfl rfl rfl rfl rfl rfl rfl rfl rfl rfl rfl (fun rv s11 hq => ev_kV hq (fun e9 hr => ?_))
    subst e9
    refine ev_st (st' := []) rfl ?_
    refine ev_seg 1 (k' := 23) (L' := [(0, .ref 67), (1, .int x1)]) (st' := []) rfl ?_
    exact ev_vret hr rfl rfl
  refine ev_tab (o := 54) (t := 13) rfl (tab_in (by have e0 := i_neL (z := 0) (w := 0) rfl h1; have e1 := i_neL (z := 1) (w := 1) rfl h2; have e2 := i_neL (z := 2) (w := 2) rfl h4; have e3 := i_neL (z := 3) (w := 3) rfl h8; omega)) rfl ?_
  refine ev_seg 1 (k' := 14) (L' := [(0, .ref 67), (1, .int x1)]) (st' := [.ref 67]) rfl ?_
  refine ev_callV (q' := q_273) (x := 273) (y := 13) (c := 67) (As := []) (rest := []) hr rfl rfl rfl rfl rfl rfl rfl rfl rfl rfl rfl rfl (fun rv s12 hq => ev_kL hq (fun v13 e9 hr => ?_))
  subst e9
  refine ev_st (st' := [.long v13]) rfl ?_
  refine ev_seg 3 (k' := 18) (L' := [(2, .long v13), (0, .ref 67), (1, .int x1)]) (st' := [.long v13, .ref 67]) rfl ?_
  refine ev_callV (q' := q_279) (x := 279) (y := 13) (c := 67) (As := [.long v13]) (rest := []) hr rfl rfl rfl rfl rfl rfl rfl rfl rfl rfl rfl rfl (fun rv s14 hq => ev_kV hq (fun e9 hr => ?_))
  subst e9
  refine ev_st (st' := []) rfl ?_
  refine ev_seg 3 (k' := 22) (L' := [(2, .long v13), (0, .ref 67), (1, .int x1)]) (st' := [.int 1, .long v13, .ref 67]) rfl ?_
  refine ev_callV (q' := q_274) (x := 274) (y := 13) (c := 67) (As := [.long v13, .int 1]) (rest := []) hr rfl rfl rfl rfl rfl rfl rfl rfl rfl rfl rfl rfl (fun rv s15 hq => ev_kV hq (fun e9 hr => ?_))
  subst e9
  refine ev_st (st' := []) rfl ?_
  exact ev_vret hr rfl rfl
