/-! RecordLakeModel$Text: what its pieces do -/
set_option maxRecDepth 20000 in
theorem eMt_number_46 (d : Nat) (c : Nat) (z1 : Int32) (z2 : Int32) (u0 : Int32) (s : aT) (hc : isT c) : ∀ r, (fMt_number_51 (d + 1) c z1 z2 u0 1 0 s) = some r → fMt_number_46 (d + 1) c z1 z2 u0 s = some r := by
  intro r hr
  show ev (d + 1) q_210 46 [(0, .ref c), (1, .int z1), (2, .int z2)] [.int u0] s = some r
  refine ev_seg 5 (k' := 51) (L' := [(5, .long 0), (4, .int 1), (3, .int u0), (0, .ref c), (1, .int z1), (2, .int z2)]) (st' := []) rfl ?_
  refine ev_join (L' := [(0, .ref c), (1, .int z1), (2, .int z2), (3, .int u0), (4, .int 1), (5, .long 0)]) [3, 4, 5, 2, 1, 0] [5, 4, 3, 0, 1, 2] [0, 1, 2, 3, 4, 5] rfl rfl (by decide) (by decide) rfl ?_
  exact hr
set_option maxRecDepth 20000 in
theorem eMt_number_51 (d : Nat) (c : Nat) (z1 : Int32) (z2 : Int32) (z3 : Int32) (z4 : Int32) (l5 : Int64) (s : aT) (hc : isT c) : ∀ r, (cG (fMt_look d c s) (kI fun v2 s1 => if v2 < 48 then fMt_number_128 (d + 1) c z1 z2 z4 l5 s1 else cG (fMt_look d c s1) (kI fun v4 s3 => if 57 < v4 then fMt_number_128 (d + 1) c z1 z2 z4 l5 s3 else if z3 = 0 then fMt_number_76 (d + 1) c z1 z2 z3 z4 l5 s3 else if ¬ aLcmp l5 0 = 0 then fMt_number_128 (d + 1) c z1 z2 z4 l5 s3 else ldI 4200 s3 (c + 2) z1 (fun v5 => if ¬ v5 = 3 then fMt_number_128 (d + 1) c z1 z2 z4 l5 s3 else ldI 4200 s3 (c + 5) z1 (fun v6 => if ¬ v6 = 0 then fMt_number_128 (d + 1) c z1 z2 z4 l5 s3 else fMt_number_76 (d + 1) c z1 z2 z3 z4 l5 s3))))) = some r → fMt_number_51 (d + 1) c z1 z2 z3 z4 l5 s = some r := by
  intro r hr
  show ev (d + 1) q_210 51 [(0, .ref c), (1, .int z1), (2, .int z2), (3, .int z3), (4, .int z4), (5, .long l5)] [] s = some r
  refine ev_seg 1 (k' := 52) (L' := [(0, .ref c), (1, .int z1), (2, .int z2), (3, .int z3), (4, .int z4), (5, .long l5)]) (st' := [.ref c]) rfl ?_
  refine ev_callV (q' := q_198) (x := 198) (y := 12) (c := c) (As := []) (rest := []) hr rfl rfl rfl rfl rfl rfl (isT_sh hc) rfl rfl rfl rfl rfl (fun rv s1 hq => ev_kI hq (fun v2 e9 hr => ?_))
  subst e9
  refine ev_st (st' := [.int v2]) rfl ?_
  refine ev_seg 1 (k' := 54) (L' := [(0, .ref c), (1, .int z1), (2, .int z2), (3, .int z3), (4, .int z4), (5, .long l5)]) (st' := [.int 48, .int v2]) rfl ?_
  refine ev_br (P := v2 < 48) (L' := [(0, .ref c), (1, .int z1), (2, .int z2), (3, .int z3), (4, .int z4), (5, .long l5)]) (st' := []) hr rfl rfl rfl (fun hr => ?_) (fun hr => ?_)
  · skip
    refine ev_join (L' := [(0, .ref c), (1, .int z1), (2, .int z2), (4, .int z4), (5, .long l5)]) [0, 1, 2, 4, 5] [0, 1, 2, 3, 4, 5] [0, 1, 2, 4, 5] rfl rfl (by decide) (by decide) rfl ?_
    exact hr
  · skip
    refine ev_seg 1 (k' := 56) (L' := [(0, .ref c), (1, .int z1), (2, .int z2), (3, .int z3), (4, .int z4), (5, .long l5)]) (st' := [.ref c]) rfl ?_
    refine ev_callV (q' := q_198) (x := 198) (y := 12) (c := c) (As := []) (rest := []) hr rfl rfl rfl rfl rfl rfl (isT_sh hc) rfl rfl rfl rfl rfl (fun rv s3 hq => ev_kI hq (fun v4 e9 hr => ?_))
    subst e9
    refine ev_st (st' := [.int v4]) rfl ?_
    refine ev_seg 1 (k' := 58) (L' := [(0, .ref c), (1, .int z1), (2, .int z2), (3, .int z3), (4, .int z4), (5, .long l5)]) (st' := [.int 57, .int v4]) rfl ?_
    refine ev_br (P := 57 < v4) (L' := [(0, .ref c), (1, .int z1), (2, .int z2), (3, .int z3), (4, .int z4), (5, .long l5)]) (st' := []) hr rfl rfl rfl (fun hr => ?_) (fun hr => ?_)
    · skip
      refine ev_join (L' := [(0, .ref c), (1, .int z1), (2, .int z2), (4, .int z4), (5, .long l5)]) [0, 1, 2, 4, 5] [0, 1, 2, 3, 4, 5] [0, 1, 2, 4, 5] rfl rfl (by decide) (by decide) rfl ?_
      exact hr
    · skip
      refine ev_seg 1 (k' := 60) (L' := [(0, .ref c), (1, .int z1), (2, .int z2), (3, .int z3), (4, .int z4), (5, .long l5)]) (st' := [.int z3]) rfl ?_
      refine ev_br (P := z3 = 0) (L' := [(0, .ref c), (1, .int z1), (2, .int z2), (3, .int z3), (4, .int z4), (5, .long l5)]) (st' := []) hr rfl rfl rfl (fun hr => ?_) (fun hr => ?_)
      · skip
        exact hr
      · skip
        refine ev_seg 3 (k' := 64) (L' := [(0, .ref c), (1, .int z1), (2, .int z2), (3, .int z3), (4, .int z4), (5, .long l5)]) (st' := [.int (aLcmp l5 0)]) rfl ?_
        refine ev_br (P := ¬ aLcmp l5 0 = 0) (L' := [(0, .ref c), (1, .int z1), (2, .int z2), (3, .int z3), (4, .int z4), (5, .long l5)]) (st' := []) hr rfl rfl rfl (fun hr => ?_) (fun hr => ?_)
        · skip
          refine ev_join (L' := [(0, .ref c), (1, .int z1), (2, .int z2), (4, .int z4), (5, .long l5)]) [0, 1, 2, 4, 5] [0, 1, 2, 3, 4, 5] [0, 1, 2, 4, 5] rfl rfl (by decide) (by decide) rfl ?_
          exact hr
        · skip
          refine ev_seg 1 (k' := 66) (L' := [(0, .ref c), (1, .int z1), (2, .int z2), (3, .int z3), (4, .int z4), (5, .long l5)]) (st' := [.ref c]) rfl ?_
          refine ev_getR (c := c) (v := c + 2) rfl (isT_sh hc) rfl (isT_r2 hc) ?_
          refine ev_seg 1 (k' := 68) (L' := [(0, .ref c), (1, .int z1), (2, .int z2), (3, .int z3), (4, .int z4), (5, .long l5)]) (st' := [.int z1, .ref (c + 2)]) rfl ?_
          refine ev_ldI hr rfl (isT_a2 hc) (fun v5 hr => ?_)
          refine ev_seg 1 (k' := 70) (L' := [(0, .ref c), (1, .int z1), (2, .int z2), (3, .int z3), (4, .int z4), (5, .long l5)]) (st' := [.int 3, .int v5]) rfl ?_
          refine ev_br (P := ¬ v5 = 3) (L' := [(0, .ref c), (1, .int z1), (2, .int z2), (3, .int z3), (4, .int z4), (5, .long l5)]) (st' := []) hr rfl rfl rfl (fun hr => ?_) (fun hr => ?_)
          · skip
            refine ev_join (L' := [(0, .ref c), (1, .int z1), (2, .int z2), (4, .int z4), (5, .long l5)]) [0, 1, 2, 4, 5] [0, 1, 2, 3, 4, 5] [0, 1, 2, 4, 5] rfl rfl (by decide) (by decide) rfl ?_
            exact hr
          · skip
            refine ev_seg 1 (k' := 72) (L' := [(0, .ref c), (1, .int z1), (2, .int z2), (3, .int z3), (4, .int z4), (5, .long l5)]) (st' := [.ref c]) rfl ?_
            refine ev_getR (c := c) (v := c + 5) rfl (isT_sh hc) rfl (isT_r5 hc) ?_
            refine ev_seg 1 (k' := 74) (L' := [(0, .ref c), (1, .int z1), (2, .int z2), (3, .int z3), (4, .int z4), (5, .long l5)]) (st' := [.int z1, .ref (c + 5)]) rfl ?_
            refine ev_ldI hr rfl (isT_a5 hc) (fun v6 hr => ?_)
            refine ev_br (P := ¬ v6 = 0) (L' := [(0, .ref c), (1, .int z1), (2, .int z2), (3, .int z3), (4, .int z4), (5, .long l5)]) (st' := []) hr rfl rfl rfl (fun hr => ?_) (fun hr => ?_)
            · skip
              refine ev_join (L' := [(0, .ref c), (1, .int z1), (2, .int z2), (4, .int z4), (5, .long l5)]) [0, 1, 2, 4, 5] [0, 1, 2, 3, 4, 5] [0, 1, 2, 4, 5] rfl rfl (by decide) (by decide) rfl ?_
              exact hr
            · skip
              exact hr
set_option maxRecDepth 20000 in
theorem eMt_number_128 (d : Nat) (c : Nat) (z1 : Int32) (z2 : Int32) (z4 : Int32) (l5 : Int64) (s : aT) (hc : isT c) : ∀ r, (ldI 4200 s (c + 3) z1 (fun v1 => cG (fMt_need d c z4 1 v1 s) (kV fun s2 => if z2 = 0 then fMt_number_145 (d + 1) z1 (-l5) z1 c s2 else fMt_number_145 (d + 1) z1 l5 z1 c s2))) = some r → fMt_number_128 (d + 1) c z1 z2 z4 l5 s = some r := by
  intro r hr
  show ev (d + 1) q_210 128 [(0, .ref c), (1, .int z1), (2, .int z2), (4, .int z4), (5, .long l5)] [] s = some r
  refine ev_seg 4 (k' := 132) (L' := [(0, .ref c), (1, .int z1), (2, .int z2), (4, .int z4), (5, .long l5)]) (st' := [.ref c, .int 1, .int z4, .ref c]) rfl ?_
  refine ev_getR (c := c) (v := c + 3) rfl (isT_sh hc) rfl (isT_r3 hc) ?_
  refine ev_seg 1 (k' := 134) (L' := [(0, .ref c), (1, .int z1), (2, .int z2), (4, .int z4), (5, .long l5)]) (st' := [.int z1, .ref (c + 3), .int 1, .int z4, .ref c]) rfl ?_
  refine ev_ldI hr rfl (isT_a3 hc) (fun v1 hr => ?_)
  refine ev_callV (q' := q_200) (x := 200) (y := 12) (c := c) (As := [.int z4, .int 1, .int v1]) (rest := []) hr rfl rfl rfl rfl rfl rfl (isT_sh hc) rfl rfl rfl rfl rfl (fun rv s2 hq => ev_kV hq (fun e9 hr => ?_))
  subst e9
  refine ev_st (st' := []) rfl ?_
  refine ev_seg 1 (k' := 137) (L' := [(0, .ref c), (1, .int z1), (2, .int z2), (4, .int z4), (5, .long l5)]) (st' := [.ref c]) rfl ?_
  refine ev_getR (c := c) (v := c + 4) rfl (isT_sh hc) rfl (isT_r4 hc) ?_
  refine ev_seg 2 (k' := 140) (L' := [(0, .ref c), (1, .int z1), (2, .int z2), (4, .int z4), (5, .long l5)]) (st' := [.int z2, .int z1, .ref (c + 4)]) rfl ?_
  refine ev_br (P := z2 = 0) (L' := [(0, .ref c), (1, .int z1), (2, .int z2), (4, .int z4), (5, .long l5)]) (st' := [.int z1, .ref (c + 4)]) hr rfl rfl rfl (fun hr => ?_) (fun hr => ?_)
  · skip
    refine ev_seg 2 (k' := 145) (L' := [(0, .ref c), (1, .int z1), (2, .int z2), (4, .int z4), (5, .long l5)]) (st' := [.long (-l5), .int z1, .ref (c + 4)]) rfl ?_
    refine ev_join (L' := [(1, .int z1)]) [1] [0, 1, 2, 4, 5] [1] rfl rfl (by decide) (by decide) rfl ?_
    exact hr
  · skip
    refine ev_seg 2 (k' := 145) (L' := [(0, .ref c), (1, .int z1), (2, .int z2), (4, .int z4), (5, .long l5)]) (st' := [.long l5, .int z1, .ref (c + 4)]) rfl ?_
    refine ev_join (L' := [(1, .int z1)]) [1] [0, 1, 2, 4, 5] [1] rfl rfl (by decide) (by decide) rfl ?_
    exact hr
set_option maxRecDepth 20000 in
theorem eMt_number_76 (d : Nat) (c : Nat) (z1 : Int32) (z2 : Int32) (z3 : Int32) (z4 : Int32) (l5 : Int64) (s : aT) (hc : isT c) : ∀ r, (cG (fMt_look d c s) (kI fun v2 s1 => if z4 = 0 then fMt_number_100 (d + 1) c z1 z2 z3 l5 (v2 - 48) s1 else if 0 < aLcmp l5 (-922337203685477580) then fMt_number_98 (d + 1) c z1 z2 z3 l5 (v2 - 48) s1 else if ¬ aLcmp l5 (-922337203685477580) = 0 then fMt_number_100 (d + 1) c z1 z2 z3 l5 (v2 - 48) s1 else if z2 = 0 then fMt_number_97 (d + 1) c z1 z2 z3 l5 (v2 - 48) 7 (v2 - 48) s1 else fMt_number_97 (d + 1) c z1 z2 z3 l5 (v2 - 48) 8 (v2 - 48) s1)) = some r → fMt_number_76 (d + 1) c z1 z2 z3 z4 l5 s = some r := by
  intro r hr
  show ev (d + 1) q_210 76 [(0, .ref c), (1, .int z1), (2, .int z2), (3, .int z3), (4, .int z4), (5, .long l5)] [] s = some r
  refine ev_seg 1 (k' := 77) (L' := [(0, .ref c), (1, .int z1), (2, .int z2), (3, .int z3), (4, .int z4), (5, .long l5)]) (st' := [.ref c]) rfl ?_
  refine ev_callV (q' := q_198) (x := 198) (y := 12) (c := c) (As := []) (rest := []) hr rfl rfl rfl rfl rfl rfl (isT_sh hc) rfl rfl rfl rfl rfl (fun rv s1 hq => ev_kI hq (fun v2 e9 hr => ?_))
  subst e9
  refine ev_st (st' := [.int v2]) rfl ?_
  refine ev_seg 4 (k' := 82) (L' := [(7, .int (v2 - 48)), (0, .ref c), (1, .int z1), (2, .int z2), (3, .int z3), (4, .int z4), (5, .long l5)]) (st' := [.int z4]) rfl ?_
  refine ev_br (P := z4 = 0) (L' := [(7, .int (v2 - 48)), (0, .ref c), (1, .int z1), (2, .int z2), (3, .int z3), (4, .int z4), (5, .long l5)]) (st' := []) hr rfl rfl rfl (fun hr => ?_) (fun hr => ?_)
  · skip
    refine ev_join (L' := [(0, .ref c), (1, .int z1), (2, .int z2), (3, .int z3), (5, .long l5), (7, .int (v2 - 48))]) [1, 2, 3, 4, 6, 0] [7, 0, 1, 2, 3, 4, 5] [0, 1, 2, 3, 5, 7] rfl rfl (by decide) (by decide) rfl ?_
    exact hr
  · skip
    refine ev_seg 3 (k' := 86) (L' := [(7, .int (v2 - 48)), (0, .ref c), (1, .int z1), (2, .int z2), (3, .int z3), (4, .int z4), (5, .long l5)]) (st' := [.int (aLcmp l5 (-922337203685477580))]) rfl ?_
    refine ev_br (P := 0 < aLcmp l5 (-922337203685477580)) (L' := [(7, .int (v2 - 48)), (0, .ref c), (1, .int z1), (2, .int z2), (3, .int z3), (4, .int z4), (5, .long l5)]) (st' := []) hr rfl rfl rfl (fun hr => ?_) (fun hr => ?_)
    · skip
      refine ev_join (L' := [(0, .ref c), (1, .int z1), (2, .int z2), (3, .int z3), (5, .long l5), (7, .int (v2 - 48))]) [1, 2, 3, 4, 6, 0] [7, 0, 1, 2, 3, 4, 5] [0, 1, 2, 3, 5, 7] rfl rfl (by decide) (by decide) rfl ?_
      exact hr
    · skip
      refine ev_seg 3 (k' := 90) (L' := [(7, .int (v2 - 48)), (0, .ref c), (1, .int z1), (2, .int z2), (3, .int z3), (4, .int z4), (5, .long l5)]) (st' := [.int (aLcmp l5 (-922337203685477580))]) rfl ?_
      refine ev_br (P := ¬ aLcmp l5 (-922337203685477580) = 0) (L' := [(7, .int (v2 - 48)), (0, .ref c), (1, .int z1), (2, .int z2), (3, .int z3), (4, .int z4), (5, .long l5)]) (st' := []) hr rfl rfl rfl (fun hr => ?_) (fun hr => ?_)
      · skip
        refine ev_join (L' := [(0, .ref c), (1, .int z1), (2, .int z2), (3, .int z3), (5, .long l5), (7, .int (v2 - 48))]) [1, 2, 3, 4, 6, 0] [7, 0, 1, 2, 3, 4, 5] [0, 1, 2, 3, 5, 7] rfl rfl (by decide) (by decide) rfl ?_
        exact hr
      · skip
        refine ev_seg 2 (k' := 93) (L' := [(7, .int (v2 - 48)), (0, .ref c), (1, .int z1), (2, .int z2), (3, .int z3), (4, .int z4), (5, .long l5)]) (st' := [.int z2, .int (v2 - 48)]) rfl ?_
        refine ev_br (P := z2 = 0) (L' := [(7, .int (v2 - 48)), (0, .ref c), (1, .int z1), (2, .int z2), (3, .int z3), (4, .int z4), (5, .long l5)]) (st' := [.int (v2 - 48)]) hr rfl rfl rfl (fun hr => ?_) (fun hr => ?_)
        · skip
          refine ev_seg 1 (k' := 97) (L' := [(7, .int (v2 - 48)), (0, .ref c), (1, .int z1), (2, .int z2), (3, .int z3), (4, .int z4), (5, .long l5)]) (st' := [.int 7, .int (v2 - 48)]) rfl ?_
          refine ev_join (L' := [(0, .ref c), (1, .int z1), (2, .int z2), (3, .int z3), (5, .long l5), (7, .int (v2 - 48))]) [1, 2, 3, 4, 6, 0] [7, 0, 1, 2, 3, 4, 5] [0, 1, 2, 3, 5, 7] rfl rfl (by decide) (by decide) rfl ?_
          exact hr
        · skip
          refine ev_seg 2 (k' := 97) (L' := [(7, .int (v2 - 48)), (0, .ref c), (1, .int z1), (2, .int z2), (3, .int z3), (4, .int z4), (5, .long l5)]) (st' := [.int 8, .int (v2 - 48)]) rfl ?_
          refine ev_join (L' := [(0, .ref c), (1, .int z1), (2, .int z2), (3, .int z3), (5, .long l5), (7, .int (v2 - 48))]) [1, 2, 3, 4, 6, 0] [7, 0, 1, 2, 3, 4, 5] [0, 1, 2, 3, 5, 7] rfl rfl (by decide) (by decide) rfl ?_
          exact hr
set_option maxRecDepth 20000 in
theorem eMt_number_145 (d : Nat) (z1 : Int32) (n0 : Int64) (u1 : Int32) (c : Nat) (s : aT) (hc : isT c) : ∀ r, (stL 4200 s (c + 4) u1 n0 (fun s1 => rI z1 s1)) = some r → fMt_number_145 (d + 1) z1 n0 u1 c s = some r := by
  intro r hr
  show ev (d + 1) q_210 145 [(1, .int z1)] [.long n0, .int u1, .ref (c + 4)] s = some r
  refine ev_stL hr rfl (isT_a4 hc) (fun s1 hr => ?_)
  refine ev_seg 1 (k' := 147) (L' := [(1, .int z1)]) (st' := [.int z1]) rfl ?_
  exact ev_iret hr rfl rfl rfl
set_option maxRecDepth 20000 in
theorem eMt_number_100 (d : Nat) (c : Nat) (z1 : Int32) (z2 : Int32) (z3 : Int32) (l5 : Int64) (z7 : Int32) (s : aT) (hc : isT c) : ∀ r, (fMt_number_101 (d + 1) c z1 z2 z3 l5 z7 0 s) = some r → fMt_number_100 (d + 1) c z1 z2 z3 l5 z7 s = some r := by
  intro r hr
  show ev (d + 1) q_210 100 [(0, .ref c), (1, .int z1), (2, .int z2), (3, .int z3), (5, .long l5), (7, .int z7)] [] s = some r
  refine ev_seg 1 (k' := 101) (L' := [(0, .ref c), (1, .int z1), (2, .int z2), (3, .int z3), (5, .long l5), (7, .int z7)]) (st' := [.int 0]) rfl ?_
  exact hr
set_option maxRecDepth 20000 in
theorem eMt_number_98 (d : Nat) (c : Nat) (z1 : Int32) (z2 : Int32) (z3 : Int32) (l5 : Int64) (z7 : Int32) (s : aT) (hc : isT c) : ∀ r, (fMt_number_101 (d + 1) c z1 z2 z3 l5 z7 1 s) = some r → fMt_number_98 (d + 1) c z1 z2 z3 l5 z7 s = some r := by
  intro r hr
  show ev (d + 1) q_210 98 [(0, .ref c), (1, .int z1), (2, .int z2), (3, .int z3), (5, .long l5), (7, .int z7)] [] s = some r
  refine ev_seg 2 (k' := 101) (L' := [(0, .ref c), (1, .int z1), (2, .int z2), (3, .int z3), (5, .long l5), (7, .int z7)]) (st' := [.int 1]) rfl ?_
  exact hr
set_option maxRecDepth 20000 in
theorem eMt_number_97 (d : Nat) (c : Nat) (z1 : Int32) (z2 : Int32) (z3 : Int32) (l5 : Int64) (z7 : Int32) (u0 : Int32) (u1 : Int32) (s : aT) (hc : isT c) : ∀ r, (if u0 < u1 then fMt_number_100 (d + 1) c z1 z2 z3 l5 z7 s else fMt_number_98 (d + 1) c z1 z2 z3 l5 z7 s) = some r → fMt_number_97 (d + 1) c z1 z2 z3 l5 z7 u0 u1 s = some r := by
  intro r hr
  show ev (d + 1) q_210 97 [(0, .ref c), (1, .int z1), (2, .int z2), (3, .int z3), (5, .long l5), (7, .int z7)] [.int u0, .int u1] s = some r
  refine ev_br (P := u0 < u1) (L' := [(0, .ref c), (1, .int z1), (2, .int z2), (3, .int z3), (5, .long l5), (7, .int z7)]) (st' := []) hr rfl rfl rfl (fun hr => ?_) (fun hr => ?_)
  · skip
    exact hr
  · skip
    exact hr
set_option maxRecDepth 20000 in
theorem eMt_number_101 (d : Nat) (c : Nat) (z1 : Int32) (z2 : Int32) (z3 : Int32) (l5 : Int64) (z7 : Int32) (u0 : Int32) (s : aT) (hc : isT c) : ∀ r, (if u0 = 0 then fMt_number_112 (d + 1) c z1 z2 z3 u0 l5 s else fMt_number_112 (d + 1) c z1 z2 z3 u0 ((10 * l5) - z7.toInt64) s) = some r → fMt_number_101 (d + 1) c z1 z2 z3 l5 z7 u0 s = some r := by
  intro r hr
  show ev (d + 1) q_210 101 [(0, .ref c), (1, .int z1), (2, .int z2), (3, .int z3), (5, .long l5), (7, .int z7)] [.int u0] s = some r
  refine ev_seg 2 (k' := 103) (L' := [(4, .int u0), (0, .ref c), (1, .int z1), (2, .int z2), (3, .int z3), (5, .long l5), (7, .int z7)]) (st' := [.int u0]) rfl ?_
  refine ev_br (P := u0 = 0) (L' := [(4, .int u0), (0, .ref c), (1, .int z1), (2, .int z2), (3, .int z3), (5, .long l5), (7, .int z7)]) (st' := []) hr rfl rfl rfl (fun hr => ?_) (fun hr => ?_)
  · skip
    refine ev_seg 1 (k' := 112) (L' := [(4, .int u0), (0, .ref c), (1, .int z1), (2, .int z2), (3, .int z3), (5, .long l5), (7, .int z7)]) (st' := [.long l5]) rfl ?_
    refine ev_join (L' := [(0, .ref c), (1, .int z1), (2, .int z2), (3, .int z3), (4, .int u0)]) [1, 2, 3, 4, 0] [4, 0, 1, 2, 3, 5, 7] [0, 1, 2, 3, 4] rfl rfl (by decide) (by decide) rfl ?_
    exact hr
  · skip
    refine ev_seg 7 (k' := 112) (L' := [(4, .int u0), (0, .ref c), (1, .int z1), (2, .int z2), (3, .int z3), (5, .long l5), (7, .int z7)]) (st' := [.long ((10 * l5) - z7.toInt64)]) rfl ?_
    refine ev_join (L' := [(0, .ref c), (1, .int z1), (2, .int z2), (3, .int z3), (4, .int u0)]) [1, 2, 3, 4, 0] [4, 0, 1, 2, 3, 5, 7] [0, 1, 2, 3, 4] rfl rfl (by decide) (by decide) rfl ?_
    exact hr
set_option maxRecDepth 20000 in
theorem eMt_number_112 (d : Nat) (c : Nat) (z1 : Int32) (z2 : Int32) (z3 : Int32) (z4 : Int32) (n0 : Int64) (s : aT) (hc : isT c) : ∀ r, (ldI 4200 s (c + 5) z1 (fun v1 => stI 4200 s (c + 5) z1 (v1 + 1) (fun s2 => wI s2 c 2 ((gI s2 c 2) + 1) (fun s3 => fMt_number_51 (d + 1) c z1 z2 z3 z4 n0 s3)))) = some r → fMt_number_112 (d + 1) c z1 z2 z3 z4 n0 s = some r := by
  intro r hr
  show ev (d + 1) q_210 112 [(0, .ref c), (1, .int z1), (2, .int z2), (3, .int z3), (4, .int z4)] [.long n0] s = some r
  refine ev_seg 2 (k' := 114) (L' := [(5, .long n0), (0, .ref c), (1, .int z1), (2, .int z2), (3, .int z3), (4, .int z4)]) (st' := [.ref c]) rfl ?_
  refine ev_getR (c := c) (v := c + 5) rfl (isT_sh hc) rfl (isT_r5 hc) ?_
  refine ev_seg 2 (k' := 117) (L' := [(5, .long n0), (0, .ref c), (1, .int z1), (2, .int z2), (3, .int z3), (4, .int z4)]) (st' := [.int z1, .ref (c + 5), .int z1, .ref (c + 5)]) rfl ?_
  refine ev_ldI hr rfl (isT_a5 hc) (fun v1 hr => ?_)
  refine ev_seg 2 (k' := 120) (L' := [(5, .long n0), (0, .ref c), (1, .int z1), (2, .int z2), (3, .int z3), (4, .int z4)]) (st' := [.int (v1 + 1), .int z1, .ref (c + 5)]) rfl ?_
  refine ev_stI hr rfl (isT_a5 hc) (fun s2 hr => ?_)
  refine ev_seg 2 (k' := 123) (L' := [(5, .long n0), (0, .ref c), (1, .int z1), (2, .int z2), (3, .int z3), (4, .int z4)]) (st' := [.ref c, .ref c]) rfl ?_
  refine ev_getI (c := c) rfl (isT_sh hc) rfl (Or.inl rfl) ?_
  refine ev_seg 2 (k' := 126) (L' := [(5, .long n0), (0, .ref c), (1, .int z1), (2, .int z2), (3, .int z3), (4, .int z4)]) (st' := [.int ((gI s2 c 2) + 1), .ref c]) rfl ?_
  refine ev_putI (c := c) hr rfl (isT_sh hc) rfl (fun s3 hr => ?_)
  refine ev_seg 1 (k' := 51) (L' := [(5, .long n0), (0, .ref c), (1, .int z1), (2, .int z2), (3, .int z3), (4, .int z4)]) (st' := []) rfl ?_
  refine ev_join (L' := [(0, .ref c), (1, .int z1), (2, .int z2), (3, .int z3), (4, .int z4), (5, .long n0)]) [1, 2, 3, 4, 5, 0] [5, 0, 1, 2, 3, 4] [0, 1, 2, 3, 4, 5] rfl rfl (by decide) (by decide) rfl ?_
  exact hr
set_option maxRecDepth 20000 in
theorem eMt_schemaOf (d : Nat) (c : Nat) (x1 : Int32) (x2 : Int32) (x3 : Int32) (s : aT) (hc : isT c) : ∀ r, (if 128 ≤ gI s c 17 then fMt_schemaOf_8 (d + 1) c x1 x2 x3 0 s else fMt_schemaOf_8 (d + 1) c x1 x2 x3 1 s) = some r → fMt_schemaOf (d + 1) c x1 x2 x3 s = some r := by
  intro r hr
  show ev (d + 1) q_211 0 [(0, .ref c), (1, .int x1), (2, .int x2), (3, .int x3)] [] s = some r
  refine ev_seg 2 (k' := 2) (L' := [(0, .ref c), (1, .int x1), (2, .int x2), (3, .int x3)]) (st' := [.ref c, .ref c]) rfl ?_
  refine ev_getI (c := c) rfl (isT_sh hc) rfl (Or.inl rfl) ?_
  refine ev_seg 1 (k' := 4) (L' := [(0, .ref c), (1, .int x1), (2, .int x2), (3, .int x3)]) (st' := [.int 128, .int (gI s c 17), .ref c]) rfl ?_
  refine ev_br (P := 128 ≤ gI s c 17) (L' := [(0, .ref c), (1, .int x1), (2, .int x2), (3, .int x3)]) (st' := [.ref c]) hr rfl rfl rfl (fun hr => ?_) (fun hr => ?_)
  · skip
    refine ev_seg 1 (k' := 8) (L' := [(0, .ref c), (1, .int x1), (2, .int x2), (3, .int x3)]) (st' := [.int 0, .ref c]) rfl ?_
    exact hr
  · skip
    refine ev_seg 2 (k' := 8) (L' := [(0, .ref c), (1, .int x1), (2, .int x2), (3, .int x3)]) (st' := [.int 1, .ref c]) rfl ?_
    exact hr
set_option maxRecDepth 20000 in
theorem eMt_schemaOf_8 (d : Nat) (c : Nat) (x1 : Int32) (x2 : Int32) (x3 : Int32) (u0 : Int32) (s : aT) (hc : isT c) : ∀ r, (ldI 4200 s (c + 3) x1 (fun v1 => cG (fMt_need d c u0 13 v1 s) (kV fun s2 => wI s2 c 17 ((gI s2 c 17) + 1) (fun s3 => if 16 ≤ x2 then fMt_schemaOf_27 (d + 1) c x1 x2 x3 0 s3 else fMt_schemaOf_27 (d + 1) c x1 x2 x3 1 s3)))) = some r → fMt_schemaOf_8 (d + 1) c x1 x2 x3 u0 s = some r := by
  intro r hr
  show ev (d + 1) q_211 8 [(0, .ref c), (1, .int x1), (2, .int x2), (3, .int x3)] [.int u0, .ref c] s = some r
  refine ev_seg 2 (k' := 10) (L' := [(0, .ref c), (1, .int x1), (2, .int x2), (3, .int x3)]) (st' := [.ref c, .int 13, .int u0, .ref c]) rfl ?_
  refine ev_getR (c := c) (v := c + 3) rfl (isT_sh hc) rfl (isT_r3 hc) ?_
  refine ev_seg 1 (k' := 12) (L' := [(0, .ref c), (1, .int x1), (2, .int x2), (3, .int x3)]) (st' := [.int x1, .ref (c + 3), .int 13, .int u0, .ref c]) rfl ?_
  refine ev_ldI hr rfl (isT_a3 hc) (fun v1 hr => ?_)
  refine ev_callV (q' := q_200) (x := 200) (y := 12) (c := c) (As := [.int u0, .int 13, .int v1]) (rest := []) hr rfl rfl rfl rfl rfl rfl (isT_sh hc) rfl rfl rfl rfl rfl (fun rv s2 hq => ev_kV hq (fun e9 hr => ?_))
  subst e9
  refine ev_st (st' := []) rfl ?_
  refine ev_seg 2 (k' := 16) (L' := [(0, .ref c), (1, .int x1), (2, .int x2), (3, .int x3)]) (st' := [.ref c, .ref c]) rfl ?_
  refine ev_getI (c := c) rfl (isT_sh hc) rfl (Or.inl rfl) ?_
  refine ev_seg 2 (k' := 19) (L' := [(0, .ref c), (1, .int x1), (2, .int x2), (3, .int x3)]) (st' := [.int ((gI s2 c 17) + 1), .ref c]) rfl ?_
  refine ev_putI (c := c) hr rfl (isT_sh hc) rfl (fun s3 hr => ?_)
  refine ev_seg 3 (k' := 23) (L' := [(0, .ref c), (1, .int x1), (2, .int x2), (3, .int x3)]) (st' := [.int 16, .int x2, .ref c]) rfl ?_
  refine ev_br (P := 16 ≤ x2) (L' := [(0, .ref c), (1, .int x1), (2, .int x2), (3, .int x3)]) (st' := [.ref c]) hr rfl rfl rfl (fun hr => ?_) (fun hr => ?_)
  · skip
    refine ev_seg 1 (k' := 27) (L' := [(0, .ref c), (1, .int x1), (2, .int x2), (3, .int x3)]) (st' := [.int 0, .ref c]) rfl ?_
    exact hr
  · skip
    refine ev_seg 2 (k' := 27) (L' := [(0, .ref c), (1, .int x1), (2, .int x2), (3, .int x3)]) (st' := [.int 1, .ref c]) rfl ?_
    exact hr
set_option maxRecDepth 20000 in
theorem eMt_schemaOf_27 (d : Nat) (c : Nat) (x1 : Int32) (x2 : Int32) (x3 : Int32) (u0 : Int32) (s : aT) (hc : isT c) : ∀ r, (ldI 4200 s (c + 3) x1 (fun v1 => cG (fMt_need d c u0 14 v1 s) (kV fun s2 => ldI 4200 s2 (c + 2) x1 (fun v3 => if ¬ v3 = 2 then ldI 4200 s2 (c + 2) x1 (fun v4 => if ¬ v4 = 1 then ldI 4200 s2 (c + 2) x1 (fun v5 => if ¬ v5 = 0 then fMt_schemaOf_86 (d + 1) c x1 x2 0 s2 else fMt_schemaOf_86 (d + 1) c x1 x2 1 s2) else cG (fMt_union d c x1 x2 x3 s2) (kI fun v7 s6 => rI v7 s6)) else cG (fMt_word d c x1 s2) (kI fun v9 s8 => if v9 < 0 then cG (fMt_defined d c x1 s8) (kI fun v11 s10 => fMt_schemaOf_50 (d + 1) c x1 v11 s10) else fMt_schemaOf_50 (d + 1) c x1 v9 s8))))) = some r → fMt_schemaOf_27 (d + 1) c x1 x2 x3 u0 s = some r := by
  intro r hr
  show ev (d + 1) q_211 27 [(0, .ref c), (1, .int x1), (2, .int x2), (3, .int x3)] [.int u0, .ref c] s = some r
  refine ev_seg 2 (k' := 29) (L' := [(0, .ref c), (1, .int x1), (2, .int x2), (3, .int x3)]) (st' := [.ref c, .int 14, .int u0, .ref c]) rfl ?_
  refine ev_getR (c := c) (v := c + 3) rfl (isT_sh hc) rfl (isT_r3 hc) ?_
  refine ev_seg 1 (k' := 31) (L' := [(0, .ref c), (1, .int x1), (2, .int x2), (3, .int x3)]) (st' := [.int x1, .ref (c + 3), .int 14, .int u0, .ref c]) rfl ?_
  refine ev_ldI hr rfl (isT_a3 hc) (fun v1 hr => ?_)
  refine ev_callV (q' := q_200) (x := 200) (y := 12) (c := c) (As := [.int u0, .int 14, .int v1]) (rest := []) hr rfl rfl rfl rfl rfl rfl (isT_sh hc) rfl rfl rfl rfl rfl (fun rv s2 hq => ev_kV hq (fun e9 hr => ?_))
  subst e9
  refine ev_st (st' := []) rfl ?_
  refine ev_seg 1 (k' := 34) (L' := [(0, .ref c), (1, .int x1), (2, .int x2), (3, .int x3)]) (st' := [.ref c]) rfl ?_
  refine ev_getR (c := c) (v := c + 2) rfl (isT_sh hc) rfl (isT_r2 hc) ?_
  refine ev_seg 1 (k' := 36) (L' := [(0, .ref c), (1, .int x1), (2, .int x2), (3, .int x3)]) (st' := [.int x1, .ref (c + 2)]) rfl ?_
  refine ev_ldI hr rfl (isT_a2 hc) (fun v3 hr => ?_)
  refine ev_seg 1 (k' := 38) (L' := [(0, .ref c), (1, .int x1), (2, .int x2), (3, .int x3)]) (st' := [.int 2, .int v3]) rfl ?_
  refine ev_br (P := ¬ v3 = 2) (L' := [(0, .ref c), (1, .int x1), (2, .int x2), (3, .int x3)]) (st' := []) hr rfl rfl rfl (fun hr => ?_) (fun hr => ?_)
  · skip
    refine ev_seg 1 (k' := 66) (L' := [(0, .ref c), (1, .int x1), (2, .int x2), (3, .int x3)]) (st' := [.ref c]) rfl ?_
    refine ev_getR (c := c) (v := c + 2) rfl (isT_sh hc) rfl (isT_r2 hc) ?_
    refine ev_seg 1 (k' := 68) (L' := [(0, .ref c), (1, .int x1), (2, .int x2), (3, .int x3)]) (st' := [.int x1, .ref (c + 2)]) rfl ?_
    refine ev_ldI hr rfl (isT_a2 hc) (fun v4 hr => ?_)
    refine ev_seg 1 (k' := 70) (L' := [(0, .ref c), (1, .int x1), (2, .int x2), (3, .int x3)]) (st' := [.int 1, .int v4]) rfl ?_
    refine ev_br (P := ¬ v4 = 1) (L' := [(0, .ref c), (1, .int x1), (2, .int x2), (3, .int x3)]) (st' := []) hr rfl rfl rfl (fun hr => ?_) (fun hr => ?_)
    · skip
      refine ev_seg 2 (k' := 79) (L' := [(0, .ref c), (1, .int x1), (2, .int x2), (3, .int x3)]) (st' := [.ref c, .ref c]) rfl ?_
      refine ev_getR (c := c) (v := c + 2) rfl (isT_sh hc) rfl (isT_r2 hc) ?_
      refine ev_seg 1 (k' := 81) (L' := [(0, .ref c), (1, .int x1), (2, .int x2), (3, .int x3)]) (st' := [.int x1, .ref (c + 2), .ref c]) rfl ?_
      refine ev_ldI hr rfl (isT_a2 hc) (fun v5 hr => ?_)
      refine ev_br (P := ¬ v5 = 0) (L' := [(0, .ref c), (1, .int x1), (2, .int x2), (3, .int x3)]) (st' := [.ref c]) hr rfl rfl rfl (fun hr => ?_) (fun hr => ?_)
      · skip
        refine ev_seg 1 (k' := 86) (L' := [(0, .ref c), (1, .int x1), (2, .int x2), (3, .int x3)]) (st' := [.int 0, .ref c]) rfl ?_
        refine ev_join (L' := [(0, .ref c), (1, .int x1), (2, .int x2)]) [0, 1, 2] [0, 1, 2, 3] [0, 1, 2] rfl rfl (by decide) (by decide) rfl ?_
        exact hr
      · skip
        refine ev_seg 2 (k' := 86) (L' := [(0, .ref c), (1, .int x1), (2, .int x2), (3, .int x3)]) (st' := [.int 1, .ref c]) rfl ?_
        refine ev_join (L' := [(0, .ref c), (1, .int x1), (2, .int x2)]) [0, 1, 2] [0, 1, 2, 3] [0, 1, 2] rfl rfl (by decide) (by decide) rfl ?_
        exact hr
    · skip
      refine ev_seg 4 (k' := 75) (L' := [(0, .ref c), (1, .int x1), (2, .int x2), (3, .int x3)]) (st' := [.int x3, .int x2, .int x1, .ref c]) rfl ?_
      refine ev_callV (q' := q_215) (x := 215) (y := 12) (c := c) (As := [.int x1, .int x2, .int x3]) (rest := []) hr rfl rfl rfl rfl rfl rfl (isT_sh hc) rfl rfl rfl rfl rfl (fun rv s6 hq => ev_kI hq (fun v7 e9 hr => ?_))
      subst e9
      refine ev_st (st' := [.int v7]) rfl ?_
      exact ev_iret hr rfl rfl rfl
  · skip
    refine ev_seg 2 (k' := 41) (L' := [(0, .ref c), (1, .int x1), (2, .int x2), (3, .int x3)]) (st' := [.int x1, .ref c]) rfl ?_
    refine ev_callV (q' := q_212) (x := 212) (y := 12) (c := c) (As := [.int x1]) (rest := []) hr rfl rfl rfl rfl rfl rfl (isT_sh hc) rfl rfl rfl rfl rfl (fun rv s8 hq => ev_kI hq (fun v9 e9 hr => ?_))
    subst e9
    refine ev_st (st' := [.int v9]) rfl ?_
    refine ev_seg 2 (k' := 44) (L' := [(4, .int v9), (0, .ref c), (1, .int x1), (2, .int x2), (3, .int x3)]) (st' := [.int v9]) rfl ?_
    refine ev_br (P := v9 < 0) (L' := [(4, .int v9), (0, .ref c), (1, .int x1), (2, .int x2), (3, .int x3)]) (st' := []) hr rfl rfl rfl (fun hr => ?_) (fun hr => ?_)
    · skip
      refine ev_seg 2 (k' := 49) (L' := [(4, .int v9), (0, .ref c), (1, .int x1), (2, .int x2), (3, .int x3)]) (st' := [.int x1, .ref c]) rfl ?_
      refine ev_callV (q' := q_214) (x := 214) (y := 12) (c := c) (As := [.int x1]) (rest := []) hr rfl rfl rfl rfl rfl rfl (isT_sh hc) rfl rfl rfl rfl rfl (fun rv s10 hq => ev_kI hq (fun v11 e9 hr => ?_))
      subst e9
      refine ev_st (st' := [.int v11]) rfl ?_
      refine ev_join (L' := [(0, .ref c), (1, .int x1)]) [1, 2] [4, 0, 1, 2, 3] [0, 1] rfl rfl (by decide) (by decide) rfl ?_
      exact hr
    · skip
      refine ev_seg 2 (k' := 50) (L' := [(4, .int v9), (0, .ref c), (1, .int x1), (2, .int x2), (3, .int x3)]) (st' := [.int v9]) rfl ?_
      refine ev_join (L' := [(0, .ref c), (1, .int x1)]) [1, 2] [4, 0, 1, 2, 3] [0, 1] rfl rfl (by decide) (by decide) rfl ?_
      exact hr
set_option maxRecDepth 20000 in
theorem eMt_schemaOf_86 (d : Nat) (c : Nat) (x1 : Int32) (x2 : Int32) (u0 : Int32) (s : aT) (hc : isT c) : ∀ r, (ldI 4200 s (c + 3) x1 (fun v1 => cG (fMt_need d c u0 2 v1 s) (kV fun s2 => cG (fMt_member d c x1 1052 s2) (kI fun v4 s3 => if v4 < 0 then fMt_schemaOf_108 (d + 1) c x1 x2 v4 s3 else ldI 4200 s3 (c + 2) v4 (fun v5 => if ¬ v5 = 2 then fMt_schemaOf_108 (d + 1) c x1 x2 v4 s3 else fMt_schemaOf_109 (d + 1) c x1 x2 v4 1 s3))))) = some r → fMt_schemaOf_86 (d + 1) c x1 x2 u0 s = some r := by
  intro r hr
  show ev (d + 1) q_211 86 [(0, .ref c), (1, .int x1), (2, .int x2)] [.int u0, .ref c] s = some r
  refine ev_seg 2 (k' := 88) (L' := [(0, .ref c), (1, .int x1), (2, .int x2)]) (st' := [.ref c, .int 2, .int u0, .ref c]) rfl ?_
  refine ev_getR (c := c) (v := c + 3) rfl (isT_sh hc) rfl (isT_r3 hc) ?_
  refine ev_seg 1 (k' := 90) (L' := [(0, .ref c), (1, .int x1), (2, .int x2)]) (st' := [.int x1, .ref (c + 3), .int 2, .int u0, .ref c]) rfl ?_
  refine ev_ldI hr rfl (isT_a3 hc) (fun v1 hr => ?_)
  refine ev_callV (q' := q_200) (x := 200) (y := 12) (c := c) (As := [.int u0, .int 2, .int v1]) (rest := []) hr rfl rfl rfl rfl rfl rfl (isT_sh hc) rfl rfl rfl rfl rfl (fun rv s2 hq => ev_kV hq (fun e9 hr => ?_))
  subst e9
  refine ev_st (st' := []) rfl ?_
  refine ev_seg 3 (k' := 95) (L' := [(0, .ref c), (1, .int x1), (2, .int x2)]) (st' := [.ref 1052, .int x1, .ref c]) rfl ?_
  refine ev_callV (q' := q_219) (x := 219) (y := 12) (c := c) (As := [.int x1, .ref 1052]) (rest := []) hr rfl rfl rfl rfl rfl rfl (isT_sh hc) rfl rfl rfl rfl rfl (fun rv s3 hq => ev_kI hq (fun v4 e9 hr => ?_))
  subst e9
  refine ev_st (st' := [.int v4]) rfl ?_
  refine ev_seg 3 (k' := 99) (L' := [(4, .int v4), (0, .ref c), (1, .int x1), (2, .int x2)]) (st' := [.int v4, .ref c]) rfl ?_
  refine ev_br (P := v4 < 0) (L' := [(4, .int v4), (0, .ref c), (1, .int x1), (2, .int x2)]) (st' := [.ref c]) hr rfl rfl rfl (fun hr => ?_) (fun hr => ?_)
  · skip
    refine ev_join (L' := [(0, .ref c), (1, .int x1), (2, .int x2), (4, .int v4)]) [1, 2, 3, 0] [4, 0, 1, 2] [0, 1, 2, 4] rfl rfl (by decide) (by decide) rfl ?_
    exact hr
  · skip
    refine ev_seg 1 (k' := 101) (L' := [(4, .int v4), (0, .ref c), (1, .int x1), (2, .int x2)]) (st' := [.ref c, .ref c]) rfl ?_
    refine ev_getR (c := c) (v := c + 2) rfl (isT_sh hc) rfl (isT_r2 hc) ?_
    refine ev_seg 1 (k' := 103) (L' := [(4, .int v4), (0, .ref c), (1, .int x1), (2, .int x2)]) (st' := [.int v4, .ref (c + 2), .ref c]) rfl ?_
    refine ev_ldI hr rfl (isT_a2 hc) (fun v5 hr => ?_)
    refine ev_seg 1 (k' := 105) (L' := [(4, .int v4), (0, .ref c), (1, .int x1), (2, .int x2)]) (st' := [.int 2, .int v5, .ref c]) rfl ?_
    refine ev_br (P := ¬ v5 = 2) (L' := [(4, .int v4), (0, .ref c), (1, .int x1), (2, .int x2)]) (st' := [.ref c]) hr rfl rfl rfl (fun hr => ?_) (fun hr => ?_)
    · skip
      refine ev_join (L' := [(0, .ref c), (1, .int x1), (2, .int x2), (4, .int v4)]) [1, 2, 3, 0] [4, 0, 1, 2] [0, 1, 2, 4] rfl rfl (by decide) (by decide) rfl ?_
      exact hr
    · skip
      refine ev_seg 2 (k' := 109) (L' := [(4, .int v4), (0, .ref c), (1, .int x1), (2, .int x2)]) (st' := [.int 1, .ref c]) rfl ?_
      refine ev_join (L' := [(0, .ref c), (1, .int x1), (2, .int x2), (4, .int v4)]) [1, 2, 3, 0] [4, 0, 1, 2] [0, 1, 2, 4] rfl rfl (by decide) (by decide) rfl ?_
      exact hr
set_option maxRecDepth 20000 in
theorem eMt_schemaOf_50 (d : Nat) (c : Nat) (x1 : Int32) (u0 : Int32) (s : aT) (hc : isT c) : ∀ r, (if u0 < 0 then fMt_schemaOf_57 (d + 1) c x1 u0 0 s else fMt_schemaOf_57 (d + 1) c x1 u0 1 s) = some r → fMt_schemaOf_50 (d + 1) c x1 u0 s = some r := by
  intro r hr
  show ev (d + 1) q_211 50 [(0, .ref c), (1, .int x1)] [.int u0] s = some r
  refine ev_seg 3 (k' := 53) (L' := [(5, .int u0), (0, .ref c), (1, .int x1)]) (st' := [.int u0, .ref c]) rfl ?_
  refine ev_br (P := u0 < 0) (L' := [(5, .int u0), (0, .ref c), (1, .int x1)]) (st' := [.ref c]) hr rfl rfl rfl (fun hr => ?_) (fun hr => ?_)
  · skip
    refine ev_seg 1 (k' := 57) (L' := [(5, .int u0), (0, .ref c), (1, .int x1)]) (st' := [.int 0, .ref c]) rfl ?_
    refine ev_join (L' := [(0, .ref c), (1, .int x1), (5, .int u0)]) [1, 2, 0] [5, 0, 1] [0, 1, 5] rfl rfl (by decide) (by decide) rfl ?_
    exact hr
  · skip
    refine ev_seg 2 (k' := 57) (L' := [(5, .int u0), (0, .ref c), (1, .int x1)]) (st' := [.int 1, .ref c]) rfl ?_
    refine ev_join (L' := [(0, .ref c), (1, .int x1), (5, .int u0)]) [1, 2, 0] [5, 0, 1] [0, 1, 5] rfl rfl (by decide) (by decide) rfl ?_
    exact hr
set_option maxRecDepth 20000 in
theorem eMt_schemaOf_108 (d : Nat) (c : Nat) (x1 : Int32) (x2 : Int32) (z4 : Int32) (s : aT) (hc : isT c) : ∀ r, (fMt_schemaOf_109 (d + 1) c x1 x2 z4 0 s) = some r → fMt_schemaOf_108 (d + 1) c x1 x2 z4 s = some r := by
  intro r hr
  show ev (d + 1) q_211 108 [(0, .ref c), (1, .int x1), (2, .int x2), (4, .int z4)] [.ref c] s = some r
  refine ev_seg 1 (k' := 109) (L' := [(0, .ref c), (1, .int x1), (2, .int x2), (4, .int z4)]) (st' := [.int 0, .ref c]) rfl ?_
  exact hr
set_option maxRecDepth 20000 in
theorem eMt_schemaOf_109 (d : Nat) (c : Nat) (x1 : Int32) (x2 : Int32) (z4 : Int32) (u0 : Int32) (s : aT) (hc : isT c) : ∀ r, (ldI 4200 s (c + 3) x1 (fun v1 => cG (fMt_need d c u0 7 v1 s) (kV fun s2 => cG (fMt_word d c z4 s2) (kI fun v4 s3 => if v4 < 0 then cG (fMt_is d c z4 1053 s3) (kI fun v6 s5 => if ¬ v6 = 0 then fMt_schemaOf_133 (d + 1) c x1 x2 z4 s5 else cG (fMt_is d c z4 1054 s5) (kI fun v8 s7 => if v8 = 0 then cG (fMt_is d c z4 1057 s7) (kI fun v10 s9 => if ¬ v10 = 0 then fMt_schemaOf_200 (d + 1) c x1 x2 z4 s9 else cG (fMt_is d c z4 1058 s9) (kI fun v12 s11 => if ¬ v12 = 0 then fMt_schemaOf_200 (d + 1) c x1 x2 z4 s11 else cG (fMt_is d c z4 1059 s11) (kI fun v14 s13 => if v14 = 0 then cG (fMt_defined d c z4 s13) (kI fun v16 s15 => if v16 < 0 then fMt_schemaOf_216 (d + 1) c z4 v16 0 s15 else fMt_schemaOf_216 (d + 1) c z4 v16 1 s15) else fMt_schemaOf_200 (d + 1) c x1 x2 z4 s13))) else fMt_schemaOf_133 (d + 1) c x1 x2 z4 s7)) else cG (fMt_word d c z4 s3) (kI fun v18 s17 => rI v18 s17))))) = some r → fMt_schemaOf_109 (d + 1) c x1 x2 z4 u0 s = some r := by
  intro r hr
  show ev (d + 1) q_211 109 [(0, .ref c), (1, .int x1), (2, .int x2), (4, .int z4)] [.int u0, .ref c] s = some r
  refine ev_seg 2 (k' := 111) (L' := [(0, .ref c), (1, .int x1), (2, .int x2), (4, .int z4)]) (st' := [.ref c, .int 7, .int u0, .ref c]) rfl ?_
  refine ev_getR (c := c) (v := c + 3) rfl (isT_sh hc) rfl (isT_r3 hc) ?_
  refine ev_seg 1 (k' := 113) (L' := [(0, .ref c), (1, .int x1), (2, .int x2), (4, .int z4)]) (st' := [.int x1, .ref (c + 3), .int 7, .int u0, .ref c]) rfl ?_
  refine ev_ldI hr rfl (isT_a3 hc) (fun v1 hr => ?_)
  refine ev_callV (q' := q_200) (x := 200) (y := 12) (c := c) (As := [.int u0, .int 7, .int v1]) (rest := []) hr rfl rfl rfl rfl rfl rfl (isT_sh hc) rfl rfl rfl rfl rfl (fun rv s2 hq => ev_kV hq (fun e9 hr => ?_))
  subst e9
  refine ev_st (st' := []) rfl ?_
  refine ev_seg 2 (k' := 117) (L' := [(0, .ref c), (1, .int x1), (2, .int x2), (4, .int z4)]) (st' := [.int z4, .ref c]) rfl ?_
  refine ev_callV (q' := q_212) (x := 212) (y := 12) (c := c) (As := [.int z4]) (rest := []) hr rfl rfl rfl rfl rfl rfl (isT_sh hc) rfl rfl rfl rfl rfl (fun rv s3 hq => ev_kI hq (fun v4 e9 hr => ?_))
  subst e9
  refine ev_st (st' := [.int v4]) rfl ?_
  refine ev_br (P := v4 < 0) (L' := [(0, .ref c), (1, .int x1), (2, .int x2), (4, .int z4)]) (st' := []) hr rfl rfl rfl (fun hr => ?_) (fun hr => ?_)
  · skip
    refine ev_seg 3 (k' := 126) (L' := [(0, .ref c), (1, .int x1), (2, .int x2), (4, .int z4)]) (st' := [.ref 1053, .int z4, .ref c]) rfl ?_
    refine ev_callV (q' := q_213) (x := 213) (y := 12) (c := c) (As := [.int z4, .ref 1053]) (rest := []) hr rfl rfl rfl rfl rfl rfl (isT_sh hc) rfl rfl rfl rfl rfl (fun rv s5 hq => ev_kI hq (fun v6 e9 hr => ?_))
    subst e9
    refine ev_st (st' := [.int v6]) rfl ?_
    refine ev_br (P := ¬ v6 = 0) (L' := [(0, .ref c), (1, .int x1), (2, .int x2), (4, .int z4)]) (st' := []) hr rfl rfl rfl (fun hr => ?_) (fun hr => ?_)
    · skip
      exact hr
    · skip
      refine ev_seg 3 (k' := 131) (L' := [(0, .ref c), (1, .int x1), (2, .int x2), (4, .int z4)]) (st' := [.ref 1054, .int z4, .ref c]) rfl ?_
      refine ev_callV (q' := q_213) (x := 213) (y := 12) (c := c) (As := [.int z4, .ref 1054]) (rest := []) hr rfl rfl rfl rfl rfl rfl (isT_sh hc) rfl rfl rfl rfl rfl (fun rv s7 hq => ev_kI hq (fun v8 e9 hr => ?_))
      subst e9
      refine ev_st (st' := [.int v8]) rfl ?_
      refine ev_br (P := v8 = 0) (L' := [(0, .ref c), (1, .int x1), (2, .int x2), (4, .int z4)]) (st' := []) hr rfl rfl rfl (fun hr => ?_) (fun hr => ?_)
      · skip
        refine ev_seg 3 (k' := 188) (L' := [(0, .ref c), (1, .int x1), (2, .int x2), (4, .int z4)]) (st' := [.ref 1057, .int z4, .ref c]) rfl ?_
        refine ev_callV (q' := q_213) (x := 213) (y := 12) (c := c) (As := [.int z4, .ref 1057]) (rest := []) hr rfl rfl rfl rfl rfl rfl (isT_sh hc) rfl rfl rfl rfl rfl (fun rv s9 hq => ev_kI hq (fun v10 e9 hr => ?_))
        subst e9
        refine ev_st (st' := [.int v10]) rfl ?_
        refine ev_br (P := ¬ v10 = 0) (L' := [(0, .ref c), (1, .int x1), (2, .int x2), (4, .int z4)]) (st' := []) hr rfl rfl rfl (fun hr => ?_) (fun hr => ?_)
        · skip
          exact hr
        · skip
          refine ev_seg 3 (k' := 193) (L' := [(0, .ref c), (1, .int x1), (2, .int x2), (4, .int z4)]) (st' := [.ref 1058, .int z4, .ref c]) rfl ?_
          refine ev_callV (q' := q_213) (x := 213) (y := 12) (c := c) (As := [.int z4, .ref 1058]) (rest := []) hr rfl rfl rfl rfl rfl rfl (isT_sh hc) rfl rfl rfl rfl rfl (fun rv s11 hq => ev_kI hq (fun v12 e9 hr => ?_))
          subst e9
          refine ev_st (st' := [.int v12]) rfl ?_
          refine ev_br (P := ¬ v12 = 0) (L' := [(0, .ref c), (1, .int x1), (2, .int x2), (4, .int z4)]) (st' := []) hr rfl rfl rfl (fun hr => ?_) (fun hr => ?_)
          · skip
            exact hr
          · skip
            refine ev_seg 3 (k' := 198) (L' := [(0, .ref c), (1, .int x1), (2, .int x2), (4, .int z4)]) (st' := [.ref 1059, .int z4, .ref c]) rfl ?_
            refine ev_callV (q' := q_213) (x := 213) (y := 12) (c := c) (As := [.int z4, .ref 1059]) (rest := []) hr rfl rfl rfl rfl rfl rfl (isT_sh hc) rfl rfl rfl rfl rfl (fun rv s13 hq => ev_kI hq (fun v14 e9 hr => ?_))
            subst e9
            refine ev_st (st' := [.int v14]) rfl ?_
            refine ev_br (P := v14 = 0) (L' := [(0, .ref c), (1, .int x1), (2, .int x2), (4, .int z4)]) (st' := []) hr rfl rfl rfl (fun hr => ?_) (fun hr => ?_)
            · skip
              refine ev_seg 2 (k' := 208) (L' := [(0, .ref c), (1, .int x1), (2, .int x2), (4, .int z4)]) (st' := [.int z4, .ref c]) rfl ?_
              refine ev_callV (q' := q_214) (x := 214) (y := 12) (c := c) (As := [.int z4]) (rest := []) hr rfl rfl rfl rfl rfl rfl (isT_sh hc) rfl rfl rfl rfl rfl (fun rv s15 hq => ev_kI hq (fun v16 e9 hr => ?_))
              subst e9
              refine ev_st (st' := [.int v16]) rfl ?_
              refine ev_seg 3 (k' := 212) (L' := [(5, .int v16), (0, .ref c), (1, .int x1), (2, .int x2), (4, .int z4)]) (st' := [.int v16, .ref c]) rfl ?_
              refine ev_br (P := v16 < 0) (L' := [(5, .int v16), (0, .ref c), (1, .int x1), (2, .int x2), (4, .int z4)]) (st' := [.ref c]) hr rfl rfl rfl (fun hr => ?_) (fun hr => ?_)
              · skip
                refine ev_seg 1 (k' := 216) (L' := [(5, .int v16), (0, .ref c), (1, .int x1), (2, .int x2), (4, .int z4)]) (st' := [.int 0, .ref c]) rfl ?_
                refine ev_join (L' := [(0, .ref c), (4, .int z4), (5, .int v16)]) [1, 4, 0] [5, 0, 1, 2, 4] [0, 4, 5] rfl rfl (by decide) (by decide) rfl ?_
                exact hr
              · skip
                refine ev_seg 2 (k' := 216) (L' := [(5, .int v16), (0, .ref c), (1, .int x1), (2, .int x2), (4, .int z4)]) (st' := [.int 1, .ref c]) rfl ?_
                refine ev_join (L' := [(0, .ref c), (4, .int z4), (5, .int v16)]) [1, 4, 0] [5, 0, 1, 2, 4] [0, 4, 5] rfl rfl (by decide) (by decide) rfl ?_
                exact hr
            · skip
              exact hr
      · skip
        exact hr
  · skip
    refine ev_seg 2 (k' := 121) (L' := [(0, .ref c), (1, .int x1), (2, .int x2), (4, .int z4)]) (st' := [.int z4, .ref c]) rfl ?_
    refine ev_callV (q' := q_212) (x := 212) (y := 12) (c := c) (As := [.int z4]) (rest := []) hr rfl rfl rfl rfl rfl rfl (isT_sh hc) rfl rfl rfl rfl rfl (fun rv s17 hq => ev_kI hq (fun v18 e9 hr => ?_))
    subst e9
    refine ev_st (st' := [.int v18]) rfl ?_
    exact ev_iret hr rfl rfl rfl
set_option maxRecDepth 20000 in
theorem eMt_schemaOf_57 (d : Nat) (c : Nat) (x1 : Int32) (z5 : Int32) (u0 : Int32) (s : aT) (hc : isT c) : ∀ r, (ldI 4200 s (c + 3) x1 (fun v1 => cG (fMt_need d c u0 3 v1 s) (kV fun s2 => rI z5 s2))) = some r → fMt_schemaOf_57 (d + 1) c x1 z5 u0 s = some r := by
  intro r hr
  show ev (d + 1) q_211 57 [(0, .ref c), (1, .int x1), (5, .int z5)] [.int u0, .ref c] s = some r
  refine ev_seg 2 (k' := 59) (L' := [(0, .ref c), (1, .int x1), (5, .int z5)]) (st' := [.ref c, .int 3, .int u0, .ref c]) rfl ?_
  refine ev_getR (c := c) (v := c + 3) rfl (isT_sh hc) rfl (isT_r3 hc) ?_
  refine ev_seg 1 (k' := 61) (L' := [(0, .ref c), (1, .int x1), (5, .int z5)]) (st' := [.int x1, .ref (c + 3), .int 3, .int u0, .ref c]) rfl ?_
  refine ev_ldI hr rfl (isT_a3 hc) (fun v1 hr => ?_)
  refine ev_callV (q' := q_200) (x := 200) (y := 12) (c := c) (As := [.int u0, .int 3, .int v1]) (rest := []) hr rfl rfl rfl rfl rfl rfl (isT_sh hc) rfl rfl rfl rfl rfl (fun rv s2 hq => ev_kV hq (fun e9 hr => ?_))
  subst e9
  refine ev_st (st' := []) rfl ?_
  refine ev_seg 1 (k' := 64) (L' := [(0, .ref c), (1, .int x1), (5, .int z5)]) (st' := [.int z5]) rfl ?_
  exact ev_iret hr rfl rfl rfl
set_option maxRecDepth 20000 in
theorem eMt_schemaOf_133 (d : Nat) (c : Nat) (x1 : Int32) (x2 : Int32) (z4 : Int32) (s : aT) (hc : isT c) : ∀ r, (cG (fMt_is d c z4 1053 s) (kI fun v2 s1 => if v2 = 0 then fMt_schemaOf_145 (d + 1) c x1 x2 v2 1056 x1 s1 else fMt_schemaOf_145 (d + 1) c x1 x2 v2 1055 x1 s1)) = some r → fMt_schemaOf_133 (d + 1) c x1 x2 z4 s = some r := by
  intro r hr
  show ev (d + 1) q_211 133 [(0, .ref c), (1, .int x1), (2, .int x2), (4, .int z4)] [] s = some r
  refine ev_seg 3 (k' := 136) (L' := [(0, .ref c), (1, .int x1), (2, .int x2), (4, .int z4)]) (st' := [.ref 1053, .int z4, .ref c]) rfl ?_
  refine ev_callV (q' := q_213) (x := 213) (y := 12) (c := c) (As := [.int z4, .ref 1053]) (rest := []) hr rfl rfl rfl rfl rfl rfl (isT_sh hc) rfl rfl rfl rfl rfl (fun rv s1 hq => ev_kI hq (fun v2 e9 hr => ?_))
  subst e9
  refine ev_st (st' := [.int v2]) rfl ?_
  refine ev_seg 4 (k' := 141) (L' := [(5, .int v2), (0, .ref c), (1, .int x1), (2, .int x2), (4, .int z4)]) (st' := [.int v2, .int x1, .ref c]) rfl ?_
  refine ev_br (P := v2 = 0) (L' := [(5, .int v2), (0, .ref c), (1, .int x1), (2, .int x2), (4, .int z4)]) (st' := [.int x1, .ref c]) hr rfl rfl rfl (fun hr => ?_) (fun hr => ?_)
  · skip
    refine ev_seg 1 (k' := 145) (L' := [(5, .int v2), (0, .ref c), (1, .int x1), (2, .int x2), (4, .int z4)]) (st' := [.ref 1056, .int x1, .ref c]) rfl ?_
    refine ev_join (L' := [(0, .ref c), (1, .int x1), (2, .int x2), (5, .int v2)]) [1, 2, 3, 0] [5, 0, 1, 2, 4] [0, 1, 2, 5] rfl rfl (by decide) (by decide) rfl ?_
    exact hr
  · skip
    refine ev_seg 2 (k' := 145) (L' := [(5, .int v2), (0, .ref c), (1, .int x1), (2, .int x2), (4, .int z4)]) (st' := [.ref 1055, .int x1, .ref c]) rfl ?_
    refine ev_join (L' := [(0, .ref c), (1, .int x1), (2, .int x2), (5, .int v2)]) [1, 2, 3, 0] [5, 0, 1, 2, 4] [0, 1, 2, 5] rfl rfl (by decide) (by decide) rfl ?_
    exact hr
set_option maxRecDepth 20000 in
theorem eMt_schemaOf_200 (d : Nat) (c : Nat) (x1 : Int32) (x2 : Int32) (z4 : Int32) (s : aT) (hc : isT c) : ∀ r, (cG (fMt_named d c x1 z4 x2 s) (kI fun v2 s1 => rI v2 s1)) = some r → fMt_schemaOf_200 (d + 1) c x1 x2 z4 s = some r := by
  intro r hr
  show ev (d + 1) q_211 200 [(0, .ref c), (1, .int x1), (2, .int x2), (4, .int z4)] [] s = some r
  refine ev_seg 4 (k' := 204) (L' := [(0, .ref c), (1, .int x1), (2, .int x2), (4, .int z4)]) (st' := [.int x2, .int z4, .int x1, .ref c]) rfl ?_
  refine ev_callV (q' := q_220) (x := 220) (y := 12) (c := c) (As := [.int x1, .int z4, .int x2]) (rest := []) hr rfl rfl rfl rfl rfl rfl (isT_sh hc) rfl rfl rfl rfl rfl (fun rv s1 hq => ev_kI hq (fun v2 e9 hr => ?_))
  subst e9
  refine ev_st (st' := [.int v2]) rfl ?_
  exact ev_iret hr rfl rfl rfl
set_option maxRecDepth 20000 in
theorem eMt_schemaOf_216 (d : Nat) (c : Nat) (z4 : Int32) (z5 : Int32) (u0 : Int32) (s : aT) (hc : isT c) : ∀ r, (ldI 4200 s (c + 3) z4 (fun v1 => cG (fMt_need d c u0 3 v1 s) (kV fun s2 => rI z5 s2))) = some r → fMt_schemaOf_216 (d + 1) c z4 z5 u0 s = some r := by
  intro r hr
  show ev (d + 1) q_211 216 [(0, .ref c), (4, .int z4), (5, .int z5)] [.int u0, .ref c] s = some r
  refine ev_seg 2 (k' := 218) (L' := [(0, .ref c), (4, .int z4), (5, .int z5)]) (st' := [.ref c, .int 3, .int u0, .ref c]) rfl ?_
  refine ev_getR (c := c) (v := c + 3) rfl (isT_sh hc) rfl (isT_r3 hc) ?_
  refine ev_seg 1 (k' := 220) (L' := [(0, .ref c), (4, .int z4), (5, .int z5)]) (st' := [.int z4, .ref (c + 3), .int 3, .int u0, .ref c]) rfl ?_
  refine ev_ldI hr rfl (isT_a3 hc) (fun v1 hr => ?_)
  refine ev_callV (q' := q_200) (x := 200) (y := 12) (c := c) (As := [.int u0, .int 3, .int v1]) (rest := []) hr rfl rfl rfl rfl rfl rfl (isT_sh hc) rfl rfl rfl rfl rfl (fun rv s2 hq => ev_kV hq (fun e9 hr => ?_))
  subst e9
  refine ev_st (st' := []) rfl ?_
  refine ev_seg 1 (k' := 223) (L' := [(0, .ref c), (4, .int z4), (5, .int z5)]) (st' := [.int z5]) rfl ?_
  exact ev_iret hr rfl rfl rfl
set_option maxRecDepth 20000 in
theorem eMt_schemaOf_145 (d : Nat) (c : Nat) (x1 : Int32) (x2 : Int32) (z5 : Int32) (q0 : Nat) (u1 : Int32) (s : aT) (hc : isT c) : ∀ r, (cG (fMt_member d c u1 q0 s) (kI fun v2 s1 => if v2 < 0 then fMt_schemaOf_153 (d + 1) c x1 x2 z5 v2 0 s1 else fMt_schemaOf_153 (d + 1) c x1 x2 z5 v2 1 s1)) = some r → fMt_schemaOf_145 (d + 1) c x1 x2 z5 q0 u1 s = some r := by
  intro r hr
  show ev (d + 1) q_211 145 [(0, .ref c), (1, .int x1), (2, .int x2), (5, .int z5)] [.ref q0, .int u1, .ref c] s = some r
  refine ev_callV (q' := q_219) (x := 219) (y := 12) (c := c) (As := [.int u1, .ref q0]) (rest := []) hr rfl rfl rfl rfl rfl rfl (isT_sh hc) rfl rfl rfl rfl rfl (fun rv s1 hq => ev_kI hq (fun v2 e9 hr => ?_))
  subst e9
  refine ev_st (st' := [.int v2]) rfl ?_
  refine ev_seg 3 (k' := 149) (L' := [(6, .int v2), (0, .ref c), (1, .int x1), (2, .int x2), (5, .int z5)]) (st' := [.int v2, .ref c]) rfl ?_
  refine ev_br (P := v2 < 0) (L' := [(6, .int v2), (0, .ref c), (1, .int x1), (2, .int x2), (5, .int z5)]) (st' := [.ref c]) hr rfl rfl rfl (fun hr => ?_) (fun hr => ?_)
  · skip
    refine ev_seg 1 (k' := 153) (L' := [(6, .int v2), (0, .ref c), (1, .int x1), (2, .int x2), (5, .int z5)]) (st' := [.int 0, .ref c]) rfl ?_
    refine ev_join (L' := [(0, .ref c), (1, .int x1), (2, .int x2), (5, .int z5), (6, .int v2)]) [1, 2, 3, 4, 0] [6, 0, 1, 2, 5] [0, 1, 2, 5, 6] rfl rfl (by decide) (by decide) rfl ?_
    exact hr
  · skip
    refine ev_seg 2 (k' := 153) (L' := [(6, .int v2), (0, .ref c), (1, .int x1), (2, .int x2), (5, .int z5)]) (st' := [.int 1, .ref c]) rfl ?_
    refine ev_join (L' := [(0, .ref c), (1, .int x1), (2, .int x2), (5, .int z5), (6, .int v2)]) [1, 2, 3, 4, 0] [6, 0, 1, 2, 5] [0, 1, 2, 5, 6] rfl rfl (by decide) (by decide) rfl ?_
    exact hr
set_option maxRecDepth 20000 in
theorem eMt_schemaOf_153 (d : Nat) (c : Nat) (x1 : Int32) (x2 : Int32) (z5 : Int32) (z6 : Int32) (u0 : Int32) (s : aT) (hc : isT c) : ∀ r, (ldI 4200 s (c + 3) x1 (fun v1 => cG (fMt_need d c u0 8 v1 s) (kV fun s2 => if z5 = 0 then fMt_schemaOf_165 (d + 1) c x2 z6 7 s2 else fMt_schemaOf_165 (d + 1) c x2 z6 6 s2))) = some r → fMt_schemaOf_153 (d + 1) c x1 x2 z5 z6 u0 s = some r := by
  intro r hr
  show ev (d + 1) q_211 153 [(0, .ref c), (1, .int x1), (2, .int x2), (5, .int z5), (6, .int z6)] [.int u0, .ref c] s = some r
  refine ev_seg 2 (k' := 155) (L' := [(0, .ref c), (1, .int x1), (2, .int x2), (5, .int z5), (6, .int z6)]) (st' := [.ref c, .int 8, .int u0, .ref c]) rfl ?_
  refine ev_getR (c := c) (v := c + 3) rfl (isT_sh hc) rfl (isT_r3 hc) ?_
  refine ev_seg 1 (k' := 157) (L' := [(0, .ref c), (1, .int x1), (2, .int x2), (5, .int z5), (6, .int z6)]) (st' := [.int x1, .ref (c + 3), .int 8, .int u0, .ref c]) rfl ?_
  refine ev_ldI hr rfl (isT_a3 hc) (fun v1 hr => ?_)
  refine ev_callV (q' := q_200) (x := 200) (y := 12) (c := c) (As := [.int u0, .int 8, .int v1]) (rest := []) hr rfl rfl rfl rfl rfl rfl (isT_sh hc) rfl rfl rfl rfl rfl (fun rv s2 hq => ev_kV hq (fun e9 hr => ?_))
  subst e9
  refine ev_st (st' := []) rfl ?_
  refine ev_seg 2 (k' := 161) (L' := [(0, .ref c), (1, .int x1), (2, .int x2), (5, .int z5), (6, .int z6)]) (st' := [.int z5, .ref c]) rfl ?_
  refine ev_br (P := z5 = 0) (L' := [(0, .ref c), (1, .int x1), (2, .int x2), (5, .int z5), (6, .int z6)]) (st' := [.ref c]) hr rfl rfl rfl (fun hr => ?_) (fun hr => ?_)
  · skip
    refine ev_seg 1 (k' := 165) (L' := [(0, .ref c), (1, .int x1), (2, .int x2), (5, .int z5), (6, .int z6)]) (st' := [.int 7, .ref c]) rfl ?_
    refine ev_join (L' := [(0, .ref c), (2, .int x2), (6, .int z6)]) [0, 2, 4] [0, 1, 2, 5, 6] [0, 2, 6] rfl rfl (by decide) (by decide) rfl ?_
    exact hr
  · skip
    refine ev_seg 2 (k' := 165) (L' := [(0, .ref c), (1, .int x1), (2, .int x2), (5, .int z5), (6, .int z6)]) (st' := [.int 6, .ref c]) rfl ?_
    refine ev_join (L' := [(0, .ref c), (2, .int x2), (6, .int z6)]) [0, 2, 4] [0, 1, 2, 5, 6] [0, 2, 6] rfl rfl (by decide) (by decide) rfl ?_
    exact hr
set_option maxRecDepth 20000 in
theorem eMt_schemaOf_165 (d : Nat) (c : Nat) (x2 : Int32) (z6 : Int32) (u0 : Int32) (s : aT) (hc : isT c) : ∀ r, (cG (fMt_shape d c u0 s) (kI fun v2 s1 => cG (fMt_addKid d c v2 (-1) s1) (kI fun v4 s3 => cG (fMt_schemaOf d c z6 (x2 + 1) 0 s3) (kI fun v6 s5 => stI 2200 s5 (c + 15) v4 v6 (fun s7 => rI v2 s7))))) = some r → fMt_schemaOf_165 (d + 1) c x2 z6 u0 s = some r := by
  intro r hr
  show ev (d + 1) q_211 165 [(0, .ref c), (2, .int x2), (6, .int z6)] [.int u0, .ref c] s = some r
  refine ev_callV (q' := q_216) (x := 216) (y := 12) (c := c) (As := [.int u0]) (rest := []) hr rfl rfl rfl rfl rfl rfl (isT_sh hc) rfl rfl rfl rfl rfl (fun rv s1 hq => ev_kI hq (fun v2 e9 hr => ?_))
  subst e9
  refine ev_st (st' := [.int v2]) rfl ?_
  refine ev_seg 4 (k' := 170) (L' := [(7, .int v2), (0, .ref c), (2, .int x2), (6, .int z6)]) (st' := [.int (-1), .int v2, .ref c]) rfl ?_
  refine ev_callV (q' := q_218) (x := 218) (y := 12) (c := c) (As := [.int v2, .int (-1)]) (rest := []) hr rfl rfl rfl rfl rfl rfl (isT_sh hc) rfl rfl rfl rfl rfl (fun rv s3 hq => ev_kI hq (fun v4 e9 hr => ?_))
  subst e9
  refine ev_st (st' := [.int v4]) rfl ?_
  refine ev_seg 2 (k' := 173) (L' := [(8, .int v4), (7, .int v2), (0, .ref c), (2, .int x2), (6, .int z6)]) (st' := [.ref c]) rfl ?_
  refine ev_getR (c := c) (v := c + 15) rfl (isT_sh hc) rfl (isT_r15 hc) ?_
  refine ev_seg 7 (k' := 181) (L' := [(8, .int v4), (7, .int v2), (0, .ref c), (2, .int x2), (6, .int z6)]) (st' := [.int 0, .int (x2 + 1), .int z6, .ref c, .int v4, .ref (c + 15)]) rfl ?_
  refine ev_callV (q' := q_211) (x := 211) (y := 12) (c := c) (As := [.int z6, .int (x2 + 1), .int 0]) (rest := [.int v4, .ref (c + 15)]) hr rfl rfl rfl rfl rfl rfl (isT_sh hc) rfl rfl rfl rfl rfl (fun rv s5 hq => ev_kI hq (fun v6 e9 hr => ?_))
  subst e9
  refine ev_st (st' := [.int v6, .int v4, .ref (c + 15)]) rfl ?_
  refine ev_stI hr rfl (isT_a15 hc) (fun s7 hr => ?_)
  refine ev_seg 1 (k' := 184) (L' := [(8, .int v4), (7, .int v2), (0, .ref c), (2, .int x2), (6, .int z6)]) (st' := [.int v2]) rfl ?_
  exact ev_iret hr rfl rfl rfl
set_option maxRecDepth 20000 in
theorem eMt_word (d : Nat) (c : Nat) (x1 : Int32) (s : aT) (hc : isT c) : ∀ r, (cG (fMt_is d c x1 1046 s) (kI fun v2 s1 => if v2 = 0 then cG (fMt_is d c x1 1047 s1) (kI fun v4 s3 => if v4 = 0 then cG (fMt_is d c x1 1048 s3) (kI fun v6 s5 => if v6 = 0 then cG (fMt_is d c x1 1049 s5) (kI fun v8 s7 => if v8 = 0 then cG (fMt_is d c x1 1050 s7) (kI fun v10 s9 => if v10 = 0 then cG (fMt_is d c x1 1051 s9) (kI fun v12 s11 => if v12 = 0 then rI (-1) s11 else rI 5 s11) else rI 4 s9) else rI 3 s7) else rI 2 s5) else rI 1 s3) else rI 0 s1)) = some r → fMt_word (d + 1) c x1 s = some r := by
  intro r hr
  show ev (d + 1) q_212 0 [(0, .ref c), (1, .int x1)] [] s = some r
  refine ev_seg 3 (k' := 3) (L' := [(0, .ref c), (1, .int x1)]) (st' := [.ref 1046, .int x1, .ref c]) rfl ?_
  refine ev_callV (q' := q_213) (x := 213) (y := 12) (c := c) (As := [.int x1, .ref 1046]) (rest := []) hr rfl rfl rfl rfl rfl rfl (isT_sh hc) rfl rfl rfl rfl rfl (fun rv s1 hq => ev_kI hq (fun v2 e9 hr => ?_))
  subst e9
  refine ev_st (st' := [.int v2]) rfl ?_
  refine ev_br (P := v2 = 0) (L' := [(0, .ref c), (1, .int x1)]) (st' := []) hr rfl rfl rfl (fun hr => ?_) (fun hr => ?_)
  · skip
    refine ev_seg 3 (k' := 10) (L' := [(0, .ref c), (1, .int x1)]) (st' := [.ref 1047, .int x1, .ref c]) rfl ?_
    refine ev_callV (q' := q_213) (x := 213) (y := 12) (c := c) (As := [.int x1, .ref 1047]) (rest := []) hr rfl rfl rfl rfl rfl rfl (isT_sh hc) rfl rfl rfl rfl rfl (fun rv s3 hq => ev_kI hq (fun v4 e9 hr => ?_))
    subst e9
    refine ev_st (st' := [.int v4]) rfl ?_
    refine ev_br (P := v4 = 0) (L' := [(0, .ref c), (1, .int x1)]) (st' := []) hr rfl rfl rfl (fun hr => ?_) (fun hr => ?_)
    · skip
      refine ev_seg 3 (k' := 17) (L' := [(0, .ref c), (1, .int x1)]) (st' := [.ref 1048, .int x1, .ref c]) rfl ?_
      refine ev_callV (q' := q_213) (x := 213) (y := 12) (c := c) (As := [.int x1, .ref 1048]) (rest := []) hr rfl rfl rfl rfl rfl rfl (isT_sh hc) rfl rfl rfl rfl rfl (fun rv s5 hq => ev_kI hq (fun v6 e9 hr => ?_))
      subst e9
      refine ev_st (st' := [.int v6]) rfl ?_
      refine ev_br (P := v6 = 0) (L' := [(0, .ref c), (1, .int x1)]) (st' := []) hr rfl rfl rfl (fun hr => ?_) (fun hr => ?_)
      · skip
        refine ev_seg 3 (k' := 24) (L' := [(0, .ref c), (1, .int x1)]) (st' := [.ref 1049, .int x1, .ref c]) rfl ?_
        refine ev_callV (q' := q_213) (x := 213) (y := 12) (c := c) (As := [.int x1, .ref 1049]) (rest := []) hr rfl rfl rfl rfl rfl rfl (isT_sh hc) rfl rfl rfl rfl rfl (fun rv s7 hq => ev_kI hq (fun v8 e9 hr => ?_))
        subst e9
        refine ev_st (st' := [.int v8]) rfl ?_
        refine ev_br (P := v8 = 0) (L' := [(0, .ref c), (1, .int x1)]) (st' := []) hr rfl rfl rfl (fun hr => ?_) (fun hr => ?_)
        · skip
          refine ev_seg 3 (k' := 31) (L' := [(0, .ref c), (1, .int x1)]) (st' := [.ref 1050, .int x1, .ref c]) rfl ?_
          refine ev_callV (q' := q_213) (x := 213) (y := 12) (c := c) (As := [.int x1, .ref 1050]) (rest := []) hr rfl rfl rfl rfl rfl rfl (isT_sh hc) rfl rfl rfl rfl rfl (fun rv s9 hq => ev_kI hq (fun v10 e9 hr => ?_))
          subst e9
          refine ev_st (st' := [.int v10]) rfl ?_
          refine ev_br (P := v10 = 0) (L' := [(0, .ref c), (1, .int x1)]) (st' := []) hr rfl rfl rfl (fun hr => ?_) (fun hr => ?_)
          · skip
            refine ev_seg 3 (k' := 38) (L' := [(0, .ref c), (1, .int x1)]) (st' := [.ref 1051, .int x1, .ref c]) rfl ?_
            refine ev_callV (q' := q_213) (x := 213) (y := 12) (c := c) (As := [.int x1, .ref 1051]) (rest := []) hr rfl rfl rfl rfl rfl rfl (isT_sh hc) rfl rfl rfl rfl rfl (fun rv s11 hq => ev_kI hq (fun v12 e9 hr => ?_))
            subst e9
            refine ev_st (st' := [.int v12]) rfl ?_
            refine ev_br (P := v12 = 0) (L' := [(0, .ref c), (1, .int x1)]) (st' := []) hr rfl rfl rfl (fun hr => ?_) (fun hr => ?_)
            · skip
              refine ev_seg 1 (k' := 43) (L' := [(0, .ref c), (1, .int x1)]) (st' := [.int (-1)]) rfl ?_
              exact ev_iret hr rfl rfl rfl
            · skip
              refine ev_seg 2 (k' := 43) (L' := [(0, .ref c), (1, .int x1)]) (st' := [.int 5]) rfl ?_
              exact ev_iret hr rfl rfl rfl
          · skip
            refine ev_seg 2 (k' := 43) (L' := [(0, .ref c), (1, .int x1)]) (st' := [.int 4]) rfl ?_
            exact ev_iret hr rfl rfl rfl
        · skip
          refine ev_seg 2 (k' := 43) (L' := [(0, .ref c), (1, .int x1)]) (st' := [.int 3]) rfl ?_
          exact ev_iret hr rfl rfl rfl
      · skip
        refine ev_seg 2 (k' := 43) (L' := [(0, .ref c), (1, .int x1)]) (st' := [.int 2]) rfl ?_
        exact ev_iret hr rfl rfl rfl
    · skip
      refine ev_seg 2 (k' := 43) (L' := [(0, .ref c), (1, .int x1)]) (st' := [.int 1]) rfl ?_
      exact ev_iret hr rfl rfl rfl
  · skip
    refine ev_seg 2 (k' := 43) (L' := [(0, .ref c), (1, .int x1)]) (st' := [.int 0]) rfl ?_
    exact ev_iret hr rfl rfl rfl
set_option maxRecDepth 20000 in
theorem eMt_is (d : Nat) (c : Nat) (x1 : Int32) (w2 : Nat) (s : aT) (hc : isT c) : ∀ r, (ldI 4200 s (c + 2) x1 (fun v1 => if ¬ v1 = 2 then fMt_is_15 (d + 6) c x1 w2 s else ldI 4200 s (c + 5) x1 (fun v2 => cP 900 [.ref w2] (fun v3 => if ¬ v2 = v3 then fMt_is_15 (d + 6) c x1 w2 s else fMt_is_16 (d + 6) c x1 w2 1 s)))) = some r → fMt_is (d + 6) c x1 w2 s = some r := by
  intro r hr
  show ev (d + 6) q_213 0 [(0, .ref c), (1, .int x1), (2, .ref w2)] [] s = some r
  refine ev_seg 1 (k' := 1) (L' := [(0, .ref c), (1, .int x1), (2, .ref w2)]) (st' := [.ref c]) rfl ?_
  refine ev_getR (c := c) (v := c + 2) rfl (isT_sh hc) rfl (isT_r2 hc) ?_
  refine ev_seg 1 (k' := 3) (L' := [(0, .ref c), (1, .int x1), (2, .ref w2)]) (st' := [.int x1, .ref (c + 2)]) rfl ?_
  refine ev_ldI hr rfl (isT_a2 hc) (fun v1 hr => ?_)
  refine ev_seg 1 (k' := 5) (L' := [(0, .ref c), (1, .int x1), (2, .ref w2)]) (st' := [.int 2, .int v1]) rfl ?_
  refine ev_br (P := ¬ v1 = 2) (L' := [(0, .ref c), (1, .int x1), (2, .ref w2)]) (st' := []) hr rfl rfl rfl (fun hr => ?_) (fun hr => ?_)
  · skip
    exact hr
  · skip
    refine ev_seg 1 (k' := 7) (L' := [(0, .ref c), (1, .int x1), (2, .ref w2)]) (st' := [.ref c]) rfl ?_
    refine ev_getR (c := c) (v := c + 5) rfl (isT_sh hc) rfl (isT_r5 hc) ?_
    refine ev_seg 1 (k' := 9) (L' := [(0, .ref c), (1, .int x1), (2, .ref w2)]) (st' := [.int x1, .ref (c + 5)]) rfl ?_
    refine ev_ldI hr rfl (isT_a5 hc) (fun v2 hr => ?_)
    refine ev_seg 1 (k' := 11) (L' := [(0, .ref c), (1, .int x1), (2, .ref w2)]) (st' := [.ref w2, .int v2]) rfl ?_
    refine ev_primV (x := 900) (As := [.ref w2]) (rest := [.int v2]) hr rfl rfl rfl rfl (fun v3 hr => ?_)
    refine ev_br (P := ¬ v2 = v3) (L' := [(0, .ref c), (1, .int x1), (2, .ref w2)]) (st' := []) hr rfl rfl rfl (fun hr => ?_) (fun hr => ?_)
    · skip
      exact hr
    · skip
      refine ev_seg 2 (k' := 16) (L' := [(0, .ref c), (1, .int x1), (2, .ref w2)]) (st' := [.int 1]) rfl ?_
      exact hr
set_option maxRecDepth 20000 in
theorem eMt_is_15 (d : Nat) (c : Nat) (x1 : Int32) (w2 : Nat) (s : aT) (hc : isT c) : ∀ r, (fMt_is_16 (d + 6) c x1 w2 0 s) = some r → fMt_is_15 (d + 6) c x1 w2 s = some r := by
  intro r hr
  show ev (d + 6) q_213 15 [(0, .ref c), (1, .int x1), (2, .ref w2)] [] s = some r
  refine ev_seg 1 (k' := 16) (L' := [(0, .ref c), (1, .int x1), (2, .ref w2)]) (st' := [.int 0]) rfl ?_
  exact hr
set_option maxRecDepth 20000 in
theorem eMt_is_16 (d : Nat) (c : Nat) (x1 : Int32) (w2 : Nat) (u0 : Int32) (s : aT) (hc : isT c) : ∀ r, (fMt_is_19 (d + 6) c x1 w2 u0 0 s) = some r → fMt_is_16 (d + 6) c x1 w2 u0 s = some r := by
  intro r hr
  show ev (d + 6) q_213 16 [(0, .ref c), (1, .int x1), (2, .ref w2)] [.int u0] s = some r
  refine ev_seg 3 (k' := 19) (L' := [(4, .int 0), (3, .int u0), (0, .ref c), (1, .int x1), (2, .ref w2)]) (st' := []) rfl ?_
  refine ev_join (L' := [(0, .ref c), (1, .int x1), (2, .ref w2), (3, .int u0), (4, .int 0)]) [2, 3, 4, 1, 0] [4, 3, 0, 1, 2] [0, 1, 2, 3, 4] rfl rfl (by decide) (by decide) rfl ?_
  exact hr
set_option maxRecDepth 20000 in
theorem eMt_is_19 (d : Nat) (c : Nat) (x1 : Int32) (w2 : Nat) (z3 : Int32) (z4 : Int32) (s : aT) (hc : isT c) : ∀ r, (cP 900 [.ref w2] (fun v1 => if v1 ≤ z4 then rZ z3 s else if z3 = 0 then rZ z3 s else ldL 4200 s (c + 4) x1 (fun v2 => ldI 4200 s (c + 8) (v2.toInt32 + z4) (fun v3 => cP 901 [.ref w2, .int z4] (fun v4 => if ¬ v3 = v4 then fMt_is_42 (d + 6) c x1 w2 z4 0 s else fMt_is_42 (d + 6) c x1 w2 z4 1 s))))) = some r → fMt_is_19 (d + 6) c x1 w2 z3 z4 s = some r := by
  intro r hr
  show ev (d + 6) q_213 19 [(0, .ref c), (1, .int x1), (2, .ref w2), (3, .int z3), (4, .int z4)] [] s = some r
  refine ev_seg 2 (k' := 21) (L' := [(0, .ref c), (1, .int x1), (2, .ref w2), (3, .int z3), (4, .int z4)]) (st' := [.ref w2, .int z4]) rfl ?_
  refine ev_primV (x := 900) (As := [.ref w2]) (rest := [.int z4]) hr rfl rfl rfl rfl (fun v1 hr => ?_)
  refine ev_br (P := v1 ≤ z4) (L' := [(0, .ref c), (1, .int x1), (2, .ref w2), (3, .int z3), (4, .int z4)]) (st' := []) hr rfl rfl rfl (fun hr => ?_) (fun hr => ?_)
  · skip
    refine ev_seg 1 (k' := 46) (L' := [(0, .ref c), (1, .int x1), (2, .ref w2), (3, .int z3), (4, .int z4)]) (st' := [.int z3]) rfl ?_
    exact ev_zret hr rfl rfl
  · skip
    refine ev_seg 1 (k' := 24) (L' := [(0, .ref c), (1, .int x1), (2, .ref w2), (3, .int z3), (4, .int z4)]) (st' := [.int z3]) rfl ?_
    refine ev_br (P := z3 = 0) (L' := [(0, .ref c), (1, .int x1), (2, .ref w2), (3, .int z3), (4, .int z4)]) (st' := []) hr rfl rfl rfl (fun hr => ?_) (fun hr => ?_)
    · skip
      refine ev_seg 1 (k' := 46) (L' := [(0, .ref c), (1, .int x1), (2, .ref w2), (3, .int z3), (4, .int z4)]) (st' := [.int z3]) rfl ?_
      exact ev_zret hr rfl rfl
    · skip
      refine ev_seg 1 (k' := 26) (L' := [(0, .ref c), (1, .int x1), (2, .ref w2), (3, .int z3), (4, .int z4)]) (st' := [.ref c]) rfl ?_
      refine ev_getR (c := c) (v := c + 8) rfl (isT_sh hc) rfl (isT_r8 hc) ?_
      refine ev_seg 1 (k' := 28) (L' := [(0, .ref c), (1, .int x1), (2, .ref w2), (3, .int z3), (4, .int z4)]) (st' := [.ref c, .ref (c + 8)]) rfl ?_
      refine ev_getR (c := c) (v := c + 4) rfl (isT_sh hc) rfl (isT_r4 hc) ?_
      refine ev_seg 1 (k' := 30) (L' := [(0, .ref c), (1, .int x1), (2, .ref w2), (3, .int z3), (4, .int z4)]) (st' := [.int x1, .ref (c + 4), .ref (c + 8)]) rfl ?_
      refine ev_ldL hr rfl (isT_a4 hc) (fun v2 hr => ?_)
      refine ev_seg 3 (k' := 34) (L' := [(0, .ref c), (1, .int x1), (2, .ref w2), (3, .int z3), (4, .int z4)]) (st' := [.int (v2.toInt32 + z4), .ref (c + 8)]) rfl ?_
      refine ev_ldB hr rfl (isT_a8 hc) (fun v3 hr => ?_)
      refine ev_seg 2 (k' := 37) (L' := [(0, .ref c), (1, .int x1), (2, .ref w2), (3, .int z3), (4, .int z4)]) (st' := [.int z4, .ref w2, .int v3]) rfl ?_
      refine ev_primV (x := 901) (As := [.ref w2, .int z4]) (rest := [.int v3]) hr rfl rfl rfl rfl (fun v4 hr => ?_)
      refine ev_br (P := ¬ v3 = v4) (L' := [(0, .ref c), (1, .int x1), (2, .ref w2), (3, .int z3), (4, .int z4)]) (st' := []) hr rfl rfl rfl (fun hr => ?_) (fun hr => ?_)
      · skip
        refine ev_seg 1 (k' := 42) (L' := [(0, .ref c), (1, .int x1), (2, .ref w2), (3, .int z3), (4, .int z4)]) (st' := [.int 0]) rfl ?_
        refine ev_join (L' := [(0, .ref c), (1, .int x1), (2, .ref w2), (4, .int z4)]) [0, 1, 2, 4] [0, 1, 2, 3, 4] [0, 1, 2, 4] rfl rfl (by decide) (by decide) rfl ?_
        exact hr
      · skip
        refine ev_seg 2 (k' := 42) (L' := [(0, .ref c), (1, .int x1), (2, .ref w2), (3, .int z3), (4, .int z4)]) (st' := [.int 1]) rfl ?_
        refine ev_join (L' := [(0, .ref c), (1, .int x1), (2, .ref w2), (4, .int z4)]) [0, 1, 2, 4] [0, 1, 2, 3, 4] [0, 1, 2, 4] rfl rfl (by decide) (by decide) rfl ?_
        exact hr
set_option maxRecDepth 20000 in
theorem eMt_is_42 (d : Nat) (c : Nat) (x1 : Int32) (w2 : Nat) (z4 : Int32) (u0 : Int32) (s : aT) (hc : isT c) : ∀ r, (fMt_is_19 (d + 6) c x1 w2 u0 (z4 + 1) s) = some r → fMt_is_42 (d + 6) c x1 w2 z4 u0 s = some r := by
  intro r hr
  show ev (d + 6) q_213 42 [(0, .ref c), (1, .int x1), (2, .ref w2), (4, .int z4)] [.int u0] s = some r
  refine ev_seg 3 (k' := 19) (L' := [(4, .int (z4 + 1)), (3, .int u0), (0, .ref c), (1, .int x1), (2, .ref w2)]) (st' := []) rfl ?_
  refine ev_join (L' := [(0, .ref c), (1, .int x1), (2, .ref w2), (3, .int u0), (4, .int (z4 + 1))]) [2, 3, 4, 1, 0] [4, 3, 0, 1, 2] [0, 1, 2, 3, 4] rfl rfl (by decide) (by decide) rfl ?_
  exact hr
set_option maxRecDepth 20000 in
theorem eMt_defined (d : Nat) (c : Nat) (x1 : Int32) (s : aT) (hc : isT c) : ∀ r, (fMt_defined_2 (d + 1) c x1 6 s) = some r → fMt_defined (d + 1) c x1 s = some r := by
  intro r hr
  show ev (d + 1) q_214 0 [(0, .ref c), (1, .int x1)] [] s = some r
  refine ev_seg 2 (k' := 2) (L' := [(2, .int 6), (0, .ref c), (1, .int x1)]) (st' := []) rfl ?_
  refine ev_join (L' := [(0, .ref c), (1, .int x1), (2, .int 6)]) [1, 2, 0] [2, 0, 1] [0, 1, 2] rfl rfl (by decide) (by decide) rfl ?_
  exact hr
set_option maxRecDepth 20000 in
theorem eMt_defined_2 (d : Nat) (c : Nat) (x1 : Int32) (z2 : Int32) (s : aT) (hc : isT c) : ∀ r, (if gI s c 16 ≤ z2 then rI (-1) s else ldI 140 s (c + 10) z2 (fun v1 => if v1 < 0 then fMt_defined_22 (d + 1) c x1 z2 s else ldI 140 s (c + 10) z2 (fun v2 => cG (fMt_same d c v2 c x1 s) (kI fun v4 s3 => if v4 = 0 then fMt_defined_22 (d + 1) c x1 z2 s3 else rI z2 s3)))) = some r → fMt_defined_2 (d + 1) c x1 z2 s = some r := by
  intro r hr
  show ev (d + 1) q_214 2 [(0, .ref c), (1, .int x1), (2, .int z2)] [] s = some r
  refine ev_seg 2 (k' := 4) (L' := [(0, .ref c), (1, .int x1), (2, .int z2)]) (st' := [.ref c, .int z2]) rfl ?_
  refine ev_getI (c := c) rfl (isT_sh hc) rfl (Or.inl rfl) ?_
  refine ev_br (P := gI s c 16 ≤ z2) (L' := [(0, .ref c), (1, .int x1), (2, .int z2)]) (st' := []) hr rfl rfl rfl (fun hr => ?_) (fun hr => ?_)
  · skip
    refine ev_seg 1 (k' := 25) (L' := [(0, .ref c), (1, .int x1), (2, .int z2)]) (st' := [.int (-1)]) rfl ?_
    exact ev_iret hr rfl rfl rfl
  · skip
    refine ev_seg 1 (k' := 7) (L' := [(0, .ref c), (1, .int x1), (2, .int z2)]) (st' := [.ref c]) rfl ?_
    refine ev_getR (c := c) (v := c + 10) rfl (isT_sh hc) rfl (isT_r10 hc) ?_
    refine ev_seg 1 (k' := 9) (L' := [(0, .ref c), (1, .int x1), (2, .int z2)]) (st' := [.int z2, .ref (c + 10)]) rfl ?_
    refine ev_ldI hr rfl (isT_a10 hc) (fun v1 hr => ?_)
    refine ev_br (P := v1 < 0) (L' := [(0, .ref c), (1, .int x1), (2, .int z2)]) (st' := []) hr rfl rfl rfl (fun hr => ?_) (fun hr => ?_)
    · skip
      exact hr
    · skip
      refine ev_seg 2 (k' := 13) (L' := [(0, .ref c), (1, .int x1), (2, .int z2)]) (st' := [.ref c, .ref c]) rfl ?_
      refine ev_getR (c := c) (v := c + 10) rfl (isT_sh hc) rfl (isT_r10 hc) ?_
      refine ev_seg 1 (k' := 15) (L' := [(0, .ref c), (1, .int x1), (2, .int z2)]) (st' := [.int z2, .ref (c + 10), .ref c]) rfl ?_
      refine ev_ldI hr rfl (isT_a10 hc) (fun v2 hr => ?_)
      refine ev_seg 2 (k' := 18) (L' := [(0, .ref c), (1, .int x1), (2, .int z2)]) (st' := [.int x1, .ref c, .int v2, .ref c]) rfl ?_
      refine ev_callV (q' := q_208) (x := 208) (y := 12) (c := c) (As := [.int v2, .ref c, .int x1]) (rest := []) hr rfl rfl rfl rfl rfl rfl (isT_sh hc) rfl rfl rfl rfl rfl (fun rv s3 hq => ev_kI hq (fun v4 e9 hr => ?_))
      subst e9
      refine ev_st (st' := [.int v4]) rfl ?_
      refine ev_br (P := v4 = 0) (L' := [(0, .ref c), (1, .int x1), (2, .int z2)]) (st' := []) hr rfl rfl rfl (fun hr => ?_) (fun hr => ?_)
      · skip
        exact hr
      · skip
        refine ev_seg 1 (k' := 21) (L' := [(0, .ref c), (1, .int x1), (2, .int z2)]) (st' := [.int z2]) rfl ?_
        exact ev_iret hr rfl rfl rfl
set_option maxRecDepth 20000 in
theorem eMt_defined_22 (d : Nat) (c : Nat) (x1 : Int32) (z2 : Int32) (s : aT) (hc : isT c) : ∀ r, (fMt_defined_2 (d + 1) c x1 (z2 + 1) s) = some r → fMt_defined_22 (d + 1) c x1 z2 s = some r := by
  intro r hr
  show ev (d + 1) q_214 22 [(0, .ref c), (1, .int x1), (2, .int z2)] [] s = some r
  refine ev_seg 2 (k' := 2) (L' := [(2, .int (z2 + 1)), (0, .ref c), (1, .int x1)]) (st' := []) rfl ?_
  refine ev_join (L' := [(0, .ref c), (1, .int x1), (2, .int (z2 + 1))]) [1, 2, 0] [2, 0, 1] [0, 1, 2] rfl rfl (by decide) (by decide) rfl ?_
  exact hr
set_option maxRecDepth 20000 in
theorem eMt_union (d : Nat) (c : Nat) (x1 : Int32) (x2 : Int32) (x3 : Int32) (s : aT) (hc : isT c) : ∀ r, (if ¬ x3 = 0 then fMt_union_6 (d + 1) c x1 x2 0 s else fMt_union_6 (d + 1) c x1 x2 1 s) = some r → fMt_union (d + 1) c x1 x2 x3 s = some r := by
  intro r hr
  show ev (d + 1) q_215 0 [(0, .ref c), (1, .int x1), (2, .int x2), (3, .int x3)] [] s = some r
  refine ev_seg 2 (k' := 2) (L' := [(0, .ref c), (1, .int x1), (2, .int x2), (3, .int x3)]) (st' := [.int x3, .ref c]) rfl ?_
  refine ev_br (P := ¬ x3 = 0) (L' := [(0, .ref c), (1, .int x1), (2, .int x2), (3, .int x3)]) (st' := [.ref c]) hr rfl rfl rfl (fun hr => ?_) (fun hr => ?_)
  · skip
    refine ev_seg 1 (k' := 6) (L' := [(0, .ref c), (1, .int x1), (2, .int x2), (3, .int x3)]) (st' := [.int 0, .ref c]) rfl ?_
    refine ev_join (L' := [(0, .ref c), (1, .int x1), (2, .int x2)]) [0, 1, 2] [0, 1, 2, 3] [0, 1, 2] rfl rfl (by decide) (by decide) rfl ?_
    exact hr
  · skip
    refine ev_seg 2 (k' := 6) (L' := [(0, .ref c), (1, .int x1), (2, .int x2), (3, .int x3)]) (st' := [.int 1, .ref c]) rfl ?_
    refine ev_join (L' := [(0, .ref c), (1, .int x1), (2, .int x2)]) [0, 1, 2] [0, 1, 2, 3] [0, 1, 2] rfl rfl (by decide) (by decide) rfl ?_
    exact hr
set_option maxRecDepth 20000 in
theorem eMt_union_6 (d : Nat) (c : Nat) (x1 : Int32) (x2 : Int32) (u0 : Int32) (s : aT) (hc : isT c) : ∀ r, (ldI 4200 s (c + 3) x1 (fun v1 => cG (fMt_need d c u0 4 v1 s) (kV fun s2 => ldI 4200 s2 (c + 5) x1 (fun v3 => if v3 ≤ 0 then fMt_union_26 (d + 1) c x1 x2 s2 else ldI 4200 s2 (c + 5) x1 (fun v4 => if 17 ≤ v4 then fMt_union_26 (d + 1) c x1 x2 s2 else fMt_union_27 (d + 1) c x1 x2 1 s2))))) = some r → fMt_union_6 (d + 1) c x1 x2 u0 s = some r := by
  intro r hr
  show ev (d + 1) q_215 6 [(0, .ref c), (1, .int x1), (2, .int x2)] [.int u0, .ref c] s = some r
  refine ev_seg 2 (k' := 8) (L' := [(0, .ref c), (1, .int x1), (2, .int x2)]) (st' := [.ref c, .int 4, .int u0, .ref c]) rfl ?_
  refine ev_getR (c := c) (v := c + 3) rfl (isT_sh hc) rfl (isT_r3 hc) ?_
  refine ev_seg 1 (k' := 10) (L' := [(0, .ref c), (1, .int x1), (2, .int x2)]) (st' := [.int x1, .ref (c + 3), .int 4, .int u0, .ref c]) rfl ?_
  refine ev_ldI hr rfl (isT_a3 hc) (fun v1 hr => ?_)
  refine ev_callV (q' := q_200) (x := 200) (y := 12) (c := c) (As := [.int u0, .int 4, .int v1]) (rest := []) hr rfl rfl rfl rfl rfl rfl (isT_sh hc) rfl rfl rfl rfl rfl (fun rv s2 hq => ev_kV hq (fun e9 hr => ?_))
  subst e9
  refine ev_st (st' := []) rfl ?_
  refine ev_seg 2 (k' := 14) (L' := [(0, .ref c), (1, .int x1), (2, .int x2)]) (st' := [.ref c, .ref c]) rfl ?_
  refine ev_getR (c := c) (v := c + 5) rfl (isT_sh hc) rfl (isT_r5 hc) ?_
  refine ev_seg 1 (k' := 16) (L' := [(0, .ref c), (1, .int x1), (2, .int x2)]) (st' := [.int x1, .ref (c + 5), .ref c]) rfl ?_
  refine ev_ldI hr rfl (isT_a5 hc) (fun v3 hr => ?_)
  refine ev_br (P := v3 ≤ 0) (L' := [(0, .ref c), (1, .int x1), (2, .int x2)]) (st' := [.ref c]) hr rfl rfl rfl (fun hr => ?_) (fun hr => ?_)
  · skip
    exact hr
  · skip
    refine ev_seg 1 (k' := 19) (L' := [(0, .ref c), (1, .int x1), (2, .int x2)]) (st' := [.ref c, .ref c]) rfl ?_
    refine ev_getR (c := c) (v := c + 5) rfl (isT_sh hc) rfl (isT_r5 hc) ?_
    refine ev_seg 1 (k' := 21) (L' := [(0, .ref c), (1, .int x1), (2, .int x2)]) (st' := [.int x1, .ref (c + 5), .ref c]) rfl ?_
    refine ev_ldI hr rfl (isT_a5 hc) (fun v4 hr => ?_)
    refine ev_seg 1 (k' := 23) (L' := [(0, .ref c), (1, .int x1), (2, .int x2)]) (st' := [.int 17, .int v4, .ref c]) rfl ?_
    refine ev_br (P := 17 ≤ v4) (L' := [(0, .ref c), (1, .int x1), (2, .int x2)]) (st' := [.ref c]) hr rfl rfl rfl (fun hr => ?_) (fun hr => ?_)
    · skip
      exact hr
    · skip
      refine ev_seg 2 (k' := 27) (L' := [(0, .ref c), (1, .int x1), (2, .int x2)]) (st' := [.int 1, .ref c]) rfl ?_
      exact hr
set_option maxRecDepth 20000 in
theorem eMt_union_26 (d : Nat) (c : Nat) (x1 : Int32) (x2 : Int32) (s : aT) (hc : isT c) : ∀ r, (fMt_union_27 (d + 1) c x1 x2 0 s) = some r → fMt_union_26 (d + 1) c x1 x2 s = some r := by
  intro r hr
  show ev (d + 1) q_215 26 [(0, .ref c), (1, .int x1), (2, .int x2)] [.ref c] s = some r
  refine ev_seg 1 (k' := 27) (L' := [(0, .ref c), (1, .int x1), (2, .int x2)]) (st' := [.int 0, .ref c]) rfl ?_
  exact hr
set_option maxRecDepth 20000 in
theorem eMt_union_27 (d : Nat) (c : Nat) (x1 : Int32) (x2 : Int32) (u0 : Int32) (s : aT) (hc : isT c) : ∀ r, (ldI 4200 s (c + 3) x1 (fun v1 => cG (fMt_need d c u0 5 v1 s) (kV fun s2 => cG (fMt_shape d c 8 s2) (kI fun v4 s3 => ldI 4200 s3 (c + 6) x1 (fun v5 => fMt_union_44 (d + 1) c x2 v4 (-1) v5 s3))))) = some r → fMt_union_27 (d + 1) c x1 x2 u0 s = some r := by
  intro r hr
  show ev (d + 1) q_215 27 [(0, .ref c), (1, .int x1), (2, .int x2)] [.int u0, .ref c] s = some r
  refine ev_seg 2 (k' := 29) (L' := [(0, .ref c), (1, .int x1), (2, .int x2)]) (st' := [.ref c, .int 5, .int u0, .ref c]) rfl ?_
  refine ev_getR (c := c) (v := c + 3) rfl (isT_sh hc) rfl (isT_r3 hc) ?_
  refine ev_seg 1 (k' := 31) (L' := [(0, .ref c), (1, .int x1), (2, .int x2)]) (st' := [.int x1, .ref (c + 3), .int 5, .int u0, .ref c]) rfl ?_
  refine ev_ldI hr rfl (isT_a3 hc) (fun v1 hr => ?_)
  refine ev_callV (q' := q_200) (x := 200) (y := 12) (c := c) (As := [.int u0, .int 5, .int v1]) (rest := []) hr rfl rfl rfl rfl rfl rfl (isT_sh hc) rfl rfl rfl rfl rfl (fun rv s2 hq => ev_kV hq (fun e9 hr => ?_))
  subst e9
  refine ev_st (st' := []) rfl ?_
  refine ev_seg 2 (k' := 35) (L' := [(0, .ref c), (1, .int x1), (2, .int x2)]) (st' := [.int 8, .ref c]) rfl ?_
  refine ev_callV (q' := q_216) (x := 216) (y := 12) (c := c) (As := [.int 8]) (rest := []) hr rfl rfl rfl rfl rfl rfl (isT_sh hc) rfl rfl rfl rfl rfl (fun rv s3 hq => ev_kI hq (fun v4 e9 hr => ?_))
  subst e9
  refine ev_st (st' := [.int v4]) rfl ?_
  refine ev_seg 4 (k' := 40) (L' := [(5, .int (-1)), (4, .int v4), (0, .ref c), (1, .int x1), (2, .int x2)]) (st' := [.ref c]) rfl ?_
  refine ev_getR (c := c) (v := c + 6) rfl (isT_sh hc) rfl (isT_r6 hc) ?_
  refine ev_seg 1 (k' := 42) (L' := [(5, .int (-1)), (4, .int v4), (0, .ref c), (1, .int x1), (2, .int x2)]) (st' := [.int x1, .ref (c + 6)]) rfl ?_
  refine ev_ldI hr rfl (isT_a6 hc) (fun v5 hr => ?_)
  refine ev_seg 1 (k' := 44) (L' := [(6, .int v5), (5, .int (-1)), (4, .int v4), (0, .ref c), (1, .int x1), (2, .int x2)]) (st' := []) rfl ?_
  refine ev_join (L' := [(0, .ref c), (2, .int x2), (4, .int v4), (5, .int (-1)), (6, .int v5)]) [3, 5, 2, 1, 0] [6, 5, 4, 0, 1, 2] [0, 2, 4, 5, 6] rfl rfl (by decide) (by decide) rfl ?_
  exact hr
set_option maxRecDepth 20000 in
theorem eMt_union_44 (d : Nat) (c : Nat) (x2 : Int32) (z4 : Int32) (z5 : Int32) (z6 : Int32) (s : aT) (hc : isT c) : ∀ r, (if z6 < 0 then rI z4 s else cG (fMt_schemaOf d c z6 (x2 + 1) 1 s) (kI fun v2 s1 => ldI 140 s1 (c + 12) z4 (fun v3 => fMt_union_59 (d + 1) c x2 z4 z5 z6 v2 v3 s1))) = some r → fMt_union_44 (d + 1) c x2 z4 z5 z6 s = some r := by
  intro r hr
  show ev (d + 1) q_215 44 [(0, .ref c), (2, .int x2), (4, .int z4), (5, .int z5), (6, .int z6)] [] s = some r
  refine ev_seg 1 (k' := 45) (L' := [(0, .ref c), (2, .int x2), (4, .int z4), (5, .int z5), (6, .int z6)]) (st' := [.int z6]) rfl ?_
  refine ev_br (P := z6 < 0) (L' := [(0, .ref c), (2, .int x2), (4, .int z4), (5, .int z5), (6, .int z6)]) (st' := []) hr rfl rfl rfl (fun hr => ?_) (fun hr => ?_)
  · skip
    refine ev_seg 1 (k' := 102) (L' := [(0, .ref c), (2, .int x2), (4, .int z4), (5, .int z5), (6, .int z6)]) (st' := [.int z4]) rfl ?_
    exact ev_iret hr rfl rfl rfl
  · skip
    refine ev_seg 6 (k' := 52) (L' := [(0, .ref c), (2, .int x2), (4, .int z4), (5, .int z5), (6, .int z6)]) (st' := [.int 1, .int (x2 + 1), .int z6, .ref c]) rfl ?_
    refine ev_callV (q' := q_211) (x := 211) (y := 12) (c := c) (As := [.int z6, .int (x2 + 1), .int 1]) (rest := []) hr rfl rfl rfl rfl rfl rfl (isT_sh hc) rfl rfl rfl rfl rfl (fun rv s1 hq => ev_kI hq (fun v2 e9 hr => ?_))
    subst e9
    refine ev_st (st' := [.int v2]) rfl ?_
    refine ev_seg 2 (k' := 55) (L' := [(7, .int v2), (0, .ref c), (2, .int x2), (4, .int z4), (5, .int z5), (6, .int z6)]) (st' := [.ref c]) rfl ?_
    refine ev_getR (c := c) (v := c + 12) rfl (isT_sh hc) rfl (isT_r12 hc) ?_
    refine ev_seg 1 (k' := 57) (L' := [(7, .int v2), (0, .ref c), (2, .int x2), (4, .int z4), (5, .int z5), (6, .int z6)]) (st' := [.int z4, .ref (c + 12)]) rfl ?_
    refine ev_ldI hr rfl (isT_a12 hc) (fun v3 hr => ?_)
    refine ev_seg 1 (k' := 59) (L' := [(8, .int v3), (7, .int v2), (0, .ref c), (2, .int x2), (4, .int z4), (5, .int z5), (6, .int z6)]) (st' := []) rfl ?_
    refine ev_join (L' := [(0, .ref c), (2, .int x2), (4, .int z4), (5, .int z5), (6, .int z6), (7, .int v2), (8, .int v3)]) [2, 3, 4, 5, 6, 1, 0] [8, 7, 0, 2, 4, 5, 6] [0, 2, 4, 5, 6, 7, 8] rfl rfl (by decide) (by decide) rfl ?_
    exact hr
set_option maxRecDepth 20000 in
theorem eMt_union_59 (d : Nat) (c : Nat) (x2 : Int32) (z4 : Int32) (z5 : Int32) (z6 : Int32) (z7 : Int32) (z8 : Int32) (s : aT) (hc : isT c) : ∀ r, (if z8 < 0 then cG (fMt_addKid d c z4 z5 s) (kI fun v2 s1 => stI 2200 s1 (c + 15) v2 z7 (fun s3 => ldI 4200 s3 (c + 7) z6 (fun v4 => fMt_union_44 (d + 1) c x2 z4 v2 v4 s3))) else ldI 2200 s (c + 15) z8 (fun v5 => cG (fMt_alike d c v5 z7 s) (kI fun v7 s6 => if ¬ v7 = 0 then fMt_union_73 (d + 1) c x2 z4 z5 z6 z7 z8 0 s6 else fMt_union_73 (d + 1) c x2 z4 z5 z6 z7 z8 1 s6))) = some r → fMt_union_59 (d + 1) c x2 z4 z5 z6 z7 z8 s = some r := by
  intro r hr
  show ev (d + 1) q_215 59 [(0, .ref c), (2, .int x2), (4, .int z4), (5, .int z5), (6, .int z6), (7, .int z7), (8, .int z8)] [] s = some r
  refine ev_seg 1 (k' := 60) (L' := [(0, .ref c), (2, .int x2), (4, .int z4), (5, .int z5), (6, .int z6), (7, .int z7), (8, .int z8)]) (st' := [.int z8]) rfl ?_
  refine ev_br (P := z8 < 0) (L' := [(0, .ref c), (2, .int x2), (4, .int z4), (5, .int z5), (6, .int z6), (7, .int z7), (8, .int z8)]) (st' := []) hr rfl rfl rfl (fun hr => ?_) (fun hr => ?_)
  · skip
    refine ev_seg 3 (k' := 88) (L' := [(0, .ref c), (2, .int x2), (4, .int z4), (5, .int z5), (6, .int z6), (7, .int z7), (8, .int z8)]) (st' := [.int z5, .int z4, .ref c]) rfl ?_
    refine ev_callV (q' := q_218) (x := 218) (y := 12) (c := c) (As := [.int z4, .int z5]) (rest := []) hr rfl rfl rfl rfl rfl rfl (isT_sh hc) rfl rfl rfl rfl rfl (fun rv s1 hq => ev_kI hq (fun v2 e9 hr => ?_))
    subst e9
    refine ev_st (st' := [.int v2]) rfl ?_
    refine ev_seg 2 (k' := 91) (L' := [(5, .int v2), (0, .ref c), (2, .int x2), (4, .int z4), (6, .int z6), (7, .int z7), (8, .int z8)]) (st' := [.ref c]) rfl ?_
    refine ev_getR (c := c) (v := c + 15) rfl (isT_sh hc) rfl (isT_r15 hc) ?_
    refine ev_seg 2 (k' := 94) (L' := [(5, .int v2), (0, .ref c), (2, .int x2), (4, .int z4), (6, .int z6), (7, .int z7), (8, .int z8)]) (st' := [.int z7, .int v2, .ref (c + 15)]) rfl ?_
    refine ev_stI hr rfl (isT_a15 hc) (fun s3 hr => ?_)
    refine ev_seg 1 (k' := 96) (L' := [(5, .int v2), (0, .ref c), (2, .int x2), (4, .int z4), (6, .int z6), (7, .int z7), (8, .int z8)]) (st' := [.ref c]) rfl ?_
    refine ev_getR (c := c) (v := c + 7) rfl (isT_sh hc) rfl (isT_r7 hc) ?_
    refine ev_seg 1 (k' := 98) (L' := [(5, .int v2), (0, .ref c), (2, .int x2), (4, .int z4), (6, .int z6), (7, .int z7), (8, .int z8)]) (st' := [.int z6, .ref (c + 7)]) rfl ?_
    refine ev_ldI hr rfl (isT_a7 hc) (fun v4 hr => ?_)
    refine ev_seg 2 (k' := 44) (L' := [(6, .int v4), (5, .int v2), (0, .ref c), (2, .int x2), (4, .int z4), (7, .int z7), (8, .int z8)]) (st' := []) rfl ?_
    refine ev_join (L' := [(0, .ref c), (2, .int x2), (4, .int z4), (5, .int v2), (6, .int v4)]) [2, 3, 4, 1, 0] [6, 5, 0, 2, 4, 7, 8] [0, 2, 4, 5, 6] rfl rfl (by decide) (by decide) rfl ?_
    exact hr
  · skip
    refine ev_seg 3 (k' := 64) (L' := [(0, .ref c), (2, .int x2), (4, .int z4), (5, .int z5), (6, .int z6), (7, .int z7), (8, .int z8)]) (st' := [.ref c, .ref c, .ref c]) rfl ?_
    refine ev_getR (c := c) (v := c + 15) rfl (isT_sh hc) rfl (isT_r15 hc) ?_
    refine ev_seg 1 (k' := 66) (L' := [(0, .ref c), (2, .int x2), (4, .int z4), (5, .int z5), (6, .int z6), (7, .int z7), (8, .int z8)]) (st' := [.int z8, .ref (c + 15), .ref c, .ref c]) rfl ?_
    refine ev_ldI hr rfl (isT_a15 hc) (fun v5 hr => ?_)
    refine ev_seg 1 (k' := 68) (L' := [(0, .ref c), (2, .int x2), (4, .int z4), (5, .int z5), (6, .int z6), (7, .int z7), (8, .int z8)]) (st' := [.int z7, .int v5, .ref c, .ref c]) rfl ?_
    refine ev_callV (q' := q_217) (x := 217) (y := 12) (c := c) (As := [.int v5, .int z7]) (rest := [.ref c]) hr rfl rfl rfl rfl rfl rfl (isT_sh hc) rfl rfl rfl rfl rfl (fun rv s6 hq => ev_kI hq (fun v7 e9 hr => ?_))
    subst e9
    refine ev_st (st' := [.int v7, .ref c]) rfl ?_
    refine ev_br (P := ¬ v7 = 0) (L' := [(0, .ref c), (2, .int x2), (4, .int z4), (5, .int z5), (6, .int z6), (7, .int z7), (8, .int z8)]) (st' := [.ref c]) hr rfl rfl rfl (fun hr => ?_) (fun hr => ?_)
    · skip
      refine ev_seg 1 (k' := 73) (L' := [(0, .ref c), (2, .int x2), (4, .int z4), (5, .int z5), (6, .int z6), (7, .int z7), (8, .int z8)]) (st' := [.int 0, .ref c]) rfl ?_
      exact hr
    · skip
      refine ev_seg 2 (k' := 73) (L' := [(0, .ref c), (2, .int x2), (4, .int z4), (5, .int z5), (6, .int z6), (7, .int z7), (8, .int z8)]) (st' := [.int 1, .ref c]) rfl ?_
      exact hr
set_option maxRecDepth 20000 in
theorem eMt_union_73 (d : Nat) (c : Nat) (x2 : Int32) (z4 : Int32) (z5 : Int32) (z6 : Int32) (z7 : Int32) (z8 : Int32) (u0 : Int32) (s : aT) (hc : isT c) : ∀ r, (ldI 4200 s (c + 3) z6 (fun v1 => cG (fMt_need d c u0 6 v1 s) (kV fun s2 => ldI 2200 s2 (c + 18) z8 (fun v3 => fMt_union_59 (d + 1) c x2 z4 z5 z6 z7 v3 s2)))) = some r → fMt_union_73 (d + 1) c x2 z4 z5 z6 z7 z8 u0 s = some r := by
  intro r hr
  show ev (d + 1) q_215 73 [(0, .ref c), (2, .int x2), (4, .int z4), (5, .int z5), (6, .int z6), (7, .int z7), (8, .int z8)] [.int u0, .ref c] s = some r
  refine ev_seg 2 (k' := 75) (L' := [(0, .ref c), (2, .int x2), (4, .int z4), (5, .int z5), (6, .int z6), (7, .int z7), (8, .int z8)]) (st' := [.ref c, .int 6, .int u0, .ref c]) rfl ?_
  refine ev_getR (c := c) (v := c + 3) rfl (isT_sh hc) rfl (isT_r3 hc) ?_
  refine ev_seg 1 (k' := 77) (L' := [(0, .ref c), (2, .int x2), (4, .int z4), (5, .int z5), (6, .int z6), (7, .int z7), (8, .int z8)]) (st' := [.int z6, .ref (c + 3), .int 6, .int u0, .ref c]) rfl ?_
  refine ev_ldI hr rfl (isT_a3 hc) (fun v1 hr => ?_)
  refine ev_callV (q' := q_200) (x := 200) (y := 12) (c := c) (As := [.int u0, .int 6, .int v1]) (rest := []) hr rfl rfl rfl rfl rfl rfl (isT_sh hc) rfl rfl rfl rfl rfl (fun rv s2 hq => ev_kV hq (fun e9 hr => ?_))
  subst e9
  refine ev_st (st' := []) rfl ?_
  refine ev_seg 1 (k' := 80) (L' := [(0, .ref c), (2, .int x2), (4, .int z4), (5, .int z5), (6, .int z6), (7, .int z7), (8, .int z8)]) (st' := [.ref c]) rfl ?_
  refine ev_getR (c := c) (v := c + 18) rfl (isT_sh hc) rfl (isT_r18 hc) ?_
  refine ev_seg 1 (k' := 82) (L' := [(0, .ref c), (2, .int x2), (4, .int z4), (5, .int z5), (6, .int z6), (7, .int z7), (8, .int z8)]) (st' := [.int z8, .ref (c + 18)]) rfl ?_
  refine ev_ldI hr rfl (isT_a18 hc) (fun v3 hr => ?_)
  refine ev_seg 2 (k' := 59) (L' := [(8, .int v3), (0, .ref c), (2, .int x2), (4, .int z4), (5, .int z5), (6, .int z6), (7, .int z7)]) (st' := []) rfl ?_
  refine ev_join (L' := [(0, .ref c), (2, .int x2), (4, .int z4), (5, .int z5), (6, .int z6), (7, .int z7), (8, .int v3)]) [1, 2, 3, 4, 5, 6, 0] [8, 0, 2, 4, 5, 6, 7] [0, 2, 4, 5, 6, 7, 8] rfl rfl (by decide) (by decide) rfl ?_
  exact hr
set_option maxRecDepth 20000 in
theorem eMt_shape (d : Nat) (c : Nat) (x1 : Int32) (s : aT) (hc : isT c) : ∀ r, (stI 140 s (c + 9) (gI s c 16) x1 (fun s1 => stI 140 s1 (c + 10) (gI s1 c 16) (-1) (fun s2 => stI 140 s2 (c + 11) (gI s2 c 16) 0 (fun s3 => stI 140 s3 (c + 12) (gI s3 c 16) (-1) (fun s4 => stI 140 s4 (c + 13) (gI s4 c 16) 0 (fun s5 => stI 140 s5 (c + 14) (gI s5 c 16) (-1) (fun s6 => wI s6 c 16 ((gI s6 c 16) + 1) (fun s7 => rI ((gI s7 c 16) - 1) s7)))))))) = some r → fMt_shape d c x1 s = some r := by
  intro r hr
  show ev d q_216 0 [(0, .ref c), (1, .int x1)] [] s = some r
  refine ev_seg 1 (k' := 1) (L' := [(0, .ref c), (1, .int x1)]) (st' := [.ref c]) rfl ?_
  refine ev_getR (c := c) (v := c + 9) rfl (isT_sh hc) rfl (isT_r9 hc) ?_
  refine ev_seg 1 (k' := 3) (L' := [(0, .ref c), (1, .int x1)]) (st' := [.ref c, .ref (c + 9)]) rfl ?_
  refine ev_getI (c := c) rfl (isT_sh hc) rfl (Or.inl rfl) ?_
  refine ev_seg 1 (k' := 5) (L' := [(0, .ref c), (1, .int x1)]) (st' := [.int x1, .int (gI s c 16), .ref (c + 9)]) rfl ?_
  refine ev_stI hr rfl (isT_a9 hc) (fun s1 hr => ?_)
  refine ev_seg 1 (k' := 7) (L' := [(0, .ref c), (1, .int x1)]) (st' := [.ref c]) rfl ?_
  refine ev_getR (c := c) (v := c + 10) rfl (isT_sh hc) rfl (isT_r10 hc) ?_
  refine ev_seg 1 (k' := 9) (L' := [(0, .ref c), (1, .int x1)]) (st' := [.ref c, .ref (c + 10)]) rfl ?_
  refine ev_getI (c := c) rfl (isT_sh hc) rfl (Or.inl rfl) ?_
  refine ev_seg 1 (k' := 11) (L' := [(0, .ref c), (1, .int x1)]) (st' := [.int (-1), .int (gI s1 c 16), .ref (c + 10)]) rfl ?_
  refine ev_stI hr rfl (isT_a10 hc) (fun s2 hr => ?_)
  refine ev_seg 1 (k' := 13) (L' := [(0, .ref c), (1, .int x1)]) (st' := [.ref c]) rfl ?_
  refine ev_getR (c := c) (v := c + 11) rfl (isT_sh hc) rfl (isT_r11 hc) ?_
  refine ev_seg 1 (k' := 15) (L' := [(0, .ref c), (1, .int x1)]) (st' := [.ref c, .ref (c + 11)]) rfl ?_
  refine ev_getI (c := c) rfl (isT_sh hc) rfl (Or.inl rfl) ?_
  refine ev_seg 1 (k' := 17) (L' := [(0, .ref c), (1, .int x1)]) (st' := [.int 0, .int (gI s2 c 16), .ref (c + 11)]) rfl ?_
  refine ev_stI hr rfl (isT_a11 hc) (fun s3 hr => ?_)
  refine ev_seg 1 (k' := 19) (L' := [(0, .ref c), (1, .int x1)]) (st' := [.ref c]) rfl ?_
  refine ev_getR (c := c) (v := c + 12) rfl (isT_sh hc) rfl (isT_r12 hc) ?_
  refine ev_seg 1 (k' := 21) (L' := [(0, .ref c), (1, .int x1)]) (st' := [.ref c, .ref (c + 12)]) rfl ?_
  refine ev_getI (c := c) rfl (isT_sh hc) rfl (Or.inl rfl) ?_
  refine ev_seg 1 (k' := 23) (L' := [(0, .ref c), (1, .int x1)]) (st' := [.int (-1), .int (gI s3 c 16), .ref (c + 12)]) rfl ?_
  refine ev_stI hr rfl (isT_a12 hc) (fun s4 hr => ?_)
  refine ev_seg 1 (k' := 25) (L' := [(0, .ref c), (1, .int x1)]) (st' := [.ref c]) rfl ?_
  refine ev_getR (c := c) (v := c + 13) rfl (isT_sh hc) rfl (isT_r13 hc) ?_
  refine ev_seg 1 (k' := 27) (L' := [(0, .ref c), (1, .int x1)]) (st' := [.ref c, .ref (c + 13)]) rfl ?_
  refine ev_getI (c := c) rfl (isT_sh hc) rfl (Or.inl rfl) ?_
  refine ev_seg 1 (k' := 29) (L' := [(0, .ref c), (1, .int x1)]) (st' := [.int 0, .int (gI s4 c 16), .ref (c + 13)]) rfl ?_
  refine ev_stI hr rfl (isT_a13 hc) (fun s5 hr => ?_)
  refine ev_seg 1 (k' := 31) (L' := [(0, .ref c), (1, .int x1)]) (st' := [.ref c]) rfl ?_
  refine ev_getR (c := c) (v := c + 14) rfl (isT_sh hc) rfl (isT_r14 hc) ?_
  refine ev_seg 1 (k' := 33) (L' := [(0, .ref c), (1, .int x1)]) (st' := [.ref c, .ref (c + 14)]) rfl ?_
  refine ev_getI (c := c) rfl (isT_sh hc) rfl (Or.inl rfl) ?_
  refine ev_seg 1 (k' := 35) (L' := [(0, .ref c), (1, .int x1)]) (st' := [.int (-1), .int (gI s5 c 16), .ref (c + 14)]) rfl ?_
  refine ev_stI hr rfl (isT_a14 hc) (fun s6 hr => ?_)
  refine ev_seg 2 (k' := 38) (L' := [(0, .ref c), (1, .int x1)]) (st' := [.ref c, .ref c]) rfl ?_
  refine ev_getI (c := c) rfl (isT_sh hc) rfl (Or.inl rfl) ?_
  refine ev_seg 2 (k' := 41) (L' := [(0, .ref c), (1, .int x1)]) (st' := [.int ((gI s6 c 16) + 1), .ref c]) rfl ?_
  refine ev_putI (c := c) hr rfl (isT_sh hc) rfl (fun s7 hr => ?_)
  refine ev_seg 1 (k' := 43) (L' := [(0, .ref c), (1, .int x1)]) (st' := [.ref c]) rfl ?_
  refine ev_getI (c := c) rfl (isT_sh hc) rfl (Or.inl rfl) ?_
  refine ev_seg 2 (k' := 46) (L' := [(0, .ref c), (1, .int x1)]) (st' := [.int ((gI s7 c 16) - 1)]) rfl ?_
  exact ev_iret hr rfl rfl rfl
set_option maxRecDepth 20000 in
theorem eMt_alike (d : Nat) (c : Nat) (x1 : Int32) (x2 : Int32) (s : aT) (hc : isT c) : ∀ r, (if ¬ x1 = x2 then ldI 140 s (c + 9) x1 (fun v1 => ldI 140 s (c + 9) x2 (fun v2 => if ¬ v1 = v2 then rI 0 s else ldI 140 s (c + 9) x1 (fun v3 => if v3 = 6 then rI 1 s else ldI 140 s (c + 9) x1 (fun v4 => if ¬ v4 = 7 then rI 0 s else rI 1 s)))) else rI 1 s) = some r → fMt_alike d c x1 x2 s = some r := by
  intro r hr
  show ev d q_217 0 [(0, .ref c), (1, .int x1), (2, .int x2)] [] s = some r
  refine ev_seg 2 (k' := 2) (L' := [(0, .ref c), (1, .int x1), (2, .int x2)]) (st' := [.int x2, .int x1]) rfl ?_
  refine ev_br (P := ¬ x1 = x2) (L' := [(0, .ref c), (1, .int x1), (2, .int x2)]) (st' := []) hr rfl rfl rfl (fun hr => ?_) (fun hr => ?_)
  · skip
    refine ev_seg 1 (k' := 6) (L' := [(0, .ref c), (1, .int x1), (2, .int x2)]) (st' := [.ref c]) rfl ?_
    refine ev_getR (c := c) (v := c + 9) rfl (isT_sh hc) rfl (isT_r9 hc) ?_
    refine ev_seg 1 (k' := 8) (L' := [(0, .ref c), (1, .int x1), (2, .int x2)]) (st' := [.int x1, .ref (c + 9)]) rfl ?_
    refine ev_ldI hr rfl (isT_a9 hc) (fun v1 hr => ?_)
    refine ev_seg 1 (k' := 10) (L' := [(0, .ref c), (1, .int x1), (2, .int x2)]) (st' := [.ref c, .int v1]) rfl ?_
    refine ev_getR (c := c) (v := c + 9) rfl (isT_sh hc) rfl (isT_r9 hc) ?_
    refine ev_seg 1 (k' := 12) (L' := [(0, .ref c), (1, .int x1), (2, .int x2)]) (st' := [.int x2, .ref (c + 9), .int v1]) rfl ?_
    refine ev_ldI hr rfl (isT_a9 hc) (fun v2 hr => ?_)
    refine ev_br (P := ¬ v1 = v2) (L' := [(0, .ref c), (1, .int x1), (2, .int x2)]) (st' := []) hr rfl rfl rfl (fun hr => ?_) (fun hr => ?_)
    · skip
      refine ev_seg 1 (k' := 29) (L' := [(0, .ref c), (1, .int x1), (2, .int x2)]) (st' := [.int 0]) rfl ?_
      exact ev_iret hr rfl rfl rfl
    · skip
      refine ev_seg 1 (k' := 15) (L' := [(0, .ref c), (1, .int x1), (2, .int x2)]) (st' := [.ref c]) rfl ?_
      refine ev_getR (c := c) (v := c + 9) rfl (isT_sh hc) rfl (isT_r9 hc) ?_
      refine ev_seg 1 (k' := 17) (L' := [(0, .ref c), (1, .int x1), (2, .int x2)]) (st' := [.int x1, .ref (c + 9)]) rfl ?_
      refine ev_ldI hr rfl (isT_a9 hc) (fun v3 hr => ?_)
      refine ev_seg 1 (k' := 19) (L' := [(0, .ref c), (1, .int x1), (2, .int x2)]) (st' := [.int 6, .int v3]) rfl ?_
      refine ev_br (P := v3 = 6) (L' := [(0, .ref c), (1, .int x1), (2, .int x2)]) (st' := []) hr rfl rfl rfl (fun hr => ?_) (fun hr => ?_)
      · skip
        refine ev_seg 2 (k' := 29) (L' := [(0, .ref c), (1, .int x1), (2, .int x2)]) (st' := [.int 1]) rfl ?_
        exact ev_iret hr rfl rfl rfl
      · skip
        refine ev_seg 1 (k' := 21) (L' := [(0, .ref c), (1, .int x1), (2, .int x2)]) (st' := [.ref c]) rfl ?_
        refine ev_getR (c := c) (v := c + 9) rfl (isT_sh hc) rfl (isT_r9 hc) ?_
        refine ev_seg 1 (k' := 23) (L' := [(0, .ref c), (1, .int x1), (2, .int x2)]) (st' := [.int x1, .ref (c + 9)]) rfl ?_
        refine ev_ldI hr rfl (isT_a9 hc) (fun v4 hr => ?_)
        refine ev_seg 1 (k' := 25) (L' := [(0, .ref c), (1, .int x1), (2, .int x2)]) (st' := [.int 7, .int v4]) rfl ?_
        refine ev_br (P := ¬ v4 = 7) (L' := [(0, .ref c), (1, .int x1), (2, .int x2)]) (st' := []) hr rfl rfl rfl (fun hr => ?_) (fun hr => ?_)
        · skip
          refine ev_seg 1 (k' := 29) (L' := [(0, .ref c), (1, .int x1), (2, .int x2)]) (st' := [.int 0]) rfl ?_
          exact ev_iret hr rfl rfl rfl
        · skip
          refine ev_seg 2 (k' := 29) (L' := [(0, .ref c), (1, .int x1), (2, .int x2)]) (st' := [.int 1]) rfl ?_
          exact ev_iret hr rfl rfl rfl
  · skip
    refine ev_seg 1 (k' := 4) (L' := [(0, .ref c), (1, .int x1), (2, .int x2)]) (st' := [.int 1]) rfl ?_
    exact ev_iret hr rfl rfl rfl
set_option maxRecDepth 20000 in
theorem eMt_addKid (d : Nat) (c : Nat) (x1 : Int32) (x2 : Int32) (s : aT) (hc : isT c) : ∀ r, (wI s c 24 ((gI s c 24) + 1) (fun s1 => stI 2200 s1 (c + 15) (gI s c 24) (-1) (fun s2 => stI 2200 s2 (c + 16) (gI s c 24) (-1) (fun s3 => stI 2200 s3 (c + 17) (gI s c 24) (-1) (fun s4 => stI 2200 s4 (c + 18) (gI s c 24) (-1) (fun s5 => if 0 ≤ x2 then stI 2200 s5 (c + 18) x2 (gI s c 24) (fun s6 => fMt_addKid_42 d c x1 (gI s c 24) s6) else stI 140 s5 (c + 12) x1 (gI s c 24) (fun s7 => fMt_addKid_42 d c x1 (gI s c 24) s7))))))) = some r → fMt_addKid d c x1 x2 s = some r := by
  intro r hr
  show ev d q_218 0 [(0, .ref c), (1, .int x1), (2, .int x2)] [] s = some r
  refine ev_seg 1 (k' := 1) (L' := [(0, .ref c), (1, .int x1), (2, .int x2)]) (st' := [.ref c]) rfl ?_
  refine ev_getI (c := c) rfl (isT_sh hc) rfl (Or.inl rfl) ?_
  refine ev_seg 3 (k' := 5) (L' := [(3, .int (gI s c 24)), (0, .ref c), (1, .int x1), (2, .int x2)]) (st' := [.ref c, .ref c]) rfl ?_
  refine ev_getI (c := c) rfl (isT_sh hc) rfl (Or.inl rfl) ?_
  refine ev_seg 2 (k' := 8) (L' := [(3, .int (gI s c 24)), (0, .ref c), (1, .int x1), (2, .int x2)]) (st' := [.int ((gI s c 24) + 1), .ref c]) rfl ?_
  refine ev_putI (c := c) hr rfl (isT_sh hc) rfl (fun s1 hr => ?_)
  refine ev_seg 1 (k' := 10) (L' := [(3, .int (gI s c 24)), (0, .ref c), (1, .int x1), (2, .int x2)]) (st' := [.ref c]) rfl ?_
  refine ev_getR (c := c) (v := c + 15) rfl (isT_sh hc) rfl (isT_r15 hc) ?_
  refine ev_seg 2 (k' := 13) (L' := [(3, .int (gI s c 24)), (0, .ref c), (1, .int x1), (2, .int x2)]) (st' := [.int (-1), .int (gI s c 24), .ref (c + 15)]) rfl ?_
  refine ev_stI hr rfl (isT_a15 hc) (fun s2 hr => ?_)
  refine ev_seg 1 (k' := 15) (L' := [(3, .int (gI s c 24)), (0, .ref c), (1, .int x1), (2, .int x2)]) (st' := [.ref c]) rfl ?_
  refine ev_getR (c := c) (v := c + 16) rfl (isT_sh hc) rfl (isT_r16 hc) ?_
  refine ev_seg 2 (k' := 18) (L' := [(3, .int (gI s c 24)), (0, .ref c), (1, .int x1), (2, .int x2)]) (st' := [.int (-1), .int (gI s c 24), .ref (c + 16)]) rfl ?_
  refine ev_stI hr rfl (isT_a16 hc) (fun s3 hr => ?_)
  refine ev_seg 1 (k' := 20) (L' := [(3, .int (gI s c 24)), (0, .ref c), (1, .int x1), (2, .int x2)]) (st' := [.ref c]) rfl ?_
  refine ev_getR (c := c) (v := c + 17) rfl (isT_sh hc) rfl (isT_r17 hc) ?_
  refine ev_seg 2 (k' := 23) (L' := [(3, .int (gI s c 24)), (0, .ref c), (1, .int x1), (2, .int x2)]) (st' := [.int (-1), .int (gI s c 24), .ref (c + 17)]) rfl ?_
  refine ev_stI hr rfl (isT_a17 hc) (fun s4 hr => ?_)
  refine ev_seg 1 (k' := 25) (L' := [(3, .int (gI s c 24)), (0, .ref c), (1, .int x1), (2, .int x2)]) (st' := [.ref c]) rfl ?_
  refine ev_getR (c := c) (v := c + 18) rfl (isT_sh hc) rfl (isT_r18 hc) ?_
  refine ev_seg 2 (k' := 28) (L' := [(3, .int (gI s c 24)), (0, .ref c), (1, .int x1), (2, .int x2)]) (st' := [.int (-1), .int (gI s c 24), .ref (c + 18)]) rfl ?_
  refine ev_stI hr rfl (isT_a18 hc) (fun s5 hr => ?_)
  refine ev_seg 1 (k' := 30) (L' := [(3, .int (gI s c 24)), (0, .ref c), (1, .int x1), (2, .int x2)]) (st' := [.int x2]) rfl ?_
  refine ev_br (P := 0 ≤ x2) (L' := [(3, .int (gI s c 24)), (0, .ref c), (1, .int x1), (2, .int x2)]) (st' := []) hr rfl rfl rfl (fun hr => ?_) (fun hr => ?_)
  · skip
    refine ev_seg 1 (k' := 38) (L' := [(3, .int (gI s c 24)), (0, .ref c), (1, .int x1), (2, .int x2)]) (st' := [.ref c]) rfl ?_
    refine ev_getR (c := c) (v := c + 18) rfl (isT_sh hc) rfl (isT_r18 hc) ?_
    refine ev_seg 2 (k' := 41) (L' := [(3, .int (gI s c 24)), (0, .ref c), (1, .int x1), (2, .int x2)]) (st' := [.int (gI s c 24), .int x2, .ref (c + 18)]) rfl ?_
    refine ev_stI hr rfl (isT_a18 hc) (fun s6 hr => ?_)
    refine ev_join (L' := [(0, .ref c), (1, .int x1), (3, .int (gI s c 24))]) [1, 2, 0] [3, 0, 1, 2] [0, 1, 3] rfl rfl (by decide) (by decide) rfl ?_
    exact hr
  · skip
    refine ev_seg 1 (k' := 32) (L' := [(3, .int (gI s c 24)), (0, .ref c), (1, .int x1), (2, .int x2)]) (st' := [.ref c]) rfl ?_
    refine ev_getR (c := c) (v := c + 12) rfl (isT_sh hc) rfl (isT_r12 hc) ?_
    refine ev_seg 2 (k' := 35) (L' := [(3, .int (gI s c 24)), (0, .ref c), (1, .int x1), (2, .int x2)]) (st' := [.int (gI s c 24), .int x1, .ref (c + 12)]) rfl ?_
    refine ev_stI hr rfl (isT_a12 hc) (fun s7 hr => ?_)
    refine ev_seg 1 (k' := 42) (L' := [(3, .int (gI s c 24)), (0, .ref c), (1, .int x1), (2, .int x2)]) (st' := []) rfl ?_
    refine ev_join (L' := [(0, .ref c), (1, .int x1), (3, .int (gI s c 24))]) [1, 2, 0] [3, 0, 1, 2] [0, 1, 3] rfl rfl (by decide) (by decide) rfl ?_
    exact hr
set_option maxRecDepth 20000 in
theorem eMt_addKid_42 (d : Nat) (c : Nat) (x1 : Int32) (z3 : Int32) (s : aT) (hc : isT c) : ∀ r, (ldI 140 s (c + 13) x1 (fun v1 => stI 140 s (c + 13) x1 (v1 + 1) (fun s2 => rI z3 s2))) = some r → fMt_addKid_42 d c x1 z3 s = some r := by
  intro r hr
  show ev d q_218 42 [(0, .ref c), (1, .int x1), (3, .int z3)] [] s = some r
  refine ev_seg 1 (k' := 43) (L' := [(0, .ref c), (1, .int x1), (3, .int z3)]) (st' := [.ref c]) rfl ?_
  refine ev_getR (c := c) (v := c + 13) rfl (isT_sh hc) rfl (isT_r13 hc) ?_
  refine ev_seg 2 (k' := 46) (L' := [(0, .ref c), (1, .int x1), (3, .int z3)]) (st' := [.int x1, .ref (c + 13), .int x1, .ref (c + 13)]) rfl ?_
  refine ev_ldI hr rfl (isT_a13 hc) (fun v1 hr => ?_)
  refine ev_seg 2 (k' := 49) (L' := [(0, .ref c), (1, .int x1), (3, .int z3)]) (st' := [.int (v1 + 1), .int x1, .ref (c + 13)]) rfl ?_
  refine ev_stI hr rfl (isT_a13 hc) (fun s2 hr => ?_)
  refine ev_seg 1 (k' := 51) (L' := [(0, .ref c), (1, .int x1), (3, .int z3)]) (st' := [.int z3]) rfl ?_
  exact ev_iret hr rfl rfl rfl
set_option maxRecDepth 20000 in
theorem eMt_member (d : Nat) (c : Nat) (x1 : Int32) (w2 : Nat) (s : aT) (hc : isT c) : ∀ r, (ldI 4200 s (c + 6) x1 (fun v1 => fMt_member_5 (d + 1) c w2 v1 s)) = some r → fMt_member (d + 1) c x1 w2 s = some r := by
  intro r hr
  show ev (d + 1) q_219 0 [(0, .ref c), (1, .int x1), (2, .ref w2)] [] s = some r
  refine ev_seg 1 (k' := 1) (L' := [(0, .ref c), (1, .int x1), (2, .ref w2)]) (st' := [.ref c]) rfl ?_
  refine ev_getR (c := c) (v := c + 6) rfl (isT_sh hc) rfl (isT_r6 hc) ?_
  refine ev_seg 1 (k' := 3) (L' := [(0, .ref c), (1, .int x1), (2, .ref w2)]) (st' := [.int x1, .ref (c + 6)]) rfl ?_
  refine ev_ldI hr rfl (isT_a6 hc) (fun v1 hr => ?_)
  refine ev_seg 1 (k' := 5) (L' := [(3, .int v1), (0, .ref c), (1, .int x1), (2, .ref w2)]) (st' := []) rfl ?_
  refine ev_join (L' := [(0, .ref c), (2, .ref w2), (3, .int v1)]) [1, 3, 0] [3, 0, 1, 2] [0, 2, 3] rfl rfl (by decide) (by decide) rfl ?_
  exact hr
set_option maxRecDepth 20000 in
theorem eMt_member_5 (d : Nat) (c : Nat) (w2 : Nat) (z3 : Int32) (s : aT) (hc : isT c) : ∀ r, (if z3 < 0 then rI (-1) s else cG (fMt_is d c z3 w2 s) (kI fun v2 s1 => if v2 = 0 then ldI 4200 s1 (c + 7) z3 (fun v3 => ldI 4200 s1 (c + 7) v3 (fun v4 => fMt_member_5 (d + 1) c w2 v4 s1)) else ldI 4200 s1 (c + 7) z3 (fun v5 => rI v5 s1))) = some r → fMt_member_5 (d + 1) c w2 z3 s = some r := by
  intro r hr
  show ev (d + 1) q_219 5 [(0, .ref c), (2, .ref w2), (3, .int z3)] [] s = some r
  refine ev_seg 1 (k' := 6) (L' := [(0, .ref c), (2, .ref w2), (3, .int z3)]) (st' := [.int z3]) rfl ?_
  refine ev_br (P := z3 < 0) (L' := [(0, .ref c), (2, .ref w2), (3, .int z3)]) (st' := []) hr rfl rfl rfl (fun hr => ?_) (fun hr => ?_)
  · skip
    refine ev_seg 1 (k' := 27) (L' := [(0, .ref c), (2, .ref w2), (3, .int z3)]) (st' := [.int (-1)]) rfl ?_
    exact ev_iret hr rfl rfl rfl
  · skip
    refine ev_seg 3 (k' := 10) (L' := [(0, .ref c), (2, .ref w2), (3, .int z3)]) (st' := [.ref w2, .int z3, .ref c]) rfl ?_
    refine ev_callV (q' := q_213) (x := 213) (y := 12) (c := c) (As := [.int z3, .ref w2]) (rest := []) hr rfl rfl rfl rfl rfl rfl (isT_sh hc) rfl rfl rfl rfl rfl (fun rv s1 hq => ev_kI hq (fun v2 e9 hr => ?_))
    subst e9
    refine ev_st (st' := [.int v2]) rfl ?_
    refine ev_br (P := v2 = 0) (L' := [(0, .ref c), (2, .ref w2), (3, .int z3)]) (st' := []) hr rfl rfl rfl (fun hr => ?_) (fun hr => ?_)
    · skip
      refine ev_seg 1 (k' := 18) (L' := [(0, .ref c), (2, .ref w2), (3, .int z3)]) (st' := [.ref c]) rfl ?_
      refine ev_getR (c := c) (v := c + 7) rfl (isT_sh hc) rfl (isT_r7 hc) ?_
      refine ev_seg 1 (k' := 20) (L' := [(0, .ref c), (2, .ref w2), (3, .int z3)]) (st' := [.ref c, .ref (c + 7)]) rfl ?_
      refine ev_getR (c := c) (v := c + 7) rfl (isT_sh hc) rfl (isT_r7 hc) ?_
      refine ev_seg 1 (k' := 22) (L' := [(0, .ref c), (2, .ref w2), (3, .int z3)]) (st' := [.int z3, .ref (c + 7), .ref (c + 7)]) rfl ?_
      refine ev_ldI hr rfl (isT_a7 hc) (fun v3 hr => ?_)
      refine ev_ldI hr rfl (isT_a7 hc) (fun v4 hr => ?_)
      refine ev_seg 2 (k' := 5) (L' := [(3, .int v4), (0, .ref c), (2, .ref w2)]) (st' := []) rfl ?_
      refine ev_join (L' := [(0, .ref c), (2, .ref w2), (3, .int v4)]) [1, 2, 0] [3, 0, 2] [0, 2, 3] rfl rfl (by decide) (by decide) rfl ?_
      exact hr
    · skip
      refine ev_seg 1 (k' := 13) (L' := [(0, .ref c), (2, .ref w2), (3, .int z3)]) (st' := [.ref c]) rfl ?_
      refine ev_getR (c := c) (v := c + 7) rfl (isT_sh hc) rfl (isT_r7 hc) ?_
      refine ev_seg 1 (k' := 15) (L' := [(0, .ref c), (2, .ref w2), (3, .int z3)]) (st' := [.int z3, .ref (c + 7)]) rfl ?_
      refine ev_ldI hr rfl (isT_a7 hc) (fun v5 hr => ?_)
      exact ev_iret hr rfl rfl rfl
set_option maxRecDepth 20000 in
theorem eMt_named (d : Nat) (c : Nat) (x1 : Int32) (x2 : Int32) (x3 : Int32) (s : aT) (hc : isT c) : ∀ r, (cG (fMt_member d c x1 1060 s) (kI fun v2 s1 => if v2 < 0 then fMt_named_16 (d + 1) c x1 x2 x3 v2 s1 else ldI 4200 s1 (c + 2) v2 (fun v3 => if ¬ v3 = 2 then fMt_named_16 (d + 1) c x1 x2 x3 v2 s1 else fMt_named_17 (d + 1) c x1 x2 x3 v2 1 s1))) = some r → fMt_named (d + 1) c x1 x2 x3 s = some r := by
  intro r hr
  show ev (d + 1) q_220 0 [(0, .ref c), (1, .int x1), (2, .int x2), (3, .int x3)] [] s = some r
  refine ev_seg 3 (k' := 3) (L' := [(0, .ref c), (1, .int x1), (2, .int x2), (3, .int x3)]) (st' := [.ref 1060, .int x1, .ref c]) rfl ?_
  refine ev_callV (q' := q_219) (x := 219) (y := 12) (c := c) (As := [.int x1, .ref 1060]) (rest := []) hr rfl rfl rfl rfl rfl rfl (isT_sh hc) rfl rfl rfl rfl rfl (fun rv s1 hq => ev_kI hq (fun v2 e9 hr => ?_))
  subst e9
  refine ev_st (st' := [.int v2]) rfl ?_
  refine ev_seg 3 (k' := 7) (L' := [(4, .int v2), (0, .ref c), (1, .int x1), (2, .int x2), (3, .int x3)]) (st' := [.int v2, .ref c]) rfl ?_
  refine ev_br (P := v2 < 0) (L' := [(4, .int v2), (0, .ref c), (1, .int x1), (2, .int x2), (3, .int x3)]) (st' := [.ref c]) hr rfl rfl rfl (fun hr => ?_) (fun hr => ?_)
  · skip
    refine ev_join (L' := [(0, .ref c), (1, .int x1), (2, .int x2), (3, .int x3), (4, .int v2)]) [1, 2, 3, 4, 0] [4, 0, 1, 2, 3] [0, 1, 2, 3, 4] rfl rfl (by decide) (by decide) rfl ?_
    exact hr
  · skip
    refine ev_seg 1 (k' := 9) (L' := [(4, .int v2), (0, .ref c), (1, .int x1), (2, .int x2), (3, .int x3)]) (st' := [.ref c, .ref c]) rfl ?_
    refine ev_getR (c := c) (v := c + 2) rfl (isT_sh hc) rfl (isT_r2 hc) ?_
    refine ev_seg 1 (k' := 11) (L' := [(4, .int v2), (0, .ref c), (1, .int x1), (2, .int x2), (3, .int x3)]) (st' := [.int v2, .ref (c + 2), .ref c]) rfl ?_
    refine ev_ldI hr rfl (isT_a2 hc) (fun v3 hr => ?_)
    refine ev_seg 1 (k' := 13) (L' := [(4, .int v2), (0, .ref c), (1, .int x1), (2, .int x2), (3, .int x3)]) (st' := [.int 2, .int v3, .ref c]) rfl ?_
    refine ev_br (P := ¬ v3 = 2) (L' := [(4, .int v2), (0, .ref c), (1, .int x1), (2, .int x2), (3, .int x3)]) (st' := [.ref c]) hr rfl rfl rfl (fun hr => ?_) (fun hr => ?_)
    · skip
      refine ev_join (L' := [(0, .ref c), (1, .int x1), (2, .int x2), (3, .int x3), (4, .int v2)]) [1, 2, 3, 4, 0] [4, 0, 1, 2, 3] [0, 1, 2, 3, 4] rfl rfl (by decide) (by decide) rfl ?_
      exact hr
    · skip
      refine ev_seg 2 (k' := 17) (L' := [(4, .int v2), (0, .ref c), (1, .int x1), (2, .int x2), (3, .int x3)]) (st' := [.int 1, .ref c]) rfl ?_
      refine ev_join (L' := [(0, .ref c), (1, .int x1), (2, .int x2), (3, .int x3), (4, .int v2)]) [1, 2, 3, 4, 0] [4, 0, 1, 2, 3] [0, 1, 2, 3, 4] rfl rfl (by decide) (by decide) rfl ?_
      exact hr
set_option maxRecDepth 20000 in
theorem eMt_named_16 (d : Nat) (c : Nat) (x1 : Int32) (x2 : Int32) (x3 : Int32) (z4 : Int32) (s : aT) (hc : isT c) : ∀ r, (fMt_named_17 (d + 1) c x1 x2 x3 z4 0 s) = some r → fMt_named_16 (d + 1) c x1 x2 x3 z4 s = some r := by
  intro r hr
  show ev (d + 1) q_220 16 [(0, .ref c), (1, .int x1), (2, .int x2), (3, .int x3), (4, .int z4)] [.ref c] s = some r
  refine ev_seg 1 (k' := 17) (L' := [(0, .ref c), (1, .int x1), (2, .int x2), (3, .int x3), (4, .int z4)]) (st' := [.int 0, .ref c]) rfl ?_
  exact hr
set_option maxRecDepth 20000 in
theorem eMt_named_17 (d : Nat) (c : Nat) (x1 : Int32) (x2 : Int32) (x3 : Int32) (z4 : Int32) (u0 : Int32) (s : aT) (hc : isT c) : ∀ r, (ldI 4200 s (c + 3) x1 (fun v1 => cG (fMt_need d c u0 8 v1 s) (kV fun s2 => cG (fMt_isName d c z4 s2) (kI fun v4 s3 => if v4 = 0 then fMt_named_62 (d + 1) c x1 x2 x3 z4 s3 else cG (fMt_word d c z4 s3) (kI fun v6 s5 => if 0 ≤ v6 then fMt_named_62 (d + 1) c x1 x2 x3 z4 s5 else cG (fMt_is d c z4 1053 s5) (kI fun v8 s7 => if ¬ v8 = 0 then fMt_named_62 (d + 1) c x1 x2 x3 z4 s7 else cG (fMt_is d c z4 1054 s7) (kI fun v10 s9 => if ¬ v10 = 0 then fMt_named_62 (d + 1) c x1 x2 x3 z4 s9 else cG (fMt_is d c z4 1057 s9) (kI fun v12 s11 => if ¬ v12 = 0 then fMt_named_62 (d + 1) c x1 x2 x3 z4 s11 else cG (fMt_is d c z4 1058 s11) (kI fun v14 s13 => if ¬ v14 = 0 then fMt_named_62 (d + 1) c x1 x2 x3 z4 s13 else cG (fMt_is d c z4 1059 s13) (kI fun v16 s15 => if ¬ v16 = 0 then fMt_named_62 (d + 1) c x1 x2 x3 z4 s15 else cG (fMt_defined d c z4 s15) (kI fun v18 s17 => if 0 ≤ v18 then fMt_named_62 (d + 1) c x1 x2 x3 z4 s17 else fMt_named_63 (d + 1) c x1 x2 x3 z4 1 s17))))))))))) = some r → fMt_named_17 (d + 1) c x1 x2 x3 z4 u0 s = some r := by
  intro r hr
  show ev (d + 1) q_220 17 [(0, .ref c), (1, .int x1), (2, .int x2), (3, .int x3), (4, .int z4)] [.int u0, .ref c] s = some r
  refine ev_seg 2 (k' := 19) (L' := [(0, .ref c), (1, .int x1), (2, .int x2), (3, .int x3), (4, .int z4)]) (st' := [.ref c, .int 8, .int u0, .ref c]) rfl ?_
  refine ev_getR (c := c) (v := c + 3) rfl (isT_sh hc) rfl (isT_r3 hc) ?_
  refine ev_seg 1 (k' := 21) (L' := [(0, .ref c), (1, .int x1), (2, .int x2), (3, .int x3), (4, .int z4)]) (st' := [.int x1, .ref (c + 3), .int 8, .int u0, .ref c]) rfl ?_
  refine ev_ldI hr rfl (isT_a3 hc) (fun v1 hr => ?_)
  refine ev_callV (q' := q_200) (x := 200) (y := 12) (c := c) (As := [.int u0, .int 8, .int v1]) (rest := []) hr rfl rfl rfl rfl rfl rfl (isT_sh hc) rfl rfl rfl rfl rfl (fun rv s2 hq => ev_kV hq (fun e9 hr => ?_))
  subst e9
  refine ev_st (st' := []) rfl ?_
  refine ev_seg 2 (k' := 25) (L' := [(0, .ref c), (1, .int x1), (2, .int x2), (3, .int x3), (4, .int z4)]) (st' := [.int z4, .ref c]) rfl ?_
  refine ev_callV (q' := q_221) (x := 221) (y := 12) (c := c) (As := [.int z4]) (rest := []) hr rfl rfl rfl rfl rfl rfl (isT_sh hc) rfl rfl rfl rfl rfl (fun rv s3 hq => ev_kI hq (fun v4 e9 hr => ?_))
  subst e9
  refine ev_st (st' := [.int v4]) rfl ?_
  refine ev_br (P := v4 = 0) (L' := [(0, .ref c), (1, .int x1), (2, .int x2), (3, .int x3), (4, .int z4)]) (st' := []) hr rfl rfl rfl (fun hr => ?_) (fun hr => ?_)
  · skip
    exact hr
  · skip
    refine ev_seg 2 (k' := 29) (L' := [(0, .ref c), (1, .int x1), (2, .int x2), (3, .int x3), (4, .int z4)]) (st' := [.int z4, .ref c]) rfl ?_
    refine ev_callV (q' := q_212) (x := 212) (y := 12) (c := c) (As := [.int z4]) (rest := []) hr rfl rfl rfl rfl rfl rfl (isT_sh hc) rfl rfl rfl rfl rfl (fun rv s5 hq => ev_kI hq (fun v6 e9 hr => ?_))
    subst e9
    refine ev_st (st' := [.int v6]) rfl ?_
    refine ev_br (P := 0 ≤ v6) (L' := [(0, .ref c), (1, .int x1), (2, .int x2), (3, .int x3), (4, .int z4)]) (st' := []) hr rfl rfl rfl (fun hr => ?_) (fun hr => ?_)
    · skip
      exact hr
    · skip
      refine ev_seg 3 (k' := 34) (L' := [(0, .ref c), (1, .int x1), (2, .int x2), (3, .int x3), (4, .int z4)]) (st' := [.ref 1053, .int z4, .ref c]) rfl ?_
      refine ev_callV (q' := q_213) (x := 213) (y := 12) (c := c) (As := [.int z4, .ref 1053]) (rest := []) hr rfl rfl rfl rfl rfl rfl (isT_sh hc) rfl rfl rfl rfl rfl (fun rv s7 hq => ev_kI hq (fun v8 e9 hr => ?_))
      subst e9
      refine ev_st (st' := [.int v8]) rfl ?_
      refine ev_br (P := ¬ v8 = 0) (L' := [(0, .ref c), (1, .int x1), (2, .int x2), (3, .int x3), (4, .int z4)]) (st' := []) hr rfl rfl rfl (fun hr => ?_) (fun hr => ?_)
      · skip
        exact hr
      · skip
        refine ev_seg 3 (k' := 39) (L' := [(0, .ref c), (1, .int x1), (2, .int x2), (3, .int x3), (4, .int z4)]) (st' := [.ref 1054, .int z4, .ref c]) rfl ?_
        refine ev_callV (q' := q_213) (x := 213) (y := 12) (c := c) (As := [.int z4, .ref 1054]) (rest := []) hr rfl rfl rfl rfl rfl rfl (isT_sh hc) rfl rfl rfl rfl rfl (fun rv s9 hq => ev_kI hq (fun v10 e9 hr => ?_))
        subst e9
        refine ev_st (st' := [.int v10]) rfl ?_
        refine ev_br (P := ¬ v10 = 0) (L' := [(0, .ref c), (1, .int x1), (2, .int x2), (3, .int x3), (4, .int z4)]) (st' := []) hr rfl rfl rfl (fun hr => ?_) (fun hr => ?_)
        · skip
          exact hr
        · skip
          refine ev_seg 3 (k' := 44) (L' := [(0, .ref c), (1, .int x1), (2, .int x2), (3, .int x3), (4, .int z4)]) (st' := [.ref 1057, .int z4, .ref c]) rfl ?_
          refine ev_callV (q' := q_213) (x := 213) (y := 12) (c := c) (As := [.int z4, .ref 1057]) (rest := []) hr rfl rfl rfl rfl rfl rfl (isT_sh hc) rfl rfl rfl rfl rfl (fun rv s11 hq => ev_kI hq (fun v12 e9 hr => ?_))
          subst e9
          refine ev_st (st' := [.int v12]) rfl ?_
          refine ev_br (P := ¬ v12 = 0) (L' := [(0, .ref c), (1, .int x1), (2, .int x2), (3, .int x3), (4, .int z4)]) (st' := []) hr rfl rfl rfl (fun hr => ?_) (fun hr => ?_)
          · skip
            exact hr
          · skip
            refine ev_seg 3 (k' := 49) (L' := [(0, .ref c), (1, .int x1), (2, .int x2), (3, .int x3), (4, .int z4)]) (st' := [.ref 1058, .int z4, .ref c]) rfl ?_
            refine ev_callV (q' := q_213) (x := 213) (y := 12) (c := c) (As := [.int z4, .ref 1058]) (rest := []) hr rfl rfl rfl rfl rfl rfl (isT_sh hc) rfl rfl rfl rfl rfl (fun rv s13 hq => ev_kI hq (fun v14 e9 hr => ?_))
            subst e9
            refine ev_st (st' := [.int v14]) rfl ?_
            refine ev_br (P := ¬ v14 = 0) (L' := [(0, .ref c), (1, .int x1), (2, .int x2), (3, .int x3), (4, .int z4)]) (st' := []) hr rfl rfl rfl (fun hr => ?_) (fun hr => ?_)
            · skip
              exact hr
            · skip
              refine ev_seg 3 (k' := 54) (L' := [(0, .ref c), (1, .int x1), (2, .int x2), (3, .int x3), (4, .int z4)]) (st' := [.ref 1059, .int z4, .ref c]) rfl ?_
              refine ev_callV (q' := q_213) (x := 213) (y := 12) (c := c) (As := [.int z4, .ref 1059]) (rest := []) hr rfl rfl rfl rfl rfl rfl (isT_sh hc) rfl rfl rfl rfl rfl (fun rv s15 hq => ev_kI hq (fun v16 e9 hr => ?_))
              subst e9
              refine ev_st (st' := [.int v16]) rfl ?_
              refine ev_br (P := ¬ v16 = 0) (L' := [(0, .ref c), (1, .int x1), (2, .int x2), (3, .int x3), (4, .int z4)]) (st' := []) hr rfl rfl rfl (fun hr => ?_) (fun hr => ?_)
              · skip
                exact hr
              · skip
                refine ev_seg 2 (k' := 58) (L' := [(0, .ref c), (1, .int x1), (2, .int x2), (3, .int x3), (4, .int z4)]) (st' := [.int z4, .ref c]) rfl ?_
                refine ev_callV (q' := q_214) (x := 214) (y := 12) (c := c) (As := [.int z4]) (rest := []) hr rfl rfl rfl rfl rfl rfl (isT_sh hc) rfl rfl rfl rfl rfl (fun rv s17 hq => ev_kI hq (fun v18 e9 hr => ?_))
                subst e9
                refine ev_st (st' := [.int v18]) rfl ?_
                refine ev_br (P := 0 ≤ v18) (L' := [(0, .ref c), (1, .int x1), (2, .int x2), (3, .int x3), (4, .int z4)]) (st' := []) hr rfl rfl rfl (fun hr => ?_) (fun hr => ?_)
                · skip
                  exact hr
                · skip
                  refine ev_seg 2 (k' := 63) (L' := [(0, .ref c), (1, .int x1), (2, .int x2), (3, .int x3), (4, .int z4)]) (st' := [.int 1]) rfl ?_
                  exact hr
set_option maxRecDepth 20000 in
theorem eMt_named_62 (d : Nat) (c : Nat) (x1 : Int32) (x2 : Int32) (x3 : Int32) (z4 : Int32) (s : aT) (hc : isT c) : ∀ r, (fMt_named_63 (d + 1) c x1 x2 x3 z4 0 s) = some r → fMt_named_62 (d + 1) c x1 x2 x3 z4 s = some r := by
  intro r hr
  show ev (d + 1) q_220 62 [(0, .ref c), (1, .int x1), (2, .int x2), (3, .int x3), (4, .int z4)] [] s = some r
  refine ev_seg 1 (k' := 63) (L' := [(0, .ref c), (1, .int x1), (2, .int x2), (3, .int x3), (4, .int z4)]) (st' := [.int 0]) rfl ?_
  exact hr
set_option maxRecDepth 20000 in
theorem eMt_named_63 (d : Nat) (c : Nat) (x1 : Int32) (x2 : Int32) (x3 : Int32) (z4 : Int32) (u0 : Int32) (s : aT) (hc : isT c) : ∀ r, (ldI 4200 s (c + 3) z4 (fun v1 => cG (fMt_need d c u0 9 v1 s) (kV fun s2 => cG (fMt_is d c x2 1057 s2) (kI fun v4 s3 => if v4 = 0 then cG (fMt_is d c x2 1058 s3) (kI fun v6 s5 => if v6 = 0 then fMt_named_88 (d + 1) c x1 x3 z4 11 s5 else fMt_named_88 (d + 1) c x1 x3 z4 10 s5) else fMt_named_88 (d + 1) c x1 x3 z4 9 s3)))) = some r → fMt_named_63 (d + 1) c x1 x2 x3 z4 u0 s = some r := by
  intro r hr
  show ev (d + 1) q_220 63 [(0, .ref c), (1, .int x1), (2, .int x2), (3, .int x3), (4, .int z4)] [.int u0] s = some r
  refine ev_seg 5 (k' := 68) (L' := [(5, .int u0), (0, .ref c), (1, .int x1), (2, .int x2), (3, .int x3), (4, .int z4)]) (st' := [.ref c, .int 9, .int u0, .ref c]) rfl ?_
  refine ev_getR (c := c) (v := c + 3) rfl (isT_sh hc) rfl (isT_r3 hc) ?_
  refine ev_seg 1 (k' := 70) (L' := [(5, .int u0), (0, .ref c), (1, .int x1), (2, .int x2), (3, .int x3), (4, .int z4)]) (st' := [.int z4, .ref (c + 3), .int 9, .int u0, .ref c]) rfl ?_
  refine ev_ldI hr rfl (isT_a3 hc) (fun v1 hr => ?_)
  refine ev_callV (q' := q_200) (x := 200) (y := 12) (c := c) (As := [.int u0, .int 9, .int v1]) (rest := []) hr rfl rfl rfl rfl rfl rfl (isT_sh hc) rfl rfl rfl rfl rfl (fun rv s2 hq => ev_kV hq (fun e9 hr => ?_))
  subst e9
  refine ev_st (st' := []) rfl ?_
  refine ev_seg 4 (k' := 76) (L' := [(5, .int u0), (0, .ref c), (1, .int x1), (2, .int x2), (3, .int x3), (4, .int z4)]) (st' := [.ref 1057, .int x2, .ref c, .ref c]) rfl ?_
  refine ev_callV (q' := q_213) (x := 213) (y := 12) (c := c) (As := [.int x2, .ref 1057]) (rest := [.ref c]) hr rfl rfl rfl rfl rfl rfl (isT_sh hc) rfl rfl rfl rfl rfl (fun rv s3 hq => ev_kI hq (fun v4 e9 hr => ?_))
  subst e9
  refine ev_st (st' := [.int v4, .ref c]) rfl ?_
  refine ev_br (P := v4 = 0) (L' := [(5, .int u0), (0, .ref c), (1, .int x1), (2, .int x2), (3, .int x3), (4, .int z4)]) (st' := [.ref c]) hr rfl rfl rfl (fun hr => ?_) (fun hr => ?_)
  · skip
    refine ev_seg 3 (k' := 83) (L' := [(5, .int u0), (0, .ref c), (1, .int x1), (2, .int x2), (3, .int x3), (4, .int z4)]) (st' := [.ref 1058, .int x2, .ref c, .ref c]) rfl ?_
    refine ev_callV (q' := q_213) (x := 213) (y := 12) (c := c) (As := [.int x2, .ref 1058]) (rest := [.ref c]) hr rfl rfl rfl rfl rfl rfl (isT_sh hc) rfl rfl rfl rfl rfl (fun rv s5 hq => ev_kI hq (fun v6 e9 hr => ?_))
    subst e9
    refine ev_st (st' := [.int v6, .ref c]) rfl ?_
    refine ev_br (P := v6 = 0) (L' := [(5, .int u0), (0, .ref c), (1, .int x1), (2, .int x2), (3, .int x3), (4, .int z4)]) (st' := [.ref c]) hr rfl rfl rfl (fun hr => ?_) (fun hr => ?_)
    · skip
      refine ev_seg 1 (k' := 88) (L' := [(5, .int u0), (0, .ref c), (1, .int x1), (2, .int x2), (3, .int x3), (4, .int z4)]) (st' := [.int 11, .ref c]) rfl ?_
      refine ev_join (L' := [(0, .ref c), (1, .int x1), (3, .int x3), (4, .int z4)]) [1, 2, 4, 5] [5, 0, 1, 2, 3, 4] [0, 1, 3, 4] rfl rfl (by decide) (by decide) rfl ?_
      exact hr
    · skip
      refine ev_seg 2 (k' := 88) (L' := [(5, .int u0), (0, .ref c), (1, .int x1), (2, .int x2), (3, .int x3), (4, .int z4)]) (st' := [.int 10, .ref c]) rfl ?_
      refine ev_join (L' := [(0, .ref c), (1, .int x1), (3, .int x3), (4, .int z4)]) [1, 2, 4, 5] [5, 0, 1, 2, 3, 4] [0, 1, 3, 4] rfl rfl (by decide) (by decide) rfl ?_
      exact hr
  · skip
    refine ev_seg 2 (k' := 88) (L' := [(5, .int u0), (0, .ref c), (1, .int x1), (2, .int x2), (3, .int x3), (4, .int z4)]) (st' := [.int 9, .ref c]) rfl ?_
    refine ev_join (L' := [(0, .ref c), (1, .int x1), (3, .int x3), (4, .int z4)]) [1, 2, 4, 5] [5, 0, 1, 2, 3, 4] [0, 1, 3, 4] rfl rfl (by decide) (by decide) rfl ?_
    exact hr
set_option maxRecDepth 20000 in
theorem eMt_named_88 (d : Nat) (c : Nat) (x1 : Int32) (x3 : Int32) (z4 : Int32) (u0 : Int32) (s : aT) (hc : isT c) : ∀ r, (cG (fMt_shape d c u0 s) (kI fun v2 s1 => stI 140 s1 (c + 10) v2 z4 (fun s3 => ldI 140 s3 (c + 9) v2 (fun v4 => if ¬ v4 = 9 then ldI 140 s3 (c + 9) v2 (fun v5 => if ¬ v5 = 10 then cG (fMt_fields d c v2 x1 x3 s3) (kV fun s6 => rI v2 s6) else cG (fMt_symbols d c v2 x1 s3) (kV fun s7 => rI v2 s7)) else cG (fMt_member d c x1 1061 s3) (kI fun v9 s8 => if v9 < 0 then fMt_named_112 (d + 1) c x1 v2 v9 0 s8 else fMt_named_112 (d + 1) c x1 v2 v9 1 s8))))) = some r → fMt_named_88 (d + 1) c x1 x3 z4 u0 s = some r := by
  intro r hr
  show ev (d + 1) q_220 88 [(0, .ref c), (1, .int x1), (3, .int x3), (4, .int z4)] [.int u0, .ref c] s = some r
  refine ev_callV (q' := q_216) (x := 216) (y := 12) (c := c) (As := [.int u0]) (rest := []) hr rfl rfl rfl rfl rfl rfl (isT_sh hc) rfl rfl rfl rfl rfl (fun rv s1 hq => ev_kI hq (fun v2 e9 hr => ?_))
  subst e9
  refine ev_st (st' := [.int v2]) rfl ?_
  refine ev_seg 2 (k' := 91) (L' := [(6, .int v2), (0, .ref c), (1, .int x1), (3, .int x3), (4, .int z4)]) (st' := [.ref c]) rfl ?_
  refine ev_getR (c := c) (v := c + 10) rfl (isT_sh hc) rfl (isT_r10 hc) ?_
  refine ev_seg 2 (k' := 94) (L' := [(6, .int v2), (0, .ref c), (1, .int x1), (3, .int x3), (4, .int z4)]) (st' := [.int z4, .int v2, .ref (c + 10)]) rfl ?_
  refine ev_stI hr rfl (isT_a10 hc) (fun s3 hr => ?_)
  refine ev_seg 1 (k' := 96) (L' := [(6, .int v2), (0, .ref c), (1, .int x1), (3, .int x3), (4, .int z4)]) (st' := [.ref c]) rfl ?_
  refine ev_getR (c := c) (v := c + 9) rfl (isT_sh hc) rfl (isT_r9 hc) ?_
  refine ev_seg 1 (k' := 98) (L' := [(6, .int v2), (0, .ref c), (1, .int x1), (3, .int x3), (4, .int z4)]) (st' := [.int v2, .ref (c + 9)]) rfl ?_
  refine ev_ldI hr rfl (isT_a9 hc) (fun v4 hr => ?_)
  refine ev_seg 1 (k' := 100) (L' := [(6, .int v2), (0, .ref c), (1, .int x1), (3, .int x3), (4, .int z4)]) (st' := [.int 9, .int v4]) rfl ?_
  refine ev_br (P := ¬ v4 = 9) (L' := [(6, .int v2), (0, .ref c), (1, .int x1), (3, .int x3), (4, .int z4)]) (st' := []) hr rfl rfl rfl (fun hr => ?_) (fun hr => ?_)
  · skip
    refine ev_seg 1 (k' := 159) (L' := [(6, .int v2), (0, .ref c), (1, .int x1), (3, .int x3), (4, .int z4)]) (st' := [.ref c]) rfl ?_
    refine ev_getR (c := c) (v := c + 9) rfl (isT_sh hc) rfl (isT_r9 hc) ?_
    refine ev_seg 1 (k' := 161) (L' := [(6, .int v2), (0, .ref c), (1, .int x1), (3, .int x3), (4, .int z4)]) (st' := [.int v2, .ref (c + 9)]) rfl ?_
    refine ev_ldI hr rfl (isT_a9 hc) (fun v5 hr => ?_)
    refine ev_seg 1 (k' := 163) (L' := [(6, .int v2), (0, .ref c), (1, .int x1), (3, .int x3), (4, .int z4)]) (st' := [.int 10, .int v5]) rfl ?_
    refine ev_br (P := ¬ v5 = 10) (L' := [(6, .int v2), (0, .ref c), (1, .int x1), (3, .int x3), (4, .int z4)]) (st' := []) hr rfl rfl rfl (fun hr => ?_) (fun hr => ?_)
    · skip
      refine ev_seg 4 (k' := 173) (L' := [(6, .int v2), (0, .ref c), (1, .int x1), (3, .int x3), (4, .int z4)]) (st' := [.int x3, .int x1, .int v2, .ref c]) rfl ?_
      refine ev_callV (q' := q_224) (x := 224) (y := 12) (c := c) (As := [.int v2, .int x1, .int x3]) (rest := []) hr rfl rfl rfl rfl rfl rfl (isT_sh hc) rfl rfl rfl rfl rfl (fun rv s6 hq => ev_kV hq (fun e9 hr => ?_))
      subst e9
      refine ev_st (st' := []) rfl ?_
      refine ev_seg 1 (k' := 175) (L' := [(6, .int v2), (0, .ref c), (1, .int x1), (3, .int x3), (4, .int z4)]) (st' := [.int v2]) rfl ?_
      exact ev_iret hr rfl rfl rfl
    · skip
      refine ev_seg 3 (k' := 167) (L' := [(6, .int v2), (0, .ref c), (1, .int x1), (3, .int x3), (4, .int z4)]) (st' := [.int x1, .int v2, .ref c]) rfl ?_
      refine ev_callV (q' := q_222) (x := 222) (y := 12) (c := c) (As := [.int v2, .int x1]) (rest := []) hr rfl rfl rfl rfl rfl rfl (isT_sh hc) rfl rfl rfl rfl rfl (fun rv s7 hq => ev_kV hq (fun e9 hr => ?_))
      subst e9
      refine ev_st (st' := []) rfl ?_
      refine ev_seg 2 (k' := 175) (L' := [(6, .int v2), (0, .ref c), (1, .int x1), (3, .int x3), (4, .int z4)]) (st' := [.int v2]) rfl ?_
      exact ev_iret hr rfl rfl rfl
  · skip
    refine ev_seg 3 (k' := 104) (L' := [(6, .int v2), (0, .ref c), (1, .int x1), (3, .int x3), (4, .int z4)]) (st' := [.ref 1061, .int x1, .ref c]) rfl ?_
    refine ev_callV (q' := q_219) (x := 219) (y := 12) (c := c) (As := [.int x1, .ref 1061]) (rest := []) hr rfl rfl rfl rfl rfl rfl (isT_sh hc) rfl rfl rfl rfl rfl (fun rv s8 hq => ev_kI hq (fun v9 e9 hr => ?_))
    subst e9
    refine ev_st (st' := [.int v9]) rfl ?_
    refine ev_seg 3 (k' := 108) (L' := [(7, .int v9), (6, .int v2), (0, .ref c), (1, .int x1), (3, .int x3), (4, .int z4)]) (st' := [.int v9, .ref c]) rfl ?_
    refine ev_br (P := v9 < 0) (L' := [(7, .int v9), (6, .int v2), (0, .ref c), (1, .int x1), (3, .int x3), (4, .int z4)]) (st' := [.ref c]) hr rfl rfl rfl (fun hr => ?_) (fun hr => ?_)
    · skip
      refine ev_seg 1 (k' := 112) (L' := [(7, .int v9), (6, .int v2), (0, .ref c), (1, .int x1), (3, .int x3), (4, .int z4)]) (st' := [.int 0, .ref c]) rfl ?_
      refine ev_join (L' := [(0, .ref c), (1, .int x1), (6, .int v2), (7, .int v9)]) [2, 3, 1, 0] [7, 6, 0, 1, 3, 4] [0, 1, 6, 7] rfl rfl (by decide) (by decide) rfl ?_
      exact hr
    · skip
      refine ev_seg 2 (k' := 112) (L' := [(7, .int v9), (6, .int v2), (0, .ref c), (1, .int x1), (3, .int x3), (4, .int z4)]) (st' := [.int 1, .ref c]) rfl ?_
      refine ev_join (L' := [(0, .ref c), (1, .int x1), (6, .int v2), (7, .int v9)]) [2, 3, 1, 0] [7, 6, 0, 1, 3, 4] [0, 1, 6, 7] rfl rfl (by decide) (by decide) rfl ?_
      exact hr
set_option maxRecDepth 20000 in
theorem eMt_named_112 (d : Nat) (c : Nat) (x1 : Int32) (z6 : Int32) (z7 : Int32) (u0 : Int32) (s : aT) (hc : isT c) : ∀ r, (ldI 4200 s (c + 3) x1 (fun v1 => cG (fMt_need d c u0 8 v1 s) (kV fun s2 => ldI 4200 s2 (c + 2) z7 (fun v3 => if ¬ v3 = 3 then fMt_named_141 (d + 1) c z6 z7 s2 else ldL 4200 s2 (c + 4) z7 (fun v4 => if aLcmp v4 0 < 0 then fMt_named_141 (d + 1) c z6 z7 s2 else ldL 4200 s2 (c + 4) z7 (fun v5 => if 0 < aLcmp v5 64 then fMt_named_141 (d + 1) c z6 z7 s2 else fMt_named_142 (d + 1) c z6 z7 1 s2)))))) = some r → fMt_named_112 (d + 1) c x1 z6 z7 u0 s = some r := by
  intro r hr
  show ev (d + 1) q_220 112 [(0, .ref c), (1, .int x1), (6, .int z6), (7, .int z7)] [.int u0, .ref c] s = some r
  refine ev_seg 2 (k' := 114) (L' := [(0, .ref c), (1, .int x1), (6, .int z6), (7, .int z7)]) (st' := [.ref c, .int 8, .int u0, .ref c]) rfl ?_
  refine ev_getR (c := c) (v := c + 3) rfl (isT_sh hc) rfl (isT_r3 hc) ?_
  refine ev_seg 1 (k' := 116) (L' := [(0, .ref c), (1, .int x1), (6, .int z6), (7, .int z7)]) (st' := [.int x1, .ref (c + 3), .int 8, .int u0, .ref c]) rfl ?_
  refine ev_ldI hr rfl (isT_a3 hc) (fun v1 hr => ?_)
  refine ev_callV (q' := q_200) (x := 200) (y := 12) (c := c) (As := [.int u0, .int 8, .int v1]) (rest := []) hr rfl rfl rfl rfl rfl rfl (isT_sh hc) rfl rfl rfl rfl rfl (fun rv s2 hq => ev_kV hq (fun e9 hr => ?_))
  subst e9
  refine ev_st (st' := []) rfl ?_
  refine ev_seg 2 (k' := 120) (L' := [(0, .ref c), (1, .int x1), (6, .int z6), (7, .int z7)]) (st' := [.ref c, .ref c]) rfl ?_
  refine ev_getR (c := c) (v := c + 2) rfl (isT_sh hc) rfl (isT_r2 hc) ?_
  refine ev_seg 1 (k' := 122) (L' := [(0, .ref c), (1, .int x1), (6, .int z6), (7, .int z7)]) (st' := [.int z7, .ref (c + 2), .ref c]) rfl ?_
  refine ev_ldI hr rfl (isT_a2 hc) (fun v3 hr => ?_)
  refine ev_seg 1 (k' := 124) (L' := [(0, .ref c), (1, .int x1), (6, .int z6), (7, .int z7)]) (st' := [.int 3, .int v3, .ref c]) rfl ?_
  refine ev_br (P := ¬ v3 = 3) (L' := [(0, .ref c), (1, .int x1), (6, .int z6), (7, .int z7)]) (st' := [.ref c]) hr rfl rfl rfl (fun hr => ?_) (fun hr => ?_)
  · skip
    refine ev_join (L' := [(0, .ref c), (6, .int z6), (7, .int z7)]) [0, 2, 3] [0, 1, 6, 7] [0, 6, 7] rfl rfl (by decide) (by decide) rfl ?_
    exact hr
  · skip
    refine ev_seg 1 (k' := 126) (L' := [(0, .ref c), (1, .int x1), (6, .int z6), (7, .int z7)]) (st' := [.ref c, .ref c]) rfl ?_
    refine ev_getR (c := c) (v := c + 4) rfl (isT_sh hc) rfl (isT_r4 hc) ?_
    refine ev_seg 1 (k' := 128) (L' := [(0, .ref c), (1, .int x1), (6, .int z6), (7, .int z7)]) (st' := [.int z7, .ref (c + 4), .ref c]) rfl ?_
    refine ev_ldL hr rfl (isT_a4 hc) (fun v4 hr => ?_)
    refine ev_seg 2 (k' := 131) (L' := [(0, .ref c), (1, .int x1), (6, .int z6), (7, .int z7)]) (st' := [.int (aLcmp v4 0), .ref c]) rfl ?_
    refine ev_br (P := aLcmp v4 0 < 0) (L' := [(0, .ref c), (1, .int x1), (6, .int z6), (7, .int z7)]) (st' := [.ref c]) hr rfl rfl rfl (fun hr => ?_) (fun hr => ?_)
    · skip
      refine ev_join (L' := [(0, .ref c), (6, .int z6), (7, .int z7)]) [0, 2, 3] [0, 1, 6, 7] [0, 6, 7] rfl rfl (by decide) (by decide) rfl ?_
      exact hr
    · skip
      refine ev_seg 1 (k' := 133) (L' := [(0, .ref c), (1, .int x1), (6, .int z6), (7, .int z7)]) (st' := [.ref c, .ref c]) rfl ?_
      refine ev_getR (c := c) (v := c + 4) rfl (isT_sh hc) rfl (isT_r4 hc) ?_
      refine ev_seg 1 (k' := 135) (L' := [(0, .ref c), (1, .int x1), (6, .int z6), (7, .int z7)]) (st' := [.int z7, .ref (c + 4), .ref c]) rfl ?_
      refine ev_ldL hr rfl (isT_a4 hc) (fun v5 hr => ?_)
      refine ev_seg 2 (k' := 138) (L' := [(0, .ref c), (1, .int x1), (6, .int z6), (7, .int z7)]) (st' := [.int (aLcmp v5 64), .ref c]) rfl ?_
      refine ev_br (P := 0 < aLcmp v5 64) (L' := [(0, .ref c), (1, .int x1), (6, .int z6), (7, .int z7)]) (st' := [.ref c]) hr rfl rfl rfl (fun hr => ?_) (fun hr => ?_)
      · skip
        refine ev_join (L' := [(0, .ref c), (6, .int z6), (7, .int z7)]) [0, 2, 3] [0, 1, 6, 7] [0, 6, 7] rfl rfl (by decide) (by decide) rfl ?_
        exact hr
      · skip
        refine ev_seg 2 (k' := 142) (L' := [(0, .ref c), (1, .int x1), (6, .int z6), (7, .int z7)]) (st' := [.int 1, .ref c]) rfl ?_
        refine ev_join (L' := [(0, .ref c), (6, .int z6), (7, .int z7)]) [0, 2, 3] [0, 1, 6, 7] [0, 6, 7] rfl rfl (by decide) (by decide) rfl ?_
        exact hr
set_option maxRecDepth 20000 in
theorem eMt_named_141 (d : Nat) (c : Nat) (z6 : Int32) (z7 : Int32) (s : aT) (hc : isT c) : ∀ r, (fMt_named_142 (d + 1) c z6 z7 0 s) = some r → fMt_named_141 (d + 1) c z6 z7 s = some r := by
  intro r hr
  show ev (d + 1) q_220 141 [(0, .ref c), (6, .int z6), (7, .int z7)] [.ref c] s = some r
  refine ev_seg 1 (k' := 142) (L' := [(0, .ref c), (6, .int z6), (7, .int z7)]) (st' := [.int 0, .ref c]) rfl ?_
  exact hr
set_option maxRecDepth 20000 in
theorem eMt_named_142 (d : Nat) (c : Nat) (z6 : Int32) (z7 : Int32) (u0 : Int32) (s : aT) (hc : isT c) : ∀ r, (ldI 4200 s (c + 3) z7 (fun v1 => cG (fMt_need d c u0 10 v1 s) (kV fun s2 => ldL 4200 s2 (c + 4) z7 (fun v3 => stI 140 s2 (c + 11) z6 v3.toInt32 (fun s4 => rI z6 s4))))) = some r → fMt_named_142 (d + 1) c z6 z7 u0 s = some r := by
  intro r hr
  show ev (d + 1) q_220 142 [(0, .ref c), (6, .int z6), (7, .int z7)] [.int u0, .ref c] s = some r
  refine ev_seg 2 (k' := 144) (L' := [(0, .ref c), (6, .int z6), (7, .int z7)]) (st' := [.ref c, .int 10, .int u0, .ref c]) rfl ?_
  refine ev_getR (c := c) (v := c + 3) rfl (isT_sh hc) rfl (isT_r3 hc) ?_
  refine ev_seg 1 (k' := 146) (L' := [(0, .ref c), (6, .int z6), (7, .int z7)]) (st' := [.int z7, .ref (c + 3), .int 10, .int u0, .ref c]) rfl ?_
  refine ev_ldI hr rfl (isT_a3 hc) (fun v1 hr => ?_)
  refine ev_callV (q' := q_200) (x := 200) (y := 12) (c := c) (As := [.int u0, .int 10, .int v1]) (rest := []) hr rfl rfl rfl rfl rfl rfl (isT_sh hc) rfl rfl rfl rfl rfl (fun rv s2 hq => ev_kV hq (fun e9 hr => ?_))
  subst e9
  refine ev_st (st' := []) rfl ?_
  refine ev_seg 1 (k' := 149) (L' := [(0, .ref c), (6, .int z6), (7, .int z7)]) (st' := [.ref c]) rfl ?_
  refine ev_getR (c := c) (v := c + 11) rfl (isT_sh hc) rfl (isT_r11 hc) ?_
  refine ev_seg 2 (k' := 152) (L' := [(0, .ref c), (6, .int z6), (7, .int z7)]) (st' := [.ref c, .int z6, .ref (c + 11)]) rfl ?_
  refine ev_getR (c := c) (v := c + 4) rfl (isT_sh hc) rfl (isT_r4 hc) ?_
  refine ev_seg 1 (k' := 154) (L' := [(0, .ref c), (6, .int z6), (7, .int z7)]) (st' := [.int z7, .ref (c + 4), .int z6, .ref (c + 11)]) rfl ?_
  refine ev_ldL hr rfl (isT_a4 hc) (fun v3 hr => ?_)
  refine ev_seg 1 (k' := 156) (L' := [(0, .ref c), (6, .int z6), (7, .int z7)]) (st' := [.int v3.toInt32, .int z6, .ref (c + 11)]) rfl ?_
  refine ev_stI hr rfl (isT_a11 hc) (fun s4 hr => ?_)
  refine ev_seg 2 (k' := 175) (L' := [(0, .ref c), (6, .int z6), (7, .int z7)]) (st' := [.int z6]) rfl ?_
  exact ev_iret hr rfl rfl rfl
set_option maxRecDepth 20000 in
theorem eMt_isName (d : Nat) (c : Nat) (x1 : Int32) (s : aT) (hc : isT c) : ∀ r, (ldI 4200 s (c + 2) x1 (fun v1 => if ¬ v1 = 2 then fMt_isName_19 d c x1 s else ldI 4200 s (c + 5) x1 (fun v2 => if v2 ≤ 0 then fMt_isName_19 d c x1 s else ldI 4200 s (c + 5) x1 (fun v3 => if 33 ≤ v3 then fMt_isName_19 d c x1 s else fMt_isName_20 d c x1 1 s)))) = some r → fMt_isName d c x1 s = some r := by
  intro r hr
  show ev d q_221 0 [(0, .ref c), (1, .int x1)] [] s = some r
  refine ev_seg 1 (k' := 1) (L' := [(0, .ref c), (1, .int x1)]) (st' := [.ref c]) rfl ?_
  refine ev_getR (c := c) (v := c + 2) rfl (isT_sh hc) rfl (isT_r2 hc) ?_
  refine ev_seg 1 (k' := 3) (L' := [(0, .ref c), (1, .int x1)]) (st' := [.int x1, .ref (c + 2)]) rfl ?_
  refine ev_ldI hr rfl (isT_a2 hc) (fun v1 hr => ?_)
  refine ev_seg 1 (k' := 5) (L' := [(0, .ref c), (1, .int x1)]) (st' := [.int 2, .int v1]) rfl ?_
  refine ev_br (P := ¬ v1 = 2) (L' := [(0, .ref c), (1, .int x1)]) (st' := []) hr rfl rfl rfl (fun hr => ?_) (fun hr => ?_)
  · skip
    exact hr
  · skip
    refine ev_seg 1 (k' := 7) (L' := [(0, .ref c), (1, .int x1)]) (st' := [.ref c]) rfl ?_
    refine ev_getR (c := c) (v := c + 5) rfl (isT_sh hc) rfl (isT_r5 hc) ?_
    refine ev_seg 1 (k' := 9) (L' := [(0, .ref c), (1, .int x1)]) (st' := [.int x1, .ref (c + 5)]) rfl ?_
    refine ev_ldI hr rfl (isT_a5 hc) (fun v2 hr => ?_)
    refine ev_br (P := v2 ≤ 0) (L' := [(0, .ref c), (1, .int x1)]) (st' := []) hr rfl rfl rfl (fun hr => ?_) (fun hr => ?_)
    · skip
      exact hr
    · skip
      refine ev_seg 1 (k' := 12) (L' := [(0, .ref c), (1, .int x1)]) (st' := [.ref c]) rfl ?_
      refine ev_getR (c := c) (v := c + 5) rfl (isT_sh hc) rfl (isT_r5 hc) ?_
      refine ev_seg 1 (k' := 14) (L' := [(0, .ref c), (1, .int x1)]) (st' := [.int x1, .ref (c + 5)]) rfl ?_
      refine ev_ldI hr rfl (isT_a5 hc) (fun v3 hr => ?_)
      refine ev_seg 1 (k' := 16) (L' := [(0, .ref c), (1, .int x1)]) (st' := [.int 33, .int v3]) rfl ?_
      refine ev_br (P := 33 ≤ v3) (L' := [(0, .ref c), (1, .int x1)]) (st' := []) hr rfl rfl rfl (fun hr => ?_) (fun hr => ?_)
      · skip
        exact hr
      · skip
        refine ev_seg 2 (k' := 20) (L' := [(0, .ref c), (1, .int x1)]) (st' := [.int 1]) rfl ?_
        exact hr
set_option maxRecDepth 20000 in
theorem eMt_isName_19 (d : Nat) (c : Nat) (x1 : Int32) (s : aT) (hc : isT c) : ∀ r, (fMt_isName_20 d c x1 0 s) = some r → fMt_isName_19 d c x1 s = some r := by
  intro r hr
  show ev d q_221 19 [(0, .ref c), (1, .int x1)] [] s = some r
  refine ev_seg 1 (k' := 20) (L' := [(0, .ref c), (1, .int x1)]) (st' := [.int 0]) rfl ?_
  exact hr
set_option maxRecDepth 20000 in
theorem eMt_isName_20 (d : Nat) (c : Nat) (x1 : Int32) (u0 : Int32) (s : aT) (hc : isT c) : ∀ r, (fMt_isName_23 d c x1 u0 0 s) = some r → fMt_isName_20 d c x1 u0 s = some r := by
  intro r hr
  show ev d q_221 20 [(0, .ref c), (1, .int x1)] [.int u0] s = some r
  refine ev_seg 3 (k' := 23) (L' := [(3, .int 0), (2, .int u0), (0, .ref c), (1, .int x1)]) (st' := []) rfl ?_
  refine ev_join (L' := [(0, .ref c), (1, .int x1), (2, .int u0), (3, .int 0)]) [2, 3, 1, 0] [3, 2, 0, 1] [0, 1, 2, 3] rfl rfl (by decide) (by decide) rfl ?_
  exact hr
set_option maxRecDepth 20000 in
theorem eMt_isName_23 (d : Nat) (c : Nat) (x1 : Int32) (z2 : Int32) (z3 : Int32) (s : aT) (hc : isT c) : ∀ r, (ldI 4200 s (c + 5) x1 (fun v1 => if v1 ≤ z3 then rZ z2 s else if z2 = 0 then rZ z2 s else ldL 4200 s (c + 4) x1 (fun v2 => ldI 4200 s (c + 8) (v2.toInt32 + z3) (fun v3 => if v3 < 48 then fMt_isName_50 d c x1 z3 v3 s else if 57 < v3 then fMt_isName_50 d c x1 z3 v3 s else fMt_isName_51 d c x1 z3 v3 1 s)))) = some r → fMt_isName_23 d c x1 z2 z3 s = some r := by
  intro r hr
  show ev d q_221 23 [(0, .ref c), (1, .int x1), (2, .int z2), (3, .int z3)] [] s = some r
  refine ev_seg 2 (k' := 25) (L' := [(0, .ref c), (1, .int x1), (2, .int z2), (3, .int z3)]) (st' := [.ref c, .int z3]) rfl ?_
  refine ev_getR (c := c) (v := c + 5) rfl (isT_sh hc) rfl (isT_r5 hc) ?_
  refine ev_seg 1 (k' := 27) (L' := [(0, .ref c), (1, .int x1), (2, .int z2), (3, .int z3)]) (st' := [.int x1, .ref (c + 5), .int z3]) rfl ?_
  refine ev_ldI hr rfl (isT_a5 hc) (fun v1 hr => ?_)
  refine ev_br (P := v1 ≤ z3) (L' := [(0, .ref c), (1, .int x1), (2, .int z2), (3, .int z3)]) (st' := []) hr rfl rfl rfl (fun hr => ?_) (fun hr => ?_)
  · skip
    refine ev_seg 1 (k' := 78) (L' := [(0, .ref c), (1, .int x1), (2, .int z2), (3, .int z3)]) (st' := [.int z2]) rfl ?_
    exact ev_zret hr rfl rfl
  · skip
    refine ev_seg 1 (k' := 30) (L' := [(0, .ref c), (1, .int x1), (2, .int z2), (3, .int z3)]) (st' := [.int z2]) rfl ?_
    refine ev_br (P := z2 = 0) (L' := [(0, .ref c), (1, .int x1), (2, .int z2), (3, .int z3)]) (st' := []) hr rfl rfl rfl (fun hr => ?_) (fun hr => ?_)
    · skip
      refine ev_seg 1 (k' := 78) (L' := [(0, .ref c), (1, .int x1), (2, .int z2), (3, .int z3)]) (st' := [.int z2]) rfl ?_
      exact ev_zret hr rfl rfl
    · skip
      refine ev_seg 1 (k' := 32) (L' := [(0, .ref c), (1, .int x1), (2, .int z2), (3, .int z3)]) (st' := [.ref c]) rfl ?_
      refine ev_getR (c := c) (v := c + 8) rfl (isT_sh hc) rfl (isT_r8 hc) ?_
      refine ev_seg 1 (k' := 34) (L' := [(0, .ref c), (1, .int x1), (2, .int z2), (3, .int z3)]) (st' := [.ref c, .ref (c + 8)]) rfl ?_
      refine ev_getR (c := c) (v := c + 4) rfl (isT_sh hc) rfl (isT_r4 hc) ?_
      refine ev_seg 1 (k' := 36) (L' := [(0, .ref c), (1, .int x1), (2, .int z2), (3, .int z3)]) (st' := [.int x1, .ref (c + 4), .ref (c + 8)]) rfl ?_
      refine ev_ldL hr rfl (isT_a4 hc) (fun v2 hr => ?_)
      refine ev_seg 3 (k' := 40) (L' := [(0, .ref c), (1, .int x1), (2, .int z2), (3, .int z3)]) (st' := [.int (v2.toInt32 + z3), .ref (c + 8)]) rfl ?_
      refine ev_ldB hr rfl (isT_a8 hc) (fun v3 hr => ?_)
      refine ev_seg 3 (k' := 44) (L' := [(4, .int v3), (0, .ref c), (1, .int x1), (2, .int z2), (3, .int z3)]) (st' := [.int 48, .int v3]) rfl ?_
      refine ev_br (P := v3 < 48) (L' := [(4, .int v3), (0, .ref c), (1, .int x1), (2, .int z2), (3, .int z3)]) (st' := []) hr rfl rfl rfl (fun hr => ?_) (fun hr => ?_)
      · skip
        refine ev_join (L' := [(0, .ref c), (1, .int x1), (3, .int z3), (4, .int v3)]) [1, 2, 4, 0] [4, 0, 1, 2, 3] [0, 1, 3, 4] rfl rfl (by decide) (by decide) rfl ?_
        exact hr
      · skip
        refine ev_seg 2 (k' := 47) (L' := [(4, .int v3), (0, .ref c), (1, .int x1), (2, .int z2), (3, .int z3)]) (st' := [.int 57, .int v3]) rfl ?_
        refine ev_br (P := 57 < v3) (L' := [(4, .int v3), (0, .ref c), (1, .int x1), (2, .int z2), (3, .int z3)]) (st' := []) hr rfl rfl rfl (fun hr => ?_) (fun hr => ?_)
        · skip
          refine ev_join (L' := [(0, .ref c), (1, .int x1), (3, .int z3), (4, .int v3)]) [1, 2, 4, 0] [4, 0, 1, 2, 3] [0, 1, 3, 4] rfl rfl (by decide) (by decide) rfl ?_
          exact hr
        · skip
          refine ev_seg 2 (k' := 51) (L' := [(4, .int v3), (0, .ref c), (1, .int x1), (2, .int z2), (3, .int z3)]) (st' := [.int 1]) rfl ?_
          refine ev_join (L' := [(0, .ref c), (1, .int x1), (3, .int z3), (4, .int v3)]) [1, 2, 4, 0] [4, 0, 1, 2, 3] [0, 1, 3, 4] rfl rfl (by decide) (by decide) rfl ?_
          exact hr
set_option maxRecDepth 20000 in
theorem eMt_isName_50 (d : Nat) (c : Nat) (x1 : Int32) (z3 : Int32) (z4 : Int32) (s : aT) (hc : isT c) : ∀ r, (fMt_isName_51 d c x1 z3 z4 0 s) = some r → fMt_isName_50 d c x1 z3 z4 s = some r := by
  intro r hr
  show ev d q_221 50 [(0, .ref c), (1, .int x1), (3, .int z3), (4, .int z4)] [] s = some r
  refine ev_seg 1 (k' := 51) (L' := [(0, .ref c), (1, .int x1), (3, .int z3), (4, .int z4)]) (st' := [.int 0]) rfl ?_
  exact hr
