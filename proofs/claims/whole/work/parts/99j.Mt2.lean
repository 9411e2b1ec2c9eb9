/-! RecordLakeModel$Text: what its pieces do -/
set_option maxRecDepth 20000 in
theorem eMt_isName_51 (d : Nat) (c : Nat) (x1 : Int32) (z3 : Int32) (z4 : Int32) (u0 : Int32) (s : aT) (hc : isT c) : ∀ r, (if z4 < 97 then fMt_isName_58 d c x1 z3 z4 u0 s else if z4 ≤ 122 then fMt_isName_71 d c x1 z3 s else fMt_isName_58 d c x1 z3 z4 u0 s) = some r → fMt_isName_51 d c x1 z3 z4 u0 s = some r := by
  intro r hr
  show ev d q_221 51 [(0, .ref c), (1, .int x1), (3, .int z3), (4, .int z4)] [.int u0] s = some r
  refine ev_seg 3 (k' := 54) (L' := [(5, .int u0), (0, .ref c), (1, .int x1), (3, .int z3), (4, .int z4)]) (st' := [.int 97, .int z4]) rfl ?_
  refine ev_br (P := z4 < 97) (L' := [(5, .int u0), (0, .ref c), (1, .int x1), (3, .int z3), (4, .int z4)]) (st' := []) hr rfl rfl rfl (fun hr => ?_) (fun hr => ?_)
  · skip
    refine ev_join (L' := [(0, .ref c), (1, .int x1), (3, .int z3), (4, .int z4), (5, .int u0)]) [1, 2, 3, 4, 0] [5, 0, 1, 3, 4] [0, 1, 3, 4, 5] rfl rfl (by decide) (by decide) rfl ?_
    exact hr
  · skip
    refine ev_seg 2 (k' := 57) (L' := [(5, .int u0), (0, .ref c), (1, .int x1), (3, .int z3), (4, .int z4)]) (st' := [.int 122, .int z4]) rfl ?_
    refine ev_br (P := z4 ≤ 122) (L' := [(5, .int u0), (0, .ref c), (1, .int x1), (3, .int z3), (4, .int z4)]) (st' := []) hr rfl rfl rfl (fun hr => ?_) (fun hr => ?_)
    · skip
      refine ev_join (L' := [(0, .ref c), (1, .int x1), (3, .int z3)]) [1, 2, 3] [5, 0, 1, 3, 4] [0, 1, 3] rfl rfl (by decide) (by decide) rfl ?_
      exact hr
    · skip
      refine ev_join (L' := [(0, .ref c), (1, .int x1), (3, .int z3), (4, .int z4), (5, .int u0)]) [1, 2, 3, 4, 0] [5, 0, 1, 3, 4] [0, 1, 3, 4, 5] rfl rfl (by decide) (by decide) rfl ?_
      exact hr
set_option maxRecDepth 20000 in
theorem eMt_isName_58 (d : Nat) (c : Nat) (x1 : Int32) (z3 : Int32) (z4 : Int32) (z5 : Int32) (s : aT) (hc : isT c) : ∀ r, (if z4 < 65 then fMt_isName_64 d c x1 z3 z4 z5 s else if z4 ≤ 90 then fMt_isName_71 d c x1 z3 s else fMt_isName_64 d c x1 z3 z4 z5 s) = some r → fMt_isName_58 d c x1 z3 z4 z5 s = some r := by
  intro r hr
  show ev d q_221 58 [(0, .ref c), (1, .int x1), (3, .int z3), (4, .int z4), (5, .int z5)] [] s = some r
  refine ev_seg 2 (k' := 60) (L' := [(0, .ref c), (1, .int x1), (3, .int z3), (4, .int z4), (5, .int z5)]) (st' := [.int 65, .int z4]) rfl ?_
  refine ev_br (P := z4 < 65) (L' := [(0, .ref c), (1, .int x1), (3, .int z3), (4, .int z4), (5, .int z5)]) (st' := []) hr rfl rfl rfl (fun hr => ?_) (fun hr => ?_)
  · skip
    exact hr
  · skip
    refine ev_seg 2 (k' := 63) (L' := [(0, .ref c), (1, .int x1), (3, .int z3), (4, .int z4), (5, .int z5)]) (st' := [.int 90, .int z4]) rfl ?_
    refine ev_br (P := z4 ≤ 90) (L' := [(0, .ref c), (1, .int x1), (3, .int z3), (4, .int z4), (5, .int z5)]) (st' := []) hr rfl rfl rfl (fun hr => ?_) (fun hr => ?_)
    · skip
      refine ev_join (L' := [(0, .ref c), (1, .int x1), (3, .int z3)]) [0, 1, 2] [0, 1, 3, 4, 5] [0, 1, 3] rfl rfl (by decide) (by decide) rfl ?_
      exact hr
    · skip
      exact hr
set_option maxRecDepth 20000 in
theorem eMt_isName_71 (d : Nat) (c : Nat) (x1 : Int32) (z3 : Int32) (s : aT) (hc : isT c) : ∀ r, (fMt_isName_74 d c x1 z3 1 s) = some r → fMt_isName_71 d c x1 z3 s = some r := by
  intro r hr
  show ev d q_221 71 [(0, .ref c), (1, .int x1), (3, .int z3)] [] s = some r
  refine ev_seg 2 (k' := 74) (L' := [(0, .ref c), (1, .int x1), (3, .int z3)]) (st' := [.int 1]) rfl ?_
  exact hr
set_option maxRecDepth 20000 in
theorem eMt_isName_64 (d : Nat) (c : Nat) (x1 : Int32) (z3 : Int32) (z4 : Int32) (z5 : Int32) (s : aT) (hc : isT c) : ∀ r, (if z4 = 95 then fMt_isName_71 d c x1 z3 s else if z5 = 0 then fMt_isName_73 d c x1 z3 s else if z3 ≤ 0 then fMt_isName_73 d c x1 z3 s else fMt_isName_71 d c x1 z3 s) = some r → fMt_isName_64 d c x1 z3 z4 z5 s = some r := by
  intro r hr
  show ev d q_221 64 [(0, .ref c), (1, .int x1), (3, .int z3), (4, .int z4), (5, .int z5)] [] s = some r
  refine ev_seg 2 (k' := 66) (L' := [(0, .ref c), (1, .int x1), (3, .int z3), (4, .int z4), (5, .int z5)]) (st' := [.int 95, .int z4]) rfl ?_
  refine ev_br (P := z4 = 95) (L' := [(0, .ref c), (1, .int x1), (3, .int z3), (4, .int z4), (5, .int z5)]) (st' := []) hr rfl rfl rfl (fun hr => ?_) (fun hr => ?_)
  · skip
    refine ev_join (L' := [(0, .ref c), (1, .int x1), (3, .int z3)]) [0, 1, 2] [0, 1, 3, 4, 5] [0, 1, 3] rfl rfl (by decide) (by decide) rfl ?_
    exact hr
  · skip
    refine ev_seg 1 (k' := 68) (L' := [(0, .ref c), (1, .int x1), (3, .int z3), (4, .int z4), (5, .int z5)]) (st' := [.int z5]) rfl ?_
    refine ev_br (P := z5 = 0) (L' := [(0, .ref c), (1, .int x1), (3, .int z3), (4, .int z4), (5, .int z5)]) (st' := []) hr rfl rfl rfl (fun hr => ?_) (fun hr => ?_)
    · skip
      refine ev_join (L' := [(0, .ref c), (1, .int x1), (3, .int z3)]) [0, 1, 2] [0, 1, 3, 4, 5] [0, 1, 3] rfl rfl (by decide) (by decide) rfl ?_
      exact hr
    · skip
      refine ev_seg 1 (k' := 70) (L' := [(0, .ref c), (1, .int x1), (3, .int z3), (4, .int z4), (5, .int z5)]) (st' := [.int z3]) rfl ?_
      refine ev_br (P := z3 ≤ 0) (L' := [(0, .ref c), (1, .int x1), (3, .int z3), (4, .int z4), (5, .int z5)]) (st' := []) hr rfl rfl rfl (fun hr => ?_) (fun hr => ?_)
      · skip
        refine ev_join (L' := [(0, .ref c), (1, .int x1), (3, .int z3)]) [0, 1, 2] [0, 1, 3, 4, 5] [0, 1, 3] rfl rfl (by decide) (by decide) rfl ?_
        exact hr
      · skip
        refine ev_join (L' := [(0, .ref c), (1, .int x1), (3, .int z3)]) [0, 1, 2] [0, 1, 3, 4, 5] [0, 1, 3] rfl rfl (by decide) (by decide) rfl ?_
        exact hr
set_option maxRecDepth 20000 in
theorem eMt_isName_74 (d : Nat) (c : Nat) (x1 : Int32) (z3 : Int32) (u0 : Int32) (s : aT) (hc : isT c) : ∀ r, (fMt_isName_23 d c x1 u0 (z3 + 1) s) = some r → fMt_isName_74 d c x1 z3 u0 s = some r := by
  intro r hr
  show ev d q_221 74 [(0, .ref c), (1, .int x1), (3, .int z3)] [.int u0] s = some r
  refine ev_seg 3 (k' := 23) (L' := [(3, .int (z3 + 1)), (2, .int u0), (0, .ref c), (1, .int x1)]) (st' := []) rfl ?_
  refine ev_join (L' := [(0, .ref c), (1, .int x1), (2, .int u0), (3, .int (z3 + 1))]) [2, 3, 1, 0] [3, 2, 0, 1] [0, 1, 2, 3] rfl rfl (by decide) (by decide) rfl ?_
  exact hr
set_option maxRecDepth 20000 in
theorem eMt_isName_73 (d : Nat) (c : Nat) (x1 : Int32) (z3 : Int32) (s : aT) (hc : isT c) : ∀ r, (fMt_isName_74 d c x1 z3 0 s) = some r → fMt_isName_73 d c x1 z3 s = some r := by
  intro r hr
  show ev d q_221 73 [(0, .ref c), (1, .int x1), (3, .int z3)] [] s = some r
  refine ev_seg 1 (k' := 74) (L' := [(0, .ref c), (1, .int x1), (3, .int z3)]) (st' := [.int 0]) rfl ?_
  exact hr
set_option maxRecDepth 20000 in
theorem eMt_symbols (d : Nat) (c : Nat) (x1 : Int32) (x2 : Int32) (s : aT) (hc : isT c) : ∀ r, (cG (fMt_member d c x2 1062 s) (kI fun v2 s1 => if v2 < 0 then fMt_symbols_11 (d + 1) c x1 x2 v2 0 s1 else fMt_symbols_11 (d + 1) c x1 x2 v2 1 s1)) = some r → fMt_symbols (d + 1) c x1 x2 s = some r := by
  intro r hr
  show ev (d + 1) q_222 0 [(0, .ref c), (1, .int x1), (2, .int x2)] [] s = some r
  refine ev_seg 3 (k' := 3) (L' := [(0, .ref c), (1, .int x1), (2, .int x2)]) (st' := [.ref 1062, .int x2, .ref c]) rfl ?_
  refine ev_callV (q' := q_219) (x := 219) (y := 12) (c := c) (As := [.int x2, .ref 1062]) (rest := []) hr rfl rfl rfl rfl rfl rfl (isT_sh hc) rfl rfl rfl rfl rfl (fun rv s1 hq => ev_kI hq (fun v2 e9 hr => ?_))
  subst e9
  refine ev_st (st' := [.int v2]) rfl ?_
  refine ev_seg 3 (k' := 7) (L' := [(3, .int v2), (0, .ref c), (1, .int x1), (2, .int x2)]) (st' := [.int v2, .ref c]) rfl ?_
  refine ev_br (P := v2 < 0) (L' := [(3, .int v2), (0, .ref c), (1, .int x1), (2, .int x2)]) (st' := [.ref c]) hr rfl rfl rfl (fun hr => ?_) (fun hr => ?_)
  · skip
    refine ev_seg 1 (k' := 11) (L' := [(3, .int v2), (0, .ref c), (1, .int x1), (2, .int x2)]) (st' := [.int 0, .ref c]) rfl ?_
    refine ev_join (L' := [(0, .ref c), (1, .int x1), (2, .int x2), (3, .int v2)]) [1, 2, 3, 0] [3, 0, 1, 2] [0, 1, 2, 3] rfl rfl (by decide) (by decide) rfl ?_
    exact hr
  · skip
    refine ev_seg 2 (k' := 11) (L' := [(3, .int v2), (0, .ref c), (1, .int x1), (2, .int x2)]) (st' := [.int 1, .ref c]) rfl ?_
    refine ev_join (L' := [(0, .ref c), (1, .int x1), (2, .int x2), (3, .int v2)]) [1, 2, 3, 0] [3, 0, 1, 2] [0, 1, 2, 3] rfl rfl (by decide) (by decide) rfl ?_
    exact hr
set_option maxRecDepth 20000 in
theorem eMt_symbols_11 (d : Nat) (c : Nat) (x1 : Int32) (x2 : Int32) (z3 : Int32) (u0 : Int32) (s : aT) (hc : isT c) : ∀ r, (ldI 4200 s (c + 3) x2 (fun v1 => cG (fMt_need d c u0 8 v1 s) (kV fun s2 => ldI 4200 s2 (c + 2) z3 (fun v3 => if ¬ v3 = 1 then fMt_symbols_37 (d + 1) c x1 x2 z3 s2 else ldI 4200 s2 (c + 5) z3 (fun v4 => if v4 ≤ 0 then fMt_symbols_37 (d + 1) c x1 x2 z3 s2 else ldI 4200 s2 (c + 5) z3 (fun v5 => if 33 ≤ v5 then fMt_symbols_37 (d + 1) c x1 x2 z3 s2 else fMt_symbols_38 (d + 1) c x1 x2 z3 1 s2)))))) = some r → fMt_symbols_11 (d + 1) c x1 x2 z3 u0 s = some r := by
  intro r hr
  show ev (d + 1) q_222 11 [(0, .ref c), (1, .int x1), (2, .int x2), (3, .int z3)] [.int u0, .ref c] s = some r
  refine ev_seg 2 (k' := 13) (L' := [(0, .ref c), (1, .int x1), (2, .int x2), (3, .int z3)]) (st' := [.ref c, .int 8, .int u0, .ref c]) rfl ?_
  refine ev_getR (c := c) (v := c + 3) rfl (isT_sh hc) rfl (isT_r3 hc) ?_
  refine ev_seg 1 (k' := 15) (L' := [(0, .ref c), (1, .int x1), (2, .int x2), (3, .int z3)]) (st' := [.int x2, .ref (c + 3), .int 8, .int u0, .ref c]) rfl ?_
  refine ev_ldI hr rfl (isT_a3 hc) (fun v1 hr => ?_)
  refine ev_callV (q' := q_200) (x := 200) (y := 12) (c := c) (As := [.int u0, .int 8, .int v1]) (rest := []) hr rfl rfl rfl rfl rfl rfl (isT_sh hc) rfl rfl rfl rfl rfl (fun rv s2 hq => ev_kV hq (fun e9 hr => ?_))
  subst e9
  refine ev_st (st' := []) rfl ?_
  refine ev_seg 2 (k' := 19) (L' := [(0, .ref c), (1, .int x1), (2, .int x2), (3, .int z3)]) (st' := [.ref c, .ref c]) rfl ?_
  refine ev_getR (c := c) (v := c + 2) rfl (isT_sh hc) rfl (isT_r2 hc) ?_
  refine ev_seg 1 (k' := 21) (L' := [(0, .ref c), (1, .int x1), (2, .int x2), (3, .int z3)]) (st' := [.int z3, .ref (c + 2), .ref c]) rfl ?_
  refine ev_ldI hr rfl (isT_a2 hc) (fun v3 hr => ?_)
  refine ev_seg 1 (k' := 23) (L' := [(0, .ref c), (1, .int x1), (2, .int x2), (3, .int z3)]) (st' := [.int 1, .int v3, .ref c]) rfl ?_
  refine ev_br (P := ¬ v3 = 1) (L' := [(0, .ref c), (1, .int x1), (2, .int x2), (3, .int z3)]) (st' := [.ref c]) hr rfl rfl rfl (fun hr => ?_) (fun hr => ?_)
  · skip
    exact hr
  · skip
    refine ev_seg 1 (k' := 25) (L' := [(0, .ref c), (1, .int x1), (2, .int x2), (3, .int z3)]) (st' := [.ref c, .ref c]) rfl ?_
    refine ev_getR (c := c) (v := c + 5) rfl (isT_sh hc) rfl (isT_r5 hc) ?_
    refine ev_seg 1 (k' := 27) (L' := [(0, .ref c), (1, .int x1), (2, .int x2), (3, .int z3)]) (st' := [.int z3, .ref (c + 5), .ref c]) rfl ?_
    refine ev_ldI hr rfl (isT_a5 hc) (fun v4 hr => ?_)
    refine ev_br (P := v4 ≤ 0) (L' := [(0, .ref c), (1, .int x1), (2, .int x2), (3, .int z3)]) (st' := [.ref c]) hr rfl rfl rfl (fun hr => ?_) (fun hr => ?_)
    · skip
      exact hr
    · skip
      refine ev_seg 1 (k' := 30) (L' := [(0, .ref c), (1, .int x1), (2, .int x2), (3, .int z3)]) (st' := [.ref c, .ref c]) rfl ?_
      refine ev_getR (c := c) (v := c + 5) rfl (isT_sh hc) rfl (isT_r5 hc) ?_
      refine ev_seg 1 (k' := 32) (L' := [(0, .ref c), (1, .int x1), (2, .int x2), (3, .int z3)]) (st' := [.int z3, .ref (c + 5), .ref c]) rfl ?_
      refine ev_ldI hr rfl (isT_a5 hc) (fun v5 hr => ?_)
      refine ev_seg 1 (k' := 34) (L' := [(0, .ref c), (1, .int x1), (2, .int x2), (3, .int z3)]) (st' := [.int 33, .int v5, .ref c]) rfl ?_
      refine ev_br (P := 33 ≤ v5) (L' := [(0, .ref c), (1, .int x1), (2, .int x2), (3, .int z3)]) (st' := [.ref c]) hr rfl rfl rfl (fun hr => ?_) (fun hr => ?_)
      · skip
        exact hr
      · skip
        refine ev_seg 2 (k' := 38) (L' := [(0, .ref c), (1, .int x1), (2, .int x2), (3, .int z3)]) (st' := [.int 1, .ref c]) rfl ?_
        exact hr
set_option maxRecDepth 20000 in
theorem eMt_symbols_37 (d : Nat) (c : Nat) (x1 : Int32) (x2 : Int32) (z3 : Int32) (s : aT) (hc : isT c) : ∀ r, (fMt_symbols_38 (d + 1) c x1 x2 z3 0 s) = some r → fMt_symbols_37 (d + 1) c x1 x2 z3 s = some r := by
  intro r hr
  show ev (d + 1) q_222 37 [(0, .ref c), (1, .int x1), (2, .int x2), (3, .int z3)] [.ref c] s = some r
  refine ev_seg 1 (k' := 38) (L' := [(0, .ref c), (1, .int x1), (2, .int x2), (3, .int z3)]) (st' := [.int 0, .ref c]) rfl ?_
  exact hr
set_option maxRecDepth 20000 in
theorem eMt_symbols_38 (d : Nat) (c : Nat) (x1 : Int32) (x2 : Int32) (z3 : Int32) (u0 : Int32) (s : aT) (hc : isT c) : ∀ r, (ldI 4200 s (c + 3) z3 (fun v1 => cG (fMt_need d c u0 11 v1 s) (kV fun s2 => ldI 4200 s2 (c + 6) z3 (fun v3 => fMt_symbols_51 (d + 1) c x1 x2 (-1) v3 s2)))) = some r → fMt_symbols_38 (d + 1) c x1 x2 z3 u0 s = some r := by
  intro r hr
  show ev (d + 1) q_222 38 [(0, .ref c), (1, .int x1), (2, .int x2), (3, .int z3)] [.int u0, .ref c] s = some r
  refine ev_seg 2 (k' := 40) (L' := [(0, .ref c), (1, .int x1), (2, .int x2), (3, .int z3)]) (st' := [.ref c, .int 11, .int u0, .ref c]) rfl ?_
  refine ev_getR (c := c) (v := c + 3) rfl (isT_sh hc) rfl (isT_r3 hc) ?_
  refine ev_seg 1 (k' := 42) (L' := [(0, .ref c), (1, .int x1), (2, .int x2), (3, .int z3)]) (st' := [.int z3, .ref (c + 3), .int 11, .int u0, .ref c]) rfl ?_
  refine ev_ldI hr rfl (isT_a3 hc) (fun v1 hr => ?_)
  refine ev_callV (q' := q_200) (x := 200) (y := 12) (c := c) (As := [.int u0, .int 11, .int v1]) (rest := []) hr rfl rfl rfl rfl rfl rfl (isT_sh hc) rfl rfl rfl rfl rfl (fun rv s2 hq => ev_kV hq (fun e9 hr => ?_))
  subst e9
  refine ev_st (st' := []) rfl ?_
  refine ev_seg 3 (k' := 47) (L' := [(4, .int (-1)), (0, .ref c), (1, .int x1), (2, .int x2), (3, .int z3)]) (st' := [.ref c]) rfl ?_
  refine ev_getR (c := c) (v := c + 6) rfl (isT_sh hc) rfl (isT_r6 hc) ?_
  refine ev_seg 1 (k' := 49) (L' := [(4, .int (-1)), (0, .ref c), (1, .int x1), (2, .int x2), (3, .int z3)]) (st' := [.int z3, .ref (c + 6)]) rfl ?_
  refine ev_ldI hr rfl (isT_a6 hc) (fun v3 hr => ?_)
  refine ev_seg 1 (k' := 51) (L' := [(5, .int v3), (4, .int (-1)), (0, .ref c), (1, .int x1), (2, .int x2), (3, .int z3)]) (st' := []) rfl ?_
  refine ev_join (L' := [(0, .ref c), (1, .int x1), (2, .int x2), (4, .int (-1)), (5, .int v3)]) [2, 3, 4, 1, 0] [5, 4, 0, 1, 2, 3] [0, 1, 2, 4, 5] rfl rfl (by decide) (by decide) rfl ?_
  exact hr
set_option maxRecDepth 20000 in
theorem eMt_symbols_51 (d : Nat) (c : Nat) (x1 : Int32) (x2 : Int32) (z4 : Int32) (z5 : Int32) (s : aT) (hc : isT c) : ∀ r, (if z5 < 0 then cG (fMt_member d c x2 1063 s) (kI fun v2 s1 => if v2 < 0 then rV s1 else ldI 4200 s1 (c + 2) v2 (fun v3 => if ¬ v3 = 2 then fMt_symbols_133 (d + 1) c x1 v2 s1 else cG (fMt_symbol d c x1 c v2 s1) (kI fun v5 s4 => if v5 < 0 then fMt_symbols_133 (d + 1) c x1 v2 s4 else fMt_symbols_134 (d + 1) c x1 v2 1 s4))) else cG (fMt_isName d c z5 s) (kI fun v7 s6 => ldI 4200 s6 (c + 3) z5 (fun v8 => cG (fMt_need d c v7 11 v8 s6) (kV fun s9 => ldI 140 s9 (c + 12) x1 (fun v10 => fMt_symbols_68 (d + 1) c x1 x2 z4 z5 v10 s9))))) = some r → fMt_symbols_51 (d + 1) c x1 x2 z4 z5 s = some r := by
  intro r hr
  show ev (d + 1) q_222 51 [(0, .ref c), (1, .int x1), (2, .int x2), (4, .int z4), (5, .int z5)] [] s = some r
  refine ev_seg 1 (k' := 52) (L' := [(0, .ref c), (1, .int x1), (2, .int x2), (4, .int z4), (5, .int z5)]) (st' := [.int z5]) rfl ?_
  refine ev_br (P := z5 < 0) (L' := [(0, .ref c), (1, .int x1), (2, .int x2), (4, .int z4), (5, .int z5)]) (st' := []) hr rfl rfl rfl (fun hr => ?_) (fun hr => ?_)
  · skip
    refine ev_seg 3 (k' := 114) (L' := [(0, .ref c), (1, .int x1), (2, .int x2), (4, .int z4), (5, .int z5)]) (st' := [.ref 1063, .int x2, .ref c]) rfl ?_
    refine ev_callV (q' := q_219) (x := 219) (y := 12) (c := c) (As := [.int x2, .ref 1063]) (rest := []) hr rfl rfl rfl rfl rfl rfl (isT_sh hc) rfl rfl rfl rfl rfl (fun rv s1 hq => ev_kI hq (fun v2 e9 hr => ?_))
    subst e9
    refine ev_st (st' := [.int v2]) rfl ?_
    refine ev_seg 2 (k' := 117) (L' := [(5, .int v2), (0, .ref c), (1, .int x1), (2, .int x2), (4, .int z4)]) (st' := [.int v2]) rfl ?_
    refine ev_br (P := v2 < 0) (L' := [(5, .int v2), (0, .ref c), (1, .int x1), (2, .int x2), (4, .int z4)]) (st' := []) hr rfl rfl rfl (fun hr => ?_) (fun hr => ?_)
    · skip
      exact ev_vret hr rfl rfl
    · skip
      refine ev_seg 2 (k' := 120) (L' := [(5, .int v2), (0, .ref c), (1, .int x1), (2, .int x2), (4, .int z4)]) (st' := [.ref c, .ref c]) rfl ?_
      refine ev_getR (c := c) (v := c + 2) rfl (isT_sh hc) rfl (isT_r2 hc) ?_
      refine ev_seg 1 (k' := 122) (L' := [(5, .int v2), (0, .ref c), (1, .int x1), (2, .int x2), (4, .int z4)]) (st' := [.int v2, .ref (c + 2), .ref c]) rfl ?_
      refine ev_ldI hr rfl (isT_a2 hc) (fun v3 hr => ?_)
      refine ev_seg 1 (k' := 124) (L' := [(5, .int v2), (0, .ref c), (1, .int x1), (2, .int x2), (4, .int z4)]) (st' := [.int 2, .int v3, .ref c]) rfl ?_
      refine ev_br (P := ¬ v3 = 2) (L' := [(5, .int v2), (0, .ref c), (1, .int x1), (2, .int x2), (4, .int z4)]) (st' := [.ref c]) hr rfl rfl rfl (fun hr => ?_) (fun hr => ?_)
      · skip
        refine ev_join (L' := [(0, .ref c), (1, .int x1), (5, .int v2)]) [1, 2, 0] [5, 0, 1, 2, 4] [0, 1, 5] rfl rfl (by decide) (by decide) rfl ?_
        exact hr
      · skip
        refine ev_seg 4 (k' := 129) (L' := [(5, .int v2), (0, .ref c), (1, .int x1), (2, .int x2), (4, .int z4)]) (st' := [.int v2, .ref c, .int x1, .ref c, .ref c]) rfl ?_
        refine ev_callV (q' := q_223) (x := 223) (y := 12) (c := c) (As := [.int x1, .ref c, .int v2]) (rest := [.ref c]) hr rfl rfl rfl rfl rfl rfl (isT_sh hc) rfl rfl rfl rfl rfl (fun rv s4 hq => ev_kI hq (fun v5 e9 hr => ?_))
        subst e9
        refine ev_st (st' := [.int v5, .ref c]) rfl ?_
        refine ev_br (P := v5 < 0) (L' := [(5, .int v2), (0, .ref c), (1, .int x1), (2, .int x2), (4, .int z4)]) (st' := [.ref c]) hr rfl rfl rfl (fun hr => ?_) (fun hr => ?_)
        · skip
          refine ev_join (L' := [(0, .ref c), (1, .int x1), (5, .int v2)]) [1, 2, 0] [5, 0, 1, 2, 4] [0, 1, 5] rfl rfl (by decide) (by decide) rfl ?_
          exact hr
        · skip
          refine ev_seg 2 (k' := 134) (L' := [(5, .int v2), (0, .ref c), (1, .int x1), (2, .int x2), (4, .int z4)]) (st' := [.int 1, .ref c]) rfl ?_
          refine ev_join (L' := [(0, .ref c), (1, .int x1), (5, .int v2)]) [1, 2, 0] [5, 0, 1, 2, 4] [0, 1, 5] rfl rfl (by decide) (by decide) rfl ?_
          exact hr
  · skip
    refine ev_seg 3 (k' := 56) (L' := [(0, .ref c), (1, .int x1), (2, .int x2), (4, .int z4), (5, .int z5)]) (st' := [.int z5, .ref c, .ref c]) rfl ?_
    refine ev_callV (q' := q_221) (x := 221) (y := 12) (c := c) (As := [.int z5]) (rest := [.ref c]) hr rfl rfl rfl rfl rfl rfl (isT_sh hc) rfl rfl rfl rfl rfl (fun rv s6 hq => ev_kI hq (fun v7 e9 hr => ?_))
    subst e9
    refine ev_st (st' := [.int v7, .ref c]) rfl ?_
    refine ev_seg 2 (k' := 59) (L' := [(0, .ref c), (1, .int x1), (2, .int x2), (4, .int z4), (5, .int z5)]) (st' := [.ref c, .int 11, .int v7, .ref c]) rfl ?_
    refine ev_getR (c := c) (v := c + 3) rfl (isT_sh hc) rfl (isT_r3 hc) ?_
    refine ev_seg 1 (k' := 61) (L' := [(0, .ref c), (1, .int x1), (2, .int x2), (4, .int z4), (5, .int z5)]) (st' := [.int z5, .ref (c + 3), .int 11, .int v7, .ref c]) rfl ?_
    refine ev_ldI hr rfl (isT_a3 hc) (fun v8 hr => ?_)
    refine ev_callV (q' := q_200) (x := 200) (y := 12) (c := c) (As := [.int v7, .int 11, .int v8]) (rest := []) hr rfl rfl rfl rfl rfl rfl (isT_sh hc) rfl rfl rfl rfl rfl (fun rv s9 hq => ev_kV hq (fun e9 hr => ?_))
    subst e9
    refine ev_st (st' := []) rfl ?_
    refine ev_seg 1 (k' := 64) (L' := [(0, .ref c), (1, .int x1), (2, .int x2), (4, .int z4), (5, .int z5)]) (st' := [.ref c]) rfl ?_
    refine ev_getR (c := c) (v := c + 12) rfl (isT_sh hc) rfl (isT_r12 hc) ?_
    refine ev_seg 1 (k' := 66) (L' := [(0, .ref c), (1, .int x1), (2, .int x2), (4, .int z4), (5, .int z5)]) (st' := [.int x1, .ref (c + 12)]) rfl ?_
    refine ev_ldI hr rfl (isT_a12 hc) (fun v10 hr => ?_)
    refine ev_seg 1 (k' := 68) (L' := [(6, .int v10), (0, .ref c), (1, .int x1), (2, .int x2), (4, .int z4), (5, .int z5)]) (st' := []) rfl ?_
    refine ev_join (L' := [(0, .ref c), (1, .int x1), (2, .int x2), (4, .int z4), (5, .int z5), (6, .int v10)]) [1, 2, 3, 4, 5, 0] [6, 0, 1, 2, 4, 5] [0, 1, 2, 4, 5, 6] rfl rfl (by decide) (by decide) rfl ?_
    exact hr
set_option maxRecDepth 20000 in
theorem eMt_symbols_133 (d : Nat) (c : Nat) (x1 : Int32) (z5 : Int32) (s : aT) (hc : isT c) : ∀ r, (fMt_symbols_134 (d + 1) c x1 z5 0 s) = some r → fMt_symbols_133 (d + 1) c x1 z5 s = some r := by
  intro r hr
  show ev (d + 1) q_222 133 [(0, .ref c), (1, .int x1), (5, .int z5)] [.ref c] s = some r
  refine ev_seg 1 (k' := 134) (L' := [(0, .ref c), (1, .int x1), (5, .int z5)]) (st' := [.int 0, .ref c]) rfl ?_
  exact hr
set_option maxRecDepth 20000 in
theorem eMt_symbols_134 (d : Nat) (c : Nat) (x1 : Int32) (z5 : Int32) (u0 : Int32) (s : aT) (hc : isT c) : ∀ r, (ldI 4200 s (c + 3) z5 (fun v1 => cG (fMt_need d c u0 12 v1 s) (kV fun s2 => cG (fMt_symbol d c x1 c z5 s2) (kI fun v4 s3 => stI 140 s3 (c + 14) x1 v4 (fun s5 => rV s5))))) = some r → fMt_symbols_134 (d + 1) c x1 z5 u0 s = some r := by
  intro r hr
  show ev (d + 1) q_222 134 [(0, .ref c), (1, .int x1), (5, .int z5)] [.int u0, .ref c] s = some r
  refine ev_seg 2 (k' := 136) (L' := [(0, .ref c), (1, .int x1), (5, .int z5)]) (st' := [.ref c, .int 12, .int u0, .ref c]) rfl ?_
  refine ev_getR (c := c) (v := c + 3) rfl (isT_sh hc) rfl (isT_r3 hc) ?_
  refine ev_seg 1 (k' := 138) (L' := [(0, .ref c), (1, .int x1), (5, .int z5)]) (st' := [.int z5, .ref (c + 3), .int 12, .int u0, .ref c]) rfl ?_
  refine ev_ldI hr rfl (isT_a3 hc) (fun v1 hr => ?_)
  refine ev_callV (q' := q_200) (x := 200) (y := 12) (c := c) (As := [.int u0, .int 12, .int v1]) (rest := []) hr rfl rfl rfl rfl rfl rfl (isT_sh hc) rfl rfl rfl rfl rfl (fun rv s2 hq => ev_kV hq (fun e9 hr => ?_))
  subst e9
  refine ev_st (st' := []) rfl ?_
  refine ev_seg 1 (k' := 141) (L' := [(0, .ref c), (1, .int x1), (5, .int z5)]) (st' := [.ref c]) rfl ?_
  refine ev_getR (c := c) (v := c + 14) rfl (isT_sh hc) rfl (isT_r14 hc) ?_
  refine ev_seg 5 (k' := 147) (L' := [(0, .ref c), (1, .int x1), (5, .int z5)]) (st' := [.int z5, .ref c, .int x1, .ref c, .int x1, .ref (c + 14)]) rfl ?_
  refine ev_callV (q' := q_223) (x := 223) (y := 12) (c := c) (As := [.int x1, .ref c, .int z5]) (rest := [.int x1, .ref (c + 14)]) hr rfl rfl rfl rfl rfl rfl (isT_sh hc) rfl rfl rfl rfl rfl (fun rv s3 hq => ev_kI hq (fun v4 e9 hr => ?_))
  subst e9
  refine ev_st (st' := [.int v4, .int x1, .ref (c + 14)]) rfl ?_
  refine ev_stI hr rfl (isT_a14 hc) (fun s5 hr => ?_)
  exact ev_vret hr rfl rfl
set_option maxRecDepth 20000 in
theorem eMt_symbols_68 (d : Nat) (c : Nat) (x1 : Int32) (x2 : Int32) (z4 : Int32) (z5 : Int32) (z6 : Int32) (s : aT) (hc : isT c) : ∀ r, (if z6 < 0 then cG (fMt_addKid d c x1 z4 s) (kI fun v2 s1 => stI 2200 s1 (c + 16) v2 z5 (fun s3 => ldI 4200 s3 (c + 7) z5 (fun v4 => fMt_symbols_51 (d + 1) c x1 x2 v2 v4 s3))) else ldI 2200 s (c + 16) z6 (fun v5 => cG (fMt_same d c v5 c z5 s) (kI fun v7 s6 => if ¬ v7 = 0 then fMt_symbols_83 (d + 1) c x1 x2 z4 z5 z6 0 s6 else fMt_symbols_83 (d + 1) c x1 x2 z4 z5 z6 1 s6))) = some r → fMt_symbols_68 (d + 1) c x1 x2 z4 z5 z6 s = some r := by
  intro r hr
  show ev (d + 1) q_222 68 [(0, .ref c), (1, .int x1), (2, .int x2), (4, .int z4), (5, .int z5), (6, .int z6)] [] s = some r
  refine ev_seg 1 (k' := 69) (L' := [(0, .ref c), (1, .int x1), (2, .int x2), (4, .int z4), (5, .int z5), (6, .int z6)]) (st' := [.int z6]) rfl ?_
  refine ev_br (P := z6 < 0) (L' := [(0, .ref c), (1, .int x1), (2, .int x2), (4, .int z4), (5, .int z5), (6, .int z6)]) (st' := []) hr rfl rfl rfl (fun hr => ?_) (fun hr => ?_)
  · skip
    refine ev_seg 3 (k' := 98) (L' := [(0, .ref c), (1, .int x1), (2, .int x2), (4, .int z4), (5, .int z5), (6, .int z6)]) (st' := [.int z4, .int x1, .ref c]) rfl ?_
    refine ev_callV (q' := q_218) (x := 218) (y := 12) (c := c) (As := [.int x1, .int z4]) (rest := []) hr rfl rfl rfl rfl rfl rfl (isT_sh hc) rfl rfl rfl rfl rfl (fun rv s1 hq => ev_kI hq (fun v2 e9 hr => ?_))
    subst e9
    refine ev_st (st' := [.int v2]) rfl ?_
    refine ev_seg 2 (k' := 101) (L' := [(4, .int v2), (0, .ref c), (1, .int x1), (2, .int x2), (5, .int z5), (6, .int z6)]) (st' := [.ref c]) rfl ?_
    refine ev_getR (c := c) (v := c + 16) rfl (isT_sh hc) rfl (isT_r16 hc) ?_
    refine ev_seg 2 (k' := 104) (L' := [(4, .int v2), (0, .ref c), (1, .int x1), (2, .int x2), (5, .int z5), (6, .int z6)]) (st' := [.int z5, .int v2, .ref (c + 16)]) rfl ?_
    refine ev_stI hr rfl (isT_a16 hc) (fun s3 hr => ?_)
    refine ev_seg 1 (k' := 106) (L' := [(4, .int v2), (0, .ref c), (1, .int x1), (2, .int x2), (5, .int z5), (6, .int z6)]) (st' := [.ref c]) rfl ?_
    refine ev_getR (c := c) (v := c + 7) rfl (isT_sh hc) rfl (isT_r7 hc) ?_
    refine ev_seg 1 (k' := 108) (L' := [(4, .int v2), (0, .ref c), (1, .int x1), (2, .int x2), (5, .int z5), (6, .int z6)]) (st' := [.int z5, .ref (c + 7)]) rfl ?_
    refine ev_ldI hr rfl (isT_a7 hc) (fun v4 hr => ?_)
    refine ev_seg 2 (k' := 51) (L' := [(5, .int v4), (4, .int v2), (0, .ref c), (1, .int x1), (2, .int x2), (6, .int z6)]) (st' := []) rfl ?_
    refine ev_join (L' := [(0, .ref c), (1, .int x1), (2, .int x2), (4, .int v2), (5, .int v4)]) [2, 3, 4, 1, 0] [5, 4, 0, 1, 2, 6] [0, 1, 2, 4, 5] rfl rfl (by decide) (by decide) rfl ?_
    exact hr
  · skip
    refine ev_seg 3 (k' := 73) (L' := [(0, .ref c), (1, .int x1), (2, .int x2), (4, .int z4), (5, .int z5), (6, .int z6)]) (st' := [.ref c, .ref c, .ref c]) rfl ?_
    refine ev_getR (c := c) (v := c + 16) rfl (isT_sh hc) rfl (isT_r16 hc) ?_
    refine ev_seg 1 (k' := 75) (L' := [(0, .ref c), (1, .int x1), (2, .int x2), (4, .int z4), (5, .int z5), (6, .int z6)]) (st' := [.int z6, .ref (c + 16), .ref c, .ref c]) rfl ?_
    refine ev_ldI hr rfl (isT_a16 hc) (fun v5 hr => ?_)
    refine ev_seg 2 (k' := 78) (L' := [(0, .ref c), (1, .int x1), (2, .int x2), (4, .int z4), (5, .int z5), (6, .int z6)]) (st' := [.int z5, .ref c, .int v5, .ref c, .ref c]) rfl ?_
    refine ev_callV (q' := q_208) (x := 208) (y := 12) (c := c) (As := [.int v5, .ref c, .int z5]) (rest := [.ref c]) hr rfl rfl rfl rfl rfl rfl (isT_sh hc) rfl rfl rfl rfl rfl (fun rv s6 hq => ev_kI hq (fun v7 e9 hr => ?_))
    subst e9
    refine ev_st (st' := [.int v7, .ref c]) rfl ?_
    refine ev_br (P := ¬ v7 = 0) (L' := [(0, .ref c), (1, .int x1), (2, .int x2), (4, .int z4), (5, .int z5), (6, .int z6)]) (st' := [.ref c]) hr rfl rfl rfl (fun hr => ?_) (fun hr => ?_)
    · skip
      refine ev_seg 1 (k' := 83) (L' := [(0, .ref c), (1, .int x1), (2, .int x2), (4, .int z4), (5, .int z5), (6, .int z6)]) (st' := [.int 0, .ref c]) rfl ?_
      exact hr
    · skip
      refine ev_seg 2 (k' := 83) (L' := [(0, .ref c), (1, .int x1), (2, .int x2), (4, .int z4), (5, .int z5), (6, .int z6)]) (st' := [.int 1, .ref c]) rfl ?_
      exact hr
set_option maxRecDepth 20000 in
theorem eMt_symbols_83 (d : Nat) (c : Nat) (x1 : Int32) (x2 : Int32) (z4 : Int32) (z5 : Int32) (z6 : Int32) (u0 : Int32) (s : aT) (hc : isT c) : ∀ r, (ldI 4200 s (c + 3) z5 (fun v1 => cG (fMt_need d c u0 11 v1 s) (kV fun s2 => ldI 2200 s2 (c + 18) z6 (fun v3 => fMt_symbols_68 (d + 1) c x1 x2 z4 z5 v3 s2)))) = some r → fMt_symbols_83 (d + 1) c x1 x2 z4 z5 z6 u0 s = some r := by
  intro r hr
  show ev (d + 1) q_222 83 [(0, .ref c), (1, .int x1), (2, .int x2), (4, .int z4), (5, .int z5), (6, .int z6)] [.int u0, .ref c] s = some r
  refine ev_seg 2 (k' := 85) (L' := [(0, .ref c), (1, .int x1), (2, .int x2), (4, .int z4), (5, .int z5), (6, .int z6)]) (st' := [.ref c, .int 11, .int u0, .ref c]) rfl ?_
  refine ev_getR (c := c) (v := c + 3) rfl (isT_sh hc) rfl (isT_r3 hc) ?_
  refine ev_seg 1 (k' := 87) (L' := [(0, .ref c), (1, .int x1), (2, .int x2), (4, .int z4), (5, .int z5), (6, .int z6)]) (st' := [.int z5, .ref (c + 3), .int 11, .int u0, .ref c]) rfl ?_
  refine ev_ldI hr rfl (isT_a3 hc) (fun v1 hr => ?_)
  refine ev_callV (q' := q_200) (x := 200) (y := 12) (c := c) (As := [.int u0, .int 11, .int v1]) (rest := []) hr rfl rfl rfl rfl rfl rfl (isT_sh hc) rfl rfl rfl rfl rfl (fun rv s2 hq => ev_kV hq (fun e9 hr => ?_))
  subst e9
  refine ev_st (st' := []) rfl ?_
  refine ev_seg 1 (k' := 90) (L' := [(0, .ref c), (1, .int x1), (2, .int x2), (4, .int z4), (5, .int z5), (6, .int z6)]) (st' := [.ref c]) rfl ?_
  refine ev_getR (c := c) (v := c + 18) rfl (isT_sh hc) rfl (isT_r18 hc) ?_
  refine ev_seg 1 (k' := 92) (L' := [(0, .ref c), (1, .int x1), (2, .int x2), (4, .int z4), (5, .int z5), (6, .int z6)]) (st' := [.int z6, .ref (c + 18)]) rfl ?_
  refine ev_ldI hr rfl (isT_a18 hc) (fun v3 hr => ?_)
  refine ev_seg 2 (k' := 68) (L' := [(6, .int v3), (0, .ref c), (1, .int x1), (2, .int x2), (4, .int z4), (5, .int z5)]) (st' := []) rfl ?_
  refine ev_join (L' := [(0, .ref c), (1, .int x1), (2, .int x2), (4, .int z4), (5, .int z5), (6, .int v3)]) [1, 2, 3, 4, 5, 0] [6, 0, 1, 2, 4, 5] [0, 1, 2, 4, 5, 6] rfl rfl (by decide) (by decide) rfl ?_
  exact hr
set_option maxRecDepth 20000 in
theorem eMt_symbol (d : Nat) (c : Nat) (x1 : Int32) (t2 : Nat) (x3 : Int32) (s : aT) (hc : isT c) (ht2 : isT t2) : ∀ r, (ldI 140 s (c + 12) x1 (fun v1 => fMt_symbol_7 (d + 1) c t2 x3 0 v1 s)) = some r → fMt_symbol (d + 1) c x1 t2 x3 s = some r := by
  intro r hr
  show ev (d + 1) q_223 0 [(0, .ref c), (1, .int x1), (2, .ref t2), (3, .int x3)] [] s = some r
  refine ev_seg 3 (k' := 3) (L' := [(4, .int 0), (0, .ref c), (1, .int x1), (2, .ref t2), (3, .int x3)]) (st' := [.ref c]) rfl ?_
  refine ev_getR (c := c) (v := c + 12) rfl (isT_sh hc) rfl (isT_r12 hc) ?_
  refine ev_seg 1 (k' := 5) (L' := [(4, .int 0), (0, .ref c), (1, .int x1), (2, .ref t2), (3, .int x3)]) (st' := [.int x1, .ref (c + 12)]) rfl ?_
  refine ev_ldI hr rfl (isT_a12 hc) (fun v1 hr => ?_)
  refine ev_seg 1 (k' := 7) (L' := [(5, .int v1), (4, .int 0), (0, .ref c), (1, .int x1), (2, .ref t2), (3, .int x3)]) (st' := []) rfl ?_
  refine ev_join (L' := [(0, .ref c), (2, .ref t2), (3, .int x3), (4, .int 0), (5, .int v1)]) [2, 4, 5, 1, 0] [5, 4, 0, 1, 2, 3] [0, 2, 3, 4, 5] rfl rfl (by decide) (by decide) rfl ?_
  exact hr
set_option maxRecDepth 20000 in
theorem eMt_symbol_7 (d : Nat) (c : Nat) (t2 : Nat) (x3 : Int32) (z4 : Int32) (z5 : Int32) (s : aT) (hc : isT c) (ht2 : isT t2) : ∀ r, (if z5 < 0 then rI (-1) s else ldI 2200 s (c + 16) z5 (fun v1 => cG (fMt_same d c v1 t2 x3 s) (kI fun v3 s2 => if v3 = 0 then ldI 2200 s2 (c + 18) z5 (fun v4 => fMt_symbol_7 (d + 1) c t2 x3 (z4 + 1) v4 s2) else rI z4 s2))) = some r → fMt_symbol_7 (d + 1) c t2 x3 z4 z5 s = some r := by
  intro r hr
  show ev (d + 1) q_223 7 [(0, .ref c), (2, .ref t2), (3, .int x3), (4, .int z4), (5, .int z5)] [] s = some r
  refine ev_seg 1 (k' := 8) (L' := [(0, .ref c), (2, .ref t2), (3, .int x3), (4, .int z4), (5, .int z5)]) (st' := [.int z5]) rfl ?_
  refine ev_br (P := z5 < 0) (L' := [(0, .ref c), (2, .ref t2), (3, .int x3), (4, .int z4), (5, .int z5)]) (st' := []) hr rfl rfl rfl (fun hr => ?_) (fun hr => ?_)
  · skip
    refine ev_seg 1 (k' := 28) (L' := [(0, .ref c), (2, .ref t2), (3, .int x3), (4, .int z4), (5, .int z5)]) (st' := [.int (-1)]) rfl ?_
    exact ev_iret hr rfl rfl rfl
  · skip
    refine ev_seg 2 (k' := 11) (L' := [(0, .ref c), (2, .ref t2), (3, .int x3), (4, .int z4), (5, .int z5)]) (st' := [.ref c, .ref c]) rfl ?_
    refine ev_getR (c := c) (v := c + 16) rfl (isT_sh hc) rfl (isT_r16 hc) ?_
    refine ev_seg 1 (k' := 13) (L' := [(0, .ref c), (2, .ref t2), (3, .int x3), (4, .int z4), (5, .int z5)]) (st' := [.int z5, .ref (c + 16), .ref c]) rfl ?_
    refine ev_ldI hr rfl (isT_a16 hc) (fun v1 hr => ?_)
    refine ev_seg 2 (k' := 16) (L' := [(0, .ref c), (2, .ref t2), (3, .int x3), (4, .int z4), (5, .int z5)]) (st' := [.int x3, .ref t2, .int v1, .ref c]) rfl ?_
    refine ev_callV (q' := q_208) (x := 208) (y := 12) (c := c) (As := [.int v1, .ref t2, .int x3]) (rest := []) hr rfl rfl rfl rfl rfl rfl (isT_sh hc) rfl rfl rfl rfl rfl (fun rv s2 hq => ev_kI hq (fun v3 e9 hr => ?_))
    subst e9
    refine ev_st (st' := [.int v3]) rfl ?_
    refine ev_br (P := v3 = 0) (L' := [(0, .ref c), (2, .ref t2), (3, .int x3), (4, .int z4), (5, .int z5)]) (st' := []) hr rfl rfl rfl (fun hr => ?_) (fun hr => ?_)
    · skip
      refine ev_seg 2 (k' := 22) (L' := [(4, .int (z4 + 1)), (0, .ref c), (2, .ref t2), (3, .int x3), (5, .int z5)]) (st' := [.ref c]) rfl ?_
      refine ev_getR (c := c) (v := c + 18) rfl (isT_sh hc) rfl (isT_r18 hc) ?_
      refine ev_seg 1 (k' := 24) (L' := [(4, .int (z4 + 1)), (0, .ref c), (2, .ref t2), (3, .int x3), (5, .int z5)]) (st' := [.int z5, .ref (c + 18)]) rfl ?_
      refine ev_ldI hr rfl (isT_a18 hc) (fun v4 hr => ?_)
      refine ev_seg 2 (k' := 7) (L' := [(5, .int v4), (4, .int (z4 + 1)), (0, .ref c), (2, .ref t2), (3, .int x3)]) (st' := []) rfl ?_
      refine ev_join (L' := [(0, .ref c), (2, .ref t2), (3, .int x3), (4, .int (z4 + 1)), (5, .int v4)]) [2, 3, 4, 1, 0] [5, 4, 0, 2, 3] [0, 2, 3, 4, 5] rfl rfl (by decide) (by decide) rfl ?_
      exact hr
    · skip
      refine ev_seg 1 (k' := 19) (L' := [(0, .ref c), (2, .ref t2), (3, .int x3), (4, .int z4), (5, .int z5)]) (st' := [.int z4]) rfl ?_
      exact ev_iret hr rfl rfl rfl
set_option maxRecDepth 20000 in
theorem eMt_fields (d : Nat) (c : Nat) (x1 : Int32) (x2 : Int32) (x3 : Int32) (s : aT) (hc : isT c) : ∀ r, (cG (fMt_member d c x2 1064 s) (kI fun v2 s1 => if v2 < 0 then fMt_fields_11 (d + 1) c x1 x2 x3 v2 0 s1 else fMt_fields_11 (d + 1) c x1 x2 x3 v2 1 s1)) = some r → fMt_fields (d + 1) c x1 x2 x3 s = some r := by
  intro r hr
  show ev (d + 1) q_224 0 [(0, .ref c), (1, .int x1), (2, .int x2), (3, .int x3)] [] s = some r
  refine ev_seg 3 (k' := 3) (L' := [(0, .ref c), (1, .int x1), (2, .int x2), (3, .int x3)]) (st' := [.ref 1064, .int x2, .ref c]) rfl ?_
  refine ev_callV (q' := q_219) (x := 219) (y := 12) (c := c) (As := [.int x2, .ref 1064]) (rest := []) hr rfl rfl rfl rfl rfl rfl (isT_sh hc) rfl rfl rfl rfl rfl (fun rv s1 hq => ev_kI hq (fun v2 e9 hr => ?_))
  subst e9
  refine ev_st (st' := [.int v2]) rfl ?_
  refine ev_seg 3 (k' := 7) (L' := [(4, .int v2), (0, .ref c), (1, .int x1), (2, .int x2), (3, .int x3)]) (st' := [.int v2, .ref c]) rfl ?_
  refine ev_br (P := v2 < 0) (L' := [(4, .int v2), (0, .ref c), (1, .int x1), (2, .int x2), (3, .int x3)]) (st' := [.ref c]) hr rfl rfl rfl (fun hr => ?_) (fun hr => ?_)
  · skip
    refine ev_seg 1 (k' := 11) (L' := [(4, .int v2), (0, .ref c), (1, .int x1), (2, .int x2), (3, .int x3)]) (st' := [.int 0, .ref c]) rfl ?_
    refine ev_join (L' := [(0, .ref c), (1, .int x1), (2, .int x2), (3, .int x3), (4, .int v2)]) [1, 2, 3, 4, 0] [4, 0, 1, 2, 3] [0, 1, 2, 3, 4] rfl rfl (by decide) (by decide) rfl ?_
    exact hr
  · skip
    refine ev_seg 2 (k' := 11) (L' := [(4, .int v2), (0, .ref c), (1, .int x1), (2, .int x2), (3, .int x3)]) (st' := [.int 1, .ref c]) rfl ?_
    refine ev_join (L' := [(0, .ref c), (1, .int x1), (2, .int x2), (3, .int x3), (4, .int v2)]) [1, 2, 3, 4, 0] [4, 0, 1, 2, 3] [0, 1, 2, 3, 4] rfl rfl (by decide) (by decide) rfl ?_
    exact hr
set_option maxRecDepth 20000 in
theorem eMt_fields_11 (d : Nat) (c : Nat) (x1 : Int32) (x2 : Int32) (x3 : Int32) (z4 : Int32) (u0 : Int32) (s : aT) (hc : isT c) : ∀ r, (ldI 4200 s (c + 3) x2 (fun v1 => cG (fMt_need d c u0 8 v1 s) (kV fun s2 => ldI 4200 s2 (c + 2) z4 (fun v3 => if ¬ v3 = 1 then fMt_fields_32 (d + 1) c x1 x3 z4 s2 else ldI 4200 s2 (c + 5) z4 (fun v4 => if 33 ≤ v4 then fMt_fields_32 (d + 1) c x1 x3 z4 s2 else fMt_fields_33 (d + 1) c x1 x3 z4 1 s2))))) = some r → fMt_fields_11 (d + 1) c x1 x2 x3 z4 u0 s = some r := by
  intro r hr
  show ev (d + 1) q_224 11 [(0, .ref c), (1, .int x1), (2, .int x2), (3, .int x3), (4, .int z4)] [.int u0, .ref c] s = some r
  refine ev_seg 2 (k' := 13) (L' := [(0, .ref c), (1, .int x1), (2, .int x2), (3, .int x3), (4, .int z4)]) (st' := [.ref c, .int 8, .int u0, .ref c]) rfl ?_
  refine ev_getR (c := c) (v := c + 3) rfl (isT_sh hc) rfl (isT_r3 hc) ?_
  refine ev_seg 1 (k' := 15) (L' := [(0, .ref c), (1, .int x1), (2, .int x2), (3, .int x3), (4, .int z4)]) (st' := [.int x2, .ref (c + 3), .int 8, .int u0, .ref c]) rfl ?_
  refine ev_ldI hr rfl (isT_a3 hc) (fun v1 hr => ?_)
  refine ev_callV (q' := q_200) (x := 200) (y := 12) (c := c) (As := [.int u0, .int 8, .int v1]) (rest := []) hr rfl rfl rfl rfl rfl rfl (isT_sh hc) rfl rfl rfl rfl rfl (fun rv s2 hq => ev_kV hq (fun e9 hr => ?_))
  subst e9
  refine ev_st (st' := []) rfl ?_
  refine ev_seg 2 (k' := 19) (L' := [(0, .ref c), (1, .int x1), (2, .int x2), (3, .int x3), (4, .int z4)]) (st' := [.ref c, .ref c]) rfl ?_
  refine ev_getR (c := c) (v := c + 2) rfl (isT_sh hc) rfl (isT_r2 hc) ?_
  refine ev_seg 1 (k' := 21) (L' := [(0, .ref c), (1, .int x1), (2, .int x2), (3, .int x3), (4, .int z4)]) (st' := [.int z4, .ref (c + 2), .ref c]) rfl ?_
  refine ev_ldI hr rfl (isT_a2 hc) (fun v3 hr => ?_)
  refine ev_seg 1 (k' := 23) (L' := [(0, .ref c), (1, .int x1), (2, .int x2), (3, .int x3), (4, .int z4)]) (st' := [.int 1, .int v3, .ref c]) rfl ?_
  refine ev_br (P := ¬ v3 = 1) (L' := [(0, .ref c), (1, .int x1), (2, .int x2), (3, .int x3), (4, .int z4)]) (st' := [.ref c]) hr rfl rfl rfl (fun hr => ?_) (fun hr => ?_)
  · skip
    refine ev_join (L' := [(0, .ref c), (1, .int x1), (3, .int x3), (4, .int z4)]) [0, 1, 3, 4] [0, 1, 2, 3, 4] [0, 1, 3, 4] rfl rfl (by decide) (by decide) rfl ?_
    exact hr
  · skip
    refine ev_seg 1 (k' := 25) (L' := [(0, .ref c), (1, .int x1), (2, .int x2), (3, .int x3), (4, .int z4)]) (st' := [.ref c, .ref c]) rfl ?_
    refine ev_getR (c := c) (v := c + 5) rfl (isT_sh hc) rfl (isT_r5 hc) ?_
    refine ev_seg 1 (k' := 27) (L' := [(0, .ref c), (1, .int x1), (2, .int x2), (3, .int x3), (4, .int z4)]) (st' := [.int z4, .ref (c + 5), .ref c]) rfl ?_
    refine ev_ldI hr rfl (isT_a5 hc) (fun v4 hr => ?_)
    refine ev_seg 1 (k' := 29) (L' := [(0, .ref c), (1, .int x1), (2, .int x2), (3, .int x3), (4, .int z4)]) (st' := [.int 33, .int v4, .ref c]) rfl ?_
    refine ev_br (P := 33 ≤ v4) (L' := [(0, .ref c), (1, .int x1), (2, .int x2), (3, .int x3), (4, .int z4)]) (st' := [.ref c]) hr rfl rfl rfl (fun hr => ?_) (fun hr => ?_)
    · skip
      refine ev_join (L' := [(0, .ref c), (1, .int x1), (3, .int x3), (4, .int z4)]) [0, 1, 3, 4] [0, 1, 2, 3, 4] [0, 1, 3, 4] rfl rfl (by decide) (by decide) rfl ?_
      exact hr
    · skip
      refine ev_seg 2 (k' := 33) (L' := [(0, .ref c), (1, .int x1), (2, .int x2), (3, .int x3), (4, .int z4)]) (st' := [.int 1, .ref c]) rfl ?_
      refine ev_join (L' := [(0, .ref c), (1, .int x1), (3, .int x3), (4, .int z4)]) [0, 1, 3, 4] [0, 1, 2, 3, 4] [0, 1, 3, 4] rfl rfl (by decide) (by decide) rfl ?_
      exact hr
set_option maxRecDepth 20000 in
theorem eMt_fields_32 (d : Nat) (c : Nat) (x1 : Int32) (x3 : Int32) (z4 : Int32) (s : aT) (hc : isT c) : ∀ r, (fMt_fields_33 (d + 1) c x1 x3 z4 0 s) = some r → fMt_fields_32 (d + 1) c x1 x3 z4 s = some r := by
  intro r hr
  show ev (d + 1) q_224 32 [(0, .ref c), (1, .int x1), (3, .int x3), (4, .int z4)] [.ref c] s = some r
  refine ev_seg 1 (k' := 33) (L' := [(0, .ref c), (1, .int x1), (3, .int x3), (4, .int z4)]) (st' := [.int 0, .ref c]) rfl ?_
  exact hr
set_option maxRecDepth 20000 in
theorem eMt_fields_33 (d : Nat) (c : Nat) (x1 : Int32) (x3 : Int32) (z4 : Int32) (u0 : Int32) (s : aT) (hc : isT c) : ∀ r, (ldI 4200 s (c + 3) z4 (fun v1 => cG (fMt_need d c u0 11 v1 s) (kV fun s2 => ldI 4200 s2 (c + 6) z4 (fun v3 => fMt_fields_46 (d + 1) c x1 x3 (-1) v3 s2)))) = some r → fMt_fields_33 (d + 1) c x1 x3 z4 u0 s = some r := by
  intro r hr
  show ev (d + 1) q_224 33 [(0, .ref c), (1, .int x1), (3, .int x3), (4, .int z4)] [.int u0, .ref c] s = some r
  refine ev_seg 2 (k' := 35) (L' := [(0, .ref c), (1, .int x1), (3, .int x3), (4, .int z4)]) (st' := [.ref c, .int 11, .int u0, .ref c]) rfl ?_
  refine ev_getR (c := c) (v := c + 3) rfl (isT_sh hc) rfl (isT_r3 hc) ?_
  refine ev_seg 1 (k' := 37) (L' := [(0, .ref c), (1, .int x1), (3, .int x3), (4, .int z4)]) (st' := [.int z4, .ref (c + 3), .int 11, .int u0, .ref c]) rfl ?_
  refine ev_ldI hr rfl (isT_a3 hc) (fun v1 hr => ?_)
  refine ev_callV (q' := q_200) (x := 200) (y := 12) (c := c) (As := [.int u0, .int 11, .int v1]) (rest := []) hr rfl rfl rfl rfl rfl rfl (isT_sh hc) rfl rfl rfl rfl rfl (fun rv s2 hq => ev_kV hq (fun e9 hr => ?_))
  subst e9
  refine ev_st (st' := []) rfl ?_
  refine ev_seg 3 (k' := 42) (L' := [(5, .int (-1)), (0, .ref c), (1, .int x1), (3, .int x3), (4, .int z4)]) (st' := [.ref c]) rfl ?_
  refine ev_getR (c := c) (v := c + 6) rfl (isT_sh hc) rfl (isT_r6 hc) ?_
  refine ev_seg 1 (k' := 44) (L' := [(5, .int (-1)), (0, .ref c), (1, .int x1), (3, .int x3), (4, .int z4)]) (st' := [.int z4, .ref (c + 6)]) rfl ?_
  refine ev_ldI hr rfl (isT_a6 hc) (fun v3 hr => ?_)
  refine ev_seg 1 (k' := 46) (L' := [(6, .int v3), (5, .int (-1)), (0, .ref c), (1, .int x1), (3, .int x3), (4, .int z4)]) (st' := []) rfl ?_
  refine ev_join (L' := [(0, .ref c), (1, .int x1), (3, .int x3), (5, .int (-1)), (6, .int v3)]) [2, 3, 4, 1, 0] [6, 5, 0, 1, 3, 4] [0, 1, 3, 5, 6] rfl rfl (by decide) (by decide) rfl ?_
  exact hr
set_option maxRecDepth 20000 in
theorem eMt_fields_46 (d : Nat) (c : Nat) (x1 : Int32) (x3 : Int32) (z5 : Int32) (z6 : Int32) (s : aT) (hc : isT c) : ∀ r, (if z6 < 0 then rV s else ldI 4200 s (c + 2) z6 (fun v1 => if ¬ v1 = 0 then fMt_fields_57 (d + 1) c x1 x3 z5 z6 0 s else fMt_fields_57 (d + 1) c x1 x3 z5 z6 1 s)) = some r → fMt_fields_46 (d + 1) c x1 x3 z5 z6 s = some r := by
  intro r hr
  show ev (d + 1) q_224 46 [(0, .ref c), (1, .int x1), (3, .int x3), (5, .int z5), (6, .int z6)] [] s = some r
  refine ev_seg 1 (k' := 47) (L' := [(0, .ref c), (1, .int x1), (3, .int x3), (5, .int z5), (6, .int z6)]) (st' := [.int z6]) rfl ?_
  refine ev_br (P := z6 < 0) (L' := [(0, .ref c), (1, .int x1), (3, .int x3), (5, .int z5), (6, .int z6)]) (st' := []) hr rfl rfl rfl (fun hr => ?_) (fun hr => ?_)
  · skip
    exact ev_vret hr rfl rfl
  · skip
    refine ev_seg 2 (k' := 50) (L' := [(0, .ref c), (1, .int x1), (3, .int x3), (5, .int z5), (6, .int z6)]) (st' := [.ref c, .ref c]) rfl ?_
    refine ev_getR (c := c) (v := c + 2) rfl (isT_sh hc) rfl (isT_r2 hc) ?_
    refine ev_seg 1 (k' := 52) (L' := [(0, .ref c), (1, .int x1), (3, .int x3), (5, .int z5), (6, .int z6)]) (st' := [.int z6, .ref (c + 2), .ref c]) rfl ?_
    refine ev_ldI hr rfl (isT_a2 hc) (fun v1 hr => ?_)
    refine ev_br (P := ¬ v1 = 0) (L' := [(0, .ref c), (1, .int x1), (3, .int x3), (5, .int z5), (6, .int z6)]) (st' := [.ref c]) hr rfl rfl rfl (fun hr => ?_) (fun hr => ?_)
    · skip
      refine ev_seg 1 (k' := 57) (L' := [(0, .ref c), (1, .int x1), (3, .int x3), (5, .int z5), (6, .int z6)]) (st' := [.int 0, .ref c]) rfl ?_
      exact hr
    · skip
      refine ev_seg 2 (k' := 57) (L' := [(0, .ref c), (1, .int x1), (3, .int x3), (5, .int z5), (6, .int z6)]) (st' := [.int 1, .ref c]) rfl ?_
      exact hr
set_option maxRecDepth 20000 in
theorem eMt_fields_57 (d : Nat) (c : Nat) (x1 : Int32) (x3 : Int32) (z5 : Int32) (z6 : Int32) (u0 : Int32) (s : aT) (hc : isT c) : ∀ r, (ldI 4200 s (c + 3) z6 (fun v1 => cG (fMt_need d c u0 11 v1 s) (kV fun s2 => cG (fMt_member d c z6 1060 s2) (kI fun v4 s3 => if v4 < 0 then fMt_fields_79 (d + 1) c x1 x3 z5 z6 v4 s3 else ldI 4200 s3 (c + 2) v4 (fun v5 => if ¬ v5 = 2 then fMt_fields_79 (d + 1) c x1 x3 z5 z6 v4 s3 else fMt_fields_80 (d + 1) c x1 x3 z5 z6 v4 1 s3))))) = some r → fMt_fields_57 (d + 1) c x1 x3 z5 z6 u0 s = some r := by
  intro r hr
  show ev (d + 1) q_224 57 [(0, .ref c), (1, .int x1), (3, .int x3), (5, .int z5), (6, .int z6)] [.int u0, .ref c] s = some r
  refine ev_seg 2 (k' := 59) (L' := [(0, .ref c), (1, .int x1), (3, .int x3), (5, .int z5), (6, .int z6)]) (st' := [.ref c, .int 11, .int u0, .ref c]) rfl ?_
  refine ev_getR (c := c) (v := c + 3) rfl (isT_sh hc) rfl (isT_r3 hc) ?_
  refine ev_seg 1 (k' := 61) (L' := [(0, .ref c), (1, .int x1), (3, .int x3), (5, .int z5), (6, .int z6)]) (st' := [.int z6, .ref (c + 3), .int 11, .int u0, .ref c]) rfl ?_
  refine ev_ldI hr rfl (isT_a3 hc) (fun v1 hr => ?_)
  refine ev_callV (q' := q_200) (x := 200) (y := 12) (c := c) (As := [.int u0, .int 11, .int v1]) (rest := []) hr rfl rfl rfl rfl rfl rfl (isT_sh hc) rfl rfl rfl rfl rfl (fun rv s2 hq => ev_kV hq (fun e9 hr => ?_))
  subst e9
  refine ev_st (st' := []) rfl ?_
  refine ev_seg 3 (k' := 66) (L' := [(0, .ref c), (1, .int x1), (3, .int x3), (5, .int z5), (6, .int z6)]) (st' := [.ref 1060, .int z6, .ref c]) rfl ?_
  refine ev_callV (q' := q_219) (x := 219) (y := 12) (c := c) (As := [.int z6, .ref 1060]) (rest := []) hr rfl rfl rfl rfl rfl rfl (isT_sh hc) rfl rfl rfl rfl rfl (fun rv s3 hq => ev_kI hq (fun v4 e9 hr => ?_))
  subst e9
  refine ev_st (st' := [.int v4]) rfl ?_
  refine ev_seg 3 (k' := 70) (L' := [(7, .int v4), (0, .ref c), (1, .int x1), (3, .int x3), (5, .int z5), (6, .int z6)]) (st' := [.int v4, .ref c]) rfl ?_
  refine ev_br (P := v4 < 0) (L' := [(7, .int v4), (0, .ref c), (1, .int x1), (3, .int x3), (5, .int z5), (6, .int z6)]) (st' := [.ref c]) hr rfl rfl rfl (fun hr => ?_) (fun hr => ?_)
  · skip
    refine ev_join (L' := [(0, .ref c), (1, .int x1), (3, .int x3), (5, .int z5), (6, .int z6), (7, .int v4)]) [1, 2, 3, 4, 5, 0] [7, 0, 1, 3, 5, 6] [0, 1, 3, 5, 6, 7] rfl rfl (by decide) (by decide) rfl ?_
    exact hr
  · skip
    refine ev_seg 1 (k' := 72) (L' := [(7, .int v4), (0, .ref c), (1, .int x1), (3, .int x3), (5, .int z5), (6, .int z6)]) (st' := [.ref c, .ref c]) rfl ?_
    refine ev_getR (c := c) (v := c + 2) rfl (isT_sh hc) rfl (isT_r2 hc) ?_
    refine ev_seg 1 (k' := 74) (L' := [(7, .int v4), (0, .ref c), (1, .int x1), (3, .int x3), (5, .int z5), (6, .int z6)]) (st' := [.int v4, .ref (c + 2), .ref c]) rfl ?_
    refine ev_ldI hr rfl (isT_a2 hc) (fun v5 hr => ?_)
    refine ev_seg 1 (k' := 76) (L' := [(7, .int v4), (0, .ref c), (1, .int x1), (3, .int x3), (5, .int z5), (6, .int z6)]) (st' := [.int 2, .int v5, .ref c]) rfl ?_
    refine ev_br (P := ¬ v5 = 2) (L' := [(7, .int v4), (0, .ref c), (1, .int x1), (3, .int x3), (5, .int z5), (6, .int z6)]) (st' := [.ref c]) hr rfl rfl rfl (fun hr => ?_) (fun hr => ?_)
    · skip
      refine ev_join (L' := [(0, .ref c), (1, .int x1), (3, .int x3), (5, .int z5), (6, .int z6), (7, .int v4)]) [1, 2, 3, 4, 5, 0] [7, 0, 1, 3, 5, 6] [0, 1, 3, 5, 6, 7] rfl rfl (by decide) (by decide) rfl ?_
      exact hr
    · skip
      refine ev_seg 2 (k' := 80) (L' := [(7, .int v4), (0, .ref c), (1, .int x1), (3, .int x3), (5, .int z5), (6, .int z6)]) (st' := [.int 1, .ref c]) rfl ?_
      refine ev_join (L' := [(0, .ref c), (1, .int x1), (3, .int x3), (5, .int z5), (6, .int z6), (7, .int v4)]) [1, 2, 3, 4, 5, 0] [7, 0, 1, 3, 5, 6] [0, 1, 3, 5, 6, 7] rfl rfl (by decide) (by decide) rfl ?_
      exact hr
set_option maxRecDepth 20000 in
theorem eMt_fields_79 (d : Nat) (c : Nat) (x1 : Int32) (x3 : Int32) (z5 : Int32) (z6 : Int32) (z7 : Int32) (s : aT) (hc : isT c) : ∀ r, (fMt_fields_80 (d + 1) c x1 x3 z5 z6 z7 0 s) = some r → fMt_fields_79 (d + 1) c x1 x3 z5 z6 z7 s = some r := by
  intro r hr
  show ev (d + 1) q_224 79 [(0, .ref c), (1, .int x1), (3, .int x3), (5, .int z5), (6, .int z6), (7, .int z7)] [.ref c] s = some r
  refine ev_seg 1 (k' := 80) (L' := [(0, .ref c), (1, .int x1), (3, .int x3), (5, .int z5), (6, .int z6), (7, .int z7)]) (st' := [.int 0, .ref c]) rfl ?_
  exact hr
set_option maxRecDepth 20000 in
theorem eMt_fields_80 (d : Nat) (c : Nat) (x1 : Int32) (x3 : Int32) (z5 : Int32) (z6 : Int32) (z7 : Int32) (u0 : Int32) (s : aT) (hc : isT c) : ∀ r, (ldI 4200 s (c + 3) z6 (fun v1 => cG (fMt_need d c u0 8 v1 s) (kV fun s2 => cG (fMt_isName d c z7 s2) (kI fun v4 s3 => ldI 140 s3 (c + 12) x1 (fun v5 => fMt_fields_95 (d + 1) c x1 x3 z5 z6 z7 v4 v5 s3))))) = some r → fMt_fields_80 (d + 1) c x1 x3 z5 z6 z7 u0 s = some r := by
  intro r hr
  show ev (d + 1) q_224 80 [(0, .ref c), (1, .int x1), (3, .int x3), (5, .int z5), (6, .int z6), (7, .int z7)] [.int u0, .ref c] s = some r
  refine ev_seg 2 (k' := 82) (L' := [(0, .ref c), (1, .int x1), (3, .int x3), (5, .int z5), (6, .int z6), (7, .int z7)]) (st' := [.ref c, .int 8, .int u0, .ref c]) rfl ?_
  refine ev_getR (c := c) (v := c + 3) rfl (isT_sh hc) rfl (isT_r3 hc) ?_
  refine ev_seg 1 (k' := 84) (L' := [(0, .ref c), (1, .int x1), (3, .int x3), (5, .int z5), (6, .int z6), (7, .int z7)]) (st' := [.int z6, .ref (c + 3), .int 8, .int u0, .ref c]) rfl ?_
  refine ev_ldI hr rfl (isT_a3 hc) (fun v1 hr => ?_)
  refine ev_callV (q' := q_200) (x := 200) (y := 12) (c := c) (As := [.int u0, .int 8, .int v1]) (rest := []) hr rfl rfl rfl rfl rfl rfl (isT_sh hc) rfl rfl rfl rfl rfl (fun rv s2 hq => ev_kV hq (fun e9 hr => ?_))
  subst e9
  refine ev_st (st' := []) rfl ?_
  refine ev_seg 2 (k' := 88) (L' := [(0, .ref c), (1, .int x1), (3, .int x3), (5, .int z5), (6, .int z6), (7, .int z7)]) (st' := [.int z7, .ref c]) rfl ?_
  refine ev_callV (q' := q_221) (x := 221) (y := 12) (c := c) (As := [.int z7]) (rest := []) hr rfl rfl rfl rfl rfl rfl (isT_sh hc) rfl rfl rfl rfl rfl (fun rv s3 hq => ev_kI hq (fun v4 e9 hr => ?_))
  subst e9
  refine ev_st (st' := [.int v4]) rfl ?_
  refine ev_seg 2 (k' := 91) (L' := [(8, .int v4), (0, .ref c), (1, .int x1), (3, .int x3), (5, .int z5), (6, .int z6), (7, .int z7)]) (st' := [.ref c]) rfl ?_
  refine ev_getR (c := c) (v := c + 12) rfl (isT_sh hc) rfl (isT_r12 hc) ?_
  refine ev_seg 1 (k' := 93) (L' := [(8, .int v4), (0, .ref c), (1, .int x1), (3, .int x3), (5, .int z5), (6, .int z6), (7, .int z7)]) (st' := [.int x1, .ref (c + 12)]) rfl ?_
  refine ev_ldI hr rfl (isT_a12 hc) (fun v5 hr => ?_)
  refine ev_seg 1 (k' := 95) (L' := [(9, .int v5), (8, .int v4), (0, .ref c), (1, .int x1), (3, .int x3), (5, .int z5), (6, .int z6), (7, .int z7)]) (st' := []) rfl ?_
  refine ev_join (L' := [(0, .ref c), (1, .int x1), (3, .int x3), (5, .int z5), (6, .int z6), (7, .int z7), (8, .int v4), (9, .int v5)]) [2, 3, 4, 5, 6, 7, 1, 0] [9, 8, 0, 1, 3, 5, 6, 7] [0, 1, 3, 5, 6, 7, 8, 9] rfl rfl (by decide) (by decide) rfl ?_
  exact hr
set_option maxRecDepth 20000 in
theorem eMt_fields_95 (d : Nat) (c : Nat) (x1 : Int32) (x3 : Int32) (z5 : Int32) (z6 : Int32) (z7 : Int32) (z8 : Int32) (z9 : Int32) (s : aT) (hc : isT c) : ∀ r, (if z9 < 0 then ldI 4200 s (c + 3) z7 (fun v1 => cG (fMt_need d c z8 9 v1 s) (kV fun s2 => cG (fMt_member d c z6 1052 s2) (kI fun v4 s3 => if v4 < 0 then fMt_fields_137 (d + 1) c x1 x3 z5 z6 z7 v4 0 s3 else fMt_fields_137 (d + 1) c x1 x3 z5 z6 z7 v4 1 s3))) else if z8 = 0 then fMt_fields_110 (d + 1) c x1 x3 z5 z6 z7 z9 s else ldI 2200 s (c + 16) z9 (fun v5 => cG (fMt_same d c v5 c z7 s) (kI fun v7 s6 => if ¬ v7 = 0 then fMt_fields_110 (d + 1) c x1 x3 z5 z6 z7 z9 s6 else fMt_fields_111 (d + 1) c x1 x3 z5 z6 z7 z9 1 s6))) = some r → fMt_fields_95 (d + 1) c x1 x3 z5 z6 z7 z8 z9 s = some r := by
  intro r hr
  show ev (d + 1) q_224 95 [(0, .ref c), (1, .int x1), (3, .int x3), (5, .int z5), (6, .int z6), (7, .int z7), (8, .int z8), (9, .int z9)] [] s = some r
  refine ev_seg 1 (k' := 96) (L' := [(0, .ref c), (1, .int x1), (3, .int x3), (5, .int z5), (6, .int z6), (7, .int z7), (8, .int z8), (9, .int z9)]) (st' := [.int z9]) rfl ?_
  refine ev_br (P := z9 < 0) (L' := [(0, .ref c), (1, .int x1), (3, .int x3), (5, .int z5), (6, .int z6), (7, .int z7), (8, .int z8), (9, .int z9)]) (st' := []) hr rfl rfl rfl (fun hr => ?_) (fun hr => ?_)
  · skip
    refine ev_seg 4 (k' := 122) (L' := [(0, .ref c), (1, .int x1), (3, .int x3), (5, .int z5), (6, .int z6), (7, .int z7), (8, .int z8), (9, .int z9)]) (st' := [.ref c, .int 9, .int z8, .ref c]) rfl ?_
    refine ev_getR (c := c) (v := c + 3) rfl (isT_sh hc) rfl (isT_r3 hc) ?_
    refine ev_seg 1 (k' := 124) (L' := [(0, .ref c), (1, .int x1), (3, .int x3), (5, .int z5), (6, .int z6), (7, .int z7), (8, .int z8), (9, .int z9)]) (st' := [.int z7, .ref (c + 3), .int 9, .int z8, .ref c]) rfl ?_
    refine ev_ldI hr rfl (isT_a3 hc) (fun v1 hr => ?_)
    refine ev_callV (q' := q_200) (x := 200) (y := 12) (c := c) (As := [.int z8, .int 9, .int v1]) (rest := []) hr rfl rfl rfl rfl rfl rfl (isT_sh hc) rfl rfl rfl rfl rfl (fun rv s2 hq => ev_kV hq (fun e9 hr => ?_))
    subst e9
    refine ev_st (st' := []) rfl ?_
    refine ev_seg 3 (k' := 129) (L' := [(0, .ref c), (1, .int x1), (3, .int x3), (5, .int z5), (6, .int z6), (7, .int z7), (8, .int z8), (9, .int z9)]) (st' := [.ref 1052, .int z6, .ref c]) rfl ?_
    refine ev_callV (q' := q_219) (x := 219) (y := 12) (c := c) (As := [.int z6, .ref 1052]) (rest := []) hr rfl rfl rfl rfl rfl rfl (isT_sh hc) rfl rfl rfl rfl rfl (fun rv s3 hq => ev_kI hq (fun v4 e9 hr => ?_))
    subst e9
    refine ev_st (st' := [.int v4]) rfl ?_
    refine ev_seg 3 (k' := 133) (L' := [(9, .int v4), (0, .ref c), (1, .int x1), (3, .int x3), (5, .int z5), (6, .int z6), (7, .int z7), (8, .int z8)]) (st' := [.int v4, .ref c]) rfl ?_
    refine ev_br (P := v4 < 0) (L' := [(9, .int v4), (0, .ref c), (1, .int x1), (3, .int x3), (5, .int z5), (6, .int z6), (7, .int z7), (8, .int z8)]) (st' := [.ref c]) hr rfl rfl rfl (fun hr => ?_) (fun hr => ?_)
    · skip
      refine ev_seg 1 (k' := 137) (L' := [(9, .int v4), (0, .ref c), (1, .int x1), (3, .int x3), (5, .int z5), (6, .int z6), (7, .int z7), (8, .int z8)]) (st' := [.int 0, .ref c]) rfl ?_
      refine ev_join (L' := [(0, .ref c), (1, .int x1), (3, .int x3), (5, .int z5), (6, .int z6), (7, .int z7), (9, .int v4)]) [1, 2, 3, 4, 5, 6, 0] [9, 0, 1, 3, 5, 6, 7, 8] [0, 1, 3, 5, 6, 7, 9] rfl rfl (by decide) (by decide) rfl ?_
      exact hr
    · skip
      refine ev_seg 2 (k' := 137) (L' := [(9, .int v4), (0, .ref c), (1, .int x1), (3, .int x3), (5, .int z5), (6, .int z6), (7, .int z7), (8, .int z8)]) (st' := [.int 1, .ref c]) rfl ?_
      refine ev_join (L' := [(0, .ref c), (1, .int x1), (3, .int x3), (5, .int z5), (6, .int z6), (7, .int z7), (9, .int v4)]) [1, 2, 3, 4, 5, 6, 0] [9, 0, 1, 3, 5, 6, 7, 8] [0, 1, 3, 5, 6, 7, 9] rfl rfl (by decide) (by decide) rfl ?_
      exact hr
  · skip
    refine ev_seg 1 (k' := 98) (L' := [(0, .ref c), (1, .int x1), (3, .int x3), (5, .int z5), (6, .int z6), (7, .int z7), (8, .int z8), (9, .int z9)]) (st' := [.int z8]) rfl ?_
    refine ev_br (P := z8 = 0) (L' := [(0, .ref c), (1, .int x1), (3, .int x3), (5, .int z5), (6, .int z6), (7, .int z7), (8, .int z8), (9, .int z9)]) (st' := []) hr rfl rfl rfl (fun hr => ?_) (fun hr => ?_)
    · skip
      refine ev_join (L' := [(0, .ref c), (1, .int x1), (3, .int x3), (5, .int z5), (6, .int z6), (7, .int z7), (9, .int z9)]) [0, 1, 2, 3, 4, 5, 7] [0, 1, 3, 5, 6, 7, 8, 9] [0, 1, 3, 5, 6, 7, 9] rfl rfl (by decide) (by decide) rfl ?_
      exact hr
    · skip
      refine ev_seg 2 (k' := 101) (L' := [(0, .ref c), (1, .int x1), (3, .int x3), (5, .int z5), (6, .int z6), (7, .int z7), (8, .int z8), (9, .int z9)]) (st' := [.ref c, .ref c]) rfl ?_
      refine ev_getR (c := c) (v := c + 16) rfl (isT_sh hc) rfl (isT_r16 hc) ?_
      refine ev_seg 1 (k' := 103) (L' := [(0, .ref c), (1, .int x1), (3, .int x3), (5, .int z5), (6, .int z6), (7, .int z7), (8, .int z8), (9, .int z9)]) (st' := [.int z9, .ref (c + 16), .ref c]) rfl ?_
      refine ev_ldI hr rfl (isT_a16 hc) (fun v5 hr => ?_)
      refine ev_seg 2 (k' := 106) (L' := [(0, .ref c), (1, .int x1), (3, .int x3), (5, .int z5), (6, .int z6), (7, .int z7), (8, .int z8), (9, .int z9)]) (st' := [.int z7, .ref c, .int v5, .ref c]) rfl ?_
      refine ev_callV (q' := q_208) (x := 208) (y := 12) (c := c) (As := [.int v5, .ref c, .int z7]) (rest := []) hr rfl rfl rfl rfl rfl rfl (isT_sh hc) rfl rfl rfl rfl rfl (fun rv s6 hq => ev_kI hq (fun v7 e9 hr => ?_))
      subst e9
      refine ev_st (st' := [.int v7]) rfl ?_
      refine ev_br (P := ¬ v7 = 0) (L' := [(0, .ref c), (1, .int x1), (3, .int x3), (5, .int z5), (6, .int z6), (7, .int z7), (8, .int z8), (9, .int z9)]) (st' := []) hr rfl rfl rfl (fun hr => ?_) (fun hr => ?_)
      · skip
        refine ev_join (L' := [(0, .ref c), (1, .int x1), (3, .int x3), (5, .int z5), (6, .int z6), (7, .int z7), (9, .int z9)]) [0, 1, 2, 3, 4, 5, 7] [0, 1, 3, 5, 6, 7, 8, 9] [0, 1, 3, 5, 6, 7, 9] rfl rfl (by decide) (by decide) rfl ?_
        exact hr
      · skip
        refine ev_seg 2 (k' := 111) (L' := [(0, .ref c), (1, .int x1), (3, .int x3), (5, .int z5), (6, .int z6), (7, .int z7), (8, .int z8), (9, .int z9)]) (st' := [.int 1]) rfl ?_
        refine ev_join (L' := [(0, .ref c), (1, .int x1), (3, .int x3), (5, .int z5), (6, .int z6), (7, .int z7), (9, .int z9)]) [0, 1, 2, 3, 4, 5, 7] [0, 1, 3, 5, 6, 7, 8, 9] [0, 1, 3, 5, 6, 7, 9] rfl rfl (by decide) (by decide) rfl ?_
        exact hr
set_option maxRecDepth 20000 in
theorem eMt_fields_137 (d : Nat) (c : Nat) (x1 : Int32) (x3 : Int32) (z5 : Int32) (z6 : Int32) (z7 : Int32) (z9 : Int32) (u0 : Int32) (s : aT) (hc : isT c) : ∀ r, (ldI 4200 s (c + 3) z6 (fun v1 => cG (fMt_need d c u0 8 v1 s) (kV fun s2 => cG (fMt_addKid d c x1 z5 s2) (kI fun v4 s3 => stI 2200 s3 (c + 16) v4 z7 (fun s5 => cG (fMt_member d c z6 1063 s5) (kI fun v7 s6 => stI 2200 s6 (c + 17) v4 v7 (fun s8 => cG (fMt_schemaOf d c z9 (x3 + 1) 0 s8) (kI fun v10 s9 => stI 2200 s9 (c + 15) v4 v10 (fun s11 => stI 2200 s11 (c + 19) (gI s11 c 29) v4 (fun s12 => wI s12 c 29 ((gI s12 c 29) + 1) (fun s13 => ldI 4200 s13 (c + 7) z6 (fun v14 => fMt_fields_46 (d + 1) c x1 x3 v4 v14 s13)))))))))))) = some r → fMt_fields_137 (d + 1) c x1 x3 z5 z6 z7 z9 u0 s = some r := by
  intro r hr
  show ev (d + 1) q_224 137 [(0, .ref c), (1, .int x1), (3, .int x3), (5, .int z5), (6, .int z6), (7, .int z7), (9, .int z9)] [.int u0, .ref c] s = some r
  refine ev_seg 2 (k' := 139) (L' := [(0, .ref c), (1, .int x1), (3, .int x3), (5, .int z5), (6, .int z6), (7, .int z7), (9, .int z9)]) (st' := [.ref c, .int 8, .int u0, .ref c]) rfl ?_
  refine ev_getR (c := c) (v := c + 3) rfl (isT_sh hc) rfl (isT_r3 hc) ?_
  refine ev_seg 1 (k' := 141) (L' := [(0, .ref c), (1, .int x1), (3, .int x3), (5, .int z5), (6, .int z6), (7, .int z7), (9, .int z9)]) (st' := [.int z6, .ref (c + 3), .int 8, .int u0, .ref c]) rfl ?_
  refine ev_ldI hr rfl (isT_a3 hc) (fun v1 hr => ?_)
  refine ev_callV (q' := q_200) (x := 200) (y := 12) (c := c) (As := [.int u0, .int 8, .int v1]) (rest := []) hr rfl rfl rfl rfl rfl rfl (isT_sh hc) rfl rfl rfl rfl rfl (fun rv s2 hq => ev_kV hq (fun e9 hr => ?_))
  subst e9
  refine ev_st (st' := []) rfl ?_
  refine ev_seg 3 (k' := 146) (L' := [(0, .ref c), (1, .int x1), (3, .int x3), (5, .int z5), (6, .int z6), (7, .int z7), (9, .int z9)]) (st' := [.int z5, .int x1, .ref c]) rfl ?_
  refine ev_callV (q' := q_218) (x := 218) (y := 12) (c := c) (As := [.int x1, .int z5]) (rest := []) hr rfl rfl rfl rfl rfl rfl (isT_sh hc) rfl rfl rfl rfl rfl (fun rv s3 hq => ev_kI hq (fun v4 e9 hr => ?_))
  subst e9
  refine ev_st (st' := [.int v4]) rfl ?_
  refine ev_seg 2 (k' := 149) (L' := [(5, .int v4), (0, .ref c), (1, .int x1), (3, .int x3), (6, .int z6), (7, .int z7), (9, .int z9)]) (st' := [.ref c]) rfl ?_
  refine ev_getR (c := c) (v := c + 16) rfl (isT_sh hc) rfl (isT_r16 hc) ?_
  refine ev_seg 2 (k' := 152) (L' := [(5, .int v4), (0, .ref c), (1, .int x1), (3, .int x3), (6, .int z6), (7, .int z7), (9, .int z9)]) (st' := [.int z7, .int v4, .ref (c + 16)]) rfl ?_
  refine ev_stI hr rfl (isT_a16 hc) (fun s5 hr => ?_)
  refine ev_seg 1 (k' := 154) (L' := [(5, .int v4), (0, .ref c), (1, .int x1), (3, .int x3), (6, .int z6), (7, .int z7), (9, .int z9)]) (st' := [.ref c]) rfl ?_
  refine ev_getR (c := c) (v := c + 17) rfl (isT_sh hc) rfl (isT_r17 hc) ?_
  refine ev_seg 4 (k' := 159) (L' := [(5, .int v4), (0, .ref c), (1, .int x1), (3, .int x3), (6, .int z6), (7, .int z7), (9, .int z9)]) (st' := [.ref 1063, .int z6, .ref c, .int v4, .ref (c + 17)]) rfl ?_
  refine ev_callV (q' := q_219) (x := 219) (y := 12) (c := c) (As := [.int z6, .ref 1063]) (rest := [.int v4, .ref (c + 17)]) hr rfl rfl rfl rfl rfl rfl (isT_sh hc) rfl rfl rfl rfl rfl (fun rv s6 hq => ev_kI hq (fun v7 e9 hr => ?_))
  subst e9
  refine ev_st (st' := [.int v7, .int v4, .ref (c + 17)]) rfl ?_
  refine ev_stI hr rfl (isT_a17 hc) (fun s8 hr => ?_)
  refine ev_seg 1 (k' := 162) (L' := [(5, .int v4), (0, .ref c), (1, .int x1), (3, .int x3), (6, .int z6), (7, .int z7), (9, .int z9)]) (st' := [.ref c]) rfl ?_
  refine ev_getR (c := c) (v := c + 15) rfl (isT_sh hc) rfl (isT_r15 hc) ?_
  refine ev_seg 7 (k' := 170) (L' := [(5, .int v4), (0, .ref c), (1, .int x1), (3, .int x3), (6, .int z6), (7, .int z7), (9, .int z9)]) (st' := [.int 0, .int (x3 + 1), .int z9, .ref c, .int v4, .ref (c + 15)]) rfl ?_
  refine ev_callV (q' := q_211) (x := 211) (y := 12) (c := c) (As := [.int z9, .int (x3 + 1), .int 0]) (rest := [.int v4, .ref (c + 15)]) hr rfl rfl rfl rfl rfl rfl (isT_sh hc) rfl rfl rfl rfl rfl (fun rv s9 hq => ev_kI hq (fun v10 e9 hr => ?_))
  subst e9
  refine ev_st (st' := [.int v10, .int v4, .ref (c + 15)]) rfl ?_
  refine ev_stI hr rfl (isT_a15 hc) (fun s11 hr => ?_)
  refine ev_seg 1 (k' := 173) (L' := [(5, .int v4), (0, .ref c), (1, .int x1), (3, .int x3), (6, .int z6), (7, .int z7), (9, .int z9)]) (st' := [.ref c]) rfl ?_
  refine ev_getR (c := c) (v := c + 19) rfl (isT_sh hc) rfl (isT_r19 hc) ?_
  refine ev_seg 1 (k' := 175) (L' := [(5, .int v4), (0, .ref c), (1, .int x1), (3, .int x3), (6, .int z6), (7, .int z7), (9, .int z9)]) (st' := [.ref c, .ref (c + 19)]) rfl ?_
  refine ev_getI (c := c) rfl (isT_sh hc) rfl (Or.inl rfl) ?_
  refine ev_seg 1 (k' := 177) (L' := [(5, .int v4), (0, .ref c), (1, .int x1), (3, .int x3), (6, .int z6), (7, .int z7), (9, .int z9)]) (st' := [.int v4, .int (gI s11 c 29), .ref (c + 19)]) rfl ?_
  refine ev_stI hr rfl (isT_a19 hc) (fun s12 hr => ?_)
  refine ev_seg 2 (k' := 180) (L' := [(5, .int v4), (0, .ref c), (1, .int x1), (3, .int x3), (6, .int z6), (7, .int z7), (9, .int z9)]) (st' := [.ref c, .ref c]) rfl ?_
  refine ev_getI (c := c) rfl (isT_sh hc) rfl (Or.inl rfl) ?_
  refine ev_seg 2 (k' := 183) (L' := [(5, .int v4), (0, .ref c), (1, .int x1), (3, .int x3), (6, .int z6), (7, .int z7), (9, .int z9)]) (st' := [.int ((gI s12 c 29) + 1), .ref c]) rfl ?_
  refine ev_putI (c := c) hr rfl (isT_sh hc) rfl (fun s13 hr => ?_)
  refine ev_seg 1 (k' := 185) (L' := [(5, .int v4), (0, .ref c), (1, .int x1), (3, .int x3), (6, .int z6), (7, .int z7), (9, .int z9)]) (st' := [.ref c]) rfl ?_
  refine ev_getR (c := c) (v := c + 7) rfl (isT_sh hc) rfl (isT_r7 hc) ?_
  refine ev_seg 1 (k' := 187) (L' := [(5, .int v4), (0, .ref c), (1, .int x1), (3, .int x3), (6, .int z6), (7, .int z7), (9, .int z9)]) (st' := [.int z6, .ref (c + 7)]) rfl ?_
  refine ev_ldI hr rfl (isT_a7 hc) (fun v14 hr => ?_)
  refine ev_seg 2 (k' := 46) (L' := [(6, .int v14), (5, .int v4), (0, .ref c), (1, .int x1), (3, .int x3), (7, .int z7), (9, .int z9)]) (st' := []) rfl ?_
  refine ev_join (L' := [(0, .ref c), (1, .int x1), (3, .int x3), (5, .int v4), (6, .int v14)]) [2, 3, 4, 1, 0] [6, 5, 0, 1, 3, 7, 9] [0, 1, 3, 5, 6] rfl rfl (by decide) (by decide) rfl ?_
  exact hr
set_option maxRecDepth 20000 in
theorem eMt_fields_110 (d : Nat) (c : Nat) (x1 : Int32) (x3 : Int32) (z5 : Int32) (z6 : Int32) (z7 : Int32) (z9 : Int32) (s : aT) (hc : isT c) : ∀ r, (fMt_fields_111 (d + 1) c x1 x3 z5 z6 z7 z9 0 s) = some r → fMt_fields_110 (d + 1) c x1 x3 z5 z6 z7 z9 s = some r := by
  intro r hr
  show ev (d + 1) q_224 110 [(0, .ref c), (1, .int x1), (3, .int x3), (5, .int z5), (6, .int z6), (7, .int z7), (9, .int z9)] [] s = some r
  refine ev_seg 1 (k' := 111) (L' := [(0, .ref c), (1, .int x1), (3, .int x3), (5, .int z5), (6, .int z6), (7, .int z7), (9, .int z9)]) (st' := [.int 0]) rfl ?_
  exact hr
set_option maxRecDepth 20000 in
theorem eMt_fields_111 (d : Nat) (c : Nat) (x1 : Int32) (x3 : Int32) (z5 : Int32) (z6 : Int32) (z7 : Int32) (z9 : Int32) (u0 : Int32) (s : aT) (hc : isT c) : ∀ r, (ldI 2200 s (c + 18) z9 (fun v1 => fMt_fields_95 (d + 1) c x1 x3 z5 z6 z7 u0 v1 s)) = some r → fMt_fields_111 (d + 1) c x1 x3 z5 z6 z7 z9 u0 s = some r := by
  intro r hr
  show ev (d + 1) q_224 111 [(0, .ref c), (1, .int x1), (3, .int x3), (5, .int z5), (6, .int z6), (7, .int z7), (9, .int z9)] [.int u0] s = some r
  refine ev_seg 2 (k' := 113) (L' := [(8, .int u0), (0, .ref c), (1, .int x1), (3, .int x3), (5, .int z5), (6, .int z6), (7, .int z7), (9, .int z9)]) (st' := [.ref c]) rfl ?_
  refine ev_getR (c := c) (v := c + 18) rfl (isT_sh hc) rfl (isT_r18 hc) ?_
  refine ev_seg 1 (k' := 115) (L' := [(8, .int u0), (0, .ref c), (1, .int x1), (3, .int x3), (5, .int z5), (6, .int z6), (7, .int z7), (9, .int z9)]) (st' := [.int z9, .ref (c + 18)]) rfl ?_
  refine ev_ldI hr rfl (isT_a18 hc) (fun v1 hr => ?_)
  refine ev_seg 2 (k' := 95) (L' := [(9, .int v1), (8, .int u0), (0, .ref c), (1, .int x1), (3, .int x3), (5, .int z5), (6, .int z6), (7, .int z7)]) (st' := []) rfl ?_
  refine ev_join (L' := [(0, .ref c), (1, .int x1), (3, .int x3), (5, .int z5), (6, .int z6), (7, .int z7), (8, .int u0), (9, .int v1)]) [2, 3, 4, 5, 6, 7, 1, 0] [9, 8, 0, 1, 3, 5, 6, 7] [0, 1, 3, 5, 6, 7, 8, 9] rfl rfl (by decide) (by decide) rfl ?_
  exact hr
set_option maxRecDepth 20000 in
theorem eMt_fit (d : Nat) (c : Nat) (x1 : Int32) (x2 : Int32) (s : aT) (hc : isT c) : ∀ r, (ldI 4200 s (c + 3) x1 (fun v1 => ldI 140 s (c + 9) x2 (fun v2 => if v2 = 0 then ldI 4200 s (c + 2) x1 (fun v4 => if ¬ v4 = 6 then fMt_fit_20 (d + 1) v1 0 c s else fMt_fit_20 (d + 1) v1 1 c s) else if v2 = 1 then ldI 4200 s (c + 2) x1 (fun v6 => if v6 = 4 then fMt_fit_37 (d + 1) v1 c s else ldI 4200 s (c + 2) x1 (fun v7 => if ¬ v7 = 5 then fMt_fit_40 (d + 1) v1 0 c s else fMt_fit_37 (d + 1) v1 c s)) else if v2 = 2 then ldI 4200 s (c + 2) x1 (fun v9 => if ¬ v9 = 3 then fMt_fit_65 (d + 1) v1 c s else ldL 4200 s (c + 4) x1 (fun v10 => ldL 4200 s (c + 4) x1 (fun v11 => if ¬ aLcmp v10 v11.toInt32.toInt64 = 0 then fMt_fit_65 (d + 1) v1 c s else fMt_fit_66 (d + 1) v1 1 c s))) else if v2 = 3 then ldI 4200 s (c + 2) x1 (fun v13 => if ¬ v13 = 3 then fMt_fit_80 (d + 1) v1 0 c s else fMt_fit_80 (d + 1) v1 1 c s) else if v2 = 4 then ldI 4200 s (c + 2) x1 (fun v15 => if ¬ v15 = 2 then fMt_fit_94 (d + 1) v1 0 c s else fMt_fit_94 (d + 1) v1 1 c s) else if v2 = 5 then ldI 4200 s (c + 2) x1 (fun v17 => if ¬ v17 = 2 then fMt_fit_94 (d + 1) v1 0 c s else fMt_fit_94 (d + 1) v1 1 c s) else if v2 = 6 then ldI 4200 s (c + 2) x1 (fun v19 => if ¬ v19 = 1 then fMt_fit_162 (d + 1) c x1 x2 v1 0 s else fMt_fit_162 (d + 1) c x1 x2 v1 1 s) else if v2 = 7 then ldI 4200 s (c + 2) x1 (fun v21 => if ¬ v21 = 0 then fMt_fit_198 (d + 1) c x1 x2 v1 0 s else fMt_fit_198 (d + 1) c x1 x2 v1 1 s) else if v2 = 8 then ldI 140 s (c + 12) x2 (fun v23 => ldI 2200 s (c + 15) v23 (fun v24 => cG (fMt_fit d c x1 v24 s) (kV fun s25 => rV s25))) else if v2 = 9 then ldI 4200 s (c + 2) x1 (fun v27 => if ¬ v27 = 2 then fMt_fit_116 (d + 1) v1 c s else ldI 4200 s (c + 5) x1 (fun v28 => ldI 140 s (c + 11) x2 (fun v29 => if ¬ v28 = v29 then fMt_fit_116 (d + 1) v1 c s else fMt_fit_117 (d + 1) v1 1 c s))) else if v2 = 10 then ldI 4200 s (c + 2) x1 (fun v31 => if ¬ v31 = 2 then fMt_fit_136 (d + 1) v1 c s else cG (fMt_symbol d c x2 c x1 s) (kI fun v33 s32 => if v33 < 0 then fMt_fit_136 (d + 1) v1 c s32 else fMt_fit_137 (d + 1) v1 1 c s32)) else ldI 4200 s (c + 2) x1 (fun v34 => if ¬ v34 = 0 then fMt_fit_240 (d + 1) c x1 x2 v1 0 s else fMt_fit_240 (d + 1) c x1 x2 v1 1 s)))) = some r → fMt_fit (d + 1) c x1 x2 s = some r := by
  intro r hr
  show ev (d + 1) q_225 0 [(0, .ref c), (1, .int x1), (2, .int x2)] [] s = some r
  refine ev_seg 1 (k' := 1) (L' := [(0, .ref c), (1, .int x1), (2, .int x2)]) (st' := [.ref c]) rfl ?_
  refine ev_getR (c := c) (v := c + 3) rfl (isT_sh hc) rfl (isT_r3 hc) ?_
  refine ev_seg 1 (k' := 3) (L' := [(0, .ref c), (1, .int x1), (2, .int x2)]) (st' := [.int x1, .ref (c + 3)]) rfl ?_
  refine ev_ldI hr rfl (isT_a3 hc) (fun v1 hr => ?_)
  refine ev_seg 2 (k' := 6) (L' := [(3, .int v1), (0, .ref c), (1, .int x1), (2, .int x2)]) (st' := [.ref c]) rfl ?_
  refine ev_getR (c := c) (v := c + 9) rfl (isT_sh hc) rfl (isT_r9 hc) ?_
  refine ev_seg 1 (k' := 8) (L' := [(3, .int v1), (0, .ref c), (1, .int x1), (2, .int x2)]) (st' := [.int x2, .ref (c + 9)]) rfl ?_
  refine ev_ldI hr rfl (isT_a9 hc) (fun v2 hr => ?_)
  refine ev_if hr (fun h3 hr => ?_) (fun h3 hr => ?_)
  · skip
    refine ev_tab (o := 59) (t := 10) rfl (by rw [h3]; rfl) rfl ?_
    refine ev_seg 2 (k' := 12) (L' := [(3, .int v1), (0, .ref c), (1, .int x1), (2, .int x2)]) (st' := [.ref c, .ref c]) rfl ?_
    refine ev_getR (c := c) (v := c + 2) rfl (isT_sh hc) rfl (isT_r2 hc) ?_
    refine ev_seg 1 (k' := 14) (L' := [(3, .int v1), (0, .ref c), (1, .int x1), (2, .int x2)]) (st' := [.int x1, .ref (c + 2), .ref c]) rfl ?_
    refine ev_ldI hr rfl (isT_a2 hc) (fun v4 hr => ?_)
    refine ev_seg 1 (k' := 16) (L' := [(3, .int v1), (0, .ref c), (1, .int x1), (2, .int x2)]) (st' := [.int 6, .int v4, .ref c]) rfl ?_
    refine ev_br (P := ¬ v4 = 6) (L' := [(3, .int v1), (0, .ref c), (1, .int x1), (2, .int x2)]) (st' := [.ref c]) hr rfl rfl rfl (fun hr => ?_) (fun hr => ?_)
    · skip
      refine ev_seg 1 (k' := 20) (L' := [(3, .int v1), (0, .ref c), (1, .int x1), (2, .int x2)]) (st' := [.int 0, .ref c]) rfl ?_
      refine ev_join (L' := [(3, .int v1)]) [0] [3, 0, 1, 2] [3] rfl rfl (by decide) (by decide) rfl ?_
      exact hr
    · skip
      refine ev_seg 2 (k' := 20) (L' := [(3, .int v1), (0, .ref c), (1, .int x1), (2, .int x2)]) (st' := [.int 1, .ref c]) rfl ?_
      refine ev_join (L' := [(3, .int v1)]) [0] [3, 0, 1, 2] [3] rfl rfl (by decide) (by decide) rfl ?_
      exact hr
  refine ev_if hr (fun h5 hr => ?_) (fun h5 hr => ?_)
  · skip
    refine ev_tab (o := 85) (t := 24) rfl (by rw [h5]; rfl) rfl ?_
    refine ev_seg 2 (k' := 26) (L' := [(3, .int v1), (0, .ref c), (1, .int x1), (2, .int x2)]) (st' := [.ref c, .ref c]) rfl ?_
    refine ev_getR (c := c) (v := c + 2) rfl (isT_sh hc) rfl (isT_r2 hc) ?_
    refine ev_seg 1 (k' := 28) (L' := [(3, .int v1), (0, .ref c), (1, .int x1), (2, .int x2)]) (st' := [.int x1, .ref (c + 2), .ref c]) rfl ?_
    refine ev_ldI hr rfl (isT_a2 hc) (fun v6 hr => ?_)
    refine ev_seg 1 (k' := 30) (L' := [(3, .int v1), (0, .ref c), (1, .int x1), (2, .int x2)]) (st' := [.int 4, .int v6, .ref c]) rfl ?_
    refine ev_br (P := v6 = 4) (L' := [(3, .int v1), (0, .ref c), (1, .int x1), (2, .int x2)]) (st' := [.ref c]) hr rfl rfl rfl (fun hr => ?_) (fun hr => ?_)
    · skip
      refine ev_join (L' := [(3, .int v1)]) [0] [3, 0, 1, 2] [3] rfl rfl (by decide) (by decide) rfl ?_
      exact hr
    · skip
      refine ev_seg 1 (k' := 32) (L' := [(3, .int v1), (0, .ref c), (1, .int x1), (2, .int x2)]) (st' := [.ref c, .ref c]) rfl ?_
      refine ev_getR (c := c) (v := c + 2) rfl (isT_sh hc) rfl (isT_r2 hc) ?_
      refine ev_seg 1 (k' := 34) (L' := [(3, .int v1), (0, .ref c), (1, .int x1), (2, .int x2)]) (st' := [.int x1, .ref (c + 2), .ref c]) rfl ?_
      refine ev_ldI hr rfl (isT_a2 hc) (fun v7 hr => ?_)
      refine ev_seg 1 (k' := 36) (L' := [(3, .int v1), (0, .ref c), (1, .int x1), (2, .int x2)]) (st' := [.int 5, .int v7, .ref c]) rfl ?_
      refine ev_br (P := ¬ v7 = 5) (L' := [(3, .int v1), (0, .ref c), (1, .int x1), (2, .int x2)]) (st' := [.ref c]) hr rfl rfl rfl (fun hr => ?_) (fun hr => ?_)
      · skip
        refine ev_seg 1 (k' := 40) (L' := [(3, .int v1), (0, .ref c), (1, .int x1), (2, .int x2)]) (st' := [.int 0, .ref c]) rfl ?_
        refine ev_join (L' := [(3, .int v1)]) [0] [3, 0, 1, 2] [3] rfl rfl (by decide) (by decide) rfl ?_
        exact hr
      · skip
        refine ev_join (L' := [(3, .int v1)]) [0] [3, 0, 1, 2] [3] rfl rfl (by decide) (by decide) rfl ?_
        exact hr
  refine ev_if hr (fun h8 hr => ?_) (fun h8 hr => ?_)
  · skip
    refine ev_tab (o := 120) (t := 44) rfl (by rw [h8]; rfl) rfl ?_
    refine ev_seg 2 (k' := 46) (L' := [(3, .int v1), (0, .ref c), (1, .int x1), (2, .int x2)]) (st' := [.ref c, .ref c]) rfl ?_
    refine ev_getR (c := c) (v := c + 2) rfl (isT_sh hc) rfl (isT_r2 hc) ?_
    refine ev_seg 1 (k' := 48) (L' := [(3, .int v1), (0, .ref c), (1, .int x1), (2, .int x2)]) (st' := [.int x1, .ref (c + 2), .ref c]) rfl ?_
    refine ev_ldI hr rfl (isT_a2 hc) (fun v9 hr => ?_)
    refine ev_seg 1 (k' := 50) (L' := [(3, .int v1), (0, .ref c), (1, .int x1), (2, .int x2)]) (st' := [.int 3, .int v9, .ref c]) rfl ?_
    refine ev_br (P := ¬ v9 = 3) (L' := [(3, .int v1), (0, .ref c), (1, .int x1), (2, .int x2)]) (st' := [.ref c]) hr rfl rfl rfl (fun hr => ?_) (fun hr => ?_)
    · skip
      refine ev_join (L' := [(3, .int v1)]) [0] [3, 0, 1, 2] [3] rfl rfl (by decide) (by decide) rfl ?_
      exact hr
    · skip
      refine ev_seg 1 (k' := 52) (L' := [(3, .int v1), (0, .ref c), (1, .int x1), (2, .int x2)]) (st' := [.ref c, .ref c]) rfl ?_
      refine ev_getR (c := c) (v := c + 4) rfl (isT_sh hc) rfl (isT_r4 hc) ?_
      refine ev_seg 1 (k' := 54) (L' := [(3, .int v1), (0, .ref c), (1, .int x1), (2, .int x2)]) (st' := [.int x1, .ref (c + 4), .ref c]) rfl ?_
      refine ev_ldL hr rfl (isT_a4 hc) (fun v10 hr => ?_)
      refine ev_seg 1 (k' := 56) (L' := [(3, .int v1), (0, .ref c), (1, .int x1), (2, .int x2)]) (st' := [.ref c, .long v10, .ref c]) rfl ?_
      refine ev_getR (c := c) (v := c + 4) rfl (isT_sh hc) rfl (isT_r4 hc) ?_
      refine ev_seg 1 (k' := 58) (L' := [(3, .int v1), (0, .ref c), (1, .int x1), (2, .int x2)]) (st' := [.int x1, .ref (c + 4), .long v10, .ref c]) rfl ?_
      refine ev_ldL hr rfl (isT_a4 hc) (fun v11 hr => ?_)
      refine ev_seg 3 (k' := 62) (L' := [(3, .int v1), (0, .ref c), (1, .int x1), (2, .int x2)]) (st' := [.int (aLcmp v10 v11.toInt32.toInt64), .ref c]) rfl ?_
      refine ev_br (P := ¬ aLcmp v10 v11.toInt32.toInt64 = 0) (L' := [(3, .int v1), (0, .ref c), (1, .int x1), (2, .int x2)]) (st' := [.ref c]) hr rfl rfl rfl (fun hr => ?_) (fun hr => ?_)
      · skip
        refine ev_join (L' := [(3, .int v1)]) [0] [3, 0, 1, 2] [3] rfl rfl (by decide) (by decide) rfl ?_
        exact hr
      · skip
        refine ev_seg 2 (k' := 66) (L' := [(3, .int v1), (0, .ref c), (1, .int x1), (2, .int x2)]) (st' := [.int 1, .ref c]) rfl ?_
        refine ev_join (L' := [(3, .int v1)]) [0] [3, 0, 1, 2] [3] rfl rfl (by decide) (by decide) rfl ?_
        exact hr
  refine ev_if hr (fun h12 hr => ?_) (fun h12 hr => ?_)
  · skip
    refine ev_tab (o := 163) (t := 70) rfl (by rw [h12]; rfl) rfl ?_
    refine ev_seg 2 (k' := 72) (L' := [(3, .int v1), (0, .ref c), (1, .int x1), (2, .int x2)]) (st' := [.ref c, .ref c]) rfl ?_
    refine ev_getR (c := c) (v := c + 2) rfl (isT_sh hc) rfl (isT_r2 hc) ?_
    refine ev_seg 1 (k' := 74) (L' := [(3, .int v1), (0, .ref c), (1, .int x1), (2, .int x2)]) (st' := [.int x1, .ref (c + 2), .ref c]) rfl ?_
    refine ev_ldI hr rfl (isT_a2 hc) (fun v13 hr => ?_)
    refine ev_seg 1 (k' := 76) (L' := [(3, .int v1), (0, .ref c), (1, .int x1), (2, .int x2)]) (st' := [.int 3, .int v13, .ref c]) rfl ?_
    refine ev_br (P := ¬ v13 = 3) (L' := [(3, .int v1), (0, .ref c), (1, .int x1), (2, .int x2)]) (st' := [.ref c]) hr rfl rfl rfl (fun hr => ?_) (fun hr => ?_)
    · skip
      refine ev_seg 1 (k' := 80) (L' := [(3, .int v1), (0, .ref c), (1, .int x1), (2, .int x2)]) (st' := [.int 0, .ref c]) rfl ?_
      refine ev_join (L' := [(3, .int v1)]) [0] [3, 0, 1, 2] [3] rfl rfl (by decide) (by decide) rfl ?_
      exact hr
    · skip
      refine ev_seg 2 (k' := 80) (L' := [(3, .int v1), (0, .ref c), (1, .int x1), (2, .int x2)]) (st' := [.int 1, .ref c]) rfl ?_
      refine ev_join (L' := [(3, .int v1)]) [0] [3, 0, 1, 2] [3] rfl rfl (by decide) (by decide) rfl ?_
      exact hr
  refine ev_if hr (fun h14 hr => ?_) (fun h14 hr => ?_)
  · skip
    refine ev_tab (o := 188) (t := 84) rfl (by rw [h14]; rfl) rfl ?_
    refine ev_seg 2 (k' := 86) (L' := [(3, .int v1), (0, .ref c), (1, .int x1), (2, .int x2)]) (st' := [.ref c, .ref c]) rfl ?_
    refine ev_getR (c := c) (v := c + 2) rfl (isT_sh hc) rfl (isT_r2 hc) ?_
    refine ev_seg 1 (k' := 88) (L' := [(3, .int v1), (0, .ref c), (1, .int x1), (2, .int x2)]) (st' := [.int x1, .ref (c + 2), .ref c]) rfl ?_
    refine ev_ldI hr rfl (isT_a2 hc) (fun v15 hr => ?_)
    refine ev_seg 1 (k' := 90) (L' := [(3, .int v1), (0, .ref c), (1, .int x1), (2, .int x2)]) (st' := [.int 2, .int v15, .ref c]) rfl ?_
    refine ev_br (P := ¬ v15 = 2) (L' := [(3, .int v1), (0, .ref c), (1, .int x1), (2, .int x2)]) (st' := [.ref c]) hr rfl rfl rfl (fun hr => ?_) (fun hr => ?_)
    · skip
      refine ev_seg 1 (k' := 94) (L' := [(3, .int v1), (0, .ref c), (1, .int x1), (2, .int x2)]) (st' := [.int 0, .ref c]) rfl ?_
      refine ev_join (L' := [(3, .int v1)]) [0] [3, 0, 1, 2] [3] rfl rfl (by decide) (by decide) rfl ?_
      exact hr
    · skip
      refine ev_seg 2 (k' := 94) (L' := [(3, .int v1), (0, .ref c), (1, .int x1), (2, .int x2)]) (st' := [.int 1, .ref c]) rfl ?_
      refine ev_join (L' := [(3, .int v1)]) [0] [3, 0, 1, 2] [3] rfl rfl (by decide) (by decide) rfl ?_
      exact hr
  refine ev_if hr (fun h16 hr => ?_) (fun h16 hr => ?_)
  · skip
    refine ev_tab (o := 188) (t := 84) rfl (by rw [h16]; rfl) rfl ?_
    refine ev_seg 2 (k' := 86) (L' := [(3, .int v1), (0, .ref c), (1, .int x1), (2, .int x2)]) (st' := [.ref c, .ref c]) rfl ?_
    refine ev_getR (c := c) (v := c + 2) rfl (isT_sh hc) rfl (isT_r2 hc) ?_
    refine ev_seg 1 (k' := 88) (L' := [(3, .int v1), (0, .ref c), (1, .int x1), (2, .int x2)]) (st' := [.int x1, .ref (c + 2), .ref c]) rfl ?_
    refine ev_ldI hr rfl (isT_a2 hc) (fun v17 hr => ?_)
    refine ev_seg 1 (k' := 90) (L' := [(3, .int v1), (0, .ref c), (1, .int x1), (2, .int x2)]) (st' := [.int 2, .int v17, .ref c]) rfl ?_
    refine ev_br (P := ¬ v17 = 2) (L' := [(3, .int v1), (0, .ref c), (1, .int x1), (2, .int x2)]) (st' := [.ref c]) hr rfl rfl rfl (fun hr => ?_) (fun hr => ?_)
    · skip
      refine ev_seg 1 (k' := 94) (L' := [(3, .int v1), (0, .ref c), (1, .int x1), (2, .int x2)]) (st' := [.int 0, .ref c]) rfl ?_
      refine ev_join (L' := [(3, .int v1)]) [0] [3, 0, 1, 2] [3] rfl rfl (by decide) (by decide) rfl ?_
      exact hr
    · skip
      refine ev_seg 2 (k' := 94) (L' := [(3, .int v1), (0, .ref c), (1, .int x1), (2, .int x2)]) (st' := [.int 1, .ref c]) rfl ?_
      refine ev_join (L' := [(3, .int v1)]) [0] [3, 0, 1, 2] [3] rfl rfl (by decide) (by decide) rfl ?_
      exact hr
  refine ev_if hr (fun h18 hr => ?_) (fun h18 hr => ?_)
  · skip
    refine ev_tab (o := 307) (t := 152) rfl (by rw [h18]; rfl) rfl ?_
    refine ev_seg 2 (k' := 154) (L' := [(3, .int v1), (0, .ref c), (1, .int x1), (2, .int x2)]) (st' := [.ref c, .ref c]) rfl ?_
    refine ev_getR (c := c) (v := c + 2) rfl (isT_sh hc) rfl (isT_r2 hc) ?_
    refine ev_seg 1 (k' := 156) (L' := [(3, .int v1), (0, .ref c), (1, .int x1), (2, .int x2)]) (st' := [.int x1, .ref (c + 2), .ref c]) rfl ?_
    refine ev_ldI hr rfl (isT_a2 hc) (fun v19 hr => ?_)
    refine ev_seg 1 (k' := 158) (L' := [(3, .int v1), (0, .ref c), (1, .int x1), (2, .int x2)]) (st' := [.int 1, .int v19, .ref c]) rfl ?_
    refine ev_br (P := ¬ v19 = 1) (L' := [(3, .int v1), (0, .ref c), (1, .int x1), (2, .int x2)]) (st' := [.ref c]) hr rfl rfl rfl (fun hr => ?_) (fun hr => ?_)
    · skip
      refine ev_seg 1 (k' := 162) (L' := [(3, .int v1), (0, .ref c), (1, .int x1), (2, .int x2)]) (st' := [.int 0, .ref c]) rfl ?_
      refine ev_join (L' := [(0, .ref c), (1, .int x1), (2, .int x2), (3, .int v1)]) [1, 2, 3, 0] [3, 0, 1, 2] [0, 1, 2, 3] rfl rfl (by decide) (by decide) rfl ?_
      exact hr
    · skip
      refine ev_seg 2 (k' := 162) (L' := [(3, .int v1), (0, .ref c), (1, .int x1), (2, .int x2)]) (st' := [.int 1, .ref c]) rfl ?_
      refine ev_join (L' := [(0, .ref c), (1, .int x1), (2, .int x2), (3, .int v1)]) [1, 2, 3, 0] [3, 0, 1, 2] [0, 1, 2, 3] rfl rfl (by decide) (by decide) rfl ?_
      exact hr
  refine ev_if hr (fun h20 hr => ?_) (fun h20 hr => ?_)
  · skip
    refine ev_tab (o := 374) (t := 189) rfl (by rw [h20]; rfl) rfl ?_
    refine ev_seg 2 (k' := 191) (L' := [(3, .int v1), (0, .ref c), (1, .int x1), (2, .int x2)]) (st' := [.ref c, .ref c]) rfl ?_
    refine ev_getR (c := c) (v := c + 2) rfl (isT_sh hc) rfl (isT_r2 hc) ?_
    refine ev_seg 1 (k' := 193) (L' := [(3, .int v1), (0, .ref c), (1, .int x1), (2, .int x2)]) (st' := [.int x1, .ref (c + 2), .ref c]) rfl ?_
    refine ev_ldI hr rfl (isT_a2 hc) (fun v21 hr => ?_)
    refine ev_br (P := ¬ v21 = 0) (L' := [(3, .int v1), (0, .ref c), (1, .int x1), (2, .int x2)]) (st' := [.ref c]) hr rfl rfl rfl (fun hr => ?_) (fun hr => ?_)
    · skip
      refine ev_seg 1 (k' := 198) (L' := [(3, .int v1), (0, .ref c), (1, .int x1), (2, .int x2)]) (st' := [.int 0, .ref c]) rfl ?_
      refine ev_join (L' := [(0, .ref c), (1, .int x1), (2, .int x2), (3, .int v1)]) [1, 2, 3, 0] [3, 0, 1, 2] [0, 1, 2, 3] rfl rfl (by decide) (by decide) rfl ?_
      exact hr
    · skip
      refine ev_seg 2 (k' := 198) (L' := [(3, .int v1), (0, .ref c), (1, .int x1), (2, .int x2)]) (st' := [.int 1, .ref c]) rfl ?_
      refine ev_join (L' := [(0, .ref c), (1, .int x1), (2, .int x2), (3, .int v1)]) [1, 2, 3, 0] [3, 0, 1, 2] [0, 1, 2, 3] rfl rfl (by decide) (by decide) rfl ?_
      exact hr
  refine ev_if hr (fun h22 hr => ?_) (fun h22 hr => ?_)
  · skip
    refine ev_tab (o := 288) (t := 141) rfl (by rw [h22]; rfl) rfl ?_
    refine ev_seg 3 (k' := 144) (L' := [(3, .int v1), (0, .ref c), (1, .int x1), (2, .int x2)]) (st' := [.ref c, .int x1, .ref c]) rfl ?_
    refine ev_getR (c := c) (v := c + 15) rfl (isT_sh hc) rfl (isT_r15 hc) ?_
    refine ev_seg 1 (k' := 146) (L' := [(3, .int v1), (0, .ref c), (1, .int x1), (2, .int x2)]) (st' := [.ref c, .ref (c + 15), .int x1, .ref c]) rfl ?_
    refine ev_getR (c := c) (v := c + 12) rfl (isT_sh hc) rfl (isT_r12 hc) ?_
    refine ev_seg 1 (k' := 148) (L' := [(3, .int v1), (0, .ref c), (1, .int x1), (2, .int x2)]) (st' := [.int x2, .ref (c + 12), .ref (c + 15), .int x1, .ref c]) rfl ?_
    refine ev_ldI hr rfl (isT_a12 hc) (fun v23 hr => ?_)
    refine ev_ldI hr rfl (isT_a15 hc) (fun v24 hr => ?_)
    refine ev_callV (q' := q_225) (x := 225) (y := 12) (c := c) (As := [.int x1, .int v24]) (rest := []) hr rfl rfl rfl rfl rfl rfl (isT_sh hc) rfl rfl rfl rfl rfl (fun rv s25 hq => ev_kV hq (fun e9 hr => ?_))
    subst e9
    refine ev_st (st' := []) rfl ?_
    refine ev_seg 1 (k' := 280) (L' := [(3, .int v1), (0, .ref c), (1, .int x1), (2, .int x2)]) (st' := []) rfl ?_
    exact ev_vret hr rfl rfl
  refine ev_if hr (fun h26 hr => ?_) (fun h26 hr => ?_)
  · skip
    refine ev_tab (o := 213) (t := 98) rfl (by rw [h26]; rfl) rfl ?_
    refine ev_seg 2 (k' := 100) (L' := [(3, .int v1), (0, .ref c), (1, .int x1), (2, .int x2)]) (st' := [.ref c, .ref c]) rfl ?_
    refine ev_getR (c := c) (v := c + 2) rfl (isT_sh hc) rfl (isT_r2 hc) ?_
    refine ev_seg 1 (k' := 102) (L' := [(3, .int v1), (0, .ref c), (1, .int x1), (2, .int x2)]) (st' := [.int x1, .ref (c + 2), .ref c]) rfl ?_
    refine ev_ldI hr rfl (isT_a2 hc) (fun v27 hr => ?_)
    refine ev_seg 1 (k' := 104) (L' := [(3, .int v1), (0, .ref c), (1, .int x1), (2, .int x2)]) (st' := [.int 2, .int v27, .ref c]) rfl ?_
    refine ev_br (P := ¬ v27 = 2) (L' := [(3, .int v1), (0, .ref c), (1, .int x1), (2, .int x2)]) (st' := [.ref c]) hr rfl rfl rfl (fun hr => ?_) (fun hr => ?_)
    · skip
      refine ev_join (L' := [(3, .int v1)]) [0] [3, 0, 1, 2] [3] rfl rfl (by decide) (by decide) rfl ?_
      exact hr
    · skip
      refine ev_seg 1 (k' := 106) (L' := [(3, .int v1), (0, .ref c), (1, .int x1), (2, .int x2)]) (st' := [.ref c, .ref c]) rfl ?_
      refine ev_getR (c := c) (v := c + 5) rfl (isT_sh hc) rfl (isT_r5 hc) ?_
      refine ev_seg 1 (k' := 108) (L' := [(3, .int v1), (0, .ref c), (1, .int x1), (2, .int x2)]) (st' := [.int x1, .ref (c + 5), .ref c]) rfl ?_
      refine ev_ldI hr rfl (isT_a5 hc) (fun v28 hr => ?_)
      refine ev_seg 1 (k' := 110) (L' := [(3, .int v1), (0, .ref c), (1, .int x1), (2, .int x2)]) (st' := [.ref c, .int v28, .ref c]) rfl ?_
      refine ev_getR (c := c) (v := c + 11) rfl (isT_sh hc) rfl (isT_r11 hc) ?_
      refine ev_seg 1 (k' := 112) (L' := [(3, .int v1), (0, .ref c), (1, .int x1), (2, .int x2)]) (st' := [.int x2, .ref (c + 11), .int v28, .ref c]) rfl ?_
      refine ev_ldI hr rfl (isT_a11 hc) (fun v29 hr => ?_)
      refine ev_br (P := ¬ v28 = v29) (L' := [(3, .int v1), (0, .ref c), (1, .int x1), (2, .int x2)]) (st' := [.ref c]) hr rfl rfl rfl (fun hr => ?_) (fun hr => ?_)
      · skip
        refine ev_join (L' := [(3, .int v1)]) [0] [3, 0, 1, 2] [3] rfl rfl (by decide) (by decide) rfl ?_
        exact hr
      · skip
        refine ev_seg 2 (k' := 117) (L' := [(3, .int v1), (0, .ref c), (1, .int x1), (2, .int x2)]) (st' := [.int 1, .ref c]) rfl ?_
        refine ev_join (L' := [(3, .int v1)]) [0] [3, 0, 1, 2] [3] rfl rfl (by decide) (by decide) rfl ?_
        exact hr
  refine ev_if hr (fun h30 hr => ?_) (fun h30 hr => ?_)
  · skip
    refine ev_tab (o := 253) (t := 121) rfl (by rw [h30]; rfl) rfl ?_
    refine ev_seg 2 (k' := 123) (L' := [(3, .int v1), (0, .ref c), (1, .int x1), (2, .int x2)]) (st' := [.ref c, .ref c]) rfl ?_
    refine ev_getR (c := c) (v := c + 2) rfl (isT_sh hc) rfl (isT_r2 hc) ?_
    refine ev_seg 1 (k' := 125) (L' := [(3, .int v1), (0, .ref c), (1, .int x1), (2, .int x2)]) (st' := [.int x1, .ref (c + 2), .ref c]) rfl ?_
    refine ev_ldI hr rfl (isT_a2 hc) (fun v31 hr => ?_)
    refine ev_seg 1 (k' := 127) (L' := [(3, .int v1), (0, .ref c), (1, .int x1), (2, .int x2)]) (st' := [.int 2, .int v31, .ref c]) rfl ?_
    refine ev_br (P := ¬ v31 = 2) (L' := [(3, .int v1), (0, .ref c), (1, .int x1), (2, .int x2)]) (st' := [.ref c]) hr rfl rfl rfl (fun hr => ?_) (fun hr => ?_)
    · skip
      refine ev_join (L' := [(3, .int v1)]) [0] [3, 0, 1, 2] [3] rfl rfl (by decide) (by decide) rfl ?_
      exact hr
    · skip
      refine ev_seg 4 (k' := 132) (L' := [(3, .int v1), (0, .ref c), (1, .int x1), (2, .int x2)]) (st' := [.int x1, .ref c, .int x2, .ref c, .ref c]) rfl ?_
      refine ev_callV (q' := q_223) (x := 223) (y := 12) (c := c) (As := [.int x2, .ref c, .int x1]) (rest := [.ref c]) hr rfl rfl rfl rfl rfl rfl (isT_sh hc) rfl rfl rfl rfl rfl (fun rv s32 hq => ev_kI hq (fun v33 e9 hr => ?_))
      subst e9
      refine ev_st (st' := [.int v33, .ref c]) rfl ?_
      refine ev_br (P := v33 < 0) (L' := [(3, .int v1), (0, .ref c), (1, .int x1), (2, .int x2)]) (st' := [.ref c]) hr rfl rfl rfl (fun hr => ?_) (fun hr => ?_)
      · skip
        refine ev_join (L' := [(3, .int v1)]) [0] [3, 0, 1, 2] [3] rfl rfl (by decide) (by decide) rfl ?_
        exact hr
      · skip
        refine ev_seg 2 (k' := 137) (L' := [(3, .int v1), (0, .ref c), (1, .int x1), (2, .int x2)]) (st' := [.int 1, .ref c]) rfl ?_
        refine ev_join (L' := [(3, .int v1)]) [0] [3, 0, 1, 2] [3] rfl rfl (by decide) (by decide) rfl ?_
        exact hr
  refine ev_tab (o := 450) (t := 231) rfl (tab_in (by have e0 := i_neL (z := 0) (w := 0) rfl h3; have e1 := i_neL (z := 1) (w := 1) rfl h5; have e2 := i_neL (z := 2) (w := 2) rfl h8; have e3 := i_neL (z := 3) (w := 3) rfl h12; have e4 := i_neL (z := 4) (w := 4) rfl h14; have e5 := i_neL (z := 5) (w := 5) rfl h16; have e6 := i_neL (z := 6) (w := 6) rfl h18; have e7 := i_neL (z := 7) (w := 7) rfl h20; have e8 := i_neL (z := 8) (w := 8) rfl h22; have e9 := i_neL (z := 9) (w := 9) rfl h26; have e10 := i_neL (z := 10) (w := 10) rfl h30; omega)) rfl ?_
  refine ev_seg 2 (k' := 233) (L' := [(3, .int v1), (0, .ref c), (1, .int x1), (2, .int x2)]) (st' := [.ref c, .ref c]) rfl ?_
  refine ev_getR (c := c) (v := c + 2) rfl (isT_sh hc) rfl (isT_r2 hc) ?_
  refine ev_seg 1 (k' := 235) (L' := [(3, .int v1), (0, .ref c), (1, .int x1), (2, .int x2)]) (st' := [.int x1, .ref (c + 2), .ref c]) rfl ?_
  refine ev_ldI hr rfl (isT_a2 hc) (fun v34 hr => ?_)
  refine ev_br (P := ¬ v34 = 0) (L' := [(3, .int v1), (0, .ref c), (1, .int x1), (2, .int x2)]) (st' := [.ref c]) hr rfl rfl rfl (fun hr => ?_) (fun hr => ?_)
  · skip
    refine ev_seg 1 (k' := 240) (L' := [(3, .int v1), (0, .ref c), (1, .int x1), (2, .int x2)]) (st' := [.int 0, .ref c]) rfl ?_
    refine ev_join (L' := [(0, .ref c), (1, .int x1), (2, .int x2), (3, .int v1)]) [1, 2, 3, 0] [3, 0, 1, 2] [0, 1, 2, 3] rfl rfl (by decide) (by decide) rfl ?_
    exact hr
  · skip
    refine ev_seg 2 (k' := 240) (L' := [(3, .int v1), (0, .ref c), (1, .int x1), (2, .int x2)]) (st' := [.int 1, .ref c]) rfl ?_
    refine ev_join (L' := [(0, .ref c), (1, .int x1), (2, .int x2), (3, .int v1)]) [1, 2, 3, 0] [3, 0, 1, 2] [0, 1, 2, 3] rfl rfl (by decide) (by decide) rfl ?_
    exact hr
set_option maxRecDepth 20000 in
theorem eMt_fit_20 (d : Nat) (z3 : Int32) (u0 : Int32) (c : Nat) (s : aT) (hc : isT c) : ∀ r, (cG (fMt_need d c u0 12 z3 s) (kV fun s1 => rV s1)) = some r → fMt_fit_20 (d + 1) z3 u0 c s = some r := by
  intro r hr
  show ev (d + 1) q_225 20 [(3, .int z3)] [.int u0, .ref c] s = some r
  refine ev_seg 2 (k' := 22) (L' := [(3, .int z3)]) (st' := [.int z3, .int 12, .int u0, .ref c]) rfl ?_
  refine ev_callV (q' := q_200) (x := 200) (y := 12) (c := c) (As := [.int u0, .int 12, .int z3]) (rest := []) hr rfl rfl rfl rfl rfl rfl (isT_sh hc) rfl rfl rfl rfl rfl (fun rv s1 hq => ev_kV hq (fun e9 hr => ?_))
  subst e9
  refine ev_st (st' := []) rfl ?_
  refine ev_seg 1 (k' := 280) (L' := [(3, .int z3)]) (st' := []) rfl ?_
  exact ev_vret hr rfl rfl
set_option maxRecDepth 20000 in
theorem eMt_fit_37 (d : Nat) (z3 : Int32) (c : Nat) (s : aT) (hc : isT c) : ∀ r, (fMt_fit_40 (d + 1) z3 1 c s) = some r → fMt_fit_37 (d + 1) z3 c s = some r := by
  intro r hr
  show ev (d + 1) q_225 37 [(3, .int z3)] [.ref c] s = some r
  refine ev_seg 2 (k' := 40) (L' := [(3, .int z3)]) (st' := [.int 1, .ref c]) rfl ?_
  exact hr
set_option maxRecDepth 20000 in
theorem eMt_fit_40 (d : Nat) (z3 : Int32) (u0 : Int32) (c : Nat) (s : aT) (hc : isT c) : ∀ r, (cG (fMt_need d c u0 12 z3 s) (kV fun s1 => rV s1)) = some r → fMt_fit_40 (d + 1) z3 u0 c s = some r := by
  intro r hr
  show ev (d + 1) q_225 40 [(3, .int z3)] [.int u0, .ref c] s = some r
  refine ev_seg 2 (k' := 42) (L' := [(3, .int z3)]) (st' := [.int z3, .int 12, .int u0, .ref c]) rfl ?_
  refine ev_callV (q' := q_200) (x := 200) (y := 12) (c := c) (As := [.int u0, .int 12, .int z3]) (rest := []) hr rfl rfl rfl rfl rfl rfl (isT_sh hc) rfl rfl rfl rfl rfl (fun rv s1 hq => ev_kV hq (fun e9 hr => ?_))
  subst e9
  refine ev_st (st' := []) rfl ?_
  refine ev_seg 1 (k' := 280) (L' := [(3, .int z3)]) (st' := []) rfl ?_
  exact ev_vret hr rfl rfl
set_option maxRecDepth 20000 in
theorem eMt_fit_65 (d : Nat) (z3 : Int32) (c : Nat) (s : aT) (hc : isT c) : ∀ r, (fMt_fit_66 (d + 1) z3 0 c s) = some r → fMt_fit_65 (d + 1) z3 c s = some r := by
  intro r hr
  show ev (d + 1) q_225 65 [(3, .int z3)] [.ref c] s = some r
  refine ev_seg 1 (k' := 66) (L' := [(3, .int z3)]) (st' := [.int 0, .ref c]) rfl ?_
  exact hr
set_option maxRecDepth 20000 in
theorem eMt_fit_66 (d : Nat) (z3 : Int32) (u0 : Int32) (c : Nat) (s : aT) (hc : isT c) : ∀ r, (cG (fMt_need d c u0 12 z3 s) (kV fun s1 => rV s1)) = some r → fMt_fit_66 (d + 1) z3 u0 c s = some r := by
  intro r hr
  show ev (d + 1) q_225 66 [(3, .int z3)] [.int u0, .ref c] s = some r
  refine ev_seg 2 (k' := 68) (L' := [(3, .int z3)]) (st' := [.int z3, .int 12, .int u0, .ref c]) rfl ?_
  refine ev_callV (q' := q_200) (x := 200) (y := 12) (c := c) (As := [.int u0, .int 12, .int z3]) (rest := []) hr rfl rfl rfl rfl rfl rfl (isT_sh hc) rfl rfl rfl rfl rfl (fun rv s1 hq => ev_kV hq (fun e9 hr => ?_))
  subst e9
  refine ev_st (st' := []) rfl ?_
  refine ev_seg 1 (k' := 280) (L' := [(3, .int z3)]) (st' := []) rfl ?_
  exact ev_vret hr rfl rfl
set_option maxRecDepth 20000 in
theorem eMt_fit_80 (d : Nat) (z3 : Int32) (u0 : Int32) (c : Nat) (s : aT) (hc : isT c) : ∀ r, (cG (fMt_need d c u0 12 z3 s) (kV fun s1 => rV s1)) = some r → fMt_fit_80 (d + 1) z3 u0 c s = some r := by
  intro r hr
  show ev (d + 1) q_225 80 [(3, .int z3)] [.int u0, .ref c] s = some r
  refine ev_seg 2 (k' := 82) (L' := [(3, .int z3)]) (st' := [.int z3, .int 12, .int u0, .ref c]) rfl ?_
  refine ev_callV (q' := q_200) (x := 200) (y := 12) (c := c) (As := [.int u0, .int 12, .int z3]) (rest := []) hr rfl rfl rfl rfl rfl rfl (isT_sh hc) rfl rfl rfl rfl rfl (fun rv s1 hq => ev_kV hq (fun e9 hr => ?_))
  subst e9
  refine ev_st (st' := []) rfl ?_
  refine ev_seg 1 (k' := 280) (L' := [(3, .int z3)]) (st' := []) rfl ?_
  exact ev_vret hr rfl rfl
set_option maxRecDepth 20000 in
theorem eMt_fit_94 (d : Nat) (z3 : Int32) (u0 : Int32) (c : Nat) (s : aT) (hc : isT c) : ∀ r, (cG (fMt_need d c u0 12 z3 s) (kV fun s1 => rV s1)) = some r → fMt_fit_94 (d + 1) z3 u0 c s = some r := by
  intro r hr
  show ev (d + 1) q_225 94 [(3, .int z3)] [.int u0, .ref c] s = some r
  refine ev_seg 2 (k' := 96) (L' := [(3, .int z3)]) (st' := [.int z3, .int 12, .int u0, .ref c]) rfl ?_
  refine ev_callV (q' := q_200) (x := 200) (y := 12) (c := c) (As := [.int u0, .int 12, .int z3]) (rest := []) hr rfl rfl rfl rfl rfl rfl (isT_sh hc) rfl rfl rfl rfl rfl (fun rv s1 hq => ev_kV hq (fun e9 hr => ?_))
  subst e9
  refine ev_st (st' := []) rfl ?_
  refine ev_seg 1 (k' := 280) (L' := [(3, .int z3)]) (st' := []) rfl ?_
  exact ev_vret hr rfl rfl
set_option maxRecDepth 20000 in
theorem eMt_fit_162 (d : Nat) (c : Nat) (x1 : Int32) (x2 : Int32) (z3 : Int32) (u0 : Int32) (s : aT) (hc : isT c) : ∀ r, (cG (fMt_need d c u0 12 z3 s) (kV fun s1 => ldI 4200 s1 (c + 6) x1 (fun v2 => fMt_fit_170 (d + 1) c x2 v2 s1))) = some r → fMt_fit_162 (d + 1) c x1 x2 z3 u0 s = some r := by
  intro r hr
  show ev (d + 1) q_225 162 [(0, .ref c), (1, .int x1), (2, .int x2), (3, .int z3)] [.int u0, .ref c] s = some r
  refine ev_seg 2 (k' := 164) (L' := [(0, .ref c), (1, .int x1), (2, .int x2), (3, .int z3)]) (st' := [.int z3, .int 12, .int u0, .ref c]) rfl ?_
  refine ev_callV (q' := q_200) (x := 200) (y := 12) (c := c) (As := [.int u0, .int 12, .int z3]) (rest := []) hr rfl rfl rfl rfl rfl rfl (isT_sh hc) rfl rfl rfl rfl rfl (fun rv s1 hq => ev_kV hq (fun e9 hr => ?_))
  subst e9
  refine ev_st (st' := []) rfl ?_
  refine ev_seg 1 (k' := 166) (L' := [(0, .ref c), (1, .int x1), (2, .int x2), (3, .int z3)]) (st' := [.ref c]) rfl ?_
  refine ev_getR (c := c) (v := c + 6) rfl (isT_sh hc) rfl (isT_r6 hc) ?_
  refine ev_seg 1 (k' := 168) (L' := [(0, .ref c), (1, .int x1), (2, .int x2), (3, .int z3)]) (st' := [.int x1, .ref (c + 6)]) rfl ?_
  refine ev_ldI hr rfl (isT_a6 hc) (fun v2 hr => ?_)
  refine ev_seg 1 (k' := 170) (L' := [(4, .int v2), (0, .ref c), (1, .int x1), (2, .int x2), (3, .int z3)]) (st' := []) rfl ?_
  refine ev_join (L' := [(0, .ref c), (2, .int x2), (4, .int v2)]) [1, 3, 0] [4, 0, 1, 2, 3] [0, 2, 4] rfl rfl (by decide) (by decide) rfl ?_
  exact hr
set_option maxRecDepth 20000 in
theorem eMt_fit_198 (d : Nat) (c : Nat) (x1 : Int32) (x2 : Int32) (z3 : Int32) (u0 : Int32) (s : aT) (hc : isT c) : ∀ r, (cG (fMt_need d c u0 12 z3 s) (kV fun s1 => ldI 4200 s1 (c + 6) x1 (fun v2 => fMt_fit_206 (d + 1) c x2 v2 s1))) = some r → fMt_fit_198 (d + 1) c x1 x2 z3 u0 s = some r := by
  intro r hr
  show ev (d + 1) q_225 198 [(0, .ref c), (1, .int x1), (2, .int x2), (3, .int z3)] [.int u0, .ref c] s = some r
  refine ev_seg 2 (k' := 200) (L' := [(0, .ref c), (1, .int x1), (2, .int x2), (3, .int z3)]) (st' := [.int z3, .int 12, .int u0, .ref c]) rfl ?_
  refine ev_callV (q' := q_200) (x := 200) (y := 12) (c := c) (As := [.int u0, .int 12, .int z3]) (rest := []) hr rfl rfl rfl rfl rfl rfl (isT_sh hc) rfl rfl rfl rfl rfl (fun rv s1 hq => ev_kV hq (fun e9 hr => ?_))
  subst e9
  refine ev_st (st' := []) rfl ?_
  refine ev_seg 1 (k' := 202) (L' := [(0, .ref c), (1, .int x1), (2, .int x2), (3, .int z3)]) (st' := [.ref c]) rfl ?_
  refine ev_getR (c := c) (v := c + 6) rfl (isT_sh hc) rfl (isT_r6 hc) ?_
  refine ev_seg 1 (k' := 204) (L' := [(0, .ref c), (1, .int x1), (2, .int x2), (3, .int z3)]) (st' := [.int x1, .ref (c + 6)]) rfl ?_
  refine ev_ldI hr rfl (isT_a6 hc) (fun v2 hr => ?_)
  refine ev_seg 1 (k' := 206) (L' := [(4, .int v2), (0, .ref c), (1, .int x1), (2, .int x2), (3, .int z3)]) (st' := []) rfl ?_
  refine ev_join (L' := [(0, .ref c), (2, .int x2), (4, .int v2)]) [1, 3, 0] [4, 0, 1, 2, 3] [0, 2, 4] rfl rfl (by decide) (by decide) rfl ?_
  exact hr
set_option maxRecDepth 20000 in
theorem eMt_fit_116 (d : Nat) (z3 : Int32) (c : Nat) (s : aT) (hc : isT c) : ∀ r, (fMt_fit_117 (d + 1) z3 0 c s) = some r → fMt_fit_116 (d + 1) z3 c s = some r := by
  intro r hr
  show ev (d + 1) q_225 116 [(3, .int z3)] [.ref c] s = some r
  refine ev_seg 1 (k' := 117) (L' := [(3, .int z3)]) (st' := [.int 0, .ref c]) rfl ?_
  exact hr
set_option maxRecDepth 20000 in
theorem eMt_fit_117 (d : Nat) (z3 : Int32) (u0 : Int32) (c : Nat) (s : aT) (hc : isT c) : ∀ r, (cG (fMt_need d c u0 12 z3 s) (kV fun s1 => rV s1)) = some r → fMt_fit_117 (d + 1) z3 u0 c s = some r := by
  intro r hr
  show ev (d + 1) q_225 117 [(3, .int z3)] [.int u0, .ref c] s = some r
  refine ev_seg 2 (k' := 119) (L' := [(3, .int z3)]) (st' := [.int z3, .int 12, .int u0, .ref c]) rfl ?_
  refine ev_callV (q' := q_200) (x := 200) (y := 12) (c := c) (As := [.int u0, .int 12, .int z3]) (rest := []) hr rfl rfl rfl rfl rfl rfl (isT_sh hc) rfl rfl rfl rfl rfl (fun rv s1 hq => ev_kV hq (fun e9 hr => ?_))
  subst e9
  refine ev_st (st' := []) rfl ?_
  refine ev_seg 1 (k' := 280) (L' := [(3, .int z3)]) (st' := []) rfl ?_
  exact ev_vret hr rfl rfl
set_option maxRecDepth 20000 in
theorem eMt_fit_136 (d : Nat) (z3 : Int32) (c : Nat) (s : aT) (hc : isT c) : ∀ r, (fMt_fit_137 (d + 1) z3 0 c s) = some r → fMt_fit_136 (d + 1) z3 c s = some r := by
  intro r hr
  show ev (d + 1) q_225 136 [(3, .int z3)] [.ref c] s = some r
  refine ev_seg 1 (k' := 137) (L' := [(3, .int z3)]) (st' := [.int 0, .ref c]) rfl ?_
  exact hr
set_option maxRecDepth 20000 in
theorem eMt_fit_137 (d : Nat) (z3 : Int32) (u0 : Int32) (c : Nat) (s : aT) (hc : isT c) : ∀ r, (cG (fMt_need d c u0 12 z3 s) (kV fun s1 => rV s1)) = some r → fMt_fit_137 (d + 1) z3 u0 c s = some r := by
  intro r hr
  show ev (d + 1) q_225 137 [(3, .int z3)] [.int u0, .ref c] s = some r
  refine ev_seg 2 (k' := 139) (L' := [(3, .int z3)]) (st' := [.int z3, .int 12, .int u0, .ref c]) rfl ?_
  refine ev_callV (q' := q_200) (x := 200) (y := 12) (c := c) (As := [.int u0, .int 12, .int z3]) (rest := []) hr rfl rfl rfl rfl rfl rfl (isT_sh hc) rfl rfl rfl rfl rfl (fun rv s1 hq => ev_kV hq (fun e9 hr => ?_))
  subst e9
  refine ev_st (st' := []) rfl ?_
  refine ev_seg 1 (k' := 280) (L' := [(3, .int z3)]) (st' := []) rfl ?_
  exact ev_vret hr rfl rfl
set_option maxRecDepth 20000 in
theorem eMt_fit_240 (d : Nat) (c : Nat) (x1 : Int32) (x2 : Int32) (z3 : Int32) (u0 : Int32) (s : aT) (hc : isT c) : ∀ r, (cG (fMt_need d c u0 12 z3 s) (kV fun s1 => ldI 140 s1 (c + 12) x2 (fun v2 => fMt_fit_248 (d + 1) c x1 z3 v2 s1))) = some r → fMt_fit_240 (d + 1) c x1 x2 z3 u0 s = some r := by
  intro r hr
  show ev (d + 1) q_225 240 [(0, .ref c), (1, .int x1), (2, .int x2), (3, .int z3)] [.int u0, .ref c] s = some r
  refine ev_seg 2 (k' := 242) (L' := [(0, .ref c), (1, .int x1), (2, .int x2), (3, .int z3)]) (st' := [.int z3, .int 12, .int u0, .ref c]) rfl ?_
  refine ev_callV (q' := q_200) (x := 200) (y := 12) (c := c) (As := [.int u0, .int 12, .int z3]) (rest := []) hr rfl rfl rfl rfl rfl rfl (isT_sh hc) rfl rfl rfl rfl rfl (fun rv s1 hq => ev_kV hq (fun e9 hr => ?_))
  subst e9
  refine ev_st (st' := []) rfl ?_
  refine ev_seg 1 (k' := 244) (L' := [(0, .ref c), (1, .int x1), (2, .int x2), (3, .int z3)]) (st' := [.ref c]) rfl ?_
  refine ev_getR (c := c) (v := c + 12) rfl (isT_sh hc) rfl (isT_r12 hc) ?_
  refine ev_seg 1 (k' := 246) (L' := [(0, .ref c), (1, .int x1), (2, .int x2), (3, .int z3)]) (st' := [.int x2, .ref (c + 12)]) rfl ?_
  refine ev_ldI hr rfl (isT_a12 hc) (fun v2 hr => ?_)
  refine ev_seg 1 (k' := 248) (L' := [(4, .int v2), (0, .ref c), (1, .int x1), (2, .int x2), (3, .int z3)]) (st' := []) rfl ?_
  refine ev_join (L' := [(0, .ref c), (1, .int x1), (3, .int z3), (4, .int v2)]) [1, 2, 4, 0] [4, 0, 1, 2, 3] [0, 1, 3, 4] rfl rfl (by decide) (by decide) rfl ?_
  exact hr
set_option maxRecDepth 20000 in
theorem eMt_fit_170 (d : Nat) (c : Nat) (x2 : Int32) (z4 : Int32) (s : aT) (hc : isT c) : ∀ r, (if z4 < 0 then rV s else ldI 140 s (c + 12) x2 (fun v1 => ldI 2200 s (c + 15) v1 (fun v2 => cG (fMt_fit d c z4 v2 s) (kV fun s3 => ldI 4200 s3 (c + 7) z4 (fun v4 => fMt_fit_170 (d + 1) c x2 v4 s3))))) = some r → fMt_fit_170 (d + 1) c x2 z4 s = some r := by
  intro r hr
  show ev (d + 1) q_225 170 [(0, .ref c), (2, .int x2), (4, .int z4)] [] s = some r
  refine ev_seg 1 (k' := 171) (L' := [(0, .ref c), (2, .int x2), (4, .int z4)]) (st' := [.int z4]) rfl ?_
  refine ev_br (P := z4 < 0) (L' := [(0, .ref c), (2, .int x2), (4, .int z4)]) (st' := []) hr rfl rfl rfl (fun hr => ?_) (fun hr => ?_)
  · skip
    refine ev_seg 1 (k' := 280) (L' := [(0, .ref c), (2, .int x2), (4, .int z4)]) (st' := []) rfl ?_
    exact ev_vret hr rfl rfl
  · skip
    refine ev_seg 3 (k' := 175) (L' := [(0, .ref c), (2, .int x2), (4, .int z4)]) (st' := [.ref c, .int z4, .ref c]) rfl ?_
    refine ev_getR (c := c) (v := c + 15) rfl (isT_sh hc) rfl (isT_r15 hc) ?_
    refine ev_seg 1 (k' := 177) (L' := [(0, .ref c), (2, .int x2), (4, .int z4)]) (st' := [.ref c, .ref (c + 15), .int z4, .ref c]) rfl ?_
    refine ev_getR (c := c) (v := c + 12) rfl (isT_sh hc) rfl (isT_r12 hc) ?_
    refine ev_seg 1 (k' := 179) (L' := [(0, .ref c), (2, .int x2), (4, .int z4)]) (st' := [.int x2, .ref (c + 12), .ref (c + 15), .int z4, .ref c]) rfl ?_
    refine ev_ldI hr rfl (isT_a12 hc) (fun v1 hr => ?_)
    refine ev_ldI hr rfl (isT_a15 hc) (fun v2 hr => ?_)
    refine ev_callV (q' := q_225) (x := 225) (y := 12) (c := c) (As := [.int z4, .int v2]) (rest := []) hr rfl rfl rfl rfl rfl rfl (isT_sh hc) rfl rfl rfl rfl rfl (fun rv s3 hq => ev_kV hq (fun e9 hr => ?_))
    subst e9
    refine ev_st (st' := []) rfl ?_
    refine ev_seg 1 (k' := 183) (L' := [(0, .ref c), (2, .int x2), (4, .int z4)]) (st' := [.ref c]) rfl ?_
    refine ev_getR (c := c) (v := c + 7) rfl (isT_sh hc) rfl (isT_r7 hc) ?_
    refine ev_seg 1 (k' := 185) (L' := [(0, .ref c), (2, .int x2), (4, .int z4)]) (st' := [.int z4, .ref (c + 7)]) rfl ?_
    refine ev_ldI hr rfl (isT_a7 hc) (fun v4 hr => ?_)
    refine ev_seg 2 (k' := 170) (L' := [(4, .int v4), (0, .ref c), (2, .int x2)]) (st' := []) rfl ?_
    refine ev_join (L' := [(0, .ref c), (2, .int x2), (4, .int v4)]) [1, 2, 0] [4, 0, 2] [0, 2, 4] rfl rfl (by decide) (by decide) rfl ?_
    exact hr
set_option maxRecDepth 20000 in
theorem eMt_fit_206 (d : Nat) (c : Nat) (x2 : Int32) (z4 : Int32) (s : aT) (hc : isT c) : ∀ r, (if z4 < 0 then rV s else ldI 4200 s (c + 7) z4 (fun v1 => ldI 140 s (c + 12) x2 (fun v2 => ldI 2200 s (c + 15) v2 (fun v3 => cG (fMt_fit d c v1 v3 s) (kV fun s4 => ldI 4200 s4 (c + 7) z4 (fun v5 => ldI 4200 s4 (c + 7) v5 (fun v6 => fMt_fit_206 (d + 1) c x2 v6 s4))))))) = some r → fMt_fit_206 (d + 1) c x2 z4 s = some r := by
  intro r hr
  show ev (d + 1) q_225 206 [(0, .ref c), (2, .int x2), (4, .int z4)] [] s = some r
  refine ev_seg 1 (k' := 207) (L' := [(0, .ref c), (2, .int x2), (4, .int z4)]) (st' := [.int z4]) rfl ?_
  refine ev_br (P := z4 < 0) (L' := [(0, .ref c), (2, .int x2), (4, .int z4)]) (st' := []) hr rfl rfl rfl (fun hr => ?_) (fun hr => ?_)
  · skip
    refine ev_seg 1 (k' := 280) (L' := [(0, .ref c), (2, .int x2), (4, .int z4)]) (st' := []) rfl ?_
    exact ev_vret hr rfl rfl
  · skip
    refine ev_seg 2 (k' := 210) (L' := [(0, .ref c), (2, .int x2), (4, .int z4)]) (st' := [.ref c, .ref c]) rfl ?_
    refine ev_getR (c := c) (v := c + 7) rfl (isT_sh hc) rfl (isT_r7 hc) ?_
    refine ev_seg 1 (k' := 212) (L' := [(0, .ref c), (2, .int x2), (4, .int z4)]) (st' := [.int z4, .ref (c + 7), .ref c]) rfl ?_
    refine ev_ldI hr rfl (isT_a7 hc) (fun v1 hr => ?_)
    refine ev_seg 1 (k' := 214) (L' := [(0, .ref c), (2, .int x2), (4, .int z4)]) (st' := [.ref c, .int v1, .ref c]) rfl ?_
    refine ev_getR (c := c) (v := c + 15) rfl (isT_sh hc) rfl (isT_r15 hc) ?_
    refine ev_seg 1 (k' := 216) (L' := [(0, .ref c), (2, .int x2), (4, .int z4)]) (st' := [.ref c, .ref (c + 15), .int v1, .ref c]) rfl ?_
    refine ev_getR (c := c) (v := c + 12) rfl (isT_sh hc) rfl (isT_r12 hc) ?_
    refine ev_seg 1 (k' := 218) (L' := [(0, .ref c), (2, .int x2), (4, .int z4)]) (st' := [.int x2, .ref (c + 12), .ref (c + 15), .int v1, .ref c]) rfl ?_
    refine ev_ldI hr rfl (isT_a12 hc) (fun v2 hr => ?_)
    refine ev_ldI hr rfl (isT_a15 hc) (fun v3 hr => ?_)
    refine ev_callV (q' := q_225) (x := 225) (y := 12) (c := c) (As := [.int v1, .int v3]) (rest := []) hr rfl rfl rfl rfl rfl rfl (isT_sh hc) rfl rfl rfl rfl rfl (fun rv s4 hq => ev_kV hq (fun e9 hr => ?_))
    subst e9
    refine ev_st (st' := []) rfl ?_
    refine ev_seg 1 (k' := 222) (L' := [(0, .ref c), (2, .int x2), (4, .int z4)]) (st' := [.ref c]) rfl ?_
    refine ev_getR (c := c) (v := c + 7) rfl (isT_sh hc) rfl (isT_r7 hc) ?_
    refine ev_seg 1 (k' := 224) (L' := [(0, .ref c), (2, .int x2), (4, .int z4)]) (st' := [.ref c, .ref (c + 7)]) rfl ?_
    refine ev_getR (c := c) (v := c + 7) rfl (isT_sh hc) rfl (isT_r7 hc) ?_
    refine ev_seg 1 (k' := 226) (L' := [(0, .ref c), (2, .int x2), (4, .int z4)]) (st' := [.int z4, .ref (c + 7), .ref (c + 7)]) rfl ?_
    refine ev_ldI hr rfl (isT_a7 hc) (fun v5 hr => ?_)
    refine ev_ldI hr rfl (isT_a7 hc) (fun v6 hr => ?_)
    refine ev_seg 2 (k' := 206) (L' := [(4, .int v6), (0, .ref c), (2, .int x2)]) (st' := []) rfl ?_
    refine ev_join (L' := [(0, .ref c), (2, .int x2), (4, .int v6)]) [1, 2, 0] [4, 0, 2] [0, 2, 4] rfl rfl (by decide) (by decide) rfl ?_
    exact hr
set_option maxRecDepth 20000 in
theorem eMt_fit_248 (d : Nat) (c : Nat) (x1 : Int32) (z3 : Int32) (z4 : Int32) (s : aT) (hc : isT c) : ∀ r, (if z4 < 0 then rV s else ldI 2200 s (c + 16) z4 (fun v1 => cG (fMt_memberLike d c x1 v1 s) (kI fun v3 s2 => if v3 < 0 then fMt_fit_264 (d + 1) c x1 z3 z4 v3 0 s2 else fMt_fit_264 (d + 1) c x1 z3 z4 v3 1 s2))) = some r → fMt_fit_248 (d + 1) c x1 z3 z4 s = some r := by
  intro r hr
  show ev (d + 1) q_225 248 [(0, .ref c), (1, .int x1), (3, .int z3), (4, .int z4)] [] s = some r
  refine ev_seg 1 (k' := 249) (L' := [(0, .ref c), (1, .int x1), (3, .int z3), (4, .int z4)]) (st' := [.int z4]) rfl ?_
  refine ev_br (P := z4 < 0) (L' := [(0, .ref c), (1, .int x1), (3, .int z3), (4, .int z4)]) (st' := []) hr rfl rfl rfl (fun hr => ?_) (fun hr => ?_)
  · skip
    exact ev_vret hr rfl rfl
  · skip
    refine ev_seg 3 (k' := 253) (L' := [(0, .ref c), (1, .int x1), (3, .int z3), (4, .int z4)]) (st' := [.ref c, .int x1, .ref c]) rfl ?_
    refine ev_getR (c := c) (v := c + 16) rfl (isT_sh hc) rfl (isT_r16 hc) ?_
    refine ev_seg 1 (k' := 255) (L' := [(0, .ref c), (1, .int x1), (3, .int z3), (4, .int z4)]) (st' := [.int z4, .ref (c + 16), .int x1, .ref c]) rfl ?_
    refine ev_ldI hr rfl (isT_a16 hc) (fun v1 hr => ?_)
    refine ev_callV (q' := q_226) (x := 226) (y := 12) (c := c) (As := [.int x1, .int v1]) (rest := []) hr rfl rfl rfl rfl rfl rfl (isT_sh hc) rfl rfl rfl rfl rfl (fun rv s2 hq => ev_kI hq (fun v3 e9 hr => ?_))
    subst e9
    refine ev_st (st' := [.int v3]) rfl ?_
    refine ev_seg 3 (k' := 260) (L' := [(5, .int v3), (0, .ref c), (1, .int x1), (3, .int z3), (4, .int z4)]) (st' := [.int v3, .ref c]) rfl ?_
    refine ev_br (P := v3 < 0) (L' := [(5, .int v3), (0, .ref c), (1, .int x1), (3, .int z3), (4, .int z4)]) (st' := [.ref c]) hr rfl rfl rfl (fun hr => ?_) (fun hr => ?_)
    · skip
      refine ev_seg 1 (k' := 264) (L' := [(5, .int v3), (0, .ref c), (1, .int x1), (3, .int z3), (4, .int z4)]) (st' := [.int 0, .ref c]) rfl ?_
      refine ev_join (L' := [(0, .ref c), (1, .int x1), (3, .int z3), (4, .int z4), (5, .int v3)]) [1, 2, 3, 4, 0] [5, 0, 1, 3, 4] [0, 1, 3, 4, 5] rfl rfl (by decide) (by decide) rfl ?_
      exact hr
    · skip
      refine ev_seg 2 (k' := 264) (L' := [(5, .int v3), (0, .ref c), (1, .int x1), (3, .int z3), (4, .int z4)]) (st' := [.int 1, .ref c]) rfl ?_
      refine ev_join (L' := [(0, .ref c), (1, .int x1), (3, .int z3), (4, .int z4), (5, .int v3)]) [1, 2, 3, 4, 0] [5, 0, 1, 3, 4] [0, 1, 3, 4, 5] rfl rfl (by decide) (by decide) rfl ?_
      exact hr
set_option maxRecDepth 20000 in
theorem eMt_fit_264 (d : Nat) (c : Nat) (x1 : Int32) (z3 : Int32) (z4 : Int32) (z5 : Int32) (u0 : Int32) (s : aT) (hc : isT c) : ∀ r, (cG (fMt_need d c u0 12 z3 s) (kV fun s1 => ldI 2200 s1 (c + 15) z4 (fun v2 => cG (fMt_fit d c z5 v2 s1) (kV fun s3 => ldI 2200 s3 (c + 18) z4 (fun v4 => fMt_fit_248 (d + 1) c x1 z3 v4 s3))))) = some r → fMt_fit_264 (d + 1) c x1 z3 z4 z5 u0 s = some r := by
  intro r hr
  show ev (d + 1) q_225 264 [(0, .ref c), (1, .int x1), (3, .int z3), (4, .int z4), (5, .int z5)] [.int u0, .ref c] s = some r
  refine ev_seg 2 (k' := 266) (L' := [(0, .ref c), (1, .int x1), (3, .int z3), (4, .int z4), (5, .int z5)]) (st' := [.int z3, .int 12, .int u0, .ref c]) rfl ?_
  refine ev_callV (q' := q_200) (x := 200) (y := 12) (c := c) (As := [.int u0, .int 12, .int z3]) (rest := []) hr rfl rfl rfl rfl rfl rfl (isT_sh hc) rfl rfl rfl rfl rfl (fun rv s1 hq => ev_kV hq (fun e9 hr => ?_))
  subst e9
  refine ev_st (st' := []) rfl ?_
  refine ev_seg 3 (k' := 270) (L' := [(0, .ref c), (1, .int x1), (3, .int z3), (4, .int z4), (5, .int z5)]) (st' := [.ref c, .int z5, .ref c]) rfl ?_
  refine ev_getR (c := c) (v := c + 15) rfl (isT_sh hc) rfl (isT_r15 hc) ?_
  refine ev_seg 1 (k' := 272) (L' := [(0, .ref c), (1, .int x1), (3, .int z3), (4, .int z4), (5, .int z5)]) (st' := [.int z4, .ref (c + 15), .int z5, .ref c]) rfl ?_
  refine ev_ldI hr rfl (isT_a15 hc) (fun v2 hr => ?_)
  refine ev_callV (q' := q_225) (x := 225) (y := 12) (c := c) (As := [.int z5, .int v2]) (rest := []) hr rfl rfl rfl rfl rfl rfl (isT_sh hc) rfl rfl rfl rfl rfl (fun rv s3 hq => ev_kV hq (fun e9 hr => ?_))
  subst e9
  refine ev_st (st' := []) rfl ?_
  refine ev_seg 1 (k' := 275) (L' := [(0, .ref c), (1, .int x1), (3, .int z3), (4, .int z4), (5, .int z5)]) (st' := [.ref c]) rfl ?_
  refine ev_getR (c := c) (v := c + 18) rfl (isT_sh hc) rfl (isT_r18 hc) ?_
  refine ev_seg 1 (k' := 277) (L' := [(0, .ref c), (1, .int x1), (3, .int z3), (4, .int z4), (5, .int z5)]) (st' := [.int z4, .ref (c + 18)]) rfl ?_
  refine ev_ldI hr rfl (isT_a18 hc) (fun v4 hr => ?_)
  refine ev_seg 2 (k' := 248) (L' := [(4, .int v4), (0, .ref c), (1, .int x1), (3, .int z3), (5, .int z5)]) (st' := []) rfl ?_
  refine ev_join (L' := [(0, .ref c), (1, .int x1), (3, .int z3), (4, .int v4)]) [1, 2, 3, 0] [4, 0, 1, 3, 5] [0, 1, 3, 4] rfl rfl (by decide) (by decide) rfl ?_
  exact hr
set_option maxRecDepth 20000 in
theorem eMt_memberLike (d : Nat) (c : Nat) (x1 : Int32) (x2 : Int32) (s : aT) (hc : isT c) : ∀ r, (ldI 4200 s (c + 6) x1 (fun v1 => fMt_memberLike_5 (d + 1) c x2 v1 s)) = some r → fMt_memberLike (d + 1) c x1 x2 s = some r := by
  intro r hr
  show ev (d + 1) q_226 0 [(0, .ref c), (1, .int x1), (2, .int x2)] [] s = some r
  refine ev_seg 1 (k' := 1) (L' := [(0, .ref c), (1, .int x1), (2, .int x2)]) (st' := [.ref c]) rfl ?_
  refine ev_getR (c := c) (v := c + 6) rfl (isT_sh hc) rfl (isT_r6 hc) ?_
  refine ev_seg 1 (k' := 3) (L' := [(0, .ref c), (1, .int x1), (2, .int x2)]) (st' := [.int x1, .ref (c + 6)]) rfl ?_
  refine ev_ldI hr rfl (isT_a6 hc) (fun v1 hr => ?_)
  refine ev_seg 1 (k' := 5) (L' := [(3, .int v1), (0, .ref c), (1, .int x1), (2, .int x2)]) (st' := []) rfl ?_
  refine ev_join (L' := [(0, .ref c), (2, .int x2), (3, .int v1)]) [1, 3, 0] [3, 0, 1, 2] [0, 2, 3] rfl rfl (by decide) (by decide) rfl ?_
  exact hr
set_option maxRecDepth 20000 in
theorem eMt_memberLike_5 (d : Nat) (c : Nat) (x2 : Int32) (z3 : Int32) (s : aT) (hc : isT c) : ∀ r, (if z3 < 0 then rI (-1) s else cG (fMt_same d c z3 c x2 s) (kI fun v2 s1 => if v2 = 0 then ldI 4200 s1 (c + 7) z3 (fun v3 => ldI 4200 s1 (c + 7) v3 (fun v4 => fMt_memberLike_5 (d + 1) c x2 v4 s1)) else ldI 4200 s1 (c + 7) z3 (fun v5 => rI v5 s1))) = some r → fMt_memberLike_5 (d + 1) c x2 z3 s = some r := by
  intro r hr
  show ev (d + 1) q_226 5 [(0, .ref c), (2, .int x2), (3, .int z3)] [] s = some r
  refine ev_seg 1 (k' := 6) (L' := [(0, .ref c), (2, .int x2), (3, .int z3)]) (st' := [.int z3]) rfl ?_
  refine ev_br (P := z3 < 0) (L' := [(0, .ref c), (2, .int x2), (3, .int z3)]) (st' := []) hr rfl rfl rfl (fun hr => ?_) (fun hr => ?_)
  · skip
    refine ev_seg 1 (k' := 28) (L' := [(0, .ref c), (2, .int x2), (3, .int z3)]) (st' := [.int (-1)]) rfl ?_
    exact ev_iret hr rfl rfl rfl
  · skip
    refine ev_seg 4 (k' := 11) (L' := [(0, .ref c), (2, .int x2), (3, .int z3)]) (st' := [.int x2, .ref c, .int z3, .ref c]) rfl ?_
    refine ev_callV (q' := q_208) (x := 208) (y := 12) (c := c) (As := [.int z3, .ref c, .int x2]) (rest := []) hr rfl rfl rfl rfl rfl rfl (isT_sh hc) rfl rfl rfl rfl rfl (fun rv s1 hq => ev_kI hq (fun v2 e9 hr => ?_))
    subst e9
    refine ev_st (st' := [.int v2]) rfl ?_
    refine ev_br (P := v2 = 0) (L' := [(0, .ref c), (2, .int x2), (3, .int z3)]) (st' := []) hr rfl rfl rfl (fun hr => ?_) (fun hr => ?_)
    · skip
      refine ev_seg 1 (k' := 19) (L' := [(0, .ref c), (2, .int x2), (3, .int z3)]) (st' := [.ref c]) rfl ?_
      refine ev_getR (c := c) (v := c + 7) rfl (isT_sh hc) rfl (isT_r7 hc) ?_
      refine ev_seg 1 (k' := 21) (L' := [(0, .ref c), (2, .int x2), (3, .int z3)]) (st' := [.ref c, .ref (c + 7)]) rfl ?_
      refine ev_getR (c := c) (v := c + 7) rfl (isT_sh hc) rfl (isT_r7 hc) ?_
      refine ev_seg 1 (k' := 23) (L' := [(0, .ref c), (2, .int x2), (3, .int z3)]) (st' := [.int z3, .ref (c + 7), .ref (c + 7)]) rfl ?_
      refine ev_ldI hr rfl (isT_a7 hc) (fun v3 hr => ?_)
      refine ev_ldI hr rfl (isT_a7 hc) (fun v4 hr => ?_)
      refine ev_seg 2 (k' := 5) (L' := [(3, .int v4), (0, .ref c), (2, .int x2)]) (st' := []) rfl ?_
      refine ev_join (L' := [(0, .ref c), (2, .int x2), (3, .int v4)]) [1, 2, 0] [3, 0, 2] [0, 2, 3] rfl rfl (by decide) (by decide) rfl ?_
      exact hr
    · skip
      refine ev_seg 1 (k' := 14) (L' := [(0, .ref c), (2, .int x2), (3, .int z3)]) (st' := [.ref c]) rfl ?_
      refine ev_getR (c := c) (v := c + 7) rfl (isT_sh hc) rfl (isT_r7 hc) ?_
      refine ev_seg 1 (k' := 16) (L' := [(0, .ref c), (2, .int x2), (3, .int z3)]) (st' := [.int z3, .ref (c + 7)]) rfl ?_
      refine ev_ldI hr rfl (isT_a7 hc) (fun v5 hr => ?_)
      exact ev_iret hr rfl rfl rfl
set_option maxRecDepth 20000 in
theorem eMt_write (d : Nat) (c : Nat) (x1 : Int32) (s : aT) (hc : isT c) : ∀ r, (ldI 140 s (c + 9) x1 (fun v1 => if v1 = 6 then ldI 140 s (c + 9) x1 (fun v3 => if ¬ v3 = 6 then fMt_write_15 (d + 1) c x1 1066 s else fMt_write_15 (d + 1) c x1 1065 s) else if v1 = 7 then ldI 140 s (c + 9) x1 (fun v5 => if ¬ v5 = 6 then fMt_write_15 (d + 1) c x1 1066 s else fMt_write_15 (d + 1) c x1 1065 s) else if v1 = 8 then cG (fMt_put d c 1068 s) (kV fun s7 => ldI 140 s7 (c + 12) x1 (fun v8 => fMt_write_37 (d + 1) c v8 s7)) else if v1 = 9 then cG (fMt_writeNamed d c x1 s) (kV fun s10 => rV s10) else if v1 = 10 then cG (fMt_writeNamed d c x1 s) (kV fun s12 => rV s12) else if v1 = 11 then cG (fMt_writeNamed d c x1 s) (kV fun s14 => rV s14) else cG (fMt_put d c 1072 s) (kV fun s15 => ldI 140 s15 (c + 9) x1 (fun v16 => if ¬ v16 = 0 then ldI 140 s15 (c + 9) x1 (fun v17 => if ¬ v17 = 1 then ldI 140 s15 (c + 9) x1 (fun v18 => if ¬ v18 = 2 then ldI 140 s15 (c + 9) x1 (fun v19 => if ¬ v19 = 3 then ldI 140 s15 (c + 9) x1 (fun v20 => if ¬ v20 = 4 then fMt_write_113 (d + 1) c 1051 s15 else fMt_write_113 (d + 1) c 1050 s15) else fMt_write_113 (d + 1) c 1049 s15) else fMt_write_113 (d + 1) c 1048 s15) else fMt_write_113 (d + 1) c 1047 s15) else fMt_write_113 (d + 1) c 1046 s15)))) = some r → fMt_write (d + 1) c x1 s = some r := by
  intro r hr
  show ev (d + 1) q_227 0 [(0, .ref c), (1, .int x1)] [] s = some r
  refine ev_seg 1 (k' := 1) (L' := [(0, .ref c), (1, .int x1)]) (st' := [.ref c]) rfl ?_
  refine ev_getR (c := c) (v := c + 9) rfl (isT_sh hc) rfl (isT_r9 hc) ?_
  refine ev_seg 1 (k' := 3) (L' := [(0, .ref c), (1, .int x1)]) (st' := [.int x1, .ref (c + 9)]) rfl ?_
  refine ev_ldI hr rfl (isT_a9 hc) (fun v1 hr => ?_)
  refine ev_if hr (fun h2 hr => ?_) (fun h2 hr => ?_)
  · skip
    refine ev_tab (o := 38) (t := 5) rfl (by rw [h2]; rfl) rfl ?_
    refine ev_seg 2 (k' := 7) (L' := [(0, .ref c), (1, .int x1)]) (st' := [.ref c, .ref c]) rfl ?_
    refine ev_getR (c := c) (v := c + 9) rfl (isT_sh hc) rfl (isT_r9 hc) ?_
    refine ev_seg 1 (k' := 9) (L' := [(0, .ref c), (1, .int x1)]) (st' := [.int x1, .ref (c + 9), .ref c]) rfl ?_
    refine ev_ldI hr rfl (isT_a9 hc) (fun v3 hr => ?_)
    refine ev_seg 1 (k' := 11) (L' := [(0, .ref c), (1, .int x1)]) (st' := [.int 6, .int v3, .ref c]) rfl ?_
    refine ev_br (P := ¬ v3 = 6) (L' := [(0, .ref c), (1, .int x1)]) (st' := [.ref c]) hr rfl rfl rfl (fun hr => ?_) (fun hr => ?_)
    · skip
      refine ev_seg 1 (k' := 15) (L' := [(0, .ref c), (1, .int x1)]) (st' := [.ref 1066, .ref c]) rfl ?_
      exact hr
    · skip
      refine ev_seg 2 (k' := 15) (L' := [(0, .ref c), (1, .int x1)]) (st' := [.ref 1065, .ref c]) rfl ?_
      exact hr
  refine ev_if hr (fun h4 hr => ?_) (fun h4 hr => ?_)
  · skip
    refine ev_tab (o := 38) (t := 5) rfl (by rw [h4]; rfl) rfl ?_
    refine ev_seg 2 (k' := 7) (L' := [(0, .ref c), (1, .int x1)]) (st' := [.ref c, .ref c]) rfl ?_
    refine ev_getR (c := c) (v := c + 9) rfl (isT_sh hc) rfl (isT_r9 hc) ?_
    refine ev_seg 1 (k' := 9) (L' := [(0, .ref c), (1, .int x1)]) (st' := [.int x1, .ref (c + 9), .ref c]) rfl ?_
    refine ev_ldI hr rfl (isT_a9 hc) (fun v5 hr => ?_)
    refine ev_seg 1 (k' := 11) (L' := [(0, .ref c), (1, .int x1)]) (st' := [.int 6, .int v5, .ref c]) rfl ?_
    refine ev_br (P := ¬ v5 = 6) (L' := [(0, .ref c), (1, .int x1)]) (st' := [.ref c]) hr rfl rfl rfl (fun hr => ?_) (fun hr => ?_)
    · skip
      refine ev_seg 1 (k' := 15) (L' := [(0, .ref c), (1, .int x1)]) (st' := [.ref 1066, .ref c]) rfl ?_
      exact hr
    · skip
      refine ev_seg 2 (k' := 15) (L' := [(0, .ref c), (1, .int x1)]) (st' := [.ref 1065, .ref c]) rfl ?_
      exact hr
  refine ev_if hr (fun h6 hr => ?_) (fun h6 hr => ?_)
  · skip
    refine ev_tab (o := 87) (t := 29) rfl (by rw [h6]; rfl) rfl ?_
    refine ev_seg 2 (k' := 31) (L' := [(0, .ref c), (1, .int x1)]) (st' := [.ref 1068, .ref c]) rfl ?_
    refine ev_callV (q' := q_228) (x := 228) (y := 12) (c := c) (As := [.ref 1068]) (rest := []) hr rfl rfl rfl rfl rfl rfl (isT_sh hc) rfl rfl rfl rfl rfl (fun rv s7 hq => ev_kV hq (fun e9 hr => ?_))
    subst e9
    refine ev_st (st' := []) rfl ?_
    refine ev_seg 1 (k' := 33) (L' := [(0, .ref c), (1, .int x1)]) (st' := [.ref c]) rfl ?_
    refine ev_getR (c := c) (v := c + 12) rfl (isT_sh hc) rfl (isT_r12 hc) ?_
    refine ev_seg 1 (k' := 35) (L' := [(0, .ref c), (1, .int x1)]) (st' := [.int x1, .ref (c + 12)]) rfl ?_
    refine ev_ldI hr rfl (isT_a12 hc) (fun v8 hr => ?_)
    refine ev_seg 1 (k' := 37) (L' := [(2, .int v8), (0, .ref c), (1, .int x1)]) (st' := []) rfl ?_
    refine ev_join (L' := [(0, .ref c), (2, .int v8)]) [1, 0] [2, 0, 1] [0, 2] rfl rfl (by decide) (by decide) rfl ?_
    exact hr
  refine ev_if hr (fun h9 hr => ?_) (fun h9 hr => ?_)
  · skip
    refine ev_tab (o := 157) (t := 65) rfl (by rw [h9]; rfl) rfl ?_
    refine ev_seg 2 (k' := 67) (L' := [(0, .ref c), (1, .int x1)]) (st' := [.int x1, .ref c]) rfl ?_
    refine ev_callV (q' := q_229) (x := 229) (y := 12) (c := c) (As := [.int x1]) (rest := []) hr rfl rfl rfl rfl rfl rfl (isT_sh hc) rfl rfl rfl rfl rfl (fun rv s10 hq => ev_kV hq (fun e9 hr => ?_))
    subst e9
    refine ev_st (st' := []) rfl ?_
    refine ev_seg 1 (k' := 117) (L' := [(0, .ref c), (1, .int x1)]) (st' := []) rfl ?_
    exact ev_vret hr rfl rfl
  refine ev_if hr (fun h11 hr => ?_) (fun h11 hr => ?_)
  · skip
    refine ev_tab (o := 157) (t := 65) rfl (by rw [h11]; rfl) rfl ?_
    refine ev_seg 2 (k' := 67) (L' := [(0, .ref c), (1, .int x1)]) (st' := [.int x1, .ref c]) rfl ?_
    refine ev_callV (q' := q_229) (x := 229) (y := 12) (c := c) (As := [.int x1]) (rest := []) hr rfl rfl rfl rfl rfl rfl (isT_sh hc) rfl rfl rfl rfl rfl (fun rv s12 hq => ev_kV hq (fun e9 hr => ?_))
    subst e9
    refine ev_st (st' := []) rfl ?_
    refine ev_seg 1 (k' := 117) (L' := [(0, .ref c), (1, .int x1)]) (st' := []) rfl ?_
    exact ev_vret hr rfl rfl
  refine ev_if hr (fun h13 hr => ?_) (fun h13 hr => ?_)
  · skip
    refine ev_tab (o := 157) (t := 65) rfl (by rw [h13]; rfl) rfl ?_
    refine ev_seg 2 (k' := 67) (L' := [(0, .ref c), (1, .int x1)]) (st' := [.int x1, .ref c]) rfl ?_
    refine ev_callV (q' := q_229) (x := 229) (y := 12) (c := c) (As := [.int x1]) (rest := []) hr rfl rfl rfl rfl rfl rfl (isT_sh hc) rfl rfl rfl rfl rfl (fun rv s14 hq => ev_kV hq (fun e9 hr => ?_))
    subst e9
    refine ev_st (st' := []) rfl ?_
    refine ev_seg 1 (k' := 117) (L' := [(0, .ref c), (1, .int x1)]) (st' := []) rfl ?_
    exact ev_vret hr rfl rfl
  refine ev_tab (o := 165) (t := 69) rfl (tab_in (by have e0 := i_neL (z := 6) (w := 6) rfl h2; have e1 := i_neL (z := 7) (w := 7) rfl h4; have e2 := i_neL (z := 8) (w := 8) rfl h6; have e3 := i_neL (z := 9) (w := 9) rfl h9; have e4 := i_neL (z := 10) (w := 10) rfl h11; have e5 := i_neL (z := 11) (w := 11) rfl h13; omega)) rfl ?_
  refine ev_seg 2 (k' := 71) (L' := [(0, .ref c), (1, .int x1)]) (st' := [.ref 1072, .ref c]) rfl ?_
  refine ev_callV (q' := q_228) (x := 228) (y := 12) (c := c) (As := [.ref 1072]) (rest := []) hr rfl rfl rfl rfl rfl rfl (isT_sh hc) rfl rfl rfl rfl rfl (fun rv s15 hq => ev_kV hq (fun e9 hr => ?_))
  subst e9
  refine ev_st (st' := []) rfl ?_
  refine ev_seg 2 (k' := 74) (L' := [(0, .ref c), (1, .int x1)]) (st' := [.ref c, .ref c]) rfl ?_
  refine ev_getR (c := c) (v := c + 9) rfl (isT_sh hc) rfl (isT_r9 hc) ?_
  refine ev_seg 1 (k' := 76) (L' := [(0, .ref c), (1, .int x1)]) (st' := [.int x1, .ref (c + 9), .ref c]) rfl ?_
  refine ev_ldI hr rfl (isT_a9 hc) (fun v16 hr => ?_)
  refine ev_br (P := ¬ v16 = 0) (L' := [(0, .ref c), (1, .int x1)]) (st' := [.ref c]) hr rfl rfl rfl (fun hr => ?_) (fun hr => ?_)
  · skip
    refine ev_seg 1 (k' := 81) (L' := [(0, .ref c), (1, .int x1)]) (st' := [.ref c, .ref c]) rfl ?_
    refine ev_getR (c := c) (v := c + 9) rfl (isT_sh hc) rfl (isT_r9 hc) ?_
    refine ev_seg 1 (k' := 83) (L' := [(0, .ref c), (1, .int x1)]) (st' := [.int x1, .ref (c + 9), .ref c]) rfl ?_
    refine ev_ldI hr rfl (isT_a9 hc) (fun v17 hr => ?_)
    refine ev_seg 1 (k' := 85) (L' := [(0, .ref c), (1, .int x1)]) (st' := [.int 1, .int v17, .ref c]) rfl ?_
    refine ev_br (P := ¬ v17 = 1) (L' := [(0, .ref c), (1, .int x1)]) (st' := [.ref c]) hr rfl rfl rfl (fun hr => ?_) (fun hr => ?_)
    · skip
      refine ev_seg 1 (k' := 89) (L' := [(0, .ref c), (1, .int x1)]) (st' := [.ref c, .ref c]) rfl ?_
      refine ev_getR (c := c) (v := c + 9) rfl (isT_sh hc) rfl (isT_r9 hc) ?_
      refine ev_seg 1 (k' := 91) (L' := [(0, .ref c), (1, .int x1)]) (st' := [.int x1, .ref (c + 9), .ref c]) rfl ?_
      refine ev_ldI hr rfl (isT_a9 hc) (fun v18 hr => ?_)
      refine ev_seg 1 (k' := 93) (L' := [(0, .ref c), (1, .int x1)]) (st' := [.int 2, .int v18, .ref c]) rfl ?_
      refine ev_br (P := ¬ v18 = 2) (L' := [(0, .ref c), (1, .int x1)]) (st' := [.ref c]) hr rfl rfl rfl (fun hr => ?_) (fun hr => ?_)
      · skip
        refine ev_seg 1 (k' := 97) (L' := [(0, .ref c), (1, .int x1)]) (st' := [.ref c, .ref c]) rfl ?_
        refine ev_getR (c := c) (v := c + 9) rfl (isT_sh hc) rfl (isT_r9 hc) ?_
        refine ev_seg 1 (k' := 99) (L' := [(0, .ref c), (1, .int x1)]) (st' := [.int x1, .ref (c + 9), .ref c]) rfl ?_
        refine ev_ldI hr rfl (isT_a9 hc) (fun v19 hr => ?_)
        refine ev_seg 1 (k' := 101) (L' := [(0, .ref c), (1, .int x1)]) (st' := [.int 3, .int v19, .ref c]) rfl ?_
        refine ev_br (P := ¬ v19 = 3) (L' := [(0, .ref c), (1, .int x1)]) (st' := [.ref c]) hr rfl rfl rfl (fun hr => ?_) (fun hr => ?_)
        · skip
          refine ev_seg 1 (k' := 105) (L' := [(0, .ref c), (1, .int x1)]) (st' := [.ref c, .ref c]) rfl ?_
          refine ev_getR (c := c) (v := c + 9) rfl (isT_sh hc) rfl (isT_r9 hc) ?_
          refine ev_seg 1 (k' := 107) (L' := [(0, .ref c), (1, .int x1)]) (st' := [.int x1, .ref (c + 9), .ref c]) rfl ?_
          refine ev_ldI hr rfl (isT_a9 hc) (fun v20 hr => ?_)
          refine ev_seg 1 (k' := 109) (L' := [(0, .ref c), (1, .int x1)]) (st' := [.int 4, .int v20, .ref c]) rfl ?_
          refine ev_br (P := ¬ v20 = 4) (L' := [(0, .ref c), (1, .int x1)]) (st' := [.ref c]) hr rfl rfl rfl (fun hr => ?_) (fun hr => ?_)
          · skip
            refine ev_seg 1 (k' := 113) (L' := [(0, .ref c), (1, .int x1)]) (st' := [.ref 1051, .ref c]) rfl ?_
            refine ev_join (L' := [(0, .ref c)]) [0] [0, 1] [0] rfl rfl (by decide) (by decide) rfl ?_
            exact hr
          · skip
            refine ev_seg 2 (k' := 113) (L' := [(0, .ref c), (1, .int x1)]) (st' := [.ref 1050, .ref c]) rfl ?_
            refine ev_join (L' := [(0, .ref c)]) [0] [0, 1] [0] rfl rfl (by decide) (by decide) rfl ?_
            exact hr
        · skip
          refine ev_seg 2 (k' := 113) (L' := [(0, .ref c), (1, .int x1)]) (st' := [.ref 1049, .ref c]) rfl ?_
          refine ev_join (L' := [(0, .ref c)]) [0] [0, 1] [0] rfl rfl (by decide) (by decide) rfl ?_
          exact hr
      · skip
        refine ev_seg 2 (k' := 113) (L' := [(0, .ref c), (1, .int x1)]) (st' := [.ref 1048, .ref c]) rfl ?_
        refine ev_join (L' := [(0, .ref c)]) [0] [0, 1] [0] rfl rfl (by decide) (by decide) rfl ?_
        exact hr
    · skip
      refine ev_seg 2 (k' := 113) (L' := [(0, .ref c), (1, .int x1)]) (st' := [.ref 1047, .ref c]) rfl ?_
      refine ev_join (L' := [(0, .ref c)]) [0] [0, 1] [0] rfl rfl (by decide) (by decide) rfl ?_
      exact hr
  · skip
    refine ev_seg 2 (k' := 113) (L' := [(0, .ref c), (1, .int x1)]) (st' := [.ref 1046, .ref c]) rfl ?_
    refine ev_join (L' := [(0, .ref c)]) [0] [0, 1] [0] rfl rfl (by decide) (by decide) rfl ?_
    exact hr
set_option maxRecDepth 20000 in
theorem eMt_write_15 (d : Nat) (c : Nat) (x1 : Int32) (q0 : Nat) (s : aT) (hc : isT c) : ∀ r, (cG (fMt_put d c q0 s) (kV fun s1 => ldI 140 s1 (c + 12) x1 (fun v2 => ldI 2200 s1 (c + 15) v2 (fun v3 => cG (fMt_write d c v3 s1) (kV fun s4 => cG (fMt_put d c 1067 s4) (kV fun s5 => rV s5)))))) = some r → fMt_write_15 (d + 1) c x1 q0 s = some r := by
  intro r hr
  show ev (d + 1) q_227 15 [(0, .ref c), (1, .int x1)] [.ref q0, .ref c] s = some r
  refine ev_callV (q' := q_228) (x := 228) (y := 12) (c := c) (As := [.ref q0]) (rest := []) hr rfl rfl rfl rfl rfl rfl (isT_sh hc) rfl rfl rfl rfl rfl (fun rv s1 hq => ev_kV hq (fun e9 hr => ?_))
  subst e9
  refine ev_st (st' := []) rfl ?_
  refine ev_seg 2 (k' := 18) (L' := [(0, .ref c), (1, .int x1)]) (st' := [.ref c, .ref c]) rfl ?_
  refine ev_getR (c := c) (v := c + 15) rfl (isT_sh hc) rfl (isT_r15 hc) ?_
  refine ev_seg 1 (k' := 20) (L' := [(0, .ref c), (1, .int x1)]) (st' := [.ref c, .ref (c + 15), .ref c]) rfl ?_
  refine ev_getR (c := c) (v := c + 12) rfl (isT_sh hc) rfl (isT_r12 hc) ?_
  refine ev_seg 1 (k' := 22) (L' := [(0, .ref c), (1, .int x1)]) (st' := [.int x1, .ref (c + 12), .ref (c + 15), .ref c]) rfl ?_
  refine ev_ldI hr rfl (isT_a12 hc) (fun v2 hr => ?_)
  refine ev_ldI hr rfl (isT_a15 hc) (fun v3 hr => ?_)
  refine ev_callV (q' := q_227) (x := 227) (y := 12) (c := c) (As := [.int v3]) (rest := []) hr rfl rfl rfl rfl rfl rfl (isT_sh hc) rfl rfl rfl rfl rfl (fun rv s4 hq => ev_kV hq (fun e9 hr => ?_))
  subst e9
  refine ev_st (st' := []) rfl ?_
  refine ev_seg 2 (k' := 27) (L' := [(0, .ref c), (1, .int x1)]) (st' := [.ref 1067, .ref c]) rfl ?_
  refine ev_callV (q' := q_228) (x := 228) (y := 12) (c := c) (As := [.ref 1067]) (rest := []) hr rfl rfl rfl rfl rfl rfl (isT_sh hc) rfl rfl rfl rfl rfl (fun rv s5 hq => ev_kV hq (fun e9 hr => ?_))
  subst e9
  refine ev_st (st' := []) rfl ?_
  refine ev_seg 1 (k' := 117) (L' := [(0, .ref c), (1, .int x1)]) (st' := []) rfl ?_
  exact ev_vret hr rfl rfl
set_option maxRecDepth 20000 in
theorem eMt_write_37 (d : Nat) (c : Nat) (z2 : Int32) (s : aT) (hc : isT c) : ∀ r, (if z2 < 0 then cG (fMt_put d c 1071 s) (kV fun s1 => rV s1) else ldI 2200 s (c + 15) z2 (fun v2 => cG (fMt_write d c v2 s) (kV fun s3 => ldI 2200 s3 (c + 18) z2 (fun v4 => if v4 < 0 then fMt_write_54 (d + 1) c z2 1070 s3 else fMt_write_54 (d + 1) c z2 1069 s3)))) = some r → fMt_write_37 (d + 1) c z2 s = some r := by
  intro r hr
  show ev (d + 1) q_227 37 [(0, .ref c), (2, .int z2)] [] s = some r
  refine ev_seg 1 (k' := 38) (L' := [(0, .ref c), (2, .int z2)]) (st' := [.int z2]) rfl ?_
  refine ev_br (P := z2 < 0) (L' := [(0, .ref c), (2, .int z2)]) (st' := []) hr rfl rfl rfl (fun hr => ?_) (fun hr => ?_)
  · skip
    refine ev_seg 2 (k' := 63) (L' := [(0, .ref c), (2, .int z2)]) (st' := [.ref 1071, .ref c]) rfl ?_
    refine ev_callV (q' := q_228) (x := 228) (y := 12) (c := c) (As := [.ref 1071]) (rest := []) hr rfl rfl rfl rfl rfl rfl (isT_sh hc) rfl rfl rfl rfl rfl (fun rv s1 hq => ev_kV hq (fun e9 hr => ?_))
    subst e9
    refine ev_st (st' := []) rfl ?_
    refine ev_seg 1 (k' := 117) (L' := [(0, .ref c), (2, .int z2)]) (st' := []) rfl ?_
    exact ev_vret hr rfl rfl
  · skip
    refine ev_seg 2 (k' := 41) (L' := [(0, .ref c), (2, .int z2)]) (st' := [.ref c, .ref c]) rfl ?_
    refine ev_getR (c := c) (v := c + 15) rfl (isT_sh hc) rfl (isT_r15 hc) ?_
    refine ev_seg 1 (k' := 43) (L' := [(0, .ref c), (2, .int z2)]) (st' := [.int z2, .ref (c + 15), .ref c]) rfl ?_
    refine ev_ldI hr rfl (isT_a15 hc) (fun v2 hr => ?_)
    refine ev_callV (q' := q_227) (x := 227) (y := 12) (c := c) (As := [.int v2]) (rest := []) hr rfl rfl rfl rfl rfl rfl (isT_sh hc) rfl rfl rfl rfl rfl (fun rv s3 hq => ev_kV hq (fun e9 hr => ?_))
    subst e9
    refine ev_st (st' := []) rfl ?_
    refine ev_seg 2 (k' := 47) (L' := [(0, .ref c), (2, .int z2)]) (st' := [.ref c, .ref c]) rfl ?_
    refine ev_getR (c := c) (v := c + 18) rfl (isT_sh hc) rfl (isT_r18 hc) ?_
    refine ev_seg 1 (k' := 49) (L' := [(0, .ref c), (2, .int z2)]) (st' := [.int z2, .ref (c + 18), .ref c]) rfl ?_
    refine ev_ldI hr rfl (isT_a18 hc) (fun v4 hr => ?_)
    refine ev_br (P := v4 < 0) (L' := [(0, .ref c), (2, .int z2)]) (st' := [.ref c]) hr rfl rfl rfl (fun hr => ?_) (fun hr => ?_)
    · skip
      refine ev_seg 1 (k' := 54) (L' := [(0, .ref c), (2, .int z2)]) (st' := [.ref 1070, .ref c]) rfl ?_
      exact hr
    · skip
      refine ev_seg 2 (k' := 54) (L' := [(0, .ref c), (2, .int z2)]) (st' := [.ref 1069, .ref c]) rfl ?_
      exact hr
set_option maxRecDepth 20000 in
theorem eMt_write_113 (d : Nat) (c : Nat) (q0 : Nat) (s : aT) (hc : isT c) : ∀ r, (cG (fMt_put d c q0 s) (kV fun s1 => cG (fMt_put d c 1072 s1) (kV fun s2 => rV s2))) = some r → fMt_write_113 (d + 1) c q0 s = some r := by
  intro r hr
  show ev (d + 1) q_227 113 [(0, .ref c)] [.ref q0, .ref c] s = some r
  refine ev_callV (q' := q_228) (x := 228) (y := 12) (c := c) (As := [.ref q0]) (rest := []) hr rfl rfl rfl rfl rfl rfl (isT_sh hc) rfl rfl rfl rfl rfl (fun rv s1 hq => ev_kV hq (fun e9 hr => ?_))
  subst e9
  refine ev_st (st' := []) rfl ?_
  refine ev_seg 2 (k' := 116) (L' := [(0, .ref c)]) (st' := [.ref 1072, .ref c]) rfl ?_
  refine ev_callV (q' := q_228) (x := 228) (y := 12) (c := c) (As := [.ref 1072]) (rest := []) hr rfl rfl rfl rfl rfl rfl (isT_sh hc) rfl rfl rfl rfl rfl (fun rv s2 hq => ev_kV hq (fun e9 hr => ?_))
  subst e9
  refine ev_st (st' := []) rfl ?_
  exact ev_vret hr rfl rfl
set_option maxRecDepth 20000 in
theorem eMt_write_54 (d : Nat) (c : Nat) (z2 : Int32) (q0 : Nat) (s : aT) (hc : isT c) : ∀ r, (cG (fMt_put d c q0 s) (kV fun s1 => ldI 2200 s1 (c + 18) z2 (fun v2 => fMt_write_37 (d + 1) c v2 s1))) = some r → fMt_write_54 (d + 1) c z2 q0 s = some r := by
  intro r hr
  show ev (d + 1) q_227 54 [(0, .ref c), (2, .int z2)] [.ref q0, .ref c] s = some r
  refine ev_callV (q' := q_228) (x := 228) (y := 12) (c := c) (As := [.ref q0]) (rest := []) hr rfl rfl rfl rfl rfl rfl (isT_sh hc) rfl rfl rfl rfl rfl (fun rv s1 hq => ev_kV hq (fun e9 hr => ?_))
  subst e9
  refine ev_st (st' := []) rfl ?_
  refine ev_seg 1 (k' := 56) (L' := [(0, .ref c), (2, .int z2)]) (st' := [.ref c]) rfl ?_
  refine ev_getR (c := c) (v := c + 18) rfl (isT_sh hc) rfl (isT_r18 hc) ?_
  refine ev_seg 1 (k' := 58) (L' := [(0, .ref c), (2, .int z2)]) (st' := [.int z2, .ref (c + 18)]) rfl ?_
  refine ev_ldI hr rfl (isT_a18 hc) (fun v2 hr => ?_)
  refine ev_seg 2 (k' := 37) (L' := [(2, .int v2), (0, .ref c)]) (st' := []) rfl ?_
  refine ev_join (L' := [(0, .ref c), (2, .int v2)]) [1, 0] [2, 0] [0, 2] rfl rfl (by decide) (by decide) rfl ?_
  exact hr
set_option maxRecDepth 20000 in
theorem eMt_put (d : Nat) (c : Nat) (w1 : Nat) (s : aT) (hc : isT c) : ∀ r, (fMt_put_2 (d + 6) c w1 0 s) = some r → fMt_put (d + 6) c w1 s = some r := by
  intro r hr
  show ev (d + 6) q_228 0 [(0, .ref c), (1, .ref w1)] [] s = some r
  refine ev_seg 2 (k' := 2) (L' := [(2, .int 0), (0, .ref c), (1, .ref w1)]) (st' := []) rfl ?_
  refine ev_join (L' := [(0, .ref c), (1, .ref w1), (2, .int 0)]) [1, 2, 0] [2, 0, 1] [0, 1, 2] rfl rfl (by decide) (by decide) rfl ?_
  exact hr
set_option maxRecDepth 20000 in
theorem eMt_put_2 (d : Nat) (c : Nat) (w1 : Nat) (z2 : Int32) (s : aT) (hc : isT c) : ∀ r, (cP 900 [.ref w1] (fun v1 => if v1 ≤ z2 then rV s else cP 901 [.ref w1, .int z2] (fun v2 => stI 4200 s (c + 20) (gI s c 33) (vp_nar .byte v2.toInt8.toInt32) (fun s3 => wI s3 c 33 ((gI s3 c 33) + 1) (fun s4 => fMt_put_2 (d + 6) c w1 (z2 + 1) s4))))) = some r → fMt_put_2 (d + 6) c w1 z2 s = some r := by
  intro r hr
  show ev (d + 6) q_228 2 [(0, .ref c), (1, .ref w1), (2, .int z2)] [] s = some r
  refine ev_seg 2 (k' := 4) (L' := [(0, .ref c), (1, .ref w1), (2, .int z2)]) (st' := [.ref w1, .int z2]) rfl ?_
  refine ev_primV (x := 900) (As := [.ref w1]) (rest := [.int z2]) hr rfl rfl rfl rfl (fun v1 hr => ?_)
  refine ev_br (P := v1 ≤ z2) (L' := [(0, .ref c), (1, .ref w1), (2, .int z2)]) (st' := []) hr rfl rfl rfl (fun hr => ?_) (fun hr => ?_)
  · skip
    exact ev_vret hr rfl rfl
  · skip
    refine ev_seg 1 (k' := 7) (L' := [(0, .ref c), (1, .ref w1), (2, .int z2)]) (st' := [.ref c]) rfl ?_
    refine ev_getR (c := c) (v := c + 20) rfl (isT_sh hc) rfl (isT_r20 hc) ?_
    refine ev_seg 1 (k' := 9) (L' := [(0, .ref c), (1, .ref w1), (2, .int z2)]) (st' := [.ref c, .ref (c + 20)]) rfl ?_
    refine ev_getI (c := c) rfl (isT_sh hc) rfl (Or.inl rfl) ?_
    refine ev_seg 2 (k' := 12) (L' := [(0, .ref c), (1, .ref w1), (2, .int z2)]) (st' := [.int z2, .ref w1, .int (gI s c 33), .ref (c + 20)]) rfl ?_
    refine ev_primV (x := 901) (As := [.ref w1, .int z2]) (rest := [.int (gI s c 33), .ref (c + 20)]) hr rfl rfl rfl rfl (fun v2 hr => ?_)
    refine ev_seg 1 (k' := 14) (L' := [(0, .ref c), (1, .ref w1), (2, .int z2)]) (st' := [.int v2.toInt8.toInt32, .int (gI s c 33), .ref (c + 20)]) rfl ?_
    refine ev_stB hr rfl (isT_a20 hc) (fun s3 hr => ?_)
    refine ev_seg 2 (k' := 17) (L' := [(0, .ref c), (1, .ref w1), (2, .int z2)]) (st' := [.ref c, .ref c]) rfl ?_
    refine ev_getI (c := c) rfl (isT_sh hc) rfl (Or.inl rfl) ?_
    refine ev_seg 2 (k' := 20) (L' := [(0, .ref c), (1, .ref w1), (2, .int z2)]) (st' := [.int ((gI s3 c 33) + 1), .ref c]) rfl ?_
    refine ev_putI (c := c) hr rfl (isT_sh hc) rfl (fun s4 hr => ?_)
    refine ev_seg 2 (k' := 2) (L' := [(2, .int (z2 + 1)), (0, .ref c), (1, .ref w1)]) (st' := []) rfl ?_
    refine ev_join (L' := [(0, .ref c), (1, .ref w1), (2, .int (z2 + 1))]) [1, 2, 0] [2, 0, 1] [0, 1, 2] rfl rfl (by decide) (by decide) rfl ?_
    exact hr
set_option maxRecDepth 20000 in
theorem eMt_writeNamed (d : Nat) (c : Nat) (x1 : Int32) (s : aT) (hc : isT c) : ∀ r, (ldI 140 s (c + 21) x1 (fun v1 => if v1 = 0 then stI 140 s (c + 21) x1 (vp_nar .boolean 1) (fun s2 => cG (fMt_put d c 1073 s2) (kV fun s3 => ldI 140 s3 (c + 10) x1 (fun v4 => cG (fMt_putName d c v4 s3) (kV fun s5 => ldI 140 s5 (c + 9) x1 (fun v6 => if ¬ v6 = 9 then ldI 140 s5 (c + 9) x1 (fun v7 => if ¬ v7 = 10 then fMt_writeNamed_71 (d + 1) c x1 1076 s5 else fMt_writeNamed_71 (d + 1) c x1 1075 s5) else cG (fMt_put d c 1074 s5) (kV fun s8 => ldI 140 s8 (c + 11) x1 (fun v9 => if v9 ≤ 9 then fMt_writeNamed_49 (d + 1) c x1 s8 else ldI 140 s8 (c + 11) x1 (fun v10 => cG (fMt_figure d c (v10 / 10) s8) (kV fun s11 => fMt_writeNamed_49 (d + 1) c x1 s11))))))))) else ldI 140 s (c + 10) x1 (fun v12 => cG (fMt_putName d c v12 s) (kV fun s13 => rV s13)))) = some r → fMt_writeNamed (d + 1) c x1 s = some r := by
  intro r hr
  show ev (d + 1) q_229 0 [(0, .ref c), (1, .int x1)] [] s = some r
  refine ev_seg 1 (k' := 1) (L' := [(0, .ref c), (1, .int x1)]) (st' := [.ref c]) rfl ?_
  refine ev_getR (c := c) (v := c + 21) rfl (isT_sh hc) rfl (isT_r21 hc) ?_
  refine ev_seg 1 (k' := 3) (L' := [(0, .ref c), (1, .int x1)]) (st' := [.int x1, .ref (c + 21)]) rfl ?_
  refine ev_ldZ hr rfl (isT_a21 hc) (fun v1 hr => ?_)
  refine ev_br (P := v1 = 0) (L' := [(0, .ref c), (1, .int x1)]) (st' := []) hr rfl rfl rfl (fun hr => ?_) (fun hr => ?_)
  · skip
    refine ev_seg 1 (k' := 13) (L' := [(0, .ref c), (1, .int x1)]) (st' := [.ref c]) rfl ?_
    refine ev_getR (c := c) (v := c + 21) rfl (isT_sh hc) rfl (isT_r21 hc) ?_
    refine ev_seg 2 (k' := 16) (L' := [(0, .ref c), (1, .int x1)]) (st' := [.int 1, .int x1, .ref (c + 21)]) rfl ?_
    refine ev_stZ hr rfl (isT_a21 hc) (fun s2 hr => ?_)
    refine ev_seg 2 (k' := 19) (L' := [(0, .ref c), (1, .int x1)]) (st' := [.ref 1073, .ref c]) rfl ?_
    refine ev_callV (q' := q_228) (x := 228) (y := 12) (c := c) (As := [.ref 1073]) (rest := []) hr rfl rfl rfl rfl rfl rfl (isT_sh hc) rfl rfl rfl rfl rfl (fun rv s3 hq => ev_kV hq (fun e9 hr => ?_))
    subst e9
    refine ev_st (st' := []) rfl ?_
    refine ev_seg 2 (k' := 22) (L' := [(0, .ref c), (1, .int x1)]) (st' := [.ref c, .ref c]) rfl ?_
    refine ev_getR (c := c) (v := c + 10) rfl (isT_sh hc) rfl (isT_r10 hc) ?_
    refine ev_seg 1 (k' := 24) (L' := [(0, .ref c), (1, .int x1)]) (st' := [.int x1, .ref (c + 10), .ref c]) rfl ?_
    refine ev_ldI hr rfl (isT_a10 hc) (fun v4 hr => ?_)
    refine ev_callV (q' := q_230) (x := 230) (y := 12) (c := c) (As := [.int v4]) (rest := []) hr rfl rfl rfl rfl rfl rfl (isT_sh hc) rfl rfl rfl rfl rfl (fun rv s5 hq => ev_kV hq (fun e9 hr => ?_))
    subst e9
    refine ev_st (st' := []) rfl ?_
    refine ev_seg 1 (k' := 27) (L' := [(0, .ref c), (1, .int x1)]) (st' := [.ref c]) rfl ?_
    refine ev_getR (c := c) (v := c + 9) rfl (isT_sh hc) rfl (isT_r9 hc) ?_
    refine ev_seg 1 (k' := 29) (L' := [(0, .ref c), (1, .int x1)]) (st' := [.int x1, .ref (c + 9)]) rfl ?_
    refine ev_ldI hr rfl (isT_a9 hc) (fun v6 hr => ?_)
    refine ev_seg 1 (k' := 31) (L' := [(0, .ref c), (1, .int x1)]) (st' := [.int 9, .int v6]) rfl ?_
    refine ev_br (P := ¬ v6 = 9) (L' := [(0, .ref c), (1, .int x1)]) (st' := []) hr rfl rfl rfl (fun hr => ?_) (fun hr => ?_)
    · skip
      refine ev_seg 2 (k' := 63) (L' := [(0, .ref c), (1, .int x1)]) (st' := [.ref c, .ref c]) rfl ?_
      refine ev_getR (c := c) (v := c + 9) rfl (isT_sh hc) rfl (isT_r9 hc) ?_
      refine ev_seg 1 (k' := 65) (L' := [(0, .ref c), (1, .int x1)]) (st' := [.int x1, .ref (c + 9), .ref c]) rfl ?_
      refine ev_ldI hr rfl (isT_a9 hc) (fun v7 hr => ?_)
      refine ev_seg 1 (k' := 67) (L' := [(0, .ref c), (1, .int x1)]) (st' := [.int 10, .int v7, .ref c]) rfl ?_
      refine ev_br (P := ¬ v7 = 10) (L' := [(0, .ref c), (1, .int x1)]) (st' := [.ref c]) hr rfl rfl rfl (fun hr => ?_) (fun hr => ?_)
      · skip
        refine ev_seg 1 (k' := 71) (L' := [(0, .ref c), (1, .int x1)]) (st' := [.ref 1076, .ref c]) rfl ?_
        exact hr
      · skip
        refine ev_seg 2 (k' := 71) (L' := [(0, .ref c), (1, .int x1)]) (st' := [.ref 1075, .ref c]) rfl ?_
        exact hr
    · skip
      refine ev_seg 2 (k' := 34) (L' := [(0, .ref c), (1, .int x1)]) (st' := [.ref 1074, .ref c]) rfl ?_
      refine ev_callV (q' := q_228) (x := 228) (y := 12) (c := c) (As := [.ref 1074]) (rest := []) hr rfl rfl rfl rfl rfl rfl (isT_sh hc) rfl rfl rfl rfl rfl (fun rv s8 hq => ev_kV hq (fun e9 hr => ?_))
      subst e9
      refine ev_st (st' := []) rfl ?_
      refine ev_seg 1 (k' := 36) (L' := [(0, .ref c), (1, .int x1)]) (st' := [.ref c]) rfl ?_
      refine ev_getR (c := c) (v := c + 11) rfl (isT_sh hc) rfl (isT_r11 hc) ?_
      refine ev_seg 1 (k' := 38) (L' := [(0, .ref c), (1, .int x1)]) (st' := [.int x1, .ref (c + 11)]) rfl ?_
      refine ev_ldI hr rfl (isT_a11 hc) (fun v9 hr => ?_)
      refine ev_seg 1 (k' := 40) (L' := [(0, .ref c), (1, .int x1)]) (st' := [.int 9, .int v9]) rfl ?_
      refine ev_br (P := v9 ≤ 9) (L' := [(0, .ref c), (1, .int x1)]) (st' := []) hr rfl rfl rfl (fun hr => ?_) (fun hr => ?_)
      · skip
        exact hr
      · skip
        refine ev_seg 2 (k' := 43) (L' := [(0, .ref c), (1, .int x1)]) (st' := [.ref c, .ref c]) rfl ?_
        refine ev_getR (c := c) (v := c + 11) rfl (isT_sh hc) rfl (isT_r11 hc) ?_
        refine ev_seg 1 (k' := 45) (L' := [(0, .ref c), (1, .int x1)]) (st' := [.int x1, .ref (c + 11), .ref c]) rfl ?_
        refine ev_ldI hr rfl (isT_a11 hc) (fun v10 hr => ?_)
        refine ev_seg 2 (k' := 48) (L' := [(0, .ref c), (1, .int x1)]) (st' := [.int (v10 / 10), .ref c]) rfl ?_
        refine ev_callV (q' := q_231) (x := 231) (y := 12) (c := c) (As := [.int (v10 / 10)]) (rest := []) hr rfl rfl rfl rfl rfl rfl (isT_sh hc) rfl rfl rfl rfl rfl (fun rv s11 hq => ev_kV hq (fun e9 hr => ?_))
        subst e9
        refine ev_st (st' := []) rfl ?_
        exact hr
  · skip
    refine ev_seg 2 (k' := 7) (L' := [(0, .ref c), (1, .int x1)]) (st' := [.ref c, .ref c]) rfl ?_
    refine ev_getR (c := c) (v := c + 10) rfl (isT_sh hc) rfl (isT_r10 hc) ?_
    refine ev_seg 1 (k' := 9) (L' := [(0, .ref c), (1, .int x1)]) (st' := [.int x1, .ref (c + 10), .ref c]) rfl ?_
    refine ev_ldI hr rfl (isT_a10 hc) (fun v12 hr => ?_)
    refine ev_callV (q' := q_230) (x := 230) (y := 12) (c := c) (As := [.int v12]) (rest := []) hr rfl rfl rfl rfl rfl rfl (isT_sh hc) rfl rfl rfl rfl rfl (fun rv s13 hq => ev_kV hq (fun e9 hr => ?_))
    subst e9
    refine ev_st (st' := []) rfl ?_
    exact ev_vret hr rfl rfl
set_option maxRecDepth 20000 in
theorem eMt_writeNamed_71 (d : Nat) (c : Nat) (x1 : Int32) (q0 : Nat) (s : aT) (hc : isT c) : ∀ r, (cG (fMt_put d c q0 s) (kV fun s1 => ldI 140 s1 (c + 12) x1 (fun v2 => fMt_writeNamed_77 (d + 1) c x1 v2 s1))) = some r → fMt_writeNamed_71 (d + 1) c x1 q0 s = some r := by
  intro r hr
  show ev (d + 1) q_229 71 [(0, .ref c), (1, .int x1)] [.ref q0, .ref c] s = some r
  refine ev_callV (q' := q_228) (x := 228) (y := 12) (c := c) (As := [.ref q0]) (rest := []) hr rfl rfl rfl rfl rfl rfl (isT_sh hc) rfl rfl rfl rfl rfl (fun rv s1 hq => ev_kV hq (fun e9 hr => ?_))
  subst e9
  refine ev_st (st' := []) rfl ?_
  refine ev_seg 1 (k' := 73) (L' := [(0, .ref c), (1, .int x1)]) (st' := [.ref c]) rfl ?_
  refine ev_getR (c := c) (v := c + 12) rfl (isT_sh hc) rfl (isT_r12 hc) ?_
  refine ev_seg 1 (k' := 75) (L' := [(0, .ref c), (1, .int x1)]) (st' := [.int x1, .ref (c + 12)]) rfl ?_
  refine ev_ldI hr rfl (isT_a12 hc) (fun v2 hr => ?_)
  refine ev_seg 1 (k' := 77) (L' := [(2, .int v2), (0, .ref c), (1, .int x1)]) (st' := []) rfl ?_
  refine ev_join (L' := [(0, .ref c), (1, .int x1), (2, .int v2)]) [1, 2, 0] [2, 0, 1] [0, 1, 2] rfl rfl (by decide) (by decide) rfl ?_
  exact hr
set_option maxRecDepth 20000 in
theorem eMt_writeNamed_49 (d : Nat) (c : Nat) (x1 : Int32) (s : aT) (hc : isT c) : ∀ r, (ldI 140 s (c + 11) x1 (fun v1 => cG (fMt_figure d c (v1 - v1 / 10 * 10) s) (kV fun s2 => cG (fMt_put d c 1067 s2) (kV fun s3 => rV s3)))) = some r → fMt_writeNamed_49 (d + 1) c x1 s = some r := by
  intro r hr
  show ev (d + 1) q_229 49 [(0, .ref c), (1, .int x1)] [] s = some r
  refine ev_seg 2 (k' := 51) (L' := [(0, .ref c), (1, .int x1)]) (st' := [.ref c, .ref c]) rfl ?_
  refine ev_getR (c := c) (v := c + 11) rfl (isT_sh hc) rfl (isT_r11 hc) ?_
  refine ev_seg 1 (k' := 53) (L' := [(0, .ref c), (1, .int x1)]) (st' := [.int x1, .ref (c + 11), .ref c]) rfl ?_
  refine ev_ldI hr rfl (isT_a11 hc) (fun v1 hr => ?_)
  refine ev_seg 2 (k' := 56) (L' := [(0, .ref c), (1, .int x1)]) (st' := [.int (v1 - v1 / 10 * 10), .ref c]) rfl ?_
  refine ev_callV (q' := q_231) (x := 231) (y := 12) (c := c) (As := [.int (v1 - v1 / 10 * 10)]) (rest := []) hr rfl rfl rfl rfl rfl rfl (isT_sh hc) rfl rfl rfl rfl rfl (fun rv s2 hq => ev_kV hq (fun e9 hr => ?_))
  subst e9
  refine ev_st (st' := []) rfl ?_
  refine ev_seg 2 (k' := 59) (L' := [(0, .ref c), (1, .int x1)]) (st' := [.ref 1067, .ref c]) rfl ?_
  refine ev_callV (q' := q_228) (x := 228) (y := 12) (c := c) (As := [.ref 1067]) (rest := []) hr rfl rfl rfl rfl rfl rfl (isT_sh hc) rfl rfl rfl rfl rfl (fun rv s3 hq => ev_kV hq (fun e9 hr => ?_))
  subst e9
  refine ev_st (st' := []) rfl ?_
  exact ev_vret hr rfl rfl
