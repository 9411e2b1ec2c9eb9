/-! RecordLakeModel: what its pieces do -/
set_option maxRecDepth 20000 in
theorem eMo_copy_17 (d : Nat) (x1 : Int32) (x2 : Int32) (x3 : Int32) (u0 : Int32) (s : aT) : ∀ r, (cG (fMo_refused d u0 0 s) (kI fun v2 s1 => if v2 = 0 then if gI s1 67 11 = 0 then cG (fMo_rows d x1 s1) (kI fun v4 s3 => if ¬ v4 = 0 then cG (fMo_readVersion d 113 x2 x3 s3) (kV fun s5 => fMo_copy_48 (d + 1) x1 x2 x3 v4 0 0 s5) else rI (-34) s3) else rI (-33) s1 else rI 0 s1)) = some r → fMo_copy_17 (d + 1) x1 x2 x3 u0 s = some r := by
  intro r hr
  show ev (d + 1) q_284 17 [(0, .ref 67), (1, .int x1), (2, .int x2), (3, .int x3)] [.int u0] s = some r
  refine ev_seg 4 (k' := 21) (L' := [(4, .int u0), (0, .ref 67), (1, .int x1), (2, .int x2), (3, .int x3)]) (st' := [.int 0, .int u0, .ref 67]) rfl ?_
  refine ev_callV (q' := q_189) (x := 189) (y := 13) (c := 67) (As := [.int u0, .int 0]) (rest := []) hr rfl rfl rfl rfl rfl rfl rfl rfl rfl rfl rfl rfl (fun rv s1 hq => ev_kI hq (fun v2 e9 hr => ?_))
  subst e9
  refine ev_st (st' := [.int v2]) rfl ?_
  refine ev_br (P := v2 = 0) (L' := [(4, .int u0), (0, .ref 67), (1, .int x1), (2, .int x2), (3, .int x3)]) (st' := []) hr rfl rfl rfl (fun hr => ?_) (fun hr => ?_)
  · skip
    refine ev_seg 2 (k' := 27) (L' := [(4, .int u0), (0, .ref 67), (1, .int x1), (2, .int x2), (3, .int x3)]) (st' := [.int (gI s1 67 11)]) rfl ?_
    refine ev_br (P := gI s1 67 11 = 0) (L' := [(4, .int u0), (0, .ref 67), (1, .int x1), (2, .int x2), (3, .int x3)]) (st' := []) hr rfl rfl rfl (fun hr => ?_) (fun hr => ?_)
    · skip
      refine ev_seg 2 (k' := 32) (L' := [(4, .int u0), (0, .ref 67), (1, .int x1), (2, .int x2), (3, .int x3)]) (st' := [.int x1, .ref 67]) rfl ?_
      refine ev_callV (q' := q_271) (x := 271) (y := 13) (c := 67) (As := [.int x1]) (rest := []) hr rfl rfl rfl rfl rfl rfl rfl rfl rfl rfl rfl rfl (fun rv s3 hq => ev_kI hq (fun v4 e9 hr => ?_))
      subst e9
      refine ev_st (st' := [.int v4]) rfl ?_
      refine ev_seg 2 (k' := 35) (L' := [(5, .int v4), (4, .int u0), (0, .ref 67), (1, .int x1), (2, .int x2), (3, .int x3)]) (st' := [.int v4]) rfl ?_
      refine ev_br (P := ¬ v4 = 0) (L' := [(5, .int v4), (4, .int u0), (0, .ref 67), (1, .int x1), (2, .int x2), (3, .int x3)]) (st' := []) hr rfl rfl rfl (fun hr => ?_) (fun hr => ?_)
      · skip
        refine ev_seg 5 (k' := 43) (L' := [(5, .int v4), (4, .int u0), (0, .ref 67), (1, .int x1), (2, .int x2), (3, .int x3)]) (st' := [.int x3, .int x2, .ref 113, .ref 67]) rfl ?_
        refine ev_callV (q' := q_235) (x := 235) (y := 13) (c := 67) (As := [.ref 113, .int x2, .int x3]) (rest := []) hr rfl rfl rfl rfl rfl rfl rfl rfl rfl rfl rfl rfl (fun rv s5 hq => ev_kV hq (fun e9 hr => ?_))
        subst e9
        refine ev_st (st' := []) rfl ?_
        refine ev_seg 4 (k' := 48) (L' := [(7, .int 0), (6, .int 0), (5, .int v4), (4, .int u0), (0, .ref 67), (1, .int x1), (2, .int x2), (3, .int x3)]) (st' := []) rfl ?_
        refine ev_join (L' := [(0, .ref 67), (1, .int x1), (2, .int x2), (3, .int x3), (5, .int v4), (6, .int 0), (7, .int 0)]) [4, 5, 6, 7, 2, 1, 0] [7, 6, 5, 4, 0, 1, 2, 3] [0, 1, 2, 3, 5, 6, 7] rfl rfl (by decide) (by decide) rfl ?_
        exact hr
      · skip
        refine ev_seg 1 (k' := 37) (L' := [(5, .int v4), (4, .int u0), (0, .ref 67), (1, .int x1), (2, .int x2), (3, .int x3)]) (st' := [.int (-34)]) rfl ?_
        exact ev_iret hr rfl rfl rfl
    · skip
      refine ev_seg 1 (k' := 29) (L' := [(4, .int u0), (0, .ref 67), (1, .int x1), (2, .int x2), (3, .int x3)]) (st' := [.int (-33)]) rfl ?_
      exact ev_iret hr rfl rfl rfl
  · skip
    refine ev_seg 1 (k' := 24) (L' := [(4, .int u0), (0, .ref 67), (1, .int x1), (2, .int x2), (3, .int x3)]) (st' := [.int 0]) rfl ?_
    exact ev_iret hr rfl rfl rfl
set_option maxRecDepth 20000 in
theorem eMo_copy_48 (d : Nat) (x1 : Int32) (x2 : Int32) (x3 : Int32) (z5 : Int32) (z6 : Int32) (z7 : Int32) (s : aT) : ∀ r, (if gI s 67 13 ≤ z7 then if ¬ z6 = 0 then if 4096 < z6 then fMo_copy_144 (d + 1) x2 x3 z5 z6 s else cG (fMo_isFaulty d z6 s) (kI fun v2 s1 => if v2 = 0 then fMo_copy_144 (d + 1) x2 x3 z5 z6 s1 else rI (-31) s1) else rI (-34) s else ldI 41 s 137 z7 (fun v3 => if ¬ v3 = x1 then fMo_copy_129 (d + 1) x1 x2 x3 z5 z6 z7 s else ldI 41 s 141 z7 (fun v4 => if v4 < 0 then fMo_copy_129 (d + 1) x1 x2 x3 z5 z6 z7 s else ldI 41 s 138 z7 (fun v5 => cG (fMo_readVersion d 91 x1 v5 s) (kV fun s6 => ldI 41 s6 139 z7 (fun v7 => wI s6 67 31 (256 * v7) (fun s8 => fMo_copy_82 (d + 1) x1 x2 x3 z5 z6 z7 0 s8))))))) = some r → fMo_copy_48 (d + 1) x1 x2 x3 z5 z6 z7 s = some r := by
  intro r hr
  show ev (d + 1) q_284 48 [(0, .ref 67), (1, .int x1), (2, .int x2), (3, .int x3), (5, .int z5), (6, .int z6), (7, .int z7)] [] s = some r
  refine ev_seg 3 (k' := 51) (L' := [(0, .ref 67), (1, .int x1), (2, .int x2), (3, .int x3), (5, .int z5), (6, .int z6), (7, .int z7)]) (st' := [.int (gI s 67 13), .int z7]) rfl ?_
  refine ev_br (P := gI s 67 13 ≤ z7) (L' := [(0, .ref 67), (1, .int x1), (2, .int x2), (3, .int x3), (5, .int z5), (6, .int z6), (7, .int z7)]) (st' := []) hr rfl rfl rfl (fun hr => ?_) (fun hr => ?_)
  · skip
    refine ev_seg 1 (k' := 132) (L' := [(0, .ref 67), (1, .int x1), (2, .int x2), (3, .int x3), (5, .int z5), (6, .int z6), (7, .int z7)]) (st' := [.int z6]) rfl ?_
    refine ev_br (P := ¬ z6 = 0) (L' := [(0, .ref 67), (1, .int x1), (2, .int x2), (3, .int x3), (5, .int z5), (6, .int z6), (7, .int z7)]) (st' := []) hr rfl rfl rfl (fun hr => ?_) (fun hr => ?_)
    · skip
      refine ev_seg 2 (k' := 137) (L' := [(0, .ref 67), (1, .int x1), (2, .int x2), (3, .int x3), (5, .int z5), (6, .int z6), (7, .int z7)]) (st' := [.int 4096, .int z6]) rfl ?_
      refine ev_br (P := 4096 < z6) (L' := [(0, .ref 67), (1, .int x1), (2, .int x2), (3, .int x3), (5, .int z5), (6, .int z6), (7, .int z7)]) (st' := []) hr rfl rfl rfl (fun hr => ?_) (fun hr => ?_)
      · skip
        refine ev_join (L' := [(0, .ref 67), (2, .int x2), (3, .int x3), (5, .int z5), (6, .int z6)]) [0, 2, 3, 4, 5] [0, 1, 2, 3, 5, 6, 7] [0, 2, 3, 5, 6] rfl rfl (by decide) (by decide) rfl ?_
        exact hr
      · skip
        refine ev_seg 2 (k' := 140) (L' := [(0, .ref 67), (1, .int x1), (2, .int x2), (3, .int x3), (5, .int z5), (6, .int z6), (7, .int z7)]) (st' := [.int z6, .ref 67]) rfl ?_
        refine ev_callV (q' := q_285) (x := 285) (y := 13) (c := 67) (As := [.int z6]) (rest := []) hr rfl rfl rfl rfl rfl rfl rfl rfl rfl rfl rfl rfl (fun rv s1 hq => ev_kI hq (fun v2 e9 hr => ?_))
        subst e9
        refine ev_st (st' := [.int v2]) rfl ?_
        refine ev_br (P := v2 = 0) (L' := [(0, .ref 67), (1, .int x1), (2, .int x2), (3, .int x3), (5, .int z5), (6, .int z6), (7, .int z7)]) (st' := []) hr rfl rfl rfl (fun hr => ?_) (fun hr => ?_)
        · skip
          refine ev_join (L' := [(0, .ref 67), (2, .int x2), (3, .int x3), (5, .int z5), (6, .int z6)]) [0, 2, 3, 4, 5] [0, 1, 2, 3, 5, 6, 7] [0, 2, 3, 5, 6] rfl rfl (by decide) (by decide) rfl ?_
          exact hr
        · skip
          refine ev_seg 1 (k' := 143) (L' := [(0, .ref 67), (1, .int x1), (2, .int x2), (3, .int x3), (5, .int z5), (6, .int z6), (7, .int z7)]) (st' := [.int (-31)]) rfl ?_
          exact ev_iret hr rfl rfl rfl
    · skip
      refine ev_seg 1 (k' := 134) (L' := [(0, .ref 67), (1, .int x1), (2, .int x2), (3, .int x3), (5, .int z5), (6, .int z6), (7, .int z7)]) (st' := [.int (-34)]) rfl ?_
      exact ev_iret hr rfl rfl rfl
  · skip
    refine ev_seg 3 (k' := 55) (L' := [(0, .ref 67), (1, .int x1), (2, .int x2), (3, .int x3), (5, .int z5), (6, .int z6), (7, .int z7)]) (st' := [.int z7, .ref 137]) rfl ?_
    refine ev_ldI hr rfl rfl (fun v3 hr => ?_)
    refine ev_seg 1 (k' := 57) (L' := [(0, .ref 67), (1, .int x1), (2, .int x2), (3, .int x3), (5, .int z5), (6, .int z6), (7, .int z7)]) (st' := [.int x1, .int v3]) rfl ?_
    refine ev_br (P := ¬ v3 = x1) (L' := [(0, .ref 67), (1, .int x1), (2, .int x2), (3, .int x3), (5, .int z5), (6, .int z6), (7, .int z7)]) (st' := []) hr rfl rfl rfl (fun hr => ?_) (fun hr => ?_)
    · skip
      exact hr
    · skip
      refine ev_seg 3 (k' := 61) (L' := [(0, .ref 67), (1, .int x1), (2, .int x2), (3, .int x3), (5, .int z5), (6, .int z6), (7, .int z7)]) (st' := [.int z7, .ref 141]) rfl ?_
      refine ev_ldI hr rfl rfl (fun v4 hr => ?_)
      refine ev_br (P := v4 < 0) (L' := [(0, .ref 67), (1, .int x1), (2, .int x2), (3, .int x3), (5, .int z5), (6, .int z6), (7, .int z7)]) (st' := []) hr rfl rfl rfl (fun hr => ?_) (fun hr => ?_)
      · skip
        exact hr
      · skip
        refine ev_seg 7 (k' := 70) (L' := [(0, .ref 67), (1, .int x1), (2, .int x2), (3, .int x3), (5, .int z5), (6, .int z6), (7, .int z7)]) (st' := [.int z7, .ref 138, .int x1, .ref 91, .ref 67]) rfl ?_
        refine ev_ldI hr rfl rfl (fun v5 hr => ?_)
        refine ev_callV (q' := q_235) (x := 235) (y := 13) (c := 67) (As := [.ref 91, .int x1, .int v5]) (rest := []) hr rfl rfl rfl rfl rfl rfl rfl rfl rfl rfl rfl rfl (fun rv s6 hq => ev_kV hq (fun e9 hr => ?_))
        subst e9
        refine ev_st (st' := []) rfl ?_
        refine ev_seg 5 (k' := 77) (L' := [(0, .ref 67), (1, .int x1), (2, .int x2), (3, .int x3), (5, .int z5), (6, .int z6), (7, .int z7)]) (st' := [.int z7, .ref 139, .int 256, .ref 67]) rfl ?_
        refine ev_ldI hr rfl rfl (fun v7 hr => ?_)
        refine ev_seg 1 (k' := 79) (L' := [(0, .ref 67), (1, .int x1), (2, .int x2), (3, .int x3), (5, .int z5), (6, .int z6), (7, .int z7)]) (st' := [.int (256 * v7), .ref 67]) rfl ?_
        refine ev_putI (c := 67) hr rfl rfl rfl (fun s8 hr => ?_)
        refine ev_seg 2 (k' := 82) (L' := [(8, .int 0), (0, .ref 67), (1, .int x1), (2, .int x2), (3, .int x3), (5, .int z5), (6, .int z6), (7, .int z7)]) (st' := []) rfl ?_
        refine ev_join (L' := [(0, .ref 67), (1, .int x1), (2, .int x2), (3, .int x3), (5, .int z5), (6, .int z6), (7, .int z7), (8, .int 0)]) [1, 2, 3, 4, 5, 6, 7, 0] [8, 0, 1, 2, 3, 5, 6, 7] [0, 1, 2, 3, 5, 6, 7, 8] rfl rfl (by decide) (by decide) rfl ?_
        exact hr
set_option maxRecDepth 20000 in
theorem eMo_copy_144 (d : Nat) (x2 : Int32) (x3 : Int32) (z5 : Int32) (z6 : Int32) (s : aT) : ∀ r, (if z6 ≤ 4096 then cG (fMo_wanted d z5 z6 s) (kI fun v2 s1 => fMo_copy_155 (d + 1) z5 z6 v2 x3 x2 s1) else fMo_copy_155 (d + 1) z5 z6 4097 x3 x2 s) = some r → fMo_copy_144 (d + 1) x2 x3 z5 z6 s = some r := by
  intro r hr
  show ev (d + 1) q_284 144 [(0, .ref 67), (2, .int x2), (3, .int x3), (5, .int z5), (6, .int z6)] [] s = some r
  refine ev_seg 5 (k' := 149) (L' := [(0, .ref 67), (2, .int x2), (3, .int x3), (5, .int z5), (6, .int z6)]) (st' := [.int 4096, .int z6, .int x3, .int x2, .ref 67]) rfl ?_
  refine ev_br (P := z6 ≤ 4096) (L' := [(0, .ref 67), (2, .int x2), (3, .int x3), (5, .int z5), (6, .int z6)]) (st' := [.int x3, .int x2, .ref 67]) hr rfl rfl rfl (fun hr => ?_) (fun hr => ?_)
  · skip
    refine ev_seg 2 (k' := 154) (L' := [(0, .ref 67), (2, .int x2), (3, .int x3), (5, .int z5), (6, .int z6)]) (st' := [.int z6, .int z5, .int x3, .int x2, .ref 67]) rfl ?_
    refine ev_callS (q' := q_268) (x := 268) (vs := [.int z5, .int z6]) (rest := [.int x3, .int x2, .ref 67]) hr rfl rfl rfl rfl rfl rfl rfl rfl rfl rfl (fun rv s1 hq => ev_kI hq (fun v2 e9 hr => ?_))
    subst e9
    refine ev_st (st' := [.int v2, .int x3, .int x2, .ref 67]) rfl ?_
    refine ev_join (L' := [(0, .ref 67), (5, .int z5), (6, .int z6)]) [0, 3, 4] [0, 2, 3, 5, 6] [0, 5, 6] rfl rfl (by decide) (by decide) rfl ?_
    exact hr
  · skip
    refine ev_seg 2 (k' := 155) (L' := [(0, .ref 67), (2, .int x2), (3, .int x3), (5, .int z5), (6, .int z6)]) (st' := [.int 4097, .int x3, .int x2, .ref 67]) rfl ?_
    refine ev_join (L' := [(0, .ref 67), (5, .int z5), (6, .int z6)]) [0, 3, 4] [0, 2, 3, 5, 6] [0, 5, 6] rfl rfl (by decide) (by decide) rfl ?_
    exact hr
set_option maxRecDepth 20000 in
theorem eMo_copy_129 (d : Nat) (x1 : Int32) (x2 : Int32) (x3 : Int32) (z5 : Int32) (z6 : Int32) (z7 : Int32) (s : aT) : ∀ r, (fMo_copy_48 (d + 1) x1 x2 x3 z5 z6 (z7 + 1) s) = some r → fMo_copy_129 (d + 1) x1 x2 x3 z5 z6 z7 s = some r := by
  intro r hr
  show ev (d + 1) q_284 129 [(0, .ref 67), (1, .int x1), (2, .int x2), (3, .int x3), (5, .int z5), (6, .int z6), (7, .int z7)] [] s = some r
  refine ev_seg 2 (k' := 48) (L' := [(7, .int (z7 + 1)), (0, .ref 67), (1, .int x1), (2, .int x2), (3, .int x3), (5, .int z5), (6, .int z6)]) (st' := []) rfl ?_
  refine ev_join (L' := [(0, .ref 67), (1, .int x1), (2, .int x2), (3, .int x3), (5, .int z5), (6, .int z6), (7, .int (z7 + 1))]) [1, 2, 3, 4, 5, 6, 0] [7, 0, 1, 2, 3, 5, 6] [0, 1, 2, 3, 5, 6, 7] rfl rfl (by decide) (by decide) rfl ?_
  exact hr
set_option maxRecDepth 20000 in
theorem eMo_copy_82 (d : Nat) (x1 : Int32) (x2 : Int32) (x3 : Int32) (z5 : Int32) (z6 : Int32) (z7 : Int32) (z8 : Int32) (s : aT) : ∀ r, (ldI 41 s 141 z7 (fun v1 => if v1 ≤ z8 then fMo_copy_129 (d + 1) x1 x2 x3 z5 z6 z7 s else wI s 67 22 0 (fun s2 => cN (fMo_tellRow d 4096 s2) (kI fun v4 s3 => if 0 ≤ v4 then fMo_copy_101 (d + 1) x1 x2 x3 z5 z6 z7 z8 0 s3 else rI v4 s3)))) = some r → fMo_copy_82 (d + 1) x1 x2 x3 z5 z6 z7 z8 s = some r := by
  intro r hr
  show ev (d + 1) q_284 82 [(0, .ref 67), (1, .int x1), (2, .int x2), (3, .int x3), (5, .int z5), (6, .int z6), (7, .int z7), (8, .int z8)] [] s = some r
  refine ev_seg 4 (k' := 86) (L' := [(0, .ref 67), (1, .int x1), (2, .int x2), (3, .int x3), (5, .int z5), (6, .int z6), (7, .int z7), (8, .int z8)]) (st' := [.int z7, .ref 141, .int z8]) rfl ?_
  refine ev_ldI hr rfl rfl (fun v1 hr => ?_)
  refine ev_br (P := v1 ≤ z8) (L' := [(0, .ref 67), (1, .int x1), (2, .int x2), (3, .int x3), (5, .int z5), (6, .int z6), (7, .int z7), (8, .int z8)]) (st' := []) hr rfl rfl rfl (fun hr => ?_) (fun hr => ?_)
  · skip
    refine ev_join (L' := [(0, .ref 67), (1, .int x1), (2, .int x2), (3, .int x3), (5, .int z5), (6, .int z6), (7, .int z7)]) [0, 1, 2, 3, 4, 5, 6] [0, 1, 2, 3, 5, 6, 7, 8] [0, 1, 2, 3, 5, 6, 7] rfl rfl (by decide) (by decide) rfl ?_
    exact hr
  · skip
    refine ev_seg 2 (k' := 90) (L' := [(0, .ref 67), (1, .int x1), (2, .int x2), (3, .int x3), (5, .int z5), (6, .int z6), (7, .int z7), (8, .int z8)]) (st' := [.int 0, .ref 67]) rfl ?_
    refine ev_putI (c := 67) hr rfl rfl rfl (fun s2 hr => ?_)
    refine ev_seg 2 (k' := 93) (L' := [(0, .ref 67), (1, .int x1), (2, .int x2), (3, .int x3), (5, .int z5), (6, .int z6), (7, .int z7), (8, .int z8)]) (st' := [.int 4096, .ref 67]) rfl ?_
    refine ev_callN (q' := q_276) (x := 276) (y := 13) (c := 67) (As := [.int 4096]) (rest := []) hr rfl rfl rfl rfl rfl rfl rfl rfl rfl (fun rv s3 hq => ev_kI hq (fun v4 e9 hr => ?_))
    subst e9
    refine ev_st (st' := [.int v4]) rfl ?_
    refine ev_seg 2 (k' := 96) (L' := [(9, .int v4), (0, .ref 67), (1, .int x1), (2, .int x2), (3, .int x3), (5, .int z5), (6, .int z6), (7, .int z7), (8, .int z8)]) (st' := [.int v4]) rfl ?_
    refine ev_br (P := 0 ≤ v4) (L' := [(9, .int v4), (0, .ref 67), (1, .int x1), (2, .int x2), (3, .int x3), (5, .int z5), (6, .int z6), (7, .int z7), (8, .int z8)]) (st' := []) hr rfl rfl rfl (fun hr => ?_) (fun hr => ?_)
    · skip
      refine ev_seg 2 (k' := 101) (L' := [(10, .int 0), (9, .int v4), (0, .ref 67), (1, .int x1), (2, .int x2), (3, .int x3), (5, .int z5), (6, .int z6), (7, .int z7), (8, .int z8)]) (st' := []) rfl ?_
      refine ev_join (L' := [(0, .ref 67), (1, .int x1), (2, .int x2), (3, .int x3), (5, .int z5), (6, .int z6), (7, .int z7), (8, .int z8), (10, .int 0)]) [2, 3, 4, 5, 6, 7, 8, 9, 0] [10, 9, 0, 1, 2, 3, 5, 6, 7, 8] [0, 1, 2, 3, 5, 6, 7, 8, 10] rfl rfl (by decide) (by decide) rfl ?_
      exact hr
    · skip
      refine ev_seg 1 (k' := 98) (L' := [(9, .int v4), (0, .ref 67), (1, .int x1), (2, .int x2), (3, .int x3), (5, .int z5), (6, .int z6), (7, .int z7), (8, .int z8)]) (st' := [.int v4]) rfl ?_
      exact ev_iret hr rfl rfl rfl
set_option maxRecDepth 20000 in
theorem eMo_copy_155 (d : Nat) (z5 : Int32) (z6 : Int32) (u0 : Int32) (u1 : Int32) (u2 : Int32) (s : aT) : ∀ r, (if z6 ≤ 4096 then fMo_copy_162 (d + 1) z5 z6 z5 u0 u1 u2 s else fMo_copy_162 (d + 1) z5 0 z5 u0 u1 u2 s) = some r → fMo_copy_155 (d + 1) z5 z6 u0 u1 u2 s = some r := by
  intro r hr
  show ev (d + 1) q_284 155 [(0, .ref 67), (5, .int z5), (6, .int z6)] [.int u0, .int u1, .int u2, .ref 67] s = some r
  refine ev_seg 3 (k' := 158) (L' := [(0, .ref 67), (5, .int z5), (6, .int z6)]) (st' := [.int 4096, .int z6, .int z5, .int u0, .int u1, .int u2, .ref 67]) rfl ?_
  refine ev_br (P := z6 ≤ 4096) (L' := [(0, .ref 67), (5, .int z5), (6, .int z6)]) (st' := [.int z5, .int u0, .int u1, .int u2, .ref 67]) hr rfl rfl rfl (fun hr => ?_) (fun hr => ?_)
  · skip
    refine ev_seg 1 (k' := 162) (L' := [(0, .ref 67), (5, .int z5), (6, .int z6)]) (st' := [.int z6, .int z5, .int u0, .int u1, .int u2, .ref 67]) rfl ?_
    refine ev_join (L' := [(0, .ref 67), (5, .int z5)]) [0, 1] [0, 5, 6] [0, 5] rfl rfl (by decide) (by decide) rfl ?_
    exact hr
  · skip
    refine ev_seg 2 (k' := 162) (L' := [(0, .ref 67), (5, .int z5), (6, .int z6)]) (st' := [.int 0, .int z5, .int u0, .int u1, .int u2, .ref 67]) rfl ?_
    refine ev_join (L' := [(0, .ref 67), (5, .int z5)]) [0, 1] [0, 5, 6] [0, 5] rfl rfl (by decide) (by decide) rfl ?_
    exact hr
set_option maxRecDepth 20000 in
theorem eMo_copy_101 (d : Nat) (x1 : Int32) (x2 : Int32) (x3 : Int32) (z5 : Int32) (z6 : Int32) (z7 : Int32) (z8 : Int32) (z10 : Int32) (s : aT) : ∀ r, (if gI s 67 22 ≤ z10 then fMo_copy_122 (d + 1) x1 x2 x3 z5 z6 z7 z8 s else if 4200 ≤ z6 + z10 then fMo_copy_122 (d + 1) x1 x2 x3 z5 z6 z7 z8 s else ldI 4200 s 144 z10 (fun v1 => stI 4200 s 147 (z6 + z10) (vp_nar .byte v1) (fun s2 => fMo_copy_101 (d + 1) x1 x2 x3 z5 z6 z7 z8 (z10 + 1) s2))) = some r → fMo_copy_101 (d + 1) x1 x2 x3 z5 z6 z7 z8 z10 s = some r := by
  intro r hr
  show ev (d + 1) q_284 101 [(0, .ref 67), (1, .int x1), (2, .int x2), (3, .int x3), (5, .int z5), (6, .int z6), (7, .int z7), (8, .int z8), (10, .int z10)] [] s = some r
  refine ev_seg 3 (k' := 104) (L' := [(0, .ref 67), (1, .int x1), (2, .int x2), (3, .int x3), (5, .int z5), (6, .int z6), (7, .int z7), (8, .int z8), (10, .int z10)]) (st' := [.int (gI s 67 22), .int z10]) rfl ?_
  refine ev_br (P := gI s 67 22 ≤ z10) (L' := [(0, .ref 67), (1, .int x1), (2, .int x2), (3, .int x3), (5, .int z5), (6, .int z6), (7, .int z7), (8, .int z8), (10, .int z10)]) (st' := []) hr rfl rfl rfl (fun hr => ?_) (fun hr => ?_)
  · skip
    refine ev_join (L' := [(0, .ref 67), (1, .int x1), (2, .int x2), (3, .int x3), (5, .int z5), (6, .int z6), (7, .int z7), (8, .int z8)]) [0, 1, 2, 3, 4, 5, 6, 7] [0, 1, 2, 3, 5, 6, 7, 8, 10] [0, 1, 2, 3, 5, 6, 7, 8] rfl rfl (by decide) (by decide) rfl ?_
    exact hr
  · skip
    refine ev_seg 4 (k' := 109) (L' := [(0, .ref 67), (1, .int x1), (2, .int x2), (3, .int x3), (5, .int z5), (6, .int z6), (7, .int z7), (8, .int z8), (10, .int z10)]) (st' := [.int 4200, .int (z6 + z10)]) rfl ?_
    refine ev_br (P := 4200 ≤ z6 + z10) (L' := [(0, .ref 67), (1, .int x1), (2, .int x2), (3, .int x3), (5, .int z5), (6, .int z6), (7, .int z7), (8, .int z8), (10, .int z10)]) (st' := []) hr rfl rfl rfl (fun hr => ?_) (fun hr => ?_)
    · skip
      refine ev_join (L' := [(0, .ref 67), (1, .int x1), (2, .int x2), (3, .int x3), (5, .int z5), (6, .int z6), (7, .int z7), (8, .int z8)]) [0, 1, 2, 3, 4, 5, 6, 7] [0, 1, 2, 3, 5, 6, 7, 8, 10] [0, 1, 2, 3, 5, 6, 7, 8] rfl rfl (by decide) (by decide) rfl ?_
      exact hr
    · skip
      refine ev_seg 8 (k' := 118) (L' := [(0, .ref 67), (1, .int x1), (2, .int x2), (3, .int x3), (5, .int z5), (6, .int z6), (7, .int z7), (8, .int z8), (10, .int z10)]) (st' := [.int z10, .ref 144, .int (z6 + z10), .ref 147]) rfl ?_
      refine ev_ldB hr rfl rfl (fun v1 hr => ?_)
      refine ev_stB hr rfl rfl (fun s2 hr => ?_)
      refine ev_seg 2 (k' := 101) (L' := [(10, .int (z10 + 1)), (0, .ref 67), (1, .int x1), (2, .int x2), (3, .int x3), (5, .int z5), (6, .int z6), (7, .int z7), (8, .int z8)]) (st' := []) rfl ?_
      refine ev_join (L' := [(0, .ref 67), (1, .int x1), (2, .int x2), (3, .int x3), (5, .int z5), (6, .int z6), (7, .int z7), (8, .int z8), (10, .int (z10 + 1))]) [1, 2, 3, 4, 5, 6, 7, 8, 0] [10, 0, 1, 2, 3, 5, 6, 7, 8] [0, 1, 2, 3, 5, 6, 7, 8, 10] rfl rfl (by decide) (by decide) rfl ?_
      exact hr
set_option maxRecDepth 20000 in
theorem eMo_copy_162 (d : Nat) (z5 : Int32) (u0 : Int32) (u1 : Int32) (u2 : Int32) (u3 : Int32) (u4 : Int32) (s : aT) : ∀ r, (cG (fMo_write d u4 u3 u2 u1 u0 147 (gI s 67 13) 0 s) (kI fun v2 s1 => if 0 ≤ v2 then rI z5 s1 else rI v2 s1)) = some r → fMo_copy_162 (d + 1) z5 u0 u1 u2 u3 u4 s = some r := by
  intro r hr
  show ev (d + 1) q_284 162 [(0, .ref 67), (5, .int z5)] [.int u0, .int u1, .int u2, .int u3, .int u4, .ref 67] s = some r
  refine ev_seg 5 (k' := 167) (L' := [(0, .ref 67), (5, .int z5)]) (st' := [.int 0, .int (gI s 67 13), .ref 147, .int u0, .int u1, .int u2, .int u3, .int u4, .ref 67]) rfl ?_
  refine ev_callV (q' := q_245) (x := 245) (y := 13) (c := 67) (As := [.int u4, .int u3, .int u2, .int u1, .int u0, .ref 147, .int (gI s 67 13), .int 0]) (rest := []) hr rfl rfl rfl rfl rfl rfl rfl rfl rfl rfl rfl rfl (fun rv s1 hq => ev_kI hq (fun v2 e9 hr => ?_))
  subst e9
  refine ev_st (st' := [.int v2]) rfl ?_
  refine ev_seg 2 (k' := 170) (L' := [(7, .int v2), (0, .ref 67), (5, .int z5)]) (st' := [.int v2]) rfl ?_
  refine ev_br (P := 0 ≤ v2) (L' := [(7, .int v2), (0, .ref 67), (5, .int z5)]) (st' := []) hr rfl rfl rfl (fun hr => ?_) (fun hr => ?_)
  · skip
    refine ev_seg 1 (k' := 174) (L' := [(7, .int v2), (0, .ref 67), (5, .int z5)]) (st' := [.int z5]) rfl ?_
    exact ev_iret hr rfl rfl rfl
  · skip
    refine ev_seg 2 (k' := 174) (L' := [(7, .int v2), (0, .ref 67), (5, .int z5)]) (st' := [.int v2]) rfl ?_
    exact ev_iret hr rfl rfl rfl
set_option maxRecDepth 20000 in
theorem eMo_copy_122 (d : Nat) (x1 : Int32) (x2 : Int32) (x3 : Int32) (z5 : Int32) (z6 : Int32) (z7 : Int32) (z8 : Int32) (s : aT) : ∀ r, (fMo_copy_82 (d + 1) x1 x2 x3 z5 (z6 + (gI s 67 22)) z7 (z8 + 1) s) = some r → fMo_copy_122 (d + 1) x1 x2 x3 z5 z6 z7 z8 s = some r := by
  intro r hr
  show ev (d + 1) q_284 122 [(0, .ref 67), (1, .int x1), (2, .int x2), (3, .int x3), (5, .int z5), (6, .int z6), (7, .int z7), (8, .int z8)] [] s = some r
  refine ev_seg 7 (k' := 82) (L' := [(8, .int (z8 + 1)), (6, .int (z6 + (gI s 67 22))), (0, .ref 67), (1, .int x1), (2, .int x2), (3, .int x3), (5, .int z5), (7, .int z7)]) (st' := []) rfl ?_
  refine ev_join (L' := [(0, .ref 67), (1, .int x1), (2, .int x2), (3, .int x3), (5, .int z5), (6, .int (z6 + (gI s 67 22))), (7, .int z7), (8, .int (z8 + 1))]) [2, 3, 4, 5, 6, 1, 7, 0] [8, 6, 0, 1, 2, 3, 5, 7] [0, 1, 2, 3, 5, 6, 7, 8] rfl rfl (by decide) (by decide) rfl ?_
  exact hr
set_option maxRecDepth 20000 in
theorem eMo_isFaulty (d : Nat) (x1 : Int32) (s : aT) : ∀ r, (fMo_isFaulty_8 (d + 1) x1 (gI s 67 2) (gI s 67 3) 0 s) = some r → fMo_isFaulty (d + 1) x1 s = some r := by
  intro r hr
  show ev (d + 1) q_285 0 [(0, .ref 67), (1, .int x1)] [] s = some r
  refine ev_seg 8 (k' := 8) (L' := [(4, .int 0), (3, .int (gI s 67 3)), (2, .int (gI s 67 2)), (0, .ref 67), (1, .int x1)]) (st' := []) rfl ?_
  refine ev_join (L' := [(0, .ref 67), (1, .int x1), (2, .int (gI s 67 2)), (3, .int (gI s 67 3)), (4, .int 0)]) [3, 4, 2, 1, 0] [4, 3, 2, 0, 1] [0, 1, 2, 3, 4] rfl rfl (by decide) (by decide) rfl ?_
  exact hr
set_option maxRecDepth 20000 in
theorem eMo_isFaulty_8 (d : Nat) (x1 : Int32) (z2 : Int32) (z3 : Int32) (z4 : Int32) (s : aT) : ∀ r, (if z2 ≤ z4 then fMo_isFaulty_23 (d + 1) x1 z2 z3 0 s else ldI 4096 s 68 z4 (fun v1 => stI 4200 s 148 z4 (vp_nar .byte v1) (fun s2 => fMo_isFaulty_8 (d + 1) x1 z2 z3 (z4 + 1) s2))) = some r → fMo_isFaulty_8 (d + 1) x1 z2 z3 z4 s = some r := by
  intro r hr
  show ev (d + 1) q_285 8 [(0, .ref 67), (1, .int x1), (2, .int z2), (3, .int z3), (4, .int z4)] [] s = some r
  refine ev_seg 2 (k' := 10) (L' := [(0, .ref 67), (1, .int x1), (2, .int z2), (3, .int z3), (4, .int z4)]) (st' := [.int z2, .int z4]) rfl ?_
  refine ev_br (P := z2 ≤ z4) (L' := [(0, .ref 67), (1, .int x1), (2, .int z2), (3, .int z3), (4, .int z4)]) (st' := []) hr rfl rfl rfl (fun hr => ?_) (fun hr => ?_)
  · skip
    refine ev_seg 2 (k' := 23) (L' := [(4, .int 0), (0, .ref 67), (1, .int x1), (2, .int z2), (3, .int z3)]) (st' := []) rfl ?_
    refine ev_join (L' := [(0, .ref 67), (1, .int x1), (2, .int z2), (3, .int z3), (4, .int 0)]) [1, 2, 3, 4, 0] [4, 0, 1, 2, 3] [0, 1, 2, 3, 4] rfl rfl (by decide) (by decide) rfl ?_
    exact hr
  · skip
    refine ev_seg 6 (k' := 17) (L' := [(0, .ref 67), (1, .int x1), (2, .int z2), (3, .int z3), (4, .int z4)]) (st' := [.int z4, .ref 68, .int z4, .ref 148]) rfl ?_
    refine ev_ldB hr rfl rfl (fun v1 hr => ?_)
    refine ev_stB hr rfl rfl (fun s2 hr => ?_)
    refine ev_seg 2 (k' := 8) (L' := [(4, .int (z4 + 1)), (0, .ref 67), (1, .int x1), (2, .int z2), (3, .int z3)]) (st' := []) rfl ?_
    refine ev_join (L' := [(0, .ref 67), (1, .int x1), (2, .int z2), (3, .int z3), (4, .int (z4 + 1))]) [1, 2, 3, 4, 0] [4, 0, 1, 2, 3] [0, 1, 2, 3, 4] rfl rfl (by decide) (by decide) rfl ?_
    exact hr
set_option maxRecDepth 20000 in
theorem eMo_isFaulty_23 (d : Nat) (x1 : Int32) (z2 : Int32) (z3 : Int32) (z4 : Int32) (s : aT) : ∀ r, (if x1 ≤ z4 then wI s 67 2 x1 (fun s1 => cN (fMo_lookAtRows d 113 0 s1) (kI fun v3 s2 => if 0 ≤ v3 then fMo_isFaulty_48 (d + 1) z2 z3 0 s2 else fMo_isFaulty_48 (d + 1) z2 z3 1 s2)) else ldI 4200 s 147 z4 (fun v4 => stI 4096 s 68 z4 (vp_nar .byte v4) (fun s5 => fMo_isFaulty_23 (d + 1) x1 z2 z3 (z4 + 1) s5))) = some r → fMo_isFaulty_23 (d + 1) x1 z2 z3 z4 s = some r := by
  intro r hr
  show ev (d + 1) q_285 23 [(0, .ref 67), (1, .int x1), (2, .int z2), (3, .int z3), (4, .int z4)] [] s = some r
  refine ev_seg 2 (k' := 25) (L' := [(0, .ref 67), (1, .int x1), (2, .int z2), (3, .int z3), (4, .int z4)]) (st' := [.int x1, .int z4]) rfl ?_
  refine ev_br (P := x1 ≤ z4) (L' := [(0, .ref 67), (1, .int x1), (2, .int z2), (3, .int z3), (4, .int z4)]) (st' := []) hr rfl rfl rfl (fun hr => ?_) (fun hr => ?_)
  · skip
    refine ev_seg 2 (k' := 38) (L' := [(0, .ref 67), (1, .int x1), (2, .int z2), (3, .int z3), (4, .int z4)]) (st' := [.int x1, .ref 67]) rfl ?_
    refine ev_putI (c := 67) hr rfl rfl rfl (fun s1 hr => ?_)
    refine ev_seg 4 (k' := 43) (L' := [(0, .ref 67), (1, .int x1), (2, .int z2), (3, .int z3), (4, .int z4)]) (st' := [.int 0, .ref 113, .ref 67]) rfl ?_
    refine ev_callN (q' := q_251) (x := 251) (y := 13) (c := 67) (As := [.ref 113, .int 0]) (rest := []) hr rfl rfl rfl rfl rfl rfl rfl rfl rfl (fun rv s2 hq => ev_kI hq (fun v3 e9 hr => ?_))
    subst e9
    refine ev_st (st' := [.int v3]) rfl ?_
    refine ev_br (P := 0 ≤ v3) (L' := [(0, .ref 67), (1, .int x1), (2, .int z2), (3, .int z3), (4, .int z4)]) (st' := []) hr rfl rfl rfl (fun hr => ?_) (fun hr => ?_)
    · skip
      refine ev_seg 1 (k' := 48) (L' := [(0, .ref 67), (1, .int x1), (2, .int z2), (3, .int z3), (4, .int z4)]) (st' := [.int 0]) rfl ?_
      refine ev_join (L' := [(0, .ref 67), (2, .int z2), (3, .int z3)]) [0, 2, 3] [0, 1, 2, 3, 4] [0, 2, 3] rfl rfl (by decide) (by decide) rfl ?_
      exact hr
    · skip
      refine ev_seg 2 (k' := 48) (L' := [(0, .ref 67), (1, .int x1), (2, .int z2), (3, .int z3), (4, .int z4)]) (st' := [.int 1]) rfl ?_
      refine ev_join (L' := [(0, .ref 67), (2, .int z2), (3, .int z3)]) [0, 2, 3] [0, 1, 2, 3, 4] [0, 2, 3] rfl rfl (by decide) (by decide) rfl ?_
      exact hr
  · skip
    refine ev_seg 6 (k' := 32) (L' := [(0, .ref 67), (1, .int x1), (2, .int z2), (3, .int z3), (4, .int z4)]) (st' := [.int z4, .ref 147, .int z4, .ref 68]) rfl ?_
    refine ev_ldB hr rfl rfl (fun v4 hr => ?_)
    refine ev_stB hr rfl rfl (fun s5 hr => ?_)
    refine ev_seg 2 (k' := 23) (L' := [(4, .int (z4 + 1)), (0, .ref 67), (1, .int x1), (2, .int z2), (3, .int z3)]) (st' := []) rfl ?_
    refine ev_join (L' := [(0, .ref 67), (1, .int x1), (2, .int z2), (3, .int z3), (4, .int (z4 + 1))]) [1, 2, 3, 4, 0] [4, 0, 1, 2, 3] [0, 1, 2, 3, 4] rfl rfl (by decide) (by decide) rfl ?_
    exact hr
set_option maxRecDepth 20000 in
theorem eMo_isFaulty_48 (d : Nat) (z2 : Int32) (z3 : Int32) (u0 : Int32) (s : aT) : ∀ r, (wI s 67 2 z2 (fun s1 => wI s1 67 3 z3 (fun s2 => fMo_isFaulty_57 (d + 1) z2 u0 0 s2))) = some r → fMo_isFaulty_48 (d + 1) z2 z3 u0 s = some r := by
  intro r hr
  show ev (d + 1) q_285 48 [(0, .ref 67), (2, .int z2), (3, .int z3)] [.int u0] s = some r
  refine ev_seg 3 (k' := 51) (L' := [(4, .int u0), (0, .ref 67), (2, .int z2), (3, .int z3)]) (st' := [.int z2, .ref 67]) rfl ?_
  refine ev_putI (c := 67) hr rfl rfl rfl (fun s1 hr => ?_)
  refine ev_seg 2 (k' := 54) (L' := [(4, .int u0), (0, .ref 67), (2, .int z2), (3, .int z3)]) (st' := [.int z3, .ref 67]) rfl ?_
  refine ev_putI (c := 67) hr rfl rfl rfl (fun s2 hr => ?_)
  refine ev_seg 2 (k' := 57) (L' := [(5, .int 0), (4, .int u0), (0, .ref 67), (2, .int z2), (3, .int z3)]) (st' := []) rfl ?_
  refine ev_join (L' := [(0, .ref 67), (2, .int z2), (4, .int u0), (5, .int 0)]) [2, 3, 1, 0] [5, 4, 0, 2, 3] [0, 2, 4, 5] rfl rfl (by decide) (by decide) rfl ?_
  exact hr
set_option maxRecDepth 20000 in
theorem eMo_isFaulty_57 (d : Nat) (z2 : Int32) (z4 : Int32) (z5 : Int32) (s : aT) : ∀ r, (if z2 ≤ z5 then rZ z4 s else ldI 4200 s 148 z5 (fun v1 => stI 4096 s 68 z5 (vp_nar .byte v1) (fun s2 => fMo_isFaulty_57 (d + 1) z2 z4 (z5 + 1) s2))) = some r → fMo_isFaulty_57 (d + 1) z2 z4 z5 s = some r := by
  intro r hr
  show ev (d + 1) q_285 57 [(0, .ref 67), (2, .int z2), (4, .int z4), (5, .int z5)] [] s = some r
  refine ev_seg 2 (k' := 59) (L' := [(0, .ref 67), (2, .int z2), (4, .int z4), (5, .int z5)]) (st' := [.int z2, .int z5]) rfl ?_
  refine ev_br (P := z2 ≤ z5) (L' := [(0, .ref 67), (2, .int z2), (4, .int z4), (5, .int z5)]) (st' := []) hr rfl rfl rfl (fun hr => ?_) (fun hr => ?_)
  · skip
    refine ev_seg 1 (k' := 71) (L' := [(0, .ref 67), (2, .int z2), (4, .int z4), (5, .int z5)]) (st' := [.int z4]) rfl ?_
    exact ev_zret hr rfl rfl
  · skip
    refine ev_seg 6 (k' := 66) (L' := [(0, .ref 67), (2, .int z2), (4, .int z4), (5, .int z5)]) (st' := [.int z5, .ref 148, .int z5, .ref 68]) rfl ?_
    refine ev_ldB hr rfl rfl (fun v1 hr => ?_)
    refine ev_stB hr rfl rfl (fun s2 hr => ?_)
    refine ev_seg 2 (k' := 57) (L' := [(5, .int (z5 + 1)), (0, .ref 67), (2, .int z2), (4, .int z4)]) (st' := []) rfl ?_
    refine ev_join (L' := [(0, .ref 67), (2, .int z2), (4, .int z4), (5, .int (z5 + 1))]) [1, 2, 3, 0] [5, 0, 2, 4] [0, 2, 4, 5] rfl rfl (by decide) (by decide) rfl ?_
    exact hr
set_option maxRecDepth 20000 in
theorem eMo_compact (d : Nat) (x1 : Int32) (s : aT) : ∀ r, (cG (fMo_isSubject d x1 s) (kI fun v2 s1 => if ¬ v2 = 0 then fMo_compact_7 (d + 1) x1 0 s1 else fMo_compact_7 (d + 1) x1 1 s1)) = some r → fMo_compact (d + 1) x1 s = some r := by
  intro r hr
  show ev (d + 1) q_286 0 [(0, .ref 67), (1, .int x1)] [] s = some r
  refine ev_seg 2 (k' := 2) (L' := [(0, .ref 67), (1, .int x1)]) (st' := [.int x1, .ref 67]) rfl ?_
  refine ev_callS (q' := q_233) (x := 233) (vs := [.int x1]) (rest := [.ref 67]) hr rfl rfl rfl rfl rfl rfl rfl rfl rfl rfl (fun rv s1 hq => ev_kI hq (fun v2 e9 hr => ?_))
  subst e9
  refine ev_st (st' := [.int v2, .ref 67]) rfl ?_
  refine ev_br (P := ¬ v2 = 0) (L' := [(0, .ref 67), (1, .int x1)]) (st' := [.ref 67]) hr rfl rfl rfl (fun hr => ?_) (fun hr => ?_)
  · skip
    refine ev_seg 1 (k' := 7) (L' := [(0, .ref 67), (1, .int x1)]) (st' := [.int 0, .ref 67]) rfl ?_
    exact hr
  · skip
    refine ev_seg 2 (k' := 7) (L' := [(0, .ref 67), (1, .int x1)]) (st' := [.int 1, .ref 67]) rfl ?_
    exact hr
set_option maxRecDepth 20000 in
theorem eMo_compact_7 (d : Nat) (x1 : Int32) (u0 : Int32) (s : aT) : ∀ r, (cG (fMo_refused d u0 0 s) (kI fun v2 s1 => if v2 = 0 then if gI s1 67 11 = 0 then fMo_compact_21 (d + 1) x1 (-1) 0 s1 else rI (-33) s1 else rI 0 s1)) = some r → fMo_compact_7 (d + 1) x1 u0 s = some r := by
  intro r hr
  show ev (d + 1) q_286 7 [(0, .ref 67), (1, .int x1)] [.int u0, .ref 67] s = some r
  refine ev_seg 1 (k' := 8) (L' := [(0, .ref 67), (1, .int x1)]) (st' := [.int 0, .int u0, .ref 67]) rfl ?_
  refine ev_callV (q' := q_189) (x := 189) (y := 13) (c := 67) (As := [.int u0, .int 0]) (rest := []) hr rfl rfl rfl rfl rfl rfl rfl rfl rfl rfl rfl rfl (fun rv s1 hq => ev_kI hq (fun v2 e9 hr => ?_))
  subst e9
  refine ev_st (st' := [.int v2]) rfl ?_
  refine ev_br (P := v2 = 0) (L' := [(0, .ref 67), (1, .int x1)]) (st' := []) hr rfl rfl rfl (fun hr => ?_) (fun hr => ?_)
  · skip
    refine ev_seg 2 (k' := 14) (L' := [(0, .ref 67), (1, .int x1)]) (st' := [.int (gI s1 67 11)]) rfl ?_
    refine ev_br (P := gI s1 67 11 = 0) (L' := [(0, .ref 67), (1, .int x1)]) (st' := []) hr rfl rfl rfl (fun hr => ?_) (fun hr => ?_)
    · skip
      refine ev_seg 4 (k' := 21) (L' := [(3, .int 0), (2, .int (-1)), (0, .ref 67), (1, .int x1)]) (st' := []) rfl ?_
      refine ev_join (L' := [(0, .ref 67), (1, .int x1), (2, .int (-1)), (3, .int 0)]) [2, 3, 1, 0] [3, 2, 0, 1] [0, 1, 2, 3] rfl rfl (by decide) (by decide) rfl ?_
      exact hr
    · skip
      refine ev_seg 1 (k' := 16) (L' := [(0, .ref 67), (1, .int x1)]) (st' := [.int (-33)]) rfl ?_
      exact ev_iret hr rfl rfl rfl
  · skip
    refine ev_seg 1 (k' := 11) (L' := [(0, .ref 67), (1, .int x1)]) (st' := [.int 0]) rfl ?_
    exact ev_iret hr rfl rfl rfl
set_option maxRecDepth 20000 in
theorem eMo_compact_21 (d : Nat) (x1 : Int32) (z2 : Int32) (z3 : Int32) (s : aT) : ∀ r, (if gI s 67 13 ≤ z3 then rI 0 s else ldI 41 s 137 z3 (fun v1 => if ¬ v1 = x1 then fMo_compact_84 (d + 1) x1 z2 z3 s else ldI 41 s 141 z3 (fun v2 => if v2 < 0 then fMo_compact_84 (d + 1) x1 z2 z3 s else if z2 < 0 then fMo_compact_82 (d + 1) x1 z3 s else ldI 41 s 138 z2 (fun v3 => ldI 41 s 138 z3 (fun v4 => cG (fMo_areSame d x1 v3 v4 s) (kI fun v6 s5 => if v6 = 0 then fMo_compact_82 (d + 1) x1 z3 s5 else ldI 41 s5 142 z2 (fun v7 => ldI 41 s5 142 z3 (fun v8 => ldI 41 s5 141 z2 (fun v9 => ldI 41 s5 141 z3 (fun v10 => cG (fMo_wanted d (v9 + v10) (v7 + v8) s5) (kI fun v12 s11 => if 4096 < v12 then fMo_compact_82 (d + 1) x1 z3 s11 else cG (fMo_join d z2 z3 (v7 + v8) v12 s11) (kI fun v14 s13 => rI v14 s13)))))))))))) = some r → fMo_compact_21 (d + 1) x1 z2 z3 s = some r := by
  intro r hr
  show ev (d + 1) q_286 21 [(0, .ref 67), (1, .int x1), (2, .int z2), (3, .int z3)] [] s = some r
  refine ev_seg 3 (k' := 24) (L' := [(0, .ref 67), (1, .int x1), (2, .int z2), (3, .int z3)]) (st' := [.int (gI s 67 13), .int z3]) rfl ?_
  refine ev_br (P := gI s 67 13 ≤ z3) (L' := [(0, .ref 67), (1, .int x1), (2, .int z2), (3, .int z3)]) (st' := []) hr rfl rfl rfl (fun hr => ?_) (fun hr => ?_)
  · skip
    refine ev_seg 1 (k' := 87) (L' := [(0, .ref 67), (1, .int x1), (2, .int z2), (3, .int z3)]) (st' := [.int 0]) rfl ?_
    exact ev_iret hr rfl rfl rfl
  · skip
    refine ev_seg 3 (k' := 28) (L' := [(0, .ref 67), (1, .int x1), (2, .int z2), (3, .int z3)]) (st' := [.int z3, .ref 137]) rfl ?_
    refine ev_ldI hr rfl rfl (fun v1 hr => ?_)
    refine ev_seg 1 (k' := 30) (L' := [(0, .ref 67), (1, .int x1), (2, .int z2), (3, .int z3)]) (st' := [.int x1, .int v1]) rfl ?_
    refine ev_br (P := ¬ v1 = x1) (L' := [(0, .ref 67), (1, .int x1), (2, .int z2), (3, .int z3)]) (st' := []) hr rfl rfl rfl (fun hr => ?_) (fun hr => ?_)
    · skip
      exact hr
    · skip
      refine ev_seg 3 (k' := 34) (L' := [(0, .ref 67), (1, .int x1), (2, .int z2), (3, .int z3)]) (st' := [.int z3, .ref 141]) rfl ?_
      refine ev_ldI hr rfl rfl (fun v2 hr => ?_)
      refine ev_br (P := v2 < 0) (L' := [(0, .ref 67), (1, .int x1), (2, .int z2), (3, .int z3)]) (st' := []) hr rfl rfl rfl (fun hr => ?_) (fun hr => ?_)
      · skip
        exact hr
      · skip
        refine ev_seg 1 (k' := 37) (L' := [(0, .ref 67), (1, .int x1), (2, .int z2), (3, .int z3)]) (st' := [.int z2]) rfl ?_
        refine ev_br (P := z2 < 0) (L' := [(0, .ref 67), (1, .int x1), (2, .int z2), (3, .int z3)]) (st' := []) hr rfl rfl rfl (fun hr => ?_) (fun hr => ?_)
        · skip
          refine ev_join (L' := [(0, .ref 67), (1, .int x1), (3, .int z3)]) [0, 1, 3] [0, 1, 2, 3] [0, 1, 3] rfl rfl (by decide) (by decide) rfl ?_
          exact hr
        · skip
          refine ev_seg 5 (k' := 43) (L' := [(0, .ref 67), (1, .int x1), (2, .int z2), (3, .int z3)]) (st' := [.int z2, .ref 138, .int x1, .ref 67]) rfl ?_
          refine ev_ldI hr rfl rfl (fun v3 hr => ?_)
          refine ev_seg 3 (k' := 47) (L' := [(0, .ref 67), (1, .int x1), (2, .int z2), (3, .int z3)]) (st' := [.int z3, .ref 138, .int v3, .int x1, .ref 67]) rfl ?_
          refine ev_ldI hr rfl rfl (fun v4 hr => ?_)
          refine ev_callV (q' := q_287) (x := 287) (y := 13) (c := 67) (As := [.int x1, .int v3, .int v4]) (rest := []) hr rfl rfl rfl rfl rfl rfl rfl rfl rfl rfl rfl rfl (fun rv s5 hq => ev_kI hq (fun v6 e9 hr => ?_))
          subst e9
          refine ev_st (st' := [.int v6]) rfl ?_
          refine ev_br (P := v6 = 0) (L' := [(0, .ref 67), (1, .int x1), (2, .int z2), (3, .int z3)]) (st' := []) hr rfl rfl rfl (fun hr => ?_) (fun hr => ?_)
          · skip
            refine ev_join (L' := [(0, .ref 67), (1, .int x1), (3, .int z3)]) [0, 1, 3] [0, 1, 2, 3] [0, 1, 3] rfl rfl (by decide) (by decide) rfl ?_
            exact hr
          · skip
            refine ev_seg 3 (k' := 53) (L' := [(0, .ref 67), (1, .int x1), (2, .int z2), (3, .int z3)]) (st' := [.int z2, .ref 142]) rfl ?_
            refine ev_ldI hr rfl rfl (fun v7 hr => ?_)
            refine ev_seg 3 (k' := 57) (L' := [(0, .ref 67), (1, .int x1), (2, .int z2), (3, .int z3)]) (st' := [.int z3, .ref 142, .int v7]) rfl ?_
            refine ev_ldI hr rfl rfl (fun v8 hr => ?_)
            refine ev_seg 5 (k' := 63) (L' := [(4, .int (v7 + v8)), (0, .ref 67), (1, .int x1), (2, .int z2), (3, .int z3)]) (st' := [.int z2, .ref 141]) rfl ?_
            refine ev_ldI hr rfl rfl (fun v9 hr => ?_)
            refine ev_seg 3 (k' := 67) (L' := [(4, .int (v7 + v8)), (0, .ref 67), (1, .int x1), (2, .int z2), (3, .int z3)]) (st' := [.int z3, .ref 141, .int v9]) rfl ?_
            refine ev_ldI hr rfl rfl (fun v10 hr => ?_)
            refine ev_seg 2 (k' := 70) (L' := [(4, .int (v7 + v8)), (0, .ref 67), (1, .int x1), (2, .int z2), (3, .int z3)]) (st' := [.int (v7 + v8), .int (v9 + v10)]) rfl ?_
            refine ev_callS (q' := q_268) (x := 268) (vs := [.int (v9 + v10), .int (v7 + v8)]) (rest := []) hr rfl rfl rfl rfl rfl rfl rfl rfl rfl rfl (fun rv s11 hq => ev_kI hq (fun v12 e9 hr => ?_))
            subst e9
            refine ev_st (st' := [.int v12]) rfl ?_
            refine ev_seg 3 (k' := 74) (L' := [(5, .int v12), (4, .int (v7 + v8)), (0, .ref 67), (1, .int x1), (2, .int z2), (3, .int z3)]) (st' := [.int 4096, .int v12]) rfl ?_
            refine ev_br (P := 4096 < v12) (L' := [(5, .int v12), (4, .int (v7 + v8)), (0, .ref 67), (1, .int x1), (2, .int z2), (3, .int z3)]) (st' := []) hr rfl rfl rfl (fun hr => ?_) (fun hr => ?_)
            · skip
              refine ev_join (L' := [(0, .ref 67), (1, .int x1), (3, .int z3)]) [2, 3, 5] [5, 4, 0, 1, 2, 3] [0, 1, 3] rfl rfl (by decide) (by decide) rfl ?_
              exact hr
            · skip
              refine ev_seg 5 (k' := 80) (L' := [(5, .int v12), (4, .int (v7 + v8)), (0, .ref 67), (1, .int x1), (2, .int z2), (3, .int z3)]) (st' := [.int v12, .int (v7 + v8), .int z3, .int z2, .ref 67]) rfl ?_
              refine ev_callV (q' := q_288) (x := 288) (y := 13) (c := 67) (As := [.int z2, .int z3, .int (v7 + v8), .int v12]) (rest := []) hr rfl rfl rfl rfl rfl rfl rfl rfl rfl rfl rfl rfl (fun rv s13 hq => ev_kI hq (fun v14 e9 hr => ?_))
              subst e9
              refine ev_st (st' := [.int v14]) rfl ?_
              exact ev_iret hr rfl rfl rfl
set_option maxRecDepth 20000 in
theorem eMo_compact_84 (d : Nat) (x1 : Int32) (z2 : Int32) (z3 : Int32) (s : aT) : ∀ r, (fMo_compact_21 (d + 1) x1 z2 (z3 + 1) s) = some r → fMo_compact_84 (d + 1) x1 z2 z3 s = some r := by
  intro r hr
  show ev (d + 1) q_286 84 [(0, .ref 67), (1, .int x1), (2, .int z2), (3, .int z3)] [] s = some r
  refine ev_seg 2 (k' := 21) (L' := [(3, .int (z3 + 1)), (0, .ref 67), (1, .int x1), (2, .int z2)]) (st' := []) rfl ?_
  refine ev_join (L' := [(0, .ref 67), (1, .int x1), (2, .int z2), (3, .int (z3 + 1))]) [1, 2, 3, 0] [3, 0, 1, 2] [0, 1, 2, 3] rfl rfl (by decide) (by decide) rfl ?_
  exact hr
set_option maxRecDepth 20000 in
theorem eMo_compact_82 (d : Nat) (x1 : Int32) (z3 : Int32) (s : aT) : ∀ r, (fMo_compact_84 (d + 1) x1 z3 z3 s) = some r → fMo_compact_82 (d + 1) x1 z3 s = some r := by
  intro r hr
  show ev (d + 1) q_286 82 [(0, .ref 67), (1, .int x1), (3, .int z3)] [] s = some r
  refine ev_seg 2 (k' := 84) (L' := [(2, .int z3), (0, .ref 67), (1, .int x1), (3, .int z3)]) (st' := []) rfl ?_
  refine ev_join (L' := [(0, .ref 67), (1, .int x1), (2, .int z3), (3, .int z3)]) [1, 2, 0, 3] [2, 0, 1, 3] [0, 1, 2, 3] rfl rfl (by decide) (by decide) rfl ?_
  exact hr
set_option maxRecDepth 20000 in
theorem eMo_areSame (d : Nat) (x1 : Int32) (x2 : Int32) (x3 : Int32) (s : aT) : ∀ r, (cG (fMo_readVersion d 91 x1 x2 s) (kV fun s1 => cG (fMo_readVersion d 113 x1 x3 s1) (kV fun s2 => if ¬ gI s2 91 33 = gI s2 113 33 then fMo_areSame_22 (d + 1) 0 s2 else fMo_areSame_22 (d + 1) 1 s2))) = some r → fMo_areSame (d + 1) x1 x2 x3 s = some r := by
  intro r hr
  show ev (d + 1) q_287 0 [(0, .ref 67), (1, .int x1), (2, .int x2), (3, .int x3)] [] s = some r
  refine ev_seg 5 (k' := 5) (L' := [(0, .ref 67), (1, .int x1), (2, .int x2), (3, .int x3)]) (st' := [.int x2, .int x1, .ref 91, .ref 67]) rfl ?_
  refine ev_callV (q' := q_235) (x := 235) (y := 13) (c := 67) (As := [.ref 91, .int x1, .int x2]) (rest := []) hr rfl rfl rfl rfl rfl rfl rfl rfl rfl rfl rfl rfl (fun rv s1 hq => ev_kV hq (fun e9 hr => ?_))
  subst e9
  refine ev_st (st' := []) rfl ?_
  refine ev_seg 5 (k' := 11) (L' := [(0, .ref 67), (1, .int x1), (2, .int x2), (3, .int x3)]) (st' := [.int x3, .int x1, .ref 113, .ref 67]) rfl ?_
  refine ev_callV (q' := q_235) (x := 235) (y := 13) (c := 67) (As := [.ref 113, .int x1, .int x3]) (rest := []) hr rfl rfl rfl rfl rfl rfl rfl rfl rfl rfl rfl rfl (fun rv s2 hq => ev_kV hq (fun e9 hr => ?_))
  subst e9
  refine ev_st (st' := []) rfl ?_
  refine ev_seg 6 (k' := 18) (L' := [(0, .ref 67), (1, .int x1), (2, .int x2), (3, .int x3)]) (st' := [.int (gI s2 113 33), .int (gI s2 91 33)]) rfl ?_
  refine ev_br (P := ¬ gI s2 91 33 = gI s2 113 33) (L' := [(0, .ref 67), (1, .int x1), (2, .int x2), (3, .int x3)]) (st' := []) hr rfl rfl rfl (fun hr => ?_) (fun hr => ?_)
  · skip
    refine ev_seg 1 (k' := 22) (L' := [(0, .ref 67), (1, .int x1), (2, .int x2), (3, .int x3)]) (st' := [.int 0]) rfl ?_
    refine ev_join (L' := [(0, .ref 67)]) [0] [0, 1, 2, 3] [0] rfl rfl (by decide) (by decide) rfl ?_
    exact hr
  · skip
    refine ev_seg 2 (k' := 22) (L' := [(0, .ref 67), (1, .int x1), (2, .int x2), (3, .int x3)]) (st' := [.int 1]) rfl ?_
    refine ev_join (L' := [(0, .ref 67)]) [0] [0, 1, 2, 3] [0] rfl rfl (by decide) (by decide) rfl ?_
    exact hr
set_option maxRecDepth 20000 in
theorem eMo_areSame_22 (d : Nat) (u0 : Int32) (s : aT) : ∀ r, (fMo_areSame_25 (d + 1) u0 0 s) = some r → fMo_areSame_22 (d + 1) u0 s = some r := by
  intro r hr
  show ev (d + 1) q_287 22 [(0, .ref 67)] [.int u0] s = some r
  refine ev_seg 3 (k' := 25) (L' := [(5, .int 0), (4, .int u0), (0, .ref 67)]) (st' := []) rfl ?_
  refine ev_join (L' := [(0, .ref 67), (4, .int u0), (5, .int 0)]) [2, 1, 0] [5, 4, 0] [0, 4, 5] rfl rfl (by decide) (by decide) rfl ?_
  exact hr
set_option maxRecDepth 20000 in
theorem eMo_areSame_25 (d : Nat) (z4 : Int32) (z5 : Int32) (s : aT) : ∀ r, (if gI s 91 33 ≤ z5 then rZ z4 s else if z4 = 0 then rZ z4 s else ldI 4200 s 111 z5 (fun v1 => ldI 4200 s 133 z5 (fun v2 => if ¬ v1 = v2 then fMo_areSame_46 (d + 1) z5 0 s else fMo_areSame_46 (d + 1) z5 1 s))) = some r → fMo_areSame_25 (d + 1) z4 z5 s = some r := by
  intro r hr
  show ev (d + 1) q_287 25 [(0, .ref 67), (4, .int z4), (5, .int z5)] [] s = some r
  refine ev_seg 4 (k' := 29) (L' := [(0, .ref 67), (4, .int z4), (5, .int z5)]) (st' := [.int (gI s 91 33), .int z5]) rfl ?_
  refine ev_br (P := gI s 91 33 ≤ z5) (L' := [(0, .ref 67), (4, .int z4), (5, .int z5)]) (st' := []) hr rfl rfl rfl (fun hr => ?_) (fun hr => ?_)
  · skip
    refine ev_seg 1 (k' := 50) (L' := [(0, .ref 67), (4, .int z4), (5, .int z5)]) (st' := [.int z4]) rfl ?_
    exact ev_zret hr rfl rfl
  · skip
    refine ev_seg 1 (k' := 31) (L' := [(0, .ref 67), (4, .int z4), (5, .int z5)]) (st' := [.int z4]) rfl ?_
    refine ev_br (P := z4 = 0) (L' := [(0, .ref 67), (4, .int z4), (5, .int z5)]) (st' := []) hr rfl rfl rfl (fun hr => ?_) (fun hr => ?_)
    · skip
      refine ev_seg 1 (k' := 50) (L' := [(0, .ref 67), (4, .int z4), (5, .int z5)]) (st' := [.int z4]) rfl ?_
      exact ev_zret hr rfl rfl
    · skip
      refine ev_seg 4 (k' := 36) (L' := [(0, .ref 67), (4, .int z4), (5, .int z5)]) (st' := [.int z5, .ref 111]) rfl ?_
      refine ev_ldB hr rfl rfl (fun v1 hr => ?_)
      refine ev_seg 4 (k' := 41) (L' := [(0, .ref 67), (4, .int z4), (5, .int z5)]) (st' := [.int z5, .ref 133, .int v1]) rfl ?_
      refine ev_ldB hr rfl rfl (fun v2 hr => ?_)
      refine ev_br (P := ¬ v1 = v2) (L' := [(0, .ref 67), (4, .int z4), (5, .int z5)]) (st' := []) hr rfl rfl rfl (fun hr => ?_) (fun hr => ?_)
      · skip
        refine ev_seg 1 (k' := 46) (L' := [(0, .ref 67), (4, .int z4), (5, .int z5)]) (st' := [.int 0]) rfl ?_
        refine ev_join (L' := [(0, .ref 67), (5, .int z5)]) [0, 2] [0, 4, 5] [0, 5] rfl rfl (by decide) (by decide) rfl ?_
        exact hr
      · skip
        refine ev_seg 2 (k' := 46) (L' := [(0, .ref 67), (4, .int z4), (5, .int z5)]) (st' := [.int 1]) rfl ?_
        refine ev_join (L' := [(0, .ref 67), (5, .int z5)]) [0, 2] [0, 4, 5] [0, 5] rfl rfl (by decide) (by decide) rfl ?_
        exact hr
set_option maxRecDepth 20000 in
theorem eMo_areSame_46 (d : Nat) (z5 : Int32) (u0 : Int32) (s : aT) : ∀ r, (fMo_areSame_25 (d + 1) u0 (z5 + 1) s) = some r → fMo_areSame_46 (d + 1) z5 u0 s = some r := by
  intro r hr
  show ev (d + 1) q_287 46 [(0, .ref 67), (5, .int z5)] [.int u0] s = some r
  refine ev_seg 3 (k' := 25) (L' := [(5, .int (z5 + 1)), (4, .int u0), (0, .ref 67)]) (st' := []) rfl ?_
  refine ev_join (L' := [(0, .ref 67), (4, .int u0), (5, .int (z5 + 1))]) [2, 1, 0] [5, 4, 0] [0, 4, 5] rfl rfl (by decide) (by decide) rfl ?_
  exact hr
set_option maxRecDepth 20000 in
theorem eMo_join (d : Nat) (x1 : Int32) (x2 : Int32) (x3 : Int32) (x4 : Int32) (s : aT) : ∀ r, (fMo_join_2 (d + 1) x1 x2 x3 x4 0 s) = some r → fMo_join (d + 1) x1 x2 x3 x4 s = some r := by
  intro r hr
  show ev (d + 1) q_288 0 [(0, .ref 67), (1, .int x1), (2, .int x2), (3, .int x3), (4, .int x4)] [] s = some r
  refine ev_seg 2 (k' := 2) (L' := [(5, .int 0), (0, .ref 67), (1, .int x1), (2, .int x2), (3, .int x3), (4, .int x4)]) (st' := []) rfl ?_
  refine ev_join (L' := [(0, .ref 67), (1, .int x1), (2, .int x2), (3, .int x3), (4, .int x4), (5, .int 0)]) [1, 2, 3, 4, 5, 0] [5, 0, 1, 2, 3, 4] [0, 1, 2, 3, 4, 5] rfl rfl (by decide) (by decide) rfl ?_
  exact hr
set_option maxRecDepth 20000 in
theorem eMo_join_2 (d : Nat) (x1 : Int32) (x2 : Int32) (x3 : Int32) (x4 : Int32) (z5 : Int32) (s : aT) : ∀ r, (if x3 ≤ z5 then ldI 41 s 137 x1 (fun v1 => ldI 41 s 138 x1 (fun v2 => ldI 41 s 141 x1 (fun v3 => ldI 41 s 141 x2 (fun v4 => cG (fMo_write d v1 v2 x4 (v3 + v4) x3 147 x1 1 s) (kI fun v6 s5 => if 0 ≤ v6 then cG (fMo_takeOut d x2 s5) (kV fun s7 => rI 1 s7) else rI v6 s5))))) else ldI 41 s 142 x1 (fun v8 => if v8 ≤ z5 then ldI 41 s 139 x2 (fun v9 => ldI 41 s 142 x1 (fun v10 => ldI 32768 s 143 (((256 * v9) + z5) - v10) (fun v11 => fMo_join_42 (d + 1) x1 x2 x3 x4 z5 v11 z5 s))) else ldI 41 s 139 x1 (fun v12 => ldI 32768 s 143 ((256 * v12) + z5) (fun v13 => fMo_join_42 (d + 1) x1 x2 x3 x4 z5 v13 z5 s)))) = some r → fMo_join_2 (d + 1) x1 x2 x3 x4 z5 s = some r := by
  intro r hr
  show ev (d + 1) q_288 2 [(0, .ref 67), (1, .int x1), (2, .int x2), (3, .int x3), (4, .int x4), (5, .int z5)] [] s = some r
  refine ev_seg 2 (k' := 4) (L' := [(0, .ref 67), (1, .int x1), (2, .int x2), (3, .int x3), (4, .int x4), (5, .int z5)]) (st' := [.int x3, .int z5]) rfl ?_
  refine ev_br (P := x3 ≤ z5) (L' := [(0, .ref 67), (1, .int x1), (2, .int x2), (3, .int x3), (4, .int x4), (5, .int z5)]) (st' := []) hr rfl rfl rfl (fun hr => ?_) (fun hr => ?_)
  · skip
    refine ev_seg 4 (k' := 49) (L' := [(0, .ref 67), (1, .int x1), (2, .int x2), (3, .int x3), (4, .int x4), (5, .int z5)]) (st' := [.int x1, .ref 137, .ref 67]) rfl ?_
    refine ev_ldI hr rfl rfl (fun v1 hr => ?_)
    refine ev_seg 3 (k' := 53) (L' := [(0, .ref 67), (1, .int x1), (2, .int x2), (3, .int x3), (4, .int x4), (5, .int z5)]) (st' := [.int x1, .ref 138, .int v1, .ref 67]) rfl ?_
    refine ev_ldI hr rfl rfl (fun v2 hr => ?_)
    refine ev_seg 4 (k' := 58) (L' := [(0, .ref 67), (1, .int x1), (2, .int x2), (3, .int x3), (4, .int x4), (5, .int z5)]) (st' := [.int x1, .ref 141, .int x4, .int v2, .int v1, .ref 67]) rfl ?_
    refine ev_ldI hr rfl rfl (fun v3 hr => ?_)
    refine ev_seg 3 (k' := 62) (L' := [(0, .ref 67), (1, .int x1), (2, .int x2), (3, .int x3), (4, .int x4), (5, .int z5)]) (st' := [.int x2, .ref 141, .int v3, .int x4, .int v2, .int v1, .ref 67]) rfl ?_
    refine ev_ldI hr rfl rfl (fun v4 hr => ?_)
    refine ev_seg 6 (k' := 69) (L' := [(0, .ref 67), (1, .int x1), (2, .int x2), (3, .int x3), (4, .int x4), (5, .int z5)]) (st' := [.int 1, .int x1, .ref 147, .int x3, .int (v3 + v4), .int x4, .int v2, .int v1, .ref 67]) rfl ?_
    refine ev_callV (q' := q_245) (x := 245) (y := 13) (c := 67) (As := [.int v1, .int v2, .int x4, .int (v3 + v4), .int x3, .ref 147, .int x1, .int 1]) (rest := []) hr rfl rfl rfl rfl rfl rfl rfl rfl rfl rfl rfl rfl (fun rv s5 hq => ev_kI hq (fun v6 e9 hr => ?_))
    subst e9
    refine ev_st (st' := [.int v6]) rfl ?_
    refine ev_seg 2 (k' := 72) (L' := [(5, .int v6), (0, .ref 67), (1, .int x1), (2, .int x2), (3, .int x3), (4, .int x4)]) (st' := [.int v6]) rfl ?_
    refine ev_br (P := 0 ≤ v6) (L' := [(5, .int v6), (0, .ref 67), (1, .int x1), (2, .int x2), (3, .int x3), (4, .int x4)]) (st' := []) hr rfl rfl rfl (fun hr => ?_) (fun hr => ?_)
    · skip
      refine ev_seg 2 (k' := 77) (L' := [(5, .int v6), (0, .ref 67), (1, .int x1), (2, .int x2), (3, .int x3), (4, .int x4)]) (st' := [.int x2, .ref 67]) rfl ?_
      refine ev_callV (q' := q_289) (x := 289) (y := 13) (c := 67) (As := [.int x2]) (rest := []) hr rfl rfl rfl rfl rfl rfl rfl rfl rfl rfl rfl rfl (fun rv s7 hq => ev_kV hq (fun e9 hr => ?_))
      subst e9
      refine ev_st (st' := []) rfl ?_
      refine ev_seg 1 (k' := 79) (L' := [(5, .int v6), (0, .ref 67), (1, .int x1), (2, .int x2), (3, .int x3), (4, .int x4)]) (st' := [.int 1]) rfl ?_
      exact ev_iret hr rfl rfl rfl
    · skip
      refine ev_seg 1 (k' := 74) (L' := [(5, .int v6), (0, .ref 67), (1, .int x1), (2, .int x2), (3, .int x3), (4, .int x4)]) (st' := [.int v6]) rfl ?_
      exact ev_iret hr rfl rfl rfl
  · skip
    refine ev_seg 7 (k' := 12) (L' := [(0, .ref 67), (1, .int x1), (2, .int x2), (3, .int x3), (4, .int x4), (5, .int z5)]) (st' := [.int x1, .ref 142, .int z5, .int z5, .ref 147]) rfl ?_
    refine ev_ldI hr rfl rfl (fun v8 hr => ?_)
    refine ev_br (P := v8 ≤ z5) (L' := [(0, .ref 67), (1, .int x1), (2, .int x2), (3, .int x3), (4, .int x4), (5, .int z5)]) (st' := [.int z5, .ref 147]) hr rfl rfl rfl (fun hr => ?_) (fun hr => ?_)
    · skip
      refine ev_seg 6 (k' := 32) (L' := [(0, .ref 67), (1, .int x1), (2, .int x2), (3, .int x3), (4, .int x4), (5, .int z5)]) (st' := [.int x2, .ref 139, .int 256, .ref 143, .int z5, .ref 147]) rfl ?_
      refine ev_ldI hr rfl rfl (fun v9 hr => ?_)
      refine ev_seg 6 (k' := 39) (L' := [(0, .ref 67), (1, .int x1), (2, .int x2), (3, .int x3), (4, .int x4), (5, .int z5)]) (st' := [.int x1, .ref 142, .int ((256 * v9) + z5), .ref 143, .int z5, .ref 147]) rfl ?_
      refine ev_ldI hr rfl rfl (fun v10 hr => ?_)
      refine ev_seg 1 (k' := 41) (L' := [(0, .ref 67), (1, .int x1), (2, .int x2), (3, .int x3), (4, .int x4), (5, .int z5)]) (st' := [.int (((256 * v9) + z5) - v10), .ref 143, .int z5, .ref 147]) rfl ?_
      refine ev_ldB hr rfl rfl (fun v11 hr => ?_)
      exact hr
    · skip
      refine ev_seg 6 (k' := 20) (L' := [(0, .ref 67), (1, .int x1), (2, .int x2), (3, .int x3), (4, .int x4), (5, .int z5)]) (st' := [.int x1, .ref 139, .int 256, .ref 143, .int z5, .ref 147]) rfl ?_
      refine ev_ldI hr rfl rfl (fun v12 hr => ?_)
      refine ev_seg 3 (k' := 24) (L' := [(0, .ref 67), (1, .int x1), (2, .int x2), (3, .int x3), (4, .int x4), (5, .int z5)]) (st' := [.int ((256 * v12) + z5), .ref 143, .int z5, .ref 147]) rfl ?_
      refine ev_ldB hr rfl rfl (fun v13 hr => ?_)
      refine ev_seg 1 (k' := 42) (L' := [(0, .ref 67), (1, .int x1), (2, .int x2), (3, .int x3), (4, .int x4), (5, .int z5)]) (st' := [.int v13, .int z5, .ref 147]) rfl ?_
      exact hr
set_option maxRecDepth 20000 in
theorem eMo_join_42 (d : Nat) (x1 : Int32) (x2 : Int32) (x3 : Int32) (x4 : Int32) (z5 : Int32) (u0 : Int32) (u1 : Int32) (s : aT) : ∀ r, (stI 4200 s 147 u1 (vp_nar .byte u0) (fun s1 => fMo_join_2 (d + 1) x1 x2 x3 x4 (z5 + 1) s1)) = some r → fMo_join_42 (d + 1) x1 x2 x3 x4 z5 u0 u1 s = some r := by
  intro r hr
  show ev (d + 1) q_288 42 [(0, .ref 67), (1, .int x1), (2, .int x2), (3, .int x3), (4, .int x4), (5, .int z5)] [.int u0, .int u1, .ref 147] s = some r
  refine ev_stB hr rfl rfl (fun s1 hr => ?_)
  refine ev_seg 2 (k' := 2) (L' := [(5, .int (z5 + 1)), (0, .ref 67), (1, .int x1), (2, .int x2), (3, .int x3), (4, .int x4)]) (st' := []) rfl ?_
  refine ev_join (L' := [(0, .ref 67), (1, .int x1), (2, .int x2), (3, .int x3), (4, .int x4), (5, .int (z5 + 1))]) [1, 2, 3, 4, 5, 0] [5, 0, 1, 2, 3, 4] [0, 1, 2, 3, 4, 5] rfl rfl (by decide) (by decide) rfl ?_
  exact hr
set_option maxRecDepth 20000 in
theorem eMo_takeOut (d : Nat) (x1 : Int32) (s : aT) : ∀ r, (fMo_takeOut_2 d x1 s) = some r → fMo_takeOut d x1 s = some r := by
  intro r hr
  show ev d q_289 0 [(0, .ref 67), (1, .int x1)] [] s = some r
  refine ev_seg 2 (k' := 2) (L' := [(2, .int x1), (0, .ref 67), (1, .int x1)]) (st' := []) rfl ?_
  refine ev_join (L' := [(0, .ref 67), (2, .int x1)]) [1, 0] [2, 0, 1] [0, 2] rfl rfl (by decide) (by decide) rfl ?_
  exact hr
set_option maxRecDepth 20000 in
theorem eMo_takeOut_2 (d : Nat) (z2 : Int32) (s : aT) : ∀ r, (if gI s 67 13 ≤ z2 + 1 then wI s 67 13 ((gI s 67 13) - 1) (fun s1 => rV s1) else ldI 41 s 137 (z2 + 1) (fun v2 => stI 41 s 137 z2 v2 (fun s3 => ldI 41 s3 138 (z2 + 1) (fun v4 => stI 41 s3 138 z2 v4 (fun s5 => ldI 41 s5 139 (z2 + 1) (fun v6 => stI 41 s5 139 z2 v6 (fun s7 => ldI 41 s7 140 (z2 + 1) (fun v8 => stI 41 s7 140 z2 v8 (fun s9 => ldI 41 s9 141 (z2 + 1) (fun v10 => stI 41 s9 141 z2 v10 (fun s11 => ldI 41 s11 142 (z2 + 1) (fun v12 => stI 41 s11 142 z2 v12 (fun s13 => fMo_takeOut_2 d (z2 + 1) s13))))))))))))) = some r → fMo_takeOut_2 d z2 s = some r := by
  intro r hr
  show ev d q_289 2 [(0, .ref 67), (2, .int z2)] [] s = some r
  refine ev_seg 5 (k' := 7) (L' := [(0, .ref 67), (2, .int z2)]) (st' := [.int (gI s 67 13), .int (z2 + 1)]) rfl ?_
  refine ev_br (P := gI s 67 13 ≤ z2 + 1) (L' := [(0, .ref 67), (2, .int z2)]) (st' := []) hr rfl rfl rfl (fun hr => ?_) (fun hr => ?_)
  · skip
    refine ev_seg 5 (k' := 75) (L' := [(0, .ref 67), (2, .int z2)]) (st' := [.int ((gI s 67 13) - 1), .ref 67]) rfl ?_
    refine ev_putI (c := 67) hr rfl rfl rfl (fun s1 hr => ?_)
    exact ev_vret hr rfl rfl
  · skip
    refine ev_seg 8 (k' := 16) (L' := [(0, .ref 67), (2, .int z2)]) (st' := [.int (z2 + 1), .ref 137, .int z2, .ref 137]) rfl ?_
    refine ev_ldI hr rfl rfl (fun v2 hr => ?_)
    refine ev_stI hr rfl rfl (fun s3 hr => ?_)
    refine ev_seg 8 (k' := 26) (L' := [(0, .ref 67), (2, .int z2)]) (st' := [.int (z2 + 1), .ref 138, .int z2, .ref 138]) rfl ?_
    refine ev_ldI hr rfl rfl (fun v4 hr => ?_)
    refine ev_stI hr rfl rfl (fun s5 hr => ?_)
    refine ev_seg 8 (k' := 36) (L' := [(0, .ref 67), (2, .int z2)]) (st' := [.int (z2 + 1), .ref 139, .int z2, .ref 139]) rfl ?_
    refine ev_ldI hr rfl rfl (fun v6 hr => ?_)
    refine ev_stI hr rfl rfl (fun s7 hr => ?_)
    refine ev_seg 8 (k' := 46) (L' := [(0, .ref 67), (2, .int z2)]) (st' := [.int (z2 + 1), .ref 140, .int z2, .ref 140]) rfl ?_
    refine ev_ldI hr rfl rfl (fun v8 hr => ?_)
    refine ev_stI hr rfl rfl (fun s9 hr => ?_)
    refine ev_seg 8 (k' := 56) (L' := [(0, .ref 67), (2, .int z2)]) (st' := [.int (z2 + 1), .ref 141, .int z2, .ref 141]) rfl ?_
    refine ev_ldI hr rfl rfl (fun v10 hr => ?_)
    refine ev_stI hr rfl rfl (fun s11 hr => ?_)
    refine ev_seg 8 (k' := 66) (L' := [(0, .ref 67), (2, .int z2)]) (st' := [.int (z2 + 1), .ref 142, .int z2, .ref 142]) rfl ?_
    refine ev_ldI hr rfl rfl (fun v12 hr => ?_)
    refine ev_stI hr rfl rfl (fun s13 hr => ?_)
    refine ev_seg 2 (k' := 2) (L' := [(2, .int (z2 + 1)), (0, .ref 67)]) (st' := []) rfl ?_
    refine ev_join (L' := [(0, .ref 67), (2, .int (z2 + 1))]) [1, 0] [2, 0] [0, 2] rfl rfl (by decide) (by decide) rfl ?_
    exact hr
set_option maxRecDepth 20000 in
theorem eMo_clear (d : Nat) (x1 : Int32) (s : aT) : ∀ r, (cG (fMo_isSubject d x1 s) (kI fun v2 s1 => if ¬ v2 = 0 then fMo_clear_7 (d + 1) x1 0 s1 else fMo_clear_7 (d + 1) x1 1 s1)) = some r → fMo_clear (d + 1) x1 s = some r := by
  intro r hr
  show ev (d + 1) q_290 0 [(0, .ref 67), (1, .int x1)] [] s = some r
  refine ev_seg 2 (k' := 2) (L' := [(0, .ref 67), (1, .int x1)]) (st' := [.int x1, .ref 67]) rfl ?_
  refine ev_callS (q' := q_233) (x := 233) (vs := [.int x1]) (rest := [.ref 67]) hr rfl rfl rfl rfl rfl rfl rfl rfl rfl rfl (fun rv s1 hq => ev_kI hq (fun v2 e9 hr => ?_))
  subst e9
  refine ev_st (st' := [.int v2, .ref 67]) rfl ?_
  refine ev_br (P := ¬ v2 = 0) (L' := [(0, .ref 67), (1, .int x1)]) (st' := [.ref 67]) hr rfl rfl rfl (fun hr => ?_) (fun hr => ?_)
  · skip
    refine ev_seg 1 (k' := 7) (L' := [(0, .ref 67), (1, .int x1)]) (st' := [.int 0, .ref 67]) rfl ?_
    exact hr
  · skip
    refine ev_seg 2 (k' := 7) (L' := [(0, .ref 67), (1, .int x1)]) (st' := [.int 1, .ref 67]) rfl ?_
    exact hr
set_option maxRecDepth 20000 in
theorem eMo_clear_7 (d : Nat) (x1 : Int32) (u0 : Int32) (s : aT) : ∀ r, (cG (fMo_refused d u0 0 s) (kI fun v2 s1 => if v2 = 0 then if gI s1 67 11 = 0 then cG (fMo_rows d x1 s1) (kI fun v4 s3 => if ¬ v4 = 0 then cG (fMo_writes d 1 s3) (kI fun v6 s5 => if ¬ v6 = 0 then fMo_clear_36 (d + 1) x1 v4 ((gI s5 67 13) - 1) s5 else rI (-32) s5) else rI 0 s3) else rI (-33) s1 else rI 0 s1)) = some r → fMo_clear_7 (d + 1) x1 u0 s = some r := by
  intro r hr
  show ev (d + 1) q_290 7 [(0, .ref 67), (1, .int x1)] [.int u0, .ref 67] s = some r
  refine ev_seg 1 (k' := 8) (L' := [(0, .ref 67), (1, .int x1)]) (st' := [.int 0, .int u0, .ref 67]) rfl ?_
  refine ev_callV (q' := q_189) (x := 189) (y := 13) (c := 67) (As := [.int u0, .int 0]) (rest := []) hr rfl rfl rfl rfl rfl rfl rfl rfl rfl rfl rfl rfl (fun rv s1 hq => ev_kI hq (fun v2 e9 hr => ?_))
  subst e9
  refine ev_st (st' := [.int v2]) rfl ?_
  refine ev_br (P := v2 = 0) (L' := [(0, .ref 67), (1, .int x1)]) (st' := []) hr rfl rfl rfl (fun hr => ?_) (fun hr => ?_)
  · skip
    refine ev_seg 2 (k' := 14) (L' := [(0, .ref 67), (1, .int x1)]) (st' := [.int (gI s1 67 11)]) rfl ?_
    refine ev_br (P := gI s1 67 11 = 0) (L' := [(0, .ref 67), (1, .int x1)]) (st' := []) hr rfl rfl rfl (fun hr => ?_) (fun hr => ?_)
    · skip
      refine ev_seg 2 (k' := 19) (L' := [(0, .ref 67), (1, .int x1)]) (st' := [.int x1, .ref 67]) rfl ?_
      refine ev_callV (q' := q_271) (x := 271) (y := 13) (c := 67) (As := [.int x1]) (rest := []) hr rfl rfl rfl rfl rfl rfl rfl rfl rfl rfl rfl rfl (fun rv s3 hq => ev_kI hq (fun v4 e9 hr => ?_))
      subst e9
      refine ev_st (st' := [.int v4]) rfl ?_
      refine ev_seg 2 (k' := 22) (L' := [(2, .int v4), (0, .ref 67), (1, .int x1)]) (st' := [.int v4]) rfl ?_
      refine ev_br (P := ¬ v4 = 0) (L' := [(2, .int v4), (0, .ref 67), (1, .int x1)]) (st' := []) hr rfl rfl rfl (fun hr => ?_) (fun hr => ?_)
      · skip
        refine ev_seg 2 (k' := 27) (L' := [(2, .int v4), (0, .ref 67), (1, .int x1)]) (st' := [.int 1, .ref 67]) rfl ?_
        refine ev_callV (q' := q_248) (x := 248) (y := 13) (c := 67) (As := [.int 1]) (rest := []) hr rfl rfl rfl rfl rfl rfl rfl rfl rfl rfl rfl rfl (fun rv s5 hq => ev_kI hq (fun v6 e9 hr => ?_))
        subst e9
        refine ev_st (st' := [.int v6]) rfl ?_
        refine ev_br (P := ¬ v6 = 0) (L' := [(2, .int v4), (0, .ref 67), (1, .int x1)]) (st' := []) hr rfl rfl rfl (fun hr => ?_) (fun hr => ?_)
        · skip
          refine ev_seg 5 (k' := 36) (L' := [(3, .int ((gI s5 67 13) - 1)), (2, .int v4), (0, .ref 67), (1, .int x1)]) (st' := []) rfl ?_
          refine ev_join (L' := [(0, .ref 67), (1, .int x1), (2, .int v4), (3, .int ((gI s5 67 13) - 1))]) [2, 3, 1, 0] [3, 2, 0, 1] [0, 1, 2, 3] rfl rfl (by decide) (by decide) rfl ?_
          exact hr
        · skip
          refine ev_seg 1 (k' := 30) (L' := [(2, .int v4), (0, .ref 67), (1, .int x1)]) (st' := [.int (-32)]) rfl ?_
          exact ev_iret hr rfl rfl rfl
      · skip
        refine ev_seg 1 (k' := 24) (L' := [(2, .int v4), (0, .ref 67), (1, .int x1)]) (st' := [.int 0]) rfl ?_
        exact ev_iret hr rfl rfl rfl
    · skip
      refine ev_seg 1 (k' := 16) (L' := [(0, .ref 67), (1, .int x1)]) (st' := [.int (-33)]) rfl ?_
      exact ev_iret hr rfl rfl rfl
  · skip
    refine ev_seg 1 (k' := 11) (L' := [(0, .ref 67), (1, .int x1)]) (st' := [.int 0]) rfl ?_
    exact ev_iret hr rfl rfl rfl
set_option maxRecDepth 20000 in
theorem eMo_clear_36 (d : Nat) (x1 : Int32) (z2 : Int32) (z3 : Int32) (s : aT) : ∀ r, (if z3 < 0 then rI z2 s else ldI 41 s 137 z3 (fun v1 => if ¬ v1 = x1 then fMo_clear_52 (d + 1) x1 z2 z3 s else ldI 41 s 141 z3 (fun v2 => if v2 < 0 then fMo_clear_52 (d + 1) x1 z2 z3 s else cG (fMo_takeOut d z3 s) (kV fun s3 => fMo_clear_52 (d + 1) x1 z2 z3 s3)))) = some r → fMo_clear_36 (d + 1) x1 z2 z3 s = some r := by
  intro r hr
  show ev (d + 1) q_290 36 [(0, .ref 67), (1, .int x1), (2, .int z2), (3, .int z3)] [] s = some r
  refine ev_seg 1 (k' := 37) (L' := [(0, .ref 67), (1, .int x1), (2, .int z2), (3, .int z3)]) (st' := [.int z3]) rfl ?_
  refine ev_br (P := z3 < 0) (L' := [(0, .ref 67), (1, .int x1), (2, .int z2), (3, .int z3)]) (st' := []) hr rfl rfl rfl (fun hr => ?_) (fun hr => ?_)
  · skip
    refine ev_seg 1 (k' := 55) (L' := [(0, .ref 67), (1, .int x1), (2, .int z2), (3, .int z3)]) (st' := [.int z2]) rfl ?_
    exact ev_iret hr rfl rfl rfl
  · skip
    refine ev_seg 3 (k' := 41) (L' := [(0, .ref 67), (1, .int x1), (2, .int z2), (3, .int z3)]) (st' := [.int z3, .ref 137]) rfl ?_
    refine ev_ldI hr rfl rfl (fun v1 hr => ?_)
    refine ev_seg 1 (k' := 43) (L' := [(0, .ref 67), (1, .int x1), (2, .int z2), (3, .int z3)]) (st' := [.int x1, .int v1]) rfl ?_
    refine ev_br (P := ¬ v1 = x1) (L' := [(0, .ref 67), (1, .int x1), (2, .int z2), (3, .int z3)]) (st' := []) hr rfl rfl rfl (fun hr => ?_) (fun hr => ?_)
    · skip
      exact hr
    · skip
      refine ev_seg 3 (k' := 47) (L' := [(0, .ref 67), (1, .int x1), (2, .int z2), (3, .int z3)]) (st' := [.int z3, .ref 141]) rfl ?_
      refine ev_ldI hr rfl rfl (fun v2 hr => ?_)
      refine ev_br (P := v2 < 0) (L' := [(0, .ref 67), (1, .int x1), (2, .int z2), (3, .int z3)]) (st' := []) hr rfl rfl rfl (fun hr => ?_) (fun hr => ?_)
      · skip
        exact hr
      · skip
        refine ev_seg 2 (k' := 51) (L' := [(0, .ref 67), (1, .int x1), (2, .int z2), (3, .int z3)]) (st' := [.int z3, .ref 67]) rfl ?_
        refine ev_callV (q' := q_289) (x := 289) (y := 13) (c := 67) (As := [.int z3]) (rest := []) hr rfl rfl rfl rfl rfl rfl rfl rfl rfl rfl rfl rfl (fun rv s3 hq => ev_kV hq (fun e9 hr => ?_))
        subst e9
        refine ev_st (st' := []) rfl ?_
        exact hr
set_option maxRecDepth 20000 in
theorem eMo_clear_52 (d : Nat) (x1 : Int32) (z2 : Int32) (z3 : Int32) (s : aT) : ∀ r, (fMo_clear_36 (d + 1) x1 z2 (z3 + (-1)) s) = some r → fMo_clear_52 (d + 1) x1 z2 z3 s = some r := by
  intro r hr
  show ev (d + 1) q_290 52 [(0, .ref 67), (1, .int x1), (2, .int z2), (3, .int z3)] [] s = some r
  refine ev_seg 2 (k' := 36) (L' := [(3, .int (z3 + (-1))), (0, .ref 67), (1, .int x1), (2, .int z2)]) (st' := []) rfl ?_
  refine ev_join (L' := [(0, .ref 67), (1, .int x1), (2, .int z2), (3, .int (z3 + (-1)))]) [1, 2, 3, 0] [3, 0, 1, 2] [0, 1, 2, 3] rfl rfl (by decide) (by decide) rfl ?_
  exact hr
set_option maxRecDepth 20000 in
theorem eMo_count (d : Nat) (x1 : Int32) (x2 : Int32) (s : aT) : ∀ r, (cG (fMo_isSubject d x1 s) (kI fun v2 s1 => if ¬ v2 = 0 then fMo_count_7 (d + 1) x1 x2 0 s1 else fMo_count_7 (d + 1) x1 x2 1 s1)) = some r → fMo_count (d + 1) x1 x2 s = some r := by
  intro r hr
  show ev (d + 1) q_291 0 [(0, .ref 67), (1, .int x1), (2, .int x2)] [] s = some r
  refine ev_seg 2 (k' := 2) (L' := [(0, .ref 67), (1, .int x1), (2, .int x2)]) (st' := [.int x1, .ref 67]) rfl ?_
  refine ev_callS (q' := q_233) (x := 233) (vs := [.int x1]) (rest := [.ref 67]) hr rfl rfl rfl rfl rfl rfl rfl rfl rfl rfl (fun rv s1 hq => ev_kI hq (fun v2 e9 hr => ?_))
  subst e9
  refine ev_st (st' := [.int v2, .ref 67]) rfl ?_
  refine ev_br (P := ¬ v2 = 0) (L' := [(0, .ref 67), (1, .int x1), (2, .int x2)]) (st' := [.ref 67]) hr rfl rfl rfl (fun hr => ?_) (fun hr => ?_)
  · skip
    refine ev_seg 1 (k' := 7) (L' := [(0, .ref 67), (1, .int x1), (2, .int x2)]) (st' := [.int 0, .ref 67]) rfl ?_
    exact hr
  · skip
    refine ev_seg 2 (k' := 7) (L' := [(0, .ref 67), (1, .int x1), (2, .int x2)]) (st' := [.int 1, .ref 67]) rfl ?_
    exact hr
set_option maxRecDepth 20000 in
theorem eMo_count_7 (d : Nat) (x1 : Int32) (x2 : Int32) (u0 : Int32) (s : aT) : ∀ r, (cG (fMo_within d x2 0 2 s) (kI fun v2 s1 => if ¬ v2 = 0 then fMo_count_15 (d + 1) x1 x2 0 u0 s1 else fMo_count_15 (d + 1) x1 x2 1 u0 s1)) = some r → fMo_count_7 (d + 1) x1 x2 u0 s = some r := by
  intro r hr
  show ev (d + 1) q_291 7 [(0, .ref 67), (1, .int x1), (2, .int x2)] [.int u0, .ref 67] s = some r
  refine ev_seg 3 (k' := 10) (L' := [(0, .ref 67), (1, .int x1), (2, .int x2)]) (st' := [.int 2, .int 0, .int x2, .int u0, .ref 67]) rfl ?_
  refine ev_callS (q' := q_192) (x := 192) (vs := [.int x2, .int 0, .int 2]) (rest := [.int u0, .ref 67]) hr rfl rfl rfl rfl rfl rfl rfl rfl rfl rfl (fun rv s1 hq => ev_kI hq (fun v2 e9 hr => ?_))
  subst e9
  refine ev_st (st' := [.int v2, .int u0, .ref 67]) rfl ?_
  refine ev_br (P := ¬ v2 = 0) (L' := [(0, .ref 67), (1, .int x1), (2, .int x2)]) (st' := [.int u0, .ref 67]) hr rfl rfl rfl (fun hr => ?_) (fun hr => ?_)
  · skip
    refine ev_seg 1 (k' := 15) (L' := [(0, .ref 67), (1, .int x1), (2, .int x2)]) (st' := [.int 0, .int u0, .ref 67]) rfl ?_
    exact hr
  · skip
    refine ev_seg 2 (k' := 15) (L' := [(0, .ref 67), (1, .int x1), (2, .int x2)]) (st' := [.int 1, .int u0, .ref 67]) rfl ?_
    exact hr
set_option maxRecDepth 20000 in
theorem eMo_count_15 (d : Nat) (x1 : Int32) (x2 : Int32) (u0 : Int32) (u1 : Int32) (s : aT) : ∀ r, (cG (fMo_refused d u1 u0 s) (kI fun v2 s1 => if v2 = 0 then if gI s1 67 11 = 0 then fMo_count_28 (d + 1) x1 x2 0 0 s1 else rI (-33) s1 else rI 0 s1)) = some r → fMo_count_15 (d + 1) x1 x2 u0 u1 s = some r := by
  intro r hr
  show ev (d + 1) q_291 15 [(0, .ref 67), (1, .int x1), (2, .int x2)] [.int u0, .int u1, .ref 67] s = some r
  refine ev_callV (q' := q_189) (x := 189) (y := 13) (c := 67) (As := [.int u1, .int u0]) (rest := []) hr rfl rfl rfl rfl rfl rfl rfl rfl rfl rfl rfl rfl (fun rv s1 hq => ev_kI hq (fun v2 e9 hr => ?_))
  subst e9
  refine ev_st (st' := [.int v2]) rfl ?_
  refine ev_br (P := v2 = 0) (L' := [(0, .ref 67), (1, .int x1), (2, .int x2)]) (st' := []) hr rfl rfl rfl (fun hr => ?_) (fun hr => ?_)
  · skip
    refine ev_seg 2 (k' := 21) (L' := [(0, .ref 67), (1, .int x1), (2, .int x2)]) (st' := [.int (gI s1 67 11)]) rfl ?_
    refine ev_br (P := gI s1 67 11 = 0) (L' := [(0, .ref 67), (1, .int x1), (2, .int x2)]) (st' := []) hr rfl rfl rfl (fun hr => ?_) (fun hr => ?_)
    · skip
      refine ev_seg 4 (k' := 28) (L' := [(4, .int 0), (3, .int 0), (0, .ref 67), (1, .int x1), (2, .int x2)]) (st' := []) rfl ?_
      refine ev_join (L' := [(0, .ref 67), (1, .int x1), (2, .int x2), (3, .int 0), (4, .int 0)]) [2, 3, 4, 1, 0] [4, 3, 0, 1, 2] [0, 1, 2, 3, 4] rfl rfl (by decide) (by decide) rfl ?_
      exact hr
    · skip
      refine ev_seg 1 (k' := 23) (L' := [(0, .ref 67), (1, .int x1), (2, .int x2)]) (st' := [.int (-33)]) rfl ?_
      exact ev_iret hr rfl rfl rfl
  · skip
    refine ev_seg 1 (k' := 18) (L' := [(0, .ref 67), (1, .int x1), (2, .int x2)]) (st' := [.int 0]) rfl ?_
    exact ev_iret hr rfl rfl rfl
set_option maxRecDepth 20000 in
theorem eMo_count_28 (d : Nat) (x1 : Int32) (x2 : Int32) (z3 : Int32) (z4 : Int32) (s : aT) : ∀ r, (if gI s 67 13 ≤ z4 then if ¬ x2 = 0 then if ¬ x2 = 1 then cG (fMo_rows d x1 s) (kI fun v2 s1 => rI v2 s1) else rI z3 s else cG (fMo_versions d x1 s) (kI fun v4 s3 => rI v4 s3) else ldI 41 s 137 z4 (fun v5 => if ¬ v5 = x1 then fMo_count_47 (d + 1) x1 x2 z3 z4 s else ldI 41 s 141 z4 (fun v6 => if v6 < 0 then fMo_count_47 (d + 1) x1 x2 z3 z4 s else fMo_count_48 (d + 1) x1 x2 z4 (z3 + 1) s))) = some r → fMo_count_28 (d + 1) x1 x2 z3 z4 s = some r := by
  intro r hr
  show ev (d + 1) q_291 28 [(0, .ref 67), (1, .int x1), (2, .int x2), (3, .int z3), (4, .int z4)] [] s = some r
  refine ev_seg 3 (k' := 31) (L' := [(0, .ref 67), (1, .int x1), (2, .int x2), (3, .int z3), (4, .int z4)]) (st' := [.int (gI s 67 13), .int z4]) rfl ?_
  refine ev_br (P := gI s 67 13 ≤ z4) (L' := [(0, .ref 67), (1, .int x1), (2, .int x2), (3, .int z3), (4, .int z4)]) (st' := []) hr rfl rfl rfl (fun hr => ?_) (fun hr => ?_)
  · skip
    refine ev_seg 1 (k' := 52) (L' := [(0, .ref 67), (1, .int x1), (2, .int x2), (3, .int z3), (4, .int z4)]) (st' := [.int x2]) rfl ?_
    refine ev_br (P := ¬ x2 = 0) (L' := [(0, .ref 67), (1, .int x1), (2, .int x2), (3, .int z3), (4, .int z4)]) (st' := []) hr rfl rfl rfl (fun hr => ?_) (fun hr => ?_)
    · skip
      refine ev_seg 2 (k' := 59) (L' := [(0, .ref 67), (1, .int x1), (2, .int x2), (3, .int z3), (4, .int z4)]) (st' := [.int 1, .int x2]) rfl ?_
      refine ev_br (P := ¬ x2 = 1) (L' := [(0, .ref 67), (1, .int x1), (2, .int x2), (3, .int z3), (4, .int z4)]) (st' := []) hr rfl rfl rfl (fun hr => ?_) (fun hr => ?_)
      · skip
        refine ev_seg 2 (k' := 64) (L' := [(0, .ref 67), (1, .int x1), (2, .int x2), (3, .int z3), (4, .int z4)]) (st' := [.int x1, .ref 67]) rfl ?_
        refine ev_callV (q' := q_271) (x := 271) (y := 13) (c := 67) (As := [.int x1]) (rest := []) hr rfl rfl rfl rfl rfl rfl rfl rfl rfl rfl rfl rfl (fun rv s1 hq => ev_kI hq (fun v2 e9 hr => ?_))
        subst e9
        refine ev_st (st' := [.int v2]) rfl ?_
        exact ev_iret hr rfl rfl rfl
      · skip
        refine ev_seg 2 (k' := 65) (L' := [(0, .ref 67), (1, .int x1), (2, .int x2), (3, .int z3), (4, .int z4)]) (st' := [.int z3]) rfl ?_
        exact ev_iret hr rfl rfl rfl
    · skip
      refine ev_seg 2 (k' := 55) (L' := [(0, .ref 67), (1, .int x1), (2, .int x2), (3, .int z3), (4, .int z4)]) (st' := [.int x1, .ref 67]) rfl ?_
      refine ev_callV (q' := q_234) (x := 234) (y := 13) (c := 67) (As := [.int x1]) (rest := []) hr rfl rfl rfl rfl rfl rfl rfl rfl rfl rfl rfl rfl (fun rv s3 hq => ev_kI hq (fun v4 e9 hr => ?_))
      subst e9
      refine ev_st (st' := [.int v4]) rfl ?_
      refine ev_seg 1 (k' := 65) (L' := [(0, .ref 67), (1, .int x1), (2, .int x2), (3, .int z3), (4, .int z4)]) (st' := [.int v4]) rfl ?_
      exact ev_iret hr rfl rfl rfl
  · skip
    refine ev_seg 3 (k' := 35) (L' := [(0, .ref 67), (1, .int x1), (2, .int x2), (3, .int z3), (4, .int z4)]) (st' := [.int z4, .ref 137]) rfl ?_
    refine ev_ldI hr rfl rfl (fun v5 hr => ?_)
    refine ev_seg 1 (k' := 37) (L' := [(0, .ref 67), (1, .int x1), (2, .int x2), (3, .int z3), (4, .int z4)]) (st' := [.int x1, .int v5]) rfl ?_
    refine ev_br (P := ¬ v5 = x1) (L' := [(0, .ref 67), (1, .int x1), (2, .int x2), (3, .int z3), (4, .int z4)]) (st' := []) hr rfl rfl rfl (fun hr => ?_) (fun hr => ?_)
    · skip
      exact hr
    · skip
      refine ev_seg 3 (k' := 41) (L' := [(0, .ref 67), (1, .int x1), (2, .int x2), (3, .int z3), (4, .int z4)]) (st' := [.int z4, .ref 141]) rfl ?_
      refine ev_ldI hr rfl rfl (fun v6 hr => ?_)
      refine ev_br (P := v6 < 0) (L' := [(0, .ref 67), (1, .int x1), (2, .int x2), (3, .int z3), (4, .int z4)]) (st' := []) hr rfl rfl rfl (fun hr => ?_) (fun hr => ?_)
      · skip
        exact hr
      · skip
        refine ev_seg 4 (k' := 48) (L' := [(0, .ref 67), (1, .int x1), (2, .int x2), (3, .int z3), (4, .int z4)]) (st' := [.int (z3 + 1)]) rfl ?_
        refine ev_join (L' := [(0, .ref 67), (1, .int x1), (2, .int x2), (4, .int z4)]) [0, 1, 2, 4] [0, 1, 2, 3, 4] [0, 1, 2, 4] rfl rfl (by decide) (by decide) rfl ?_
        exact hr
set_option maxRecDepth 20000 in
theorem eMo_count_47 (d : Nat) (x1 : Int32) (x2 : Int32) (z3 : Int32) (z4 : Int32) (s : aT) : ∀ r, (fMo_count_48 (d + 1) x1 x2 z4 z3 s) = some r → fMo_count_47 (d + 1) x1 x2 z3 z4 s = some r := by
  intro r hr
  show ev (d + 1) q_291 47 [(0, .ref 67), (1, .int x1), (2, .int x2), (3, .int z3), (4, .int z4)] [] s = some r
  refine ev_seg 1 (k' := 48) (L' := [(0, .ref 67), (1, .int x1), (2, .int x2), (3, .int z3), (4, .int z4)]) (st' := [.int z3]) rfl ?_
  refine ev_join (L' := [(0, .ref 67), (1, .int x1), (2, .int x2), (4, .int z4)]) [0, 1, 2, 4] [0, 1, 2, 3, 4] [0, 1, 2, 4] rfl rfl (by decide) (by decide) rfl ?_
  exact hr
set_option maxRecDepth 20000 in
theorem eMo_count_48 (d : Nat) (x1 : Int32) (x2 : Int32) (z4 : Int32) (u0 : Int32) (s : aT) : ∀ r, (fMo_count_28 (d + 1) x1 x2 u0 (z4 + 1) s) = some r → fMo_count_48 (d + 1) x1 x2 z4 u0 s = some r := by
  intro r hr
  show ev (d + 1) q_291 48 [(0, .ref 67), (1, .int x1), (2, .int x2), (4, .int z4)] [.int u0] s = some r
  refine ev_seg 3 (k' := 28) (L' := [(4, .int (z4 + 1)), (3, .int u0), (0, .ref 67), (1, .int x1), (2, .int x2)]) (st' := []) rfl ?_
  refine ev_join (L' := [(0, .ref 67), (1, .int x1), (2, .int x2), (3, .int u0), (4, .int (z4 + 1))]) [2, 3, 4, 1, 0] [4, 3, 0, 1, 2] [0, 1, 2, 3, 4] rfl rfl (by decide) (by decide) rfl ?_
  exact hr
set_option maxRecDepth 20000 in
theorem eMo_print (d : Nat) (x1 : Int32) (x2 : Int32) (s : aT) : ∀ r, (cG (fMo_isSubject d x1 s) (kI fun v2 s1 => if v2 = 0 then fMo_print_12 (d + 1) x1 x2 s1 else if ¬ gI s1 67 11 = 0 then fMo_print_14 (d + 1) x1 x2 s1 else cG (fMo_isVersion d x1 x2 s1) (kI fun v4 s3 => if ¬ v4 = 0 then fMo_print_14 (d + 1) x1 x2 s3 else fMo_print_12 (d + 1) x1 x2 s3))) = some r → fMo_print (d + 1) x1 x2 s = some r := by
  intro r hr
  show ev (d + 1) q_292 0 [(0, .ref 67), (1, .int x1), (2, .int x2)] [] s = some r
  refine ev_seg 2 (k' := 2) (L' := [(0, .ref 67), (1, .int x1), (2, .int x2)]) (st' := [.int x1, .ref 67]) rfl ?_
  refine ev_callS (q' := q_233) (x := 233) (vs := [.int x1]) (rest := [.ref 67]) hr rfl rfl rfl rfl rfl rfl rfl rfl rfl rfl (fun rv s1 hq => ev_kI hq (fun v2 e9 hr => ?_))
  subst e9
  refine ev_st (st' := [.int v2, .ref 67]) rfl ?_
  refine ev_br (P := v2 = 0) (L' := [(0, .ref 67), (1, .int x1), (2, .int x2)]) (st' := [.ref 67]) hr rfl rfl rfl (fun hr => ?_) (fun hr => ?_)
  · skip
    exact hr
  · skip
    refine ev_seg 2 (k' := 6) (L' := [(0, .ref 67), (1, .int x1), (2, .int x2)]) (st' := [.int (gI s1 67 11), .ref 67]) rfl ?_
    refine ev_br (P := ¬ gI s1 67 11 = 0) (L' := [(0, .ref 67), (1, .int x1), (2, .int x2)]) (st' := [.ref 67]) hr rfl rfl rfl (fun hr => ?_) (fun hr => ?_)
    · skip
      exact hr
    · skip
      refine ev_seg 3 (k' := 10) (L' := [(0, .ref 67), (1, .int x1), (2, .int x2)]) (st' := [.int x2, .int x1, .ref 67, .ref 67]) rfl ?_
      refine ev_callV (q' := q_250) (x := 250) (y := 13) (c := 67) (As := [.int x1, .int x2]) (rest := [.ref 67]) hr rfl rfl rfl rfl rfl rfl rfl rfl rfl rfl rfl rfl (fun rv s3 hq => ev_kI hq (fun v4 e9 hr => ?_))
      subst e9
      refine ev_st (st' := [.int v4, .ref 67]) rfl ?_
      refine ev_br (P := ¬ v4 = 0) (L' := [(0, .ref 67), (1, .int x1), (2, .int x2)]) (st' := [.ref 67]) hr rfl rfl rfl (fun hr => ?_) (fun hr => ?_)
      · skip
        exact hr
      · skip
        exact hr
set_option maxRecDepth 20000 in
theorem eMo_print_12 (d : Nat) (x1 : Int32) (x2 : Int32) (s : aT) : ∀ r, (fMo_print_15 (d + 1) x1 x2 1 s) = some r → fMo_print_12 (d + 1) x1 x2 s = some r := by
  intro r hr
  show ev (d + 1) q_292 12 [(0, .ref 67), (1, .int x1), (2, .int x2)] [.ref 67] s = some r
  refine ev_seg 2 (k' := 15) (L' := [(0, .ref 67), (1, .int x1), (2, .int x2)]) (st' := [.int 1, .ref 67]) rfl ?_
  exact hr
set_option maxRecDepth 20000 in
theorem eMo_print_14 (d : Nat) (x1 : Int32) (x2 : Int32) (s : aT) : ∀ r, (fMo_print_15 (d + 1) x1 x2 0 s) = some r → fMo_print_14 (d + 1) x1 x2 s = some r := by
  intro r hr
  show ev (d + 1) q_292 14 [(0, .ref 67), (1, .int x1), (2, .int x2)] [.ref 67] s = some r
  refine ev_seg 1 (k' := 15) (L' := [(0, .ref 67), (1, .int x1), (2, .int x2)]) (st' := [.int 0, .ref 67]) rfl ?_
  exact hr
set_option maxRecDepth 20000 in
theorem eMo_print_15 (d : Nat) (x1 : Int32) (x2 : Int32) (u0 : Int32) (s : aT) : ∀ r, (cG (fMo_refused d u0 0 s) (kI fun v2 s1 => if ¬ v2 = 0 then rL 0 s1 else if gI s1 67 11 = 0 then cG (fMo_printOf d x1 x2 s1) (kL fun v4 s3 => rL v4 s3) else rL 0 s1)) = some r → fMo_print_15 (d + 1) x1 x2 u0 s = some r := by
  intro r hr
  show ev (d + 1) q_292 15 [(0, .ref 67), (1, .int x1), (2, .int x2)] [.int u0, .ref 67] s = some r
  refine ev_seg 1 (k' := 16) (L' := [(0, .ref 67), (1, .int x1), (2, .int x2)]) (st' := [.int 0, .int u0, .ref 67]) rfl ?_
  refine ev_callV (q' := q_189) (x := 189) (y := 13) (c := 67) (As := [.int u0, .int 0]) (rest := []) hr rfl rfl rfl rfl rfl rfl rfl rfl rfl rfl rfl rfl (fun rv s1 hq => ev_kI hq (fun v2 e9 hr => ?_))
  subst e9
  refine ev_st (st' := [.int v2]) rfl ?_
  refine ev_br (P := ¬ v2 = 0) (L' := [(0, .ref 67), (1, .int x1), (2, .int x2)]) (st' := []) hr rfl rfl rfl (fun hr => ?_) (fun hr => ?_)
  · skip
    refine ev_seg 1 (k' := 22) (L' := [(0, .ref 67), (1, .int x1), (2, .int x2)]) (st' := [.long 0]) rfl ?_
    exact ev_lret hr rfl rfl
  · skip
    refine ev_seg 2 (k' := 20) (L' := [(0, .ref 67), (1, .int x1), (2, .int x2)]) (st' := [.int (gI s1 67 11)]) rfl ?_
    refine ev_br (P := gI s1 67 11 = 0) (L' := [(0, .ref 67), (1, .int x1), (2, .int x2)]) (st' := []) hr rfl rfl rfl (fun hr => ?_) (fun hr => ?_)
    · skip
      refine ev_seg 3 (k' := 26) (L' := [(0, .ref 67), (1, .int x1), (2, .int x2)]) (st' := [.int x2, .int x1, .ref 67]) rfl ?_
      refine ev_callV (q' := q_293) (x := 293) (y := 13) (c := 67) (As := [.int x1, .int x2]) (rest := []) hr rfl rfl rfl rfl rfl rfl rfl rfl rfl rfl rfl rfl (fun rv s3 hq => ev_kL hq (fun v4 e9 hr => ?_))
      subst e9
      refine ev_st (st' := [.long v4]) rfl ?_
      exact ev_lret hr rfl rfl
    · skip
      refine ev_seg 1 (k' := 22) (L' := [(0, .ref 67), (1, .int x1), (2, .int x2)]) (st' := [.long 0]) rfl ?_
      exact ev_lret hr rfl rfl
set_option maxRecDepth 20000 in
theorem eMo_printOf (d : Nat) (x1 : Int32) (x2 : Int32) (s : aT) : ∀ r, (cG (fMo_readVersion d 113 x1 x2 s) (kV fun s1 => cG (fMt_print d 113 s1) (kL fun v3 s2 => rL v3 s2))) = some r → fMo_printOf (d + 1) x1 x2 s = some r := by
  intro r hr
  show ev (d + 1) q_293 0 [(0, .ref 67), (1, .int x1), (2, .int x2)] [] s = some r
  refine ev_seg 5 (k' := 5) (L' := [(0, .ref 67), (1, .int x1), (2, .int x2)]) (st' := [.int x2, .int x1, .ref 113, .ref 67]) rfl ?_
  refine ev_callV (q' := q_235) (x := 235) (y := 13) (c := 67) (As := [.ref 113, .int x1, .int x2]) (rest := []) hr rfl rfl rfl rfl rfl rfl rfl rfl rfl rfl rfl rfl (fun rv s1 hq => ev_kV hq (fun e9 hr => ?_))
  subst e9
  refine ev_st (st' := []) rfl ?_
  refine ev_seg 2 (k' := 8) (L' := [(0, .ref 67), (1, .int x1), (2, .int x2)]) (st' := [.ref 113]) rfl ?_
  refine ev_callV (q' := q_294) (x := 294) (y := 12) (c := 113) (As := []) (rest := []) hr rfl rfl rfl rfl rfl rfl rfl rfl rfl rfl rfl rfl (fun rv s2 hq => ev_kL hq (fun v3 e9 hr => ?_))
  subst e9
  refine ev_st (st' := [.long v3]) rfl ?_
  exact ev_lret hr rfl rfl
set_option maxRecDepth 20000 in
theorem eMo_letter (d : Nat) (x1 : Int32) (x2 : Int32) (s : aT) : ∀ r, (cG (fMo_within d x2 0 1 s) (kI fun v2 s1 => if ¬ v2 = 0 then fMo_letter_8 (d + 1) x1 x2 0 s1 else fMo_letter_8 (d + 1) x1 x2 1 s1)) = some r → fMo_letter (d + 1) x1 x2 s = some r := by
  intro r hr
  show ev (d + 1) q_295 0 [(0, .ref 67), (1, .int x1), (2, .int x2)] [] s = some r
  refine ev_seg 3 (k' := 3) (L' := [(0, .ref 67), (1, .int x1), (2, .int x2)]) (st' := [.int 1, .int 0, .int x2]) rfl ?_
  refine ev_callS (q' := q_192) (x := 192) (vs := [.int x2, .int 0, .int 1]) (rest := []) hr rfl rfl rfl rfl rfl rfl rfl rfl rfl rfl (fun rv s1 hq => ev_kI hq (fun v2 e9 hr => ?_))
  subst e9
  refine ev_st (st' := [.int v2]) rfl ?_
  refine ev_br (P := ¬ v2 = 0) (L' := [(0, .ref 67), (1, .int x1), (2, .int x2)]) (st' := []) hr rfl rfl rfl (fun hr => ?_) (fun hr => ?_)
  · skip
    refine ev_seg 1 (k' := 8) (L' := [(0, .ref 67), (1, .int x1), (2, .int x2)]) (st' := [.int 0]) rfl ?_
    exact hr
  · skip
    refine ev_seg 2 (k' := 8) (L' := [(0, .ref 67), (1, .int x1), (2, .int x2)]) (st' := [.int 1]) rfl ?_
    exact hr
set_option maxRecDepth 20000 in
theorem eMo_letter_8 (d : Nat) (x1 : Int32) (x2 : Int32) (u0 : Int32) (s : aT) : ∀ r, (if ¬ u0 = 0 then fMo_letter_27 (d + 1) x1 x2 u0 s else if ¬ x2 = 0 then fMo_letter_21 (d + 1) x1 x2 u0 (gI s 67 10) 0 x1 s else fMo_letter_21 (d + 1) x1 x2 u0 (gI s 67 8) 0 x1 s) = some r → fMo_letter_8 (d + 1) x1 x2 u0 s = some r := by
  intro r hr
  show ev (d + 1) q_295 8 [(0, .ref 67), (1, .int x1), (2, .int x2)] [.int u0] s = some r
  refine ev_seg 3 (k' := 11) (L' := [(3, .int u0), (0, .ref 67), (1, .int x1), (2, .int x2)]) (st' := [.int u0, .ref 67]) rfl ?_
  refine ev_br (P := ¬ u0 = 0) (L' := [(3, .int u0), (0, .ref 67), (1, .int x1), (2, .int x2)]) (st' := [.ref 67]) hr rfl rfl rfl (fun hr => ?_) (fun hr => ?_)
  · skip
    refine ev_join (L' := [(0, .ref 67), (1, .int x1), (2, .int x2), (3, .int u0)]) [1, 2, 3, 0] [3, 0, 1, 2] [0, 1, 2, 3] rfl rfl (by decide) (by decide) rfl ?_
    exact hr
  · skip
    refine ev_seg 3 (k' := 15) (L' := [(3, .int u0), (0, .ref 67), (1, .int x1), (2, .int x2)]) (st' := [.int x2, .int 0, .int x1, .ref 67]) rfl ?_
    refine ev_br (P := ¬ x2 = 0) (L' := [(3, .int u0), (0, .ref 67), (1, .int x1), (2, .int x2)]) (st' := [.int 0, .int x1, .ref 67]) hr rfl rfl rfl (fun hr => ?_) (fun hr => ?_)
    · skip
      refine ev_seg 2 (k' := 21) (L' := [(3, .int u0), (0, .ref 67), (1, .int x1), (2, .int x2)]) (st' := [.int (gI s 67 10), .int 0, .int x1, .ref 67]) rfl ?_
      refine ev_join (L' := [(0, .ref 67), (1, .int x1), (2, .int x2), (3, .int u0)]) [1, 2, 3, 0] [3, 0, 1, 2] [0, 1, 2, 3] rfl rfl (by decide) (by decide) rfl ?_
      exact hr
    · skip
      refine ev_seg 3 (k' := 21) (L' := [(3, .int u0), (0, .ref 67), (1, .int x1), (2, .int x2)]) (st' := [.int (gI s 67 8), .int 0, .int x1, .ref 67]) rfl ?_
      refine ev_join (L' := [(0, .ref 67), (1, .int x1), (2, .int x2), (3, .int u0)]) [1, 2, 3, 0] [3, 0, 1, 2] [0, 1, 2, 3] rfl rfl (by decide) (by decide) rfl ?_
      exact hr
set_option maxRecDepth 20000 in
theorem eMo_letter_27 (d : Nat) (x1 : Int32) (x2 : Int32) (z3 : Int32) (s : aT) : ∀ r, (fMo_letter_28 (d + 1) x1 x2 z3 0 s) = some r → fMo_letter_27 (d + 1) x1 x2 z3 s = some r := by
  intro r hr
  show ev (d + 1) q_295 27 [(0, .ref 67), (1, .int x1), (2, .int x2), (3, .int z3)] [.ref 67] s = some r
  refine ev_seg 1 (k' := 28) (L' := [(0, .ref 67), (1, .int x1), (2, .int x2), (3, .int z3)]) (st' := [.int 0, .ref 67]) rfl ?_
  exact hr
set_option maxRecDepth 20000 in
theorem eMo_letter_21 (d : Nat) (x1 : Int32) (x2 : Int32) (z3 : Int32) (u0 : Int32) (u1 : Int32) (u2 : Int32) (s : aT) : ∀ r, (cG (fMo_within d u2 u1 (u0 - 1) s) (kI fun v2 s1 => if ¬ v2 = 0 then fMo_letter_27 (d + 1) x1 x2 z3 s1 else fMo_letter_28 (d + 1) x1 x2 z3 1 s1)) = some r → fMo_letter_21 (d + 1) x1 x2 z3 u0 u1 u2 s = some r := by
  intro r hr
  show ev (d + 1) q_295 21 [(0, .ref 67), (1, .int x1), (2, .int x2), (3, .int z3)] [.int u0, .int u1, .int u2, .ref 67] s = some r
  refine ev_seg 2 (k' := 23) (L' := [(0, .ref 67), (1, .int x1), (2, .int x2), (3, .int z3)]) (st' := [.int (u0 - 1), .int u1, .int u2, .ref 67]) rfl ?_
  refine ev_callS (q' := q_192) (x := 192) (vs := [.int u2, .int u1, .int (u0 - 1)]) (rest := [.ref 67]) hr rfl rfl rfl rfl rfl rfl rfl rfl rfl rfl (fun rv s1 hq => ev_kI hq (fun v2 e9 hr => ?_))
  subst e9
  refine ev_st (st' := [.int v2, .ref 67]) rfl ?_
  refine ev_br (P := ¬ v2 = 0) (L' := [(0, .ref 67), (1, .int x1), (2, .int x2), (3, .int z3)]) (st' := [.ref 67]) hr rfl rfl rfl (fun hr => ?_) (fun hr => ?_)
  · skip
    exact hr
  · skip
    refine ev_seg 2 (k' := 28) (L' := [(0, .ref 67), (1, .int x1), (2, .int x2), (3, .int z3)]) (st' := [.int 1, .ref 67]) rfl ?_
    exact hr
set_option maxRecDepth 20000 in
theorem eMo_letter_28 (d : Nat) (x1 : Int32) (x2 : Int32) (z3 : Int32) (u0 : Int32) (s : aT) : ∀ r, (cG (fMo_refused d u0 z3 s) (kI fun v2 s1 => if v2 = 0 then if ¬ x2 = 0 then ldI 4096 s1 136 x1 (fun v3 => rI (v3 &&& 255) s1) else ldI 4200 s1 135 x1 (fun v4 => rI (v4 &&& 255) s1) else rI 0 s1)) = some r → fMo_letter_28 (d + 1) x1 x2 z3 u0 s = some r := by
  intro r hr
  show ev (d + 1) q_295 28 [(0, .ref 67), (1, .int x1), (2, .int x2), (3, .int z3)] [.int u0, .ref 67] s = some r
  refine ev_seg 1 (k' := 29) (L' := [(0, .ref 67), (1, .int x1), (2, .int x2), (3, .int z3)]) (st' := [.int z3, .int u0, .ref 67]) rfl ?_
  refine ev_callV (q' := q_189) (x := 189) (y := 13) (c := 67) (As := [.int u0, .int z3]) (rest := []) hr rfl rfl rfl rfl rfl rfl rfl rfl rfl rfl rfl rfl (fun rv s1 hq => ev_kI hq (fun v2 e9 hr => ?_))
  subst e9
  refine ev_st (st' := [.int v2]) rfl ?_
  refine ev_br (P := v2 = 0) (L' := [(0, .ref 67), (1, .int x1), (2, .int x2), (3, .int z3)]) (st' := []) hr rfl rfl rfl (fun hr => ?_) (fun hr => ?_)
  · skip
    refine ev_seg 1 (k' := 34) (L' := [(0, .ref 67), (1, .int x1), (2, .int x2), (3, .int z3)]) (st' := [.int x2]) rfl ?_
    refine ev_br (P := ¬ x2 = 0) (L' := [(0, .ref 67), (1, .int x1), (2, .int x2), (3, .int z3)]) (st' := []) hr rfl rfl rfl (fun hr => ?_) (fun hr => ?_)
    · skip
      refine ev_seg 3 (k' := 45) (L' := [(0, .ref 67), (1, .int x1), (2, .int x2), (3, .int z3)]) (st' := [.int x1, .ref 136]) rfl ?_
      refine ev_ldB hr rfl rfl (fun v3 hr => ?_)
      refine ev_seg 2 (k' := 48) (L' := [(0, .ref 67), (1, .int x1), (2, .int x2), (3, .int z3)]) (st' := [.int (v3 &&& 255)]) rfl ?_
      exact ev_iret hr rfl rfl rfl
    · skip
      refine ev_seg 3 (k' := 38) (L' := [(0, .ref 67), (1, .int x1), (2, .int x2), (3, .int z3)]) (st' := [.int x1, .ref 135]) rfl ?_
      refine ev_ldB hr rfl rfl (fun v4 hr => ?_)
      refine ev_seg 3 (k' := 48) (L' := [(0, .ref 67), (1, .int x1), (2, .int x2), (3, .int z3)]) (st' := [.int (v4 &&& 255)]) rfl ?_
      exact ev_iret hr rfl rfl rfl
  · skip
    refine ev_seg 1 (k' := 32) (L' := [(0, .ref 67), (1, .int x1), (2, .int x2), (3, .int z3)]) (st' := [.int 0]) rfl ?_
    exact ev_iret hr rfl rfl rfl
set_option maxRecDepth 20000 in
theorem eMo_size (d : Nat) (x1 : Int32) (s : aT) : ∀ r, (cG (fMo_within d x1 0 1 s) (kI fun v2 s1 => if ¬ v2 = 0 then fMo_size_9 (d + 1) x1 0 s1 else fMo_size_9 (d + 1) x1 1 s1)) = some r → fMo_size (d + 1) x1 s = some r := by
  intro r hr
  show ev (d + 1) q_296 0 [(0, .ref 67), (1, .int x1)] [] s = some r
  refine ev_seg 4 (k' := 4) (L' := [(0, .ref 67), (1, .int x1)]) (st' := [.int 1, .int 0, .int x1, .ref 67]) rfl ?_
  refine ev_callS (q' := q_192) (x := 192) (vs := [.int x1, .int 0, .int 1]) (rest := [.ref 67]) hr rfl rfl rfl rfl rfl rfl rfl rfl rfl rfl (fun rv s1 hq => ev_kI hq (fun v2 e9 hr => ?_))
  subst e9
  refine ev_st (st' := [.int v2, .ref 67]) rfl ?_
  refine ev_br (P := ¬ v2 = 0) (L' := [(0, .ref 67), (1, .int x1)]) (st' := [.ref 67]) hr rfl rfl rfl (fun hr => ?_) (fun hr => ?_)
  · skip
    refine ev_seg 1 (k' := 9) (L' := [(0, .ref 67), (1, .int x1)]) (st' := [.int 0, .ref 67]) rfl ?_
    exact hr
  · skip
    refine ev_seg 2 (k' := 9) (L' := [(0, .ref 67), (1, .int x1)]) (st' := [.int 1, .ref 67]) rfl ?_
    exact hr
set_option maxRecDepth 20000 in
theorem eMo_size_9 (d : Nat) (x1 : Int32) (u0 : Int32) (s : aT) : ∀ r, (cG (fMo_refused d u0 0 s) (kI fun v2 s1 => if v2 = 0 then if ¬ x1 = 0 then rI (gI s1 67 10) s1 else rI (gI s1 67 8) s1 else rI 0 s1)) = some r → fMo_size_9 (d + 1) x1 u0 s = some r := by
  intro r hr
  show ev (d + 1) q_296 9 [(0, .ref 67), (1, .int x1)] [.int u0, .ref 67] s = some r
  refine ev_seg 1 (k' := 10) (L' := [(0, .ref 67), (1, .int x1)]) (st' := [.int 0, .int u0, .ref 67]) rfl ?_
  refine ev_callV (q' := q_189) (x := 189) (y := 13) (c := 67) (As := [.int u0, .int 0]) (rest := []) hr rfl rfl rfl rfl rfl rfl rfl rfl rfl rfl rfl rfl (fun rv s1 hq => ev_kI hq (fun v2 e9 hr => ?_))
  subst e9
  refine ev_st (st' := [.int v2]) rfl ?_
  refine ev_br (P := v2 = 0) (L' := [(0, .ref 67), (1, .int x1)]) (st' := []) hr rfl rfl rfl (fun hr => ?_) (fun hr => ?_)
  · skip
    refine ev_seg 1 (k' := 15) (L' := [(0, .ref 67), (1, .int x1)]) (st' := [.int x1]) rfl ?_
    refine ev_br (P := ¬ x1 = 0) (L' := [(0, .ref 67), (1, .int x1)]) (st' := []) hr rfl rfl rfl (fun hr => ?_) (fun hr => ?_)
    · skip
      refine ev_seg 2 (k' := 21) (L' := [(0, .ref 67), (1, .int x1)]) (st' := [.int (gI s1 67 10)]) rfl ?_
      exact ev_iret hr rfl rfl rfl
    · skip
      refine ev_seg 3 (k' := 21) (L' := [(0, .ref 67), (1, .int x1)]) (st' := [.int (gI s1 67 8)]) rfl ?_
      exact ev_iret hr rfl rfl rfl
  · skip
    refine ev_seg 2 (k' := 21) (L' := [(0, .ref 67), (1, .int x1)]) (st' := [.int 0]) rfl ?_
    exact ev_iret hr rfl rfl rfl
set_option maxRecDepth 20000 in
theorem eMo_file (d : Nat) (x1 : Int32) (x2 : Int32) (s : aT) : ∀ r, (if ¬ gI s 67 11 = 0 then fMo_file_14 (d + 1) x1 x2 s else cG (fMo_within d x1 0 ((gI s 67 13) - 1) s) (kI fun v2 s1 => if ¬ v2 = 0 then fMo_file_14 (d + 1) x1 x2 s1 else fMo_file_15 (d + 1) x1 x2 1 s1)) = some r → fMo_file (d + 1) x1 x2 s = some r := by
  intro r hr
  show ev (d + 1) q_297 0 [(0, .ref 67), (1, .int x1), (2, .int x2)] [] s = some r
  refine ev_seg 3 (k' := 3) (L' := [(0, .ref 67), (1, .int x1), (2, .int x2)]) (st' := [.int (gI s 67 11), .ref 67]) rfl ?_
  refine ev_br (P := ¬ gI s 67 11 = 0) (L' := [(0, .ref 67), (1, .int x1), (2, .int x2)]) (st' := [.ref 67]) hr rfl rfl rfl (fun hr => ?_) (fun hr => ?_)
  · skip
    exact hr
  · skip
    refine ev_seg 6 (k' := 10) (L' := [(0, .ref 67), (1, .int x1), (2, .int x2)]) (st' := [.int ((gI s 67 13) - 1), .int 0, .int x1, .ref 67]) rfl ?_
    refine ev_callS (q' := q_192) (x := 192) (vs := [.int x1, .int 0, .int ((gI s 67 13) - 1)]) (rest := [.ref 67]) hr rfl rfl rfl rfl rfl rfl rfl rfl rfl rfl (fun rv s1 hq => ev_kI hq (fun v2 e9 hr => ?_))
    subst e9
    refine ev_st (st' := [.int v2, .ref 67]) rfl ?_
    refine ev_br (P := ¬ v2 = 0) (L' := [(0, .ref 67), (1, .int x1), (2, .int x2)]) (st' := [.ref 67]) hr rfl rfl rfl (fun hr => ?_) (fun hr => ?_)
    · skip
      exact hr
    · skip
      refine ev_seg 2 (k' := 15) (L' := [(0, .ref 67), (1, .int x1), (2, .int x2)]) (st' := [.int 1, .ref 67]) rfl ?_
      exact hr
set_option maxRecDepth 20000 in
theorem eMo_file_14 (d : Nat) (x1 : Int32) (x2 : Int32) (s : aT) : ∀ r, (fMo_file_15 (d + 1) x1 x2 0 s) = some r → fMo_file_14 (d + 1) x1 x2 s = some r := by
  intro r hr
  show ev (d + 1) q_297 14 [(0, .ref 67), (1, .int x1), (2, .int x2)] [.ref 67] s = some r
  refine ev_seg 1 (k' := 15) (L' := [(0, .ref 67), (1, .int x1), (2, .int x2)]) (st' := [.int 0, .ref 67]) rfl ?_
  exact hr
set_option maxRecDepth 20000 in
theorem eMo_file_15 (d : Nat) (x1 : Int32) (x2 : Int32) (u0 : Int32) (s : aT) : ∀ r, (cG (fMo_within d x2 0 4 s) (kI fun v2 s1 => if ¬ v2 = 0 then fMo_file_23 (d + 1) x1 x2 0 u0 s1 else fMo_file_23 (d + 1) x1 x2 1 u0 s1)) = some r → fMo_file_15 (d + 1) x1 x2 u0 s = some r := by
  intro r hr
  show ev (d + 1) q_297 15 [(0, .ref 67), (1, .int x1), (2, .int x2)] [.int u0, .ref 67] s = some r
  refine ev_seg 3 (k' := 18) (L' := [(0, .ref 67), (1, .int x1), (2, .int x2)]) (st' := [.int 4, .int 0, .int x2, .int u0, .ref 67]) rfl ?_
  refine ev_callS (q' := q_192) (x := 192) (vs := [.int x2, .int 0, .int 4]) (rest := [.int u0, .ref 67]) hr rfl rfl rfl rfl rfl rfl rfl rfl rfl rfl (fun rv s1 hq => ev_kI hq (fun v2 e9 hr => ?_))
  subst e9
  refine ev_st (st' := [.int v2, .int u0, .ref 67]) rfl ?_
  refine ev_br (P := ¬ v2 = 0) (L' := [(0, .ref 67), (1, .int x1), (2, .int x2)]) (st' := [.int u0, .ref 67]) hr rfl rfl rfl (fun hr => ?_) (fun hr => ?_)
  · skip
    refine ev_seg 1 (k' := 23) (L' := [(0, .ref 67), (1, .int x1), (2, .int x2)]) (st' := [.int 0, .int u0, .ref 67]) rfl ?_
    exact hr
  · skip
    refine ev_seg 2 (k' := 23) (L' := [(0, .ref 67), (1, .int x1), (2, .int x2)]) (st' := [.int 1, .int u0, .ref 67]) rfl ?_
    exact hr
set_option maxRecDepth 20000 in
theorem eMo_file_23 (d : Nat) (x1 : Int32) (x2 : Int32) (u0 : Int32) (u1 : Int32) (s : aT) : ∀ r, (cG (fMo_refused d u1 u0 s) (kI fun v2 s1 => if v2 = 0 then if gI s1 67 11 = 0 then if ¬ x2 = 0 then if ¬ x2 = 1 then if ¬ x2 = 2 then if ¬ x2 = 3 then ldI 41 s1 141 x1 (fun v3 => rI v3 s1) else ldI 41 s1 140 x1 (fun v4 => rI v4 s1) else ldI 41 s1 139 x1 (fun v5 => rI v5 s1) else ldI 41 s1 138 x1 (fun v6 => rI v6 s1) else ldI 41 s1 137 x1 (fun v7 => rI v7 s1) else rI (-33) s1 else rI 0 s1)) = some r → fMo_file_23 (d + 1) x1 x2 u0 u1 s = some r := by
  intro r hr
  show ev (d + 1) q_297 23 [(0, .ref 67), (1, .int x1), (2, .int x2)] [.int u0, .int u1, .ref 67] s = some r
  refine ev_callV (q' := q_189) (x := 189) (y := 13) (c := 67) (As := [.int u1, .int u0]) (rest := []) hr rfl rfl rfl rfl rfl rfl rfl rfl rfl rfl rfl rfl (fun rv s1 hq => ev_kI hq (fun v2 e9 hr => ?_))
  subst e9
  refine ev_st (st' := [.int v2]) rfl ?_
  refine ev_br (P := v2 = 0) (L' := [(0, .ref 67), (1, .int x1), (2, .int x2)]) (st' := []) hr rfl rfl rfl (fun hr => ?_) (fun hr => ?_)
  · skip
    refine ev_seg 2 (k' := 29) (L' := [(0, .ref 67), (1, .int x1), (2, .int x2)]) (st' := [.int (gI s1 67 11)]) rfl ?_
    refine ev_br (P := gI s1 67 11 = 0) (L' := [(0, .ref 67), (1, .int x1), (2, .int x2)]) (st' := []) hr rfl rfl rfl (fun hr => ?_) (fun hr => ?_)
    · skip
      refine ev_seg 1 (k' := 33) (L' := [(0, .ref 67), (1, .int x1), (2, .int x2)]) (st' := [.int x2]) rfl ?_
      refine ev_br (P := ¬ x2 = 0) (L' := [(0, .ref 67), (1, .int x1), (2, .int x2)]) (st' := []) hr rfl rfl rfl (fun hr => ?_) (fun hr => ?_)
      · skip
        refine ev_seg 2 (k' := 41) (L' := [(0, .ref 67), (1, .int x1), (2, .int x2)]) (st' := [.int 1, .int x2]) rfl ?_
        refine ev_br (P := ¬ x2 = 1) (L' := [(0, .ref 67), (1, .int x1), (2, .int x2)]) (st' := []) hr rfl rfl rfl (fun hr => ?_) (fun hr => ?_)
        · skip
          refine ev_seg 2 (k' := 49) (L' := [(0, .ref 67), (1, .int x1), (2, .int x2)]) (st' := [.int 2, .int x2]) rfl ?_
          refine ev_br (P := ¬ x2 = 2) (L' := [(0, .ref 67), (1, .int x1), (2, .int x2)]) (st' := []) hr rfl rfl rfl (fun hr => ?_) (fun hr => ?_)
          · skip
            refine ev_seg 2 (k' := 57) (L' := [(0, .ref 67), (1, .int x1), (2, .int x2)]) (st' := [.int 3, .int x2]) rfl ?_
            refine ev_br (P := ¬ x2 = 3) (L' := [(0, .ref 67), (1, .int x1), (2, .int x2)]) (st' := []) hr rfl rfl rfl (fun hr => ?_) (fun hr => ?_)
            · skip
              refine ev_seg 3 (k' := 66) (L' := [(0, .ref 67), (1, .int x1), (2, .int x2)]) (st' := [.int x1, .ref 141]) rfl ?_
              refine ev_ldI hr rfl rfl (fun v3 hr => ?_)
              exact ev_iret hr rfl rfl rfl
            · skip
              refine ev_seg 3 (k' := 61) (L' := [(0, .ref 67), (1, .int x1), (2, .int x2)]) (st' := [.int x1, .ref 140]) rfl ?_
              refine ev_ldI hr rfl rfl (fun v4 hr => ?_)
              refine ev_seg 1 (k' := 67) (L' := [(0, .ref 67), (1, .int x1), (2, .int x2)]) (st' := [.int v4]) rfl ?_
              exact ev_iret hr rfl rfl rfl
          · skip
            refine ev_seg 3 (k' := 53) (L' := [(0, .ref 67), (1, .int x1), (2, .int x2)]) (st' := [.int x1, .ref 139]) rfl ?_
            refine ev_ldI hr rfl rfl (fun v5 hr => ?_)
            refine ev_seg 1 (k' := 67) (L' := [(0, .ref 67), (1, .int x1), (2, .int x2)]) (st' := [.int v5]) rfl ?_
            exact ev_iret hr rfl rfl rfl
        · skip
          refine ev_seg 3 (k' := 45) (L' := [(0, .ref 67), (1, .int x1), (2, .int x2)]) (st' := [.int x1, .ref 138]) rfl ?_
          refine ev_ldI hr rfl rfl (fun v6 hr => ?_)
          refine ev_seg 1 (k' := 67) (L' := [(0, .ref 67), (1, .int x1), (2, .int x2)]) (st' := [.int v6]) rfl ?_
          exact ev_iret hr rfl rfl rfl
      · skip
        refine ev_seg 3 (k' := 37) (L' := [(0, .ref 67), (1, .int x1), (2, .int x2)]) (st' := [.int x1, .ref 137]) rfl ?_
        refine ev_ldI hr rfl rfl (fun v7 hr => ?_)
        refine ev_seg 1 (k' := 67) (L' := [(0, .ref 67), (1, .int x1), (2, .int x2)]) (st' := [.int v7]) rfl ?_
        exact ev_iret hr rfl rfl rfl
    · skip
      refine ev_seg 1 (k' := 31) (L' := [(0, .ref 67), (1, .int x1), (2, .int x2)]) (st' := [.int (-33)]) rfl ?_
      exact ev_iret hr rfl rfl rfl
  · skip
    refine ev_seg 1 (k' := 26) (L' := [(0, .ref 67), (1, .int x1), (2, .int x2)]) (st' := [.int 0]) rfl ?_
    exact ev_iret hr rfl rfl rfl
set_option maxRecDepth 20000 in
theorem eMo_files (d : Nat) (s : aT) : ∀ r, (wI s 67 0 0 (fun s1 => if gI s1 67 11 = 0 then rI (gI s1 67 13) s1 else rI (-33) s1)) = some r → fMo_files d s = some r := by
  intro r hr
  show ev d q_298 0 [(0, .ref 67)] [] s = some r
  refine ev_seg 2 (k' := 2) (L' := [(0, .ref 67)]) (st' := [.int 0, .ref 67]) rfl ?_
  refine ev_putI (c := 67) hr rfl rfl rfl (fun s1 hr => ?_)
  refine ev_seg 2 (k' := 5) (L' := [(0, .ref 67)]) (st' := [.int (gI s1 67 11)]) rfl ?_
  refine ev_br (P := gI s1 67 11 = 0) (L' := [(0, .ref 67)]) (st' := []) hr rfl rfl rfl (fun hr => ?_) (fun hr => ?_)
  · skip
    refine ev_seg 2 (k' := 10) (L' := [(0, .ref 67)]) (st' := [.int (gI s1 67 13)]) rfl ?_
    exact ev_iret hr rfl rfl rfl
  · skip
    refine ev_seg 2 (k' := 10) (L' := [(0, .ref 67)]) (st' := [.int (-33)]) rfl ?_
    exact ev_iret hr rfl rfl rfl
set_option maxRecDepth 20000 in
theorem eMo_power (d : Nat) (x1 : Int32) (s : aT) : ∀ r, (cG (fMo_within d x1 (-1) 1000 s) (kI fun v2 s1 => if ¬ v2 = 0 then fMo_power_9 (d + 1) x1 0 s1 else fMo_power_9 (d + 1) x1 1 s1)) = some r → fMo_power (d + 1) x1 s = some r := by
  intro r hr
  show ev (d + 1) q_299 0 [(0, .ref 67), (1, .int x1)] [] s = some r
  refine ev_seg 4 (k' := 4) (L' := [(0, .ref 67), (1, .int x1)]) (st' := [.int 1000, .int (-1), .int x1, .ref 67]) rfl ?_
  refine ev_callS (q' := q_192) (x := 192) (vs := [.int x1, .int (-1), .int 1000]) (rest := [.ref 67]) hr rfl rfl rfl rfl rfl rfl rfl rfl rfl rfl (fun rv s1 hq => ev_kI hq (fun v2 e9 hr => ?_))
  subst e9
  refine ev_st (st' := [.int v2, .ref 67]) rfl ?_
  refine ev_br (P := ¬ v2 = 0) (L' := [(0, .ref 67), (1, .int x1)]) (st' := [.ref 67]) hr rfl rfl rfl (fun hr => ?_) (fun hr => ?_)
  · skip
    refine ev_seg 1 (k' := 9) (L' := [(0, .ref 67), (1, .int x1)]) (st' := [.int 0, .ref 67]) rfl ?_
    exact hr
  · skip
    refine ev_seg 2 (k' := 9) (L' := [(0, .ref 67), (1, .int x1)]) (st' := [.int 1, .ref 67]) rfl ?_
    exact hr
set_option maxRecDepth 20000 in
theorem eMo_power_9 (d : Nat) (x1 : Int32) (u0 : Int32) (s : aT) : ∀ r, (cG (fMo_refused d u0 0 s) (kI fun v2 s1 => if ¬ v2 = 0 then rV s1 else wI s1 67 12 x1 (fun s3 => rV s3))) = some r → fMo_power_9 (d + 1) x1 u0 s = some r := by
  intro r hr
  show ev (d + 1) q_299 9 [(0, .ref 67), (1, .int x1)] [.int u0, .ref 67] s = some r
  refine ev_seg 1 (k' := 10) (L' := [(0, .ref 67), (1, .int x1)]) (st' := [.int 0, .int u0, .ref 67]) rfl ?_
  refine ev_callV (q' := q_189) (x := 189) (y := 13) (c := 67) (As := [.int u0, .int 0]) (rest := []) hr rfl rfl rfl rfl rfl rfl rfl rfl rfl rfl rfl rfl (fun rv s1 hq => ev_kI hq (fun v2 e9 hr => ?_))
  subst e9
  refine ev_st (st' := [.int v2]) rfl ?_
  refine ev_br (P := ¬ v2 = 0) (L' := [(0, .ref 67), (1, .int x1)]) (st' := []) hr rfl rfl rfl (fun hr => ?_) (fun hr => ?_)
  · skip
    exact ev_vret hr rfl rfl
  · skip
    refine ev_seg 2 (k' := 14) (L' := [(0, .ref 67), (1, .int x1)]) (st' := [.int x1, .ref 67]) rfl ?_
    refine ev_putI (c := 67) hr rfl rfl rfl (fun s3 hr => ?_)
    exact ev_vret hr rfl rfl
set_option maxRecDepth 20000 in
theorem eMo_start (d : Nat) (s : aT) : ∀ r, (if ¬ gI s 67 11 = 0 then fMo_start_7 (d + 1) 0 s else fMo_start_7 (d + 1) 1 s) = some r → fMo_start (d + 1) s = some r := by
  intro r hr
  show ev (d + 1) q_300 0 [(0, .ref 67)] [] s = some r
  refine ev_seg 3 (k' := 3) (L' := [(0, .ref 67)]) (st' := [.int (gI s 67 11), .ref 67]) rfl ?_
  refine ev_br (P := ¬ gI s 67 11 = 0) (L' := [(0, .ref 67)]) (st' := [.ref 67]) hr rfl rfl rfl (fun hr => ?_) (fun hr => ?_)
  · skip
    refine ev_seg 1 (k' := 7) (L' := [(0, .ref 67)]) (st' := [.int 0, .ref 67]) rfl ?_
    exact hr
  · skip
    refine ev_seg 2 (k' := 7) (L' := [(0, .ref 67)]) (st' := [.int 1, .ref 67]) rfl ?_
    exact hr
set_option maxRecDepth 20000 in
theorem eMo_start_7 (d : Nat) (u0 : Int32) (s : aT) : ∀ r, (cG (fMo_refused d u0 0 s) (kI fun v2 s1 => if v2 = 0 then wZ s1 67 11 0 (fun s3 => rI (gI s3 67 13) s3) else rI 0 s1)) = some r → fMo_start_7 (d + 1) u0 s = some r := by
  intro r hr
  show ev (d + 1) q_300 7 [(0, .ref 67)] [.int u0, .ref 67] s = some r
  refine ev_seg 1 (k' := 8) (L' := [(0, .ref 67)]) (st' := [.int 0, .int u0, .ref 67]) rfl ?_
  refine ev_callV (q' := q_189) (x := 189) (y := 13) (c := 67) (As := [.int u0, .int 0]) (rest := []) hr rfl rfl rfl rfl rfl rfl rfl rfl rfl rfl rfl rfl (fun rv s1 hq => ev_kI hq (fun v2 e9 hr => ?_))
  subst e9
  refine ev_st (st' := [.int v2]) rfl ?_
  refine ev_br (P := v2 = 0) (L' := [(0, .ref 67)]) (st' := []) hr rfl rfl rfl (fun hr => ?_) (fun hr => ?_)
  · skip
    refine ev_seg 2 (k' := 14) (L' := [(0, .ref 67)]) (st' := [.int 0, .ref 67]) rfl ?_
    refine ev_putZ (c := 67) hr rfl rfl rfl (fun s3 hr => ?_)
    refine ev_seg 2 (k' := 17) (L' := [(0, .ref 67)]) (st' := [.int (gI s3 67 13)]) rfl ?_
    exact ev_iret hr rfl rfl rfl
  · skip
    refine ev_seg 1 (k' := 11) (L' := [(0, .ref 67)]) (st' := [.int 0]) rfl ?_
    exact ev_iret hr rfl rfl rfl
