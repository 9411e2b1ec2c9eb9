/-! RecordLake$Matching: what its pieces do -/
set_option maxRecDepth 20000 in
theorem eMa_isFitting (d : Nat) (x1 : Int32) (x2 : Int32) (x3 : Int32) (x4 : Int32) (s : aT) : ∀ r, (wI s 49 5 x2 (fun s1 => wI s1 49 6 x4 (fun s2 => wI s2 49 4 ((gI s2 49 4) + 1) (fun s3 => wI s3 49 3 0 (fun s4 => cG (fMa_ask d x1 x3 s4) (kV fun s5 => fMa_isFitting_21 (d + 1) 0 s5)))))) = some r → fMa_isFitting (d + 1) x1 x2 x3 x4 s = some r := by
  intro r hr
  show ev (d + 1) q_90 0 [(0, .ref 49), (1, .int x1), (2, .int x2), (3, .int x3), (4, .int x4)] [] s = some r
  refine ev_seg 2 (k' := 2) (L' := [(0, .ref 49), (1, .int x1), (2, .int x2), (3, .int x3), (4, .int x4)]) (st' := [.int x2, .ref 49]) rfl ?_
  refine ev_putI (c := 49) hr rfl rfl rfl (fun s1 hr => ?_)
  refine ev_seg 2 (k' := 5) (L' := [(0, .ref 49), (1, .int x1), (2, .int x2), (3, .int x3), (4, .int x4)]) (st' := [.int x4, .ref 49]) rfl ?_
  refine ev_putI (c := 49) hr rfl rfl rfl (fun s2 hr => ?_)
  refine ev_seg 5 (k' := 11) (L' := [(0, .ref 49), (1, .int x1), (2, .int x2), (3, .int x3), (4, .int x4)]) (st' := [.int ((gI s2 49 4) + 1), .ref 49]) rfl ?_
  refine ev_putI (c := 49) hr rfl rfl rfl (fun s3 hr => ?_)
  refine ev_seg 2 (k' := 14) (L' := [(0, .ref 49), (1, .int x1), (2, .int x2), (3, .int x3), (4, .int x4)]) (st' := [.int 0, .ref 49]) rfl ?_
  refine ev_putI (c := 49) hr rfl rfl rfl (fun s4 hr => ?_)
  refine ev_seg 3 (k' := 18) (L' := [(0, .ref 49), (1, .int x1), (2, .int x2), (3, .int x3), (4, .int x4)]) (st' := [.int x3, .int x1, .ref 49]) rfl ?_
  refine ev_callV (q' := q_91) (x := 91) (y := 7) (c := 49) (As := [.int x1, .int x3]) (rest := []) hr rfl rfl rfl rfl rfl rfl rfl rfl rfl rfl rfl rfl (fun rv s5 hq => ev_kV hq (fun e9 hr => ?_))
  subst e9
  refine ev_st (st' := []) rfl ?_
  refine ev_seg 2 (k' := 21) (L' := [(5, .int 0), (0, .ref 49), (1, .int x1), (2, .int x2), (3, .int x3), (4, .int x4)]) (st' := []) rfl ?_
  refine ev_join (L' := [(0, .ref 49), (5, .int 0)]) [1, 0] [5, 0, 1, 2, 3, 4] [0, 5] rfl rfl (by decide) (by decide) rfl ?_
  exact hr
set_option maxRecDepth 20000 in
theorem eMa_isFitting_21 (d : Nat) (z5 : Int32) (s : aT) : ∀ r, (if gI s 49 3 ≤ z5 then rI 1 s else if 17956 ≤ z5 then rI 1 s else ldI 17956 s 51 z5 (fun v1 => cG (fMa_schemaOf d (v1 / 134) (gI s 49 5) s) (kI fun v3 s2 => ldI 17956 s2 51 z5 (fun v4 => cG (fMa_schemaOf d (v4 - v4 / 134 * 134) (gI s2 49 6) s2) (kI fun v6 s5 => cG (fMa_isPairFitting d v3 v6 s5) (kI fun v8 s7 => if ¬ v8 = 0 then fMa_isFitting_21 (d + 1) (z5 + 1) s7 else rI 0 s7)))))) = some r → fMa_isFitting_21 (d + 1) z5 s = some r := by
  intro r hr
  show ev (d + 1) q_90 21 [(0, .ref 49), (5, .int z5)] [] s = some r
  refine ev_seg 3 (k' := 24) (L' := [(0, .ref 49), (5, .int z5)]) (st' := [.int (gI s 49 3), .int z5]) rfl ?_
  refine ev_br (P := gI s 49 3 ≤ z5) (L' := [(0, .ref 49), (5, .int z5)]) (st' := []) hr rfl rfl rfl (fun hr => ?_) (fun hr => ?_)
  · skip
    refine ev_seg 1 (k' := 60) (L' := [(0, .ref 49), (5, .int z5)]) (st' := [.int 1]) rfl ?_
    exact ev_iret hr rfl rfl rfl
  · skip
    refine ev_seg 4 (k' := 29) (L' := [(0, .ref 49), (5, .int z5)]) (st' := [.int 17956, .int z5]) rfl ?_
    refine ev_br (P := 17956 ≤ z5) (L' := [(0, .ref 49), (5, .int z5)]) (st' := []) hr rfl rfl rfl (fun hr => ?_) (fun hr => ?_)
    · skip
      refine ev_seg 1 (k' := 60) (L' := [(0, .ref 49), (5, .int z5)]) (st' := [.int 1]) rfl ?_
      exact ev_iret hr rfl rfl rfl
    · skip
      refine ev_seg 3 (k' := 33) (L' := [(0, .ref 49), (5, .int z5)]) (st' := [.int z5, .ref 51]) rfl ?_
      refine ev_ldI hr rfl rfl (fun v1 hr => ?_)
      refine ev_seg 4 (k' := 38) (L' := [(0, .ref 49), (5, .int z5)]) (st' := [.int (gI s 49 5), .int (v1 / 134)]) rfl ?_
      refine ev_callS (q' := q_93) (x := 93) (vs := [.int (v1 / 134), .int (gI s 49 5)]) (rest := []) hr rfl rfl rfl rfl rfl rfl rfl rfl rfl rfl (fun rv s2 hq => ev_kI hq (fun v3 e9 hr => ?_))
      subst e9
      refine ev_st (st' := [.int v3]) rfl ?_
      refine ev_seg 4 (k' := 43) (L' := [(6, .int v3), (0, .ref 49), (5, .int z5)]) (st' := [.int z5, .ref 51]) rfl ?_
      refine ev_ldI hr rfl rfl (fun v4 hr => ?_)
      refine ev_seg 4 (k' := 48) (L' := [(6, .int v3), (0, .ref 49), (5, .int z5)]) (st' := [.int (gI s2 49 6), .int (v4 - v4 / 134 * 134)]) rfl ?_
      refine ev_callS (q' := q_93) (x := 93) (vs := [.int (v4 - v4 / 134 * 134), .int (gI s2 49 6)]) (rest := []) hr rfl rfl rfl rfl rfl rfl rfl rfl rfl rfl (fun rv s5 hq => ev_kI hq (fun v6 e9 hr => ?_))
      subst e9
      refine ev_st (st' := [.int v6]) rfl ?_
      refine ev_seg 4 (k' := 53) (L' := [(7, .int v6), (6, .int v3), (0, .ref 49), (5, .int z5)]) (st' := [.int v6, .int v3, .ref 49]) rfl ?_
      refine ev_callV (q' := q_94) (x := 94) (y := 7) (c := 49) (As := [.int v3, .int v6]) (rest := []) hr rfl rfl rfl rfl rfl rfl rfl rfl rfl rfl rfl rfl (fun rv s7 hq => ev_kI hq (fun v8 e9 hr => ?_))
      subst e9
      refine ev_st (st' := [.int v8]) rfl ?_
      refine ev_br (P := ¬ v8 = 0) (L' := [(7, .int v6), (6, .int v3), (0, .ref 49), (5, .int z5)]) (st' := []) hr rfl rfl rfl (fun hr => ?_) (fun hr => ?_)
      · skip
        refine ev_seg 2 (k' := 21) (L' := [(5, .int (z5 + 1)), (7, .int v6), (6, .int v3), (0, .ref 49)]) (st' := []) rfl ?_
        refine ev_join (L' := [(0, .ref 49), (5, .int (z5 + 1))]) [3, 0] [5, 7, 6, 0] [0, 5] rfl rfl (by decide) (by decide) rfl ?_
        exact hr
      · skip
        refine ev_seg 1 (k' := 56) (L' := [(7, .int v6), (6, .int v3), (0, .ref 49), (5, .int z5)]) (st' := [.int 0]) rfl ?_
        exact ev_iret hr rfl rfl rfl
set_option maxRecDepth 20000 in
theorem eMa_ask (d : Nat) (x1 : Int32) (x2 : Int32) (s : aT) : ∀ r, (cG (fMa_localOf d x1 (gI s 49 5) s) (kI fun v2 s1 => cG (fMa_localOf d x2 (gI s1 49 6) s1) (kI fun v4 s3 => ldI 17956 s3 50 ((v2 * 134) + v4) (fun v5 => if v5 = gI s3 49 4 then rV s3 else stI 17956 s3 50 ((v2 * 134) + v4) (gI s3 49 4) (fun s6 => stI 17956 s6 51 (gI s6 49 3) ((v2 * 134) + v4) (fun s7 => wI s7 49 3 ((gI s7 49 3) + 1) (fun s8 => rV s8))))))) = some r → fMa_ask (d + 1) x1 x2 s = some r := by
  intro r hr
  show ev (d + 1) q_91 0 [(0, .ref 49), (1, .int x1), (2, .int x2)] [] s = some r
  refine ev_seg 3 (k' := 3) (L' := [(0, .ref 49), (1, .int x1), (2, .int x2)]) (st' := [.int (gI s 49 5), .int x1]) rfl ?_
  refine ev_callS (q' := q_92) (x := 92) (vs := [.int x1, .int (gI s 49 5)]) (rest := []) hr rfl rfl rfl rfl rfl rfl rfl rfl rfl rfl (fun rv s1 hq => ev_kI hq (fun v2 e9 hr => ?_))
  subst e9
  refine ev_st (st' := [.int v2]) rfl ?_
  refine ev_seg 5 (k' := 9) (L' := [(0, .ref 49), (1, .int x1), (2, .int x2)]) (st' := [.int (gI s1 49 6), .int x2, .int (v2 * 134)]) rfl ?_
  refine ev_callS (q' := q_92) (x := 92) (vs := [.int x2, .int (gI s1 49 6)]) (rest := [.int (v2 * 134)]) hr rfl rfl rfl rfl rfl rfl rfl rfl rfl rfl (fun rv s3 hq => ev_kI hq (fun v4 e9 hr => ?_))
  subst e9
  refine ev_st (st' := [.int v4, .int (v2 * 134)]) rfl ?_
  refine ev_seg 5 (k' := 15) (L' := [(3, .int ((v2 * 134) + v4)), (0, .ref 49), (1, .int x1), (2, .int x2)]) (st' := [.int ((v2 * 134) + v4), .ref 50]) rfl ?_
  refine ev_ldI hr rfl rfl (fun v5 hr => ?_)
  refine ev_seg 2 (k' := 18) (L' := [(3, .int ((v2 * 134) + v4)), (0, .ref 49), (1, .int x1), (2, .int x2)]) (st' := [.int (gI s3 49 4), .int v5]) rfl ?_
  refine ev_br (P := v5 = gI s3 49 4) (L' := [(3, .int ((v2 * 134) + v4)), (0, .ref 49), (1, .int x1), (2, .int x2)]) (st' := []) hr rfl rfl rfl (fun hr => ?_) (fun hr => ?_)
  · skip
    exact ev_vret hr rfl rfl
  · skip
    refine ev_seg 5 (k' := 24) (L' := [(3, .int ((v2 * 134) + v4)), (0, .ref 49), (1, .int x1), (2, .int x2)]) (st' := [.int (gI s3 49 4), .int ((v2 * 134) + v4), .ref 50]) rfl ?_
    refine ev_stI hr rfl rfl (fun s6 hr => ?_)
    refine ev_seg 5 (k' := 30) (L' := [(3, .int ((v2 * 134) + v4)), (0, .ref 49), (1, .int x1), (2, .int x2)]) (st' := [.int ((v2 * 134) + v4), .int (gI s6 49 3), .ref 51]) rfl ?_
    refine ev_stI hr rfl rfl (fun s7 hr => ?_)
    refine ev_seg 5 (k' := 36) (L' := [(3, .int ((v2 * 134) + v4)), (0, .ref 49), (1, .int x1), (2, .int x2)]) (st' := [.int ((gI s7 49 3) + 1), .ref 49]) rfl ?_
    refine ev_putI (c := 49) hr rfl rfl rfl (fun s8 hr => ?_)
    exact ev_vret hr rfl rfl
set_option maxRecDepth 20000 in
theorem eMa_localOf (d : Nat) (x0 : Int32) (x1 : Int32) (s : aT) : ∀ r, (if 6 ≤ x0 then rI ((x0 - x1) + 6) s else rI x0 s) = some r → fMa_localOf d x0 x1 s = some r := by
  intro r hr
  show ev d q_92 0 [(0, .int x0), (1, .int x1)] [] s = some r
  refine ev_seg 2 (k' := 2) (L' := [(0, .int x0), (1, .int x1)]) (st' := [.int 6, .int x0]) rfl ?_
  refine ev_br (P := 6 ≤ x0) (L' := [(0, .int x0), (1, .int x1)]) (st' := []) hr rfl rfl rfl (fun hr => ?_) (fun hr => ?_)
  · skip
    refine ev_seg 5 (k' := 10) (L' := [(0, .int x0), (1, .int x1)]) (st' := [.int ((x0 - x1) + 6)]) rfl ?_
    exact ev_iret hr rfl rfl rfl
  · skip
    refine ev_seg 2 (k' := 10) (L' := [(0, .int x0), (1, .int x1)]) (st' := [.int x0]) rfl ?_
    exact ev_iret hr rfl rfl rfl
set_option maxRecDepth 20000 in
theorem eMa_schemaOf (d : Nat) (x0 : Int32) (x1 : Int32) (s : aT) : ∀ r, (if 6 ≤ x0 then rI ((x0 - 6) + x1) s else rI x0 s) = some r → fMa_schemaOf d x0 x1 s = some r := by
  intro r hr
  show ev d q_93 0 [(0, .int x0), (1, .int x1)] [] s = some r
  refine ev_seg 2 (k' := 2) (L' := [(0, .int x0), (1, .int x1)]) (st' := [.int 6, .int x0]) rfl ?_
  refine ev_br (P := 6 ≤ x0) (L' := [(0, .int x0), (1, .int x1)]) (st' := []) hr rfl rfl rfl (fun hr => ?_) (fun hr => ?_)
  · skip
    refine ev_seg 5 (k' := 10) (L' := [(0, .int x0), (1, .int x1)]) (st' := [.int ((x0 - 6) + x1)]) rfl ?_
    exact ev_iret hr rfl rfl rfl
  · skip
    refine ev_seg 2 (k' := 10) (L' := [(0, .int x0), (1, .int x1)]) (st' := [.int x0]) rfl ?_
    exact ev_iret hr rfl rfl rfl
set_option maxRecDepth 20000 in
theorem eMa_isPairFitting (d : Nat) (x1 : Int32) (x2 : Int32) (s : aT) : ∀ r, (ldI 5254 s 23 x1 (fun v1 => if ¬ v1 = 8 then ldI 5254 s 23 x2 (fun v2 => if ¬ v2 = 8 then cG (fMa_isAlike d x1 x2 s) (kI fun v4 s3 => if ¬ v4 = 0 then cG (fMa_isRow d x1 s3) (kI fun v6 s5 => if v6 = 0 then fMa_isPairFitting_81 (d + 1) x1 x2 s5 else ldI 5254 s5 27 x1 (fun v7 => ldI 5254 s5 27 x2 (fun v8 => cG (fMa_ask d v7 v8 s5) (kV fun s9 => fMa_isPairFitting_81 (d + 1) x1 x2 s9)))) else rI 0 s3) else cG (fMa_branchFor d x1 x2 s) (kI fun v11 s10 => if v11 = (-1) then fMa_isPairFitting_51 (d + 1) v11 s10 else cG (fSc_partSchemaOf d x2 v11 s10) (kI fun v13 s12 => cG (fMa_ask d x1 v13 s12) (kV fun s14 => fMa_isPairFitting_51 (d + 1) v11 s14)))) else fMa_isPairFitting_9 (d + 1) x1 x2 0 s)) = some r → fMa_isPairFitting (d + 1) x1 x2 s = some r := by
  intro r hr
  show ev (d + 1) q_94 0 [(0, .ref 49), (1, .int x1), (2, .int x2)] [] s = some r
  refine ev_seg 4 (k' := 4) (L' := [(0, .ref 49), (1, .int x1), (2, .int x2)]) (st' := [.int x1, .ref 23]) rfl ?_
  refine ev_ldI hr rfl rfl (fun v1 hr => ?_)
  refine ev_seg 1 (k' := 6) (L' := [(0, .ref 49), (1, .int x1), (2, .int x2)]) (st' := [.int 8, .int v1]) rfl ?_
  refine ev_br (P := ¬ v1 = 8) (L' := [(0, .ref 49), (1, .int x1), (2, .int x2)]) (st' := []) hr rfl rfl rfl (fun hr => ?_) (fun hr => ?_)
  · skip
    refine ev_seg 4 (k' := 32) (L' := [(0, .ref 49), (1, .int x1), (2, .int x2)]) (st' := [.int x2, .ref 23]) rfl ?_
    refine ev_ldI hr rfl rfl (fun v2 hr => ?_)
    refine ev_seg 1 (k' := 34) (L' := [(0, .ref 49), (1, .int x1), (2, .int x2)]) (st' := [.int 8, .int v2]) rfl ?_
    refine ev_br (P := ¬ v2 = 8) (L' := [(0, .ref 49), (1, .int x1), (2, .int x2)]) (st' := []) hr rfl rfl rfl (fun hr => ?_) (fun hr => ?_)
    · skip
      refine ev_seg 3 (k' := 61) (L' := [(0, .ref 49), (1, .int x1), (2, .int x2)]) (st' := [.int x2, .int x1, .ref 49]) rfl ?_
      refine ev_callV (q' := q_97) (x := 97) (y := 7) (c := 49) (As := [.int x1, .int x2]) (rest := []) hr rfl rfl rfl rfl rfl rfl rfl rfl rfl rfl rfl rfl (fun rv s3 hq => ev_kI hq (fun v4 e9 hr => ?_))
      subst e9
      refine ev_st (st' := [.int v4]) rfl ?_
      refine ev_br (P := ¬ v4 = 0) (L' := [(0, .ref 49), (1, .int x1), (2, .int x2)]) (st' := []) hr rfl rfl rfl (fun hr => ?_) (fun hr => ?_)
      · skip
        refine ev_seg 2 (k' := 67) (L' := [(0, .ref 49), (1, .int x1), (2, .int x2)]) (st' := [.int x1, .ref 49]) rfl ?_
        refine ev_callV (q' := q_99) (x := 99) (y := 7) (c := 49) (As := [.int x1]) (rest := []) hr rfl rfl rfl rfl rfl rfl rfl rfl rfl rfl rfl rfl (fun rv s5 hq => ev_kI hq (fun v6 e9 hr => ?_))
        subst e9
        refine ev_st (st' := [.int v6]) rfl ?_
        refine ev_br (P := v6 = 0) (L' := [(0, .ref 49), (1, .int x1), (2, .int x2)]) (st' := []) hr rfl rfl rfl (fun hr => ?_) (fun hr => ?_)
        · skip
          exact hr
        · skip
          refine ev_seg 5 (k' := 74) (L' := [(0, .ref 49), (1, .int x1), (2, .int x2)]) (st' := [.int x1, .ref 27, .ref 49]) rfl ?_
          refine ev_ldI hr rfl rfl (fun v7 hr => ?_)
          refine ev_seg 4 (k' := 79) (L' := [(0, .ref 49), (1, .int x1), (2, .int x2)]) (st' := [.int x2, .ref 27, .int v7, .ref 49]) rfl ?_
          refine ev_ldI hr rfl rfl (fun v8 hr => ?_)
          refine ev_callV (q' := q_91) (x := 91) (y := 7) (c := 49) (As := [.int v7, .int v8]) (rest := []) hr rfl rfl rfl rfl rfl rfl rfl rfl rfl rfl rfl rfl (fun rv s9 hq => ev_kV hq (fun e9 hr => ?_))
          subst e9
          refine ev_st (st' := []) rfl ?_
          exact hr
      · skip
        refine ev_seg 1 (k' := 64) (L' := [(0, .ref 49), (1, .int x1), (2, .int x2)]) (st' := [.int 0]) rfl ?_
        exact ev_iret hr rfl rfl rfl
    · skip
      refine ev_seg 3 (k' := 38) (L' := [(0, .ref 49), (1, .int x1), (2, .int x2)]) (st' := [.int x2, .int x1, .ref 49]) rfl ?_
      refine ev_callV (q' := q_95) (x := 95) (y := 7) (c := 49) (As := [.int x1, .int x2]) (rest := []) hr rfl rfl rfl rfl rfl rfl rfl rfl rfl rfl rfl rfl (fun rv s10 hq => ev_kI hq (fun v11 e9 hr => ?_))
      subst e9
      refine ev_st (st' := [.int v11]) rfl ?_
      refine ev_seg 3 (k' := 42) (L' := [(3, .int v11), (0, .ref 49), (1, .int x1), (2, .int x2)]) (st' := [.int (-1), .int v11]) rfl ?_
      refine ev_br (P := v11 = (-1)) (L' := [(3, .int v11), (0, .ref 49), (1, .int x1), (2, .int x2)]) (st' := []) hr rfl rfl rfl (fun hr => ?_) (fun hr => ?_)
      · skip
        refine ev_join (L' := [(3, .int v11)]) [0] [3, 0, 1, 2] [3] rfl rfl (by decide) (by decide) rfl ?_
        exact hr
      · skip
        refine ev_seg 6 (k' := 49) (L' := [(3, .int v11), (0, .ref 49), (1, .int x1), (2, .int x2)]) (st' := [.int v11, .int x2, .ref 22, .int x1, .ref 49]) rfl ?_
        refine ev_callV (q' := q_39) (x := 39) (y := 2) (c := 22) (As := [.int x2, .int v11]) (rest := [.int x1, .ref 49]) hr rfl rfl rfl rfl rfl rfl rfl rfl rfl rfl rfl rfl (fun rv s12 hq => ev_kI hq (fun v13 e9 hr => ?_))
        subst e9
        refine ev_st (st' := [.int v13, .int x1, .ref 49]) rfl ?_
        refine ev_callV (q' := q_91) (x := 91) (y := 7) (c := 49) (As := [.int x1, .int v13]) (rest := []) hr rfl rfl rfl rfl rfl rfl rfl rfl rfl rfl rfl rfl (fun rv s14 hq => ev_kV hq (fun e9 hr => ?_))
        subst e9
        refine ev_st (st' := []) rfl ?_
        refine ev_join (L' := [(3, .int v11)]) [0] [3, 0, 1, 2] [3] rfl rfl (by decide) (by decide) rfl ?_
        exact hr
  · skip
    refine ev_seg 2 (k' := 9) (L' := [(3, .int 0), (0, .ref 49), (1, .int x1), (2, .int x2)]) (st' := []) rfl ?_
    refine ev_join (L' := [(0, .ref 49), (1, .int x1), (2, .int x2), (3, .int 0)]) [1, 2, 3, 0] [3, 0, 1, 2] [0, 1, 2, 3] rfl rfl (by decide) (by decide) rfl ?_
    exact hr
set_option maxRecDepth 20000 in
theorem eMa_isPairFitting_81 (d : Nat) (x1 : Int32) (x2 : Int32) (s : aT) : ∀ r, (ldI 5254 s 23 x1 (fun v1 => if v1 = 10 then ldI 5254 s 27 x2 (fun v3 => if ¬ v3 = (-1) then rI 1 s else cG (fMa_hasAllSymbols d x1 x2 s) (kI fun v5 s4 => if v5 = 0 then rI 0 s4 else rI 1 s4)) else if v1 = 11 then cG (fMa_askFields d x1 x2 s) (kI fun v8 s7 => rZ v8 s7) else rI 1 s)) = some r → fMa_isPairFitting_81 (d + 1) x1 x2 s = some r := by
  intro r hr
  show ev (d + 1) q_94 81 [(0, .ref 49), (1, .int x1), (2, .int x2)] [] s = some r
  refine ev_seg 4 (k' := 85) (L' := [(0, .ref 49), (1, .int x1), (2, .int x2)]) (st' := [.int x1, .ref 23]) rfl ?_
  refine ev_ldI hr rfl rfl (fun v1 hr => ?_)
  refine ev_if hr (fun h2 hr => ?_) (fun h2 hr => ?_)
  · skip
    refine ev_look (o := 28) (t := 87) rfl rfl (by rw [h2]; rfl) rfl ?_
    refine ev_seg 4 (k' := 91) (L' := [(0, .ref 49), (1, .int x1), (2, .int x2)]) (st' := [.int x2, .ref 27]) rfl ?_
    refine ev_ldI hr rfl rfl (fun v3 hr => ?_)
    refine ev_seg 1 (k' := 93) (L' := [(0, .ref 49), (1, .int x1), (2, .int x2)]) (st' := [.int (-1), .int v3]) rfl ?_
    refine ev_br (P := ¬ v3 = (-1)) (L' := [(0, .ref 49), (1, .int x1), (2, .int x2)]) (st' := []) hr rfl rfl rfl (fun hr => ?_) (fun hr => ?_)
    · skip
      refine ev_seg 2 (k' := 102) (L' := [(0, .ref 49), (1, .int x1), (2, .int x2)]) (st' := [.int 1]) rfl ?_
      exact ev_iret hr rfl rfl rfl
    · skip
      refine ev_seg 3 (k' := 97) (L' := [(0, .ref 49), (1, .int x1), (2, .int x2)]) (st' := [.int x2, .int x1, .ref 49]) rfl ?_
      refine ev_callV (q' := q_101) (x := 101) (y := 7) (c := 49) (As := [.int x1, .int x2]) (rest := []) hr rfl rfl rfl rfl rfl rfl rfl rfl rfl rfl rfl rfl (fun rv s4 hq => ev_kI hq (fun v5 e9 hr => ?_))
      subst e9
      refine ev_st (st' := [.int v5]) rfl ?_
      refine ev_br (P := v5 = 0) (L' := [(0, .ref 49), (1, .int x1), (2, .int x2)]) (st' := []) hr rfl rfl rfl (fun hr => ?_) (fun hr => ?_)
      · skip
        refine ev_seg 1 (k' := 102) (L' := [(0, .ref 49), (1, .int x1), (2, .int x2)]) (st' := [.int 0]) rfl ?_
        exact ev_iret hr rfl rfl rfl
      · skip
        refine ev_seg 2 (k' := 102) (L' := [(0, .ref 49), (1, .int x1), (2, .int x2)]) (st' := [.int 1]) rfl ?_
        exact ev_iret hr rfl rfl rfl
  refine ev_if hr (fun h6 hr => ?_) (fun h6 hr => ?_)
  · skip
    refine ev_look (o := 56) (t := 103) rfl rfl (by rw [h6]; rfl) rfl ?_
    refine ev_seg 3 (k' := 106) (L' := [(0, .ref 49), (1, .int x1), (2, .int x2)]) (st' := [.int x2, .int x1, .ref 49]) rfl ?_
    refine ev_callV (q' := q_103) (x := 103) (y := 7) (c := 49) (As := [.int x1, .int x2]) (rest := []) hr rfl rfl rfl rfl rfl rfl rfl rfl rfl rfl rfl rfl (fun rv s7 hq => ev_kI hq (fun v8 e9 hr => ?_))
    subst e9
    refine ev_st (st' := [.int v8]) rfl ?_
    exact ev_zret hr rfl rfl
  refine ev_look (o := 63) (t := 108) rfl rfl (by have e0 := i_neL (z := 10) (w := 10) rfl h2; have e1 := i_neL (z := 11) (w := 11) rfl h6; simp only [Op.lookupswitch.offset, if_neg (Ne.symm e0), if_neg (Ne.symm e1)]) rfl ?_
  refine ev_seg 1 (k' := 109) (L' := [(0, .ref 49), (1, .int x1), (2, .int x2)]) (st' := [.int 1]) rfl ?_
  exact ev_iret hr rfl rfl rfl
set_option maxRecDepth 20000 in
theorem eMa_isPairFitting_51 (d : Nat) (z3 : Int32) (s : aT) : ∀ r, (if z3 = (-1) then rI 0 s else rI 1 s) = some r → fMa_isPairFitting_51 (d + 1) z3 s = some r := by
  intro r hr
  show ev (d + 1) q_94 51 [(3, .int z3)] [] s = some r
  refine ev_seg 2 (k' := 53) (L' := [(3, .int z3)]) (st' := [.int (-1), .int z3]) rfl ?_
  refine ev_br (P := z3 = (-1)) (L' := [(3, .int z3)]) (st' := []) hr rfl rfl rfl (fun hr => ?_) (fun hr => ?_)
  · skip
    refine ev_seg 1 (k' := 57) (L' := [(3, .int z3)]) (st' := [.int 0]) rfl ?_
    exact ev_iret hr rfl rfl rfl
  · skip
    refine ev_seg 2 (k' := 57) (L' := [(3, .int z3)]) (st' := [.int 1]) rfl ?_
    exact ev_iret hr rfl rfl rfl
set_option maxRecDepth 20000 in
theorem eMa_isPairFitting_9 (d : Nat) (x1 : Int32) (x2 : Int32) (z3 : Int32) (s : aT) : ∀ r, (ldI 5254 s 26 x1 (fun v1 => if v1 ≤ z3 then rI 1 s else cG (fSc_partSchemaOf d x1 z3 s) (kI fun v3 s2 => cG (fMa_ask d v3 x2 s2) (kV fun s4 => fMa_isPairFitting_9 (d + 1) x1 x2 (z3 + 1) s4)))) = some r → fMa_isPairFitting_9 (d + 1) x1 x2 z3 s = some r := by
  intro r hr
  show ev (d + 1) q_94 9 [(0, .ref 49), (1, .int x1), (2, .int x2), (3, .int z3)] [] s = some r
  refine ev_seg 5 (k' := 14) (L' := [(0, .ref 49), (1, .int x1), (2, .int x2), (3, .int z3)]) (st' := [.int x1, .ref 26, .int z3]) rfl ?_
  refine ev_ldI hr rfl rfl (fun v1 hr => ?_)
  refine ev_br (P := v1 ≤ z3) (L' := [(0, .ref 49), (1, .int x1), (2, .int x2), (3, .int z3)]) (st' := []) hr rfl rfl rfl (fun hr => ?_) (fun hr => ?_)
  · skip
    refine ev_seg 1 (k' := 27) (L' := [(0, .ref 49), (1, .int x1), (2, .int x2), (3, .int z3)]) (st' := [.int 1]) rfl ?_
    exact ev_iret hr rfl rfl rfl
  · skip
    refine ev_seg 5 (k' := 21) (L' := [(0, .ref 49), (1, .int x1), (2, .int x2), (3, .int z3)]) (st' := [.int z3, .int x1, .ref 22, .ref 49]) rfl ?_
    refine ev_callV (q' := q_39) (x := 39) (y := 2) (c := 22) (As := [.int x1, .int z3]) (rest := [.ref 49]) hr rfl rfl rfl rfl rfl rfl rfl rfl rfl rfl rfl rfl (fun rv s2 hq => ev_kI hq (fun v3 e9 hr => ?_))
    subst e9
    refine ev_st (st' := [.int v3, .ref 49]) rfl ?_
    refine ev_seg 1 (k' := 23) (L' := [(0, .ref 49), (1, .int x1), (2, .int x2), (3, .int z3)]) (st' := [.int x2, .int v3, .ref 49]) rfl ?_
    refine ev_callV (q' := q_91) (x := 91) (y := 7) (c := 49) (As := [.int v3, .int x2]) (rest := []) hr rfl rfl rfl rfl rfl rfl rfl rfl rfl rfl rfl rfl (fun rv s4 hq => ev_kV hq (fun e9 hr => ?_))
    subst e9
    refine ev_st (st' := []) rfl ?_
    refine ev_seg 2 (k' := 9) (L' := [(3, .int (z3 + 1)), (0, .ref 49), (1, .int x1), (2, .int x2)]) (st' := []) rfl ?_
    refine ev_join (L' := [(0, .ref 49), (1, .int x1), (2, .int x2), (3, .int (z3 + 1))]) [1, 2, 3, 0] [3, 0, 1, 2] [0, 1, 2, 3] rfl rfl (by decide) (by decide) rfl ?_
    exact hr
set_option maxRecDepth 20000 in
theorem eMa_branchFor (d : Nat) (x1 : Int32) (x2 : Int32) (s : aT) : ∀ r, (fMa_branchFor_2 (d + 1) x1 x2 0 s) = some r → fMa_branchFor (d + 1) x1 x2 s = some r := by
  intro r hr
  show ev (d + 1) q_95 0 [(0, .ref 49), (1, .int x1), (2, .int x2)] [] s = some r
  refine ev_seg 2 (k' := 2) (L' := [(3, .int 0), (0, .ref 49), (1, .int x1), (2, .int x2)]) (st' := []) rfl ?_
  refine ev_join (L' := [(0, .ref 49), (1, .int x1), (2, .int x2), (3, .int 0)]) [1, 2, 3, 0] [3, 0, 1, 2] [0, 1, 2, 3] rfl rfl (by decide) (by decide) rfl ?_
  exact hr
set_option maxRecDepth 20000 in
theorem eMa_branchFor_2 (d : Nat) (x1 : Int32) (x2 : Int32) (z3 : Int32) (s : aT) : ∀ r, (ldI 5254 s 26 x2 (fun v1 => if v1 ≤ z3 then rI (-1) s else cG (fSc_partSchemaOf d x2 z3 s) (kI fun v3 s2 => cG (fMa_isMatch d x1 v3 0 s2) (kI fun v5 s4 => if v5 = 0 then fMa_branchFor_2 (d + 1) x1 x2 (z3 + 1) s4 else rI z3 s4)))) = some r → fMa_branchFor_2 (d + 1) x1 x2 z3 s = some r := by
  intro r hr
  show ev (d + 1) q_95 2 [(0, .ref 49), (1, .int x1), (2, .int x2), (3, .int z3)] [] s = some r
  refine ev_seg 5 (k' := 7) (L' := [(0, .ref 49), (1, .int x1), (2, .int x2), (3, .int z3)]) (st' := [.int x2, .ref 26, .int z3]) rfl ?_
  refine ev_ldI hr rfl rfl (fun v1 hr => ?_)
  refine ev_br (P := v1 ≤ z3) (L' := [(0, .ref 49), (1, .int x1), (2, .int x2), (3, .int z3)]) (st' := []) hr rfl rfl rfl (fun hr => ?_) (fun hr => ?_)
  · skip
    refine ev_seg 1 (k' := 24) (L' := [(0, .ref 49), (1, .int x1), (2, .int x2), (3, .int z3)]) (st' := [.int (-1)]) rfl ?_
    exact ev_iret hr rfl rfl rfl
  · skip
    refine ev_seg 6 (k' := 15) (L' := [(0, .ref 49), (1, .int x1), (2, .int x2), (3, .int z3)]) (st' := [.int z3, .int x2, .ref 22, .int x1, .ref 49]) rfl ?_
    refine ev_callV (q' := q_39) (x := 39) (y := 2) (c := 22) (As := [.int x2, .int z3]) (rest := [.int x1, .ref 49]) hr rfl rfl rfl rfl rfl rfl rfl rfl rfl rfl rfl rfl (fun rv s2 hq => ev_kI hq (fun v3 e9 hr => ?_))
    subst e9
    refine ev_st (st' := [.int v3, .int x1, .ref 49]) rfl ?_
    refine ev_seg 1 (k' := 17) (L' := [(0, .ref 49), (1, .int x1), (2, .int x2), (3, .int z3)]) (st' := [.int 0, .int v3, .int x1, .ref 49]) rfl ?_
    refine ev_callV (q' := q_96) (x := 96) (y := 7) (c := 49) (As := [.int x1, .int v3, .int 0]) (rest := []) hr rfl rfl rfl rfl rfl rfl rfl rfl rfl rfl rfl rfl (fun rv s4 hq => ev_kI hq (fun v5 e9 hr => ?_))
    subst e9
    refine ev_st (st' := [.int v5]) rfl ?_
    refine ev_br (P := v5 = 0) (L' := [(0, .ref 49), (1, .int x1), (2, .int x2), (3, .int z3)]) (st' := []) hr rfl rfl rfl (fun hr => ?_) (fun hr => ?_)
    · skip
      refine ev_seg 2 (k' := 2) (L' := [(3, .int (z3 + 1)), (0, .ref 49), (1, .int x1), (2, .int x2)]) (st' := []) rfl ?_
      refine ev_join (L' := [(0, .ref 49), (1, .int x1), (2, .int x2), (3, .int (z3 + 1))]) [1, 2, 3, 0] [3, 0, 1, 2] [0, 1, 2, 3] rfl rfl (by decide) (by decide) rfl ?_
      exact hr
    · skip
      refine ev_seg 1 (k' := 20) (L' := [(0, .ref 49), (1, .int x1), (2, .int x2), (3, .int z3)]) (st' := [.int z3]) rfl ?_
      exact ev_iret hr rfl rfl rfl
set_option maxRecDepth 20000 in
theorem eMa_isMatch (d : Nat) (x1 : Int32) (x2 : Int32) (x3 : Int32) (s : aT) : ∀ r, (ldI 5254 s 23 x1 (fun v1 => if v1 = 8 then rI 1 s else ldI 5254 s 23 x2 (fun v2 => if ¬ v2 = 8 then if 16 < x3 then rI 0 s else cG (fMa_isAlike d x1 x2 s) (kI fun v4 s3 => if ¬ v4 = 0 then cG (fMa_isRow d x1 s3) (kI fun v6 s5 => if v6 = 0 then rI 1 s5 else ldI 5254 s5 27 x1 (fun v7 => ldI 5254 s5 27 x2 (fun v8 => cG (fMa_isMatch d v7 v8 (x3 + 1) s5) (kI fun v10 s9 => if v10 = 0 then rI 0 s9 else rI 1 s9)))) else rI 0 s3) else rI 1 s))) = some r → fMa_isMatch (d + 1) x1 x2 x3 s = some r := by
  intro r hr
  show ev (d + 1) q_96 0 [(0, .ref 49), (1, .int x1), (2, .int x2), (3, .int x3)] [] s = some r
  refine ev_seg 4 (k' := 4) (L' := [(0, .ref 49), (1, .int x1), (2, .int x2), (3, .int x3)]) (st' := [.int x1, .ref 23]) rfl ?_
  refine ev_ldI hr rfl rfl (fun v1 hr => ?_)
  refine ev_seg 1 (k' := 6) (L' := [(0, .ref 49), (1, .int x1), (2, .int x2), (3, .int x3)]) (st' := [.int 8, .int v1]) rfl ?_
  refine ev_br (P := v1 = 8) (L' := [(0, .ref 49), (1, .int x1), (2, .int x2), (3, .int x3)]) (st' := []) hr rfl rfl rfl (fun hr => ?_) (fun hr => ?_)
  · skip
    refine ev_seg 1 (k' := 15) (L' := [(0, .ref 49), (1, .int x1), (2, .int x2), (3, .int x3)]) (st' := [.int 1]) rfl ?_
    exact ev_iret hr rfl rfl rfl
  · skip
    refine ev_seg 4 (k' := 11) (L' := [(0, .ref 49), (1, .int x1), (2, .int x2), (3, .int x3)]) (st' := [.int x2, .ref 23]) rfl ?_
    refine ev_ldI hr rfl rfl (fun v2 hr => ?_)
    refine ev_seg 1 (k' := 13) (L' := [(0, .ref 49), (1, .int x1), (2, .int x2), (3, .int x3)]) (st' := [.int 8, .int v2]) rfl ?_
    refine ev_br (P := ¬ v2 = 8) (L' := [(0, .ref 49), (1, .int x1), (2, .int x2), (3, .int x3)]) (st' := []) hr rfl rfl rfl (fun hr => ?_) (fun hr => ?_)
    · skip
      refine ev_seg 2 (k' := 18) (L' := [(0, .ref 49), (1, .int x1), (2, .int x2), (3, .int x3)]) (st' := [.int 16, .int x3]) rfl ?_
      refine ev_br (P := 16 < x3) (L' := [(0, .ref 49), (1, .int x1), (2, .int x2), (3, .int x3)]) (st' := []) hr rfl rfl rfl (fun hr => ?_) (fun hr => ?_)
      · skip
        refine ev_seg 1 (k' := 25) (L' := [(0, .ref 49), (1, .int x1), (2, .int x2), (3, .int x3)]) (st' := [.int 0]) rfl ?_
        exact ev_iret hr rfl rfl rfl
      · skip
        refine ev_seg 3 (k' := 22) (L' := [(0, .ref 49), (1, .int x1), (2, .int x2), (3, .int x3)]) (st' := [.int x2, .int x1, .ref 49]) rfl ?_
        refine ev_callV (q' := q_97) (x := 97) (y := 7) (c := 49) (As := [.int x1, .int x2]) (rest := []) hr rfl rfl rfl rfl rfl rfl rfl rfl rfl rfl rfl rfl (fun rv s3 hq => ev_kI hq (fun v4 e9 hr => ?_))
        subst e9
        refine ev_st (st' := [.int v4]) rfl ?_
        refine ev_br (P := ¬ v4 = 0) (L' := [(0, .ref 49), (1, .int x1), (2, .int x2), (3, .int x3)]) (st' := []) hr rfl rfl rfl (fun hr => ?_) (fun hr => ?_)
        · skip
          refine ev_seg 2 (k' := 28) (L' := [(0, .ref 49), (1, .int x1), (2, .int x2), (3, .int x3)]) (st' := [.int x1, .ref 49]) rfl ?_
          refine ev_callV (q' := q_99) (x := 99) (y := 7) (c := 49) (As := [.int x1]) (rest := []) hr rfl rfl rfl rfl rfl rfl rfl rfl rfl rfl rfl rfl (fun rv s5 hq => ev_kI hq (fun v6 e9 hr => ?_))
          subst e9
          refine ev_st (st' := [.int v6]) rfl ?_
          refine ev_br (P := v6 = 0) (L' := [(0, .ref 49), (1, .int x1), (2, .int x2), (3, .int x3)]) (st' := []) hr rfl rfl rfl (fun hr => ?_) (fun hr => ?_)
          · skip
            refine ev_seg 2 (k' := 49) (L' := [(0, .ref 49), (1, .int x1), (2, .int x2), (3, .int x3)]) (st' := [.int 1]) rfl ?_
            exact ev_iret hr rfl rfl rfl
          · skip
            refine ev_seg 5 (k' := 35) (L' := [(0, .ref 49), (1, .int x1), (2, .int x2), (3, .int x3)]) (st' := [.int x1, .ref 27, .ref 49]) rfl ?_
            refine ev_ldI hr rfl rfl (fun v7 hr => ?_)
            refine ev_seg 4 (k' := 40) (L' := [(0, .ref 49), (1, .int x1), (2, .int x2), (3, .int x3)]) (st' := [.int x2, .ref 27, .int v7, .ref 49]) rfl ?_
            refine ev_ldI hr rfl rfl (fun v8 hr => ?_)
            refine ev_seg 3 (k' := 44) (L' := [(0, .ref 49), (1, .int x1), (2, .int x2), (3, .int x3)]) (st' := [.int (x3 + 1), .int v8, .int v7, .ref 49]) rfl ?_
            refine ev_callV (q' := q_96) (x := 96) (y := 7) (c := 49) (As := [.int v7, .int v8, .int (x3 + 1)]) (rest := []) hr rfl rfl rfl rfl rfl rfl rfl rfl rfl rfl rfl rfl (fun rv s9 hq => ev_kI hq (fun v10 e9 hr => ?_))
            subst e9
            refine ev_st (st' := [.int v10]) rfl ?_
            refine ev_br (P := v10 = 0) (L' := [(0, .ref 49), (1, .int x1), (2, .int x2), (3, .int x3)]) (st' := []) hr rfl rfl rfl (fun hr => ?_) (fun hr => ?_)
            · skip
              refine ev_seg 1 (k' := 49) (L' := [(0, .ref 49), (1, .int x1), (2, .int x2), (3, .int x3)]) (st' := [.int 0]) rfl ?_
              exact ev_iret hr rfl rfl rfl
            · skip
              refine ev_seg 2 (k' := 49) (L' := [(0, .ref 49), (1, .int x1), (2, .int x2), (3, .int x3)]) (st' := [.int 1]) rfl ?_
              exact ev_iret hr rfl rfl rfl
        · skip
          refine ev_seg 1 (k' := 25) (L' := [(0, .ref 49), (1, .int x1), (2, .int x2), (3, .int x3)]) (st' := [.int 0]) rfl ?_
          exact ev_iret hr rfl rfl rfl
    · skip
      refine ev_seg 1 (k' := 15) (L' := [(0, .ref 49), (1, .int x1), (2, .int x2), (3, .int x3)]) (st' := [.int 1]) rfl ?_
      exact ev_iret hr rfl rfl rfl
set_option maxRecDepth 20000 in
theorem eMa_isAlike (d : Nat) (x1 : Int32) (x2 : Int32) (s : aT) : ∀ r, (ldI 5254 s 23 x1 (fun v1 => if 6 ≤ v1 then ldI 5254 s 23 x2 (fun v2 => if v1 = v2 then if ¬ v1 = 9 then fMa_isAlike_42 (d + 1) x1 x2 s else ldI 5254 s 27 x1 (fun v3 => ldI 5254 s 27 x2 (fun v4 => if v3 = v4 then fMa_isAlike_42 (d + 1) x1 x2 s else rI 0 s)) else rI 0 s) else ldI 5254 s 23 x2 (fun v5 => cG (fMa_isAlikeWord d v1 v5 s) (kI fun v7 s6 => rZ v7 s6)))) = some r → fMa_isAlike (d + 1) x1 x2 s = some r := by
  intro r hr
  show ev (d + 1) q_97 0 [(0, .ref 49), (1, .int x1), (2, .int x2)] [] s = some r
  refine ev_seg 4 (k' := 4) (L' := [(0, .ref 49), (1, .int x1), (2, .int x2)]) (st' := [.int x1, .ref 23]) rfl ?_
  refine ev_ldI hr rfl rfl (fun v1 hr => ?_)
  refine ev_seg 3 (k' := 8) (L' := [(3, .int v1), (0, .ref 49), (1, .int x1), (2, .int x2)]) (st' := [.int 6, .int v1]) rfl ?_
  refine ev_br (P := 6 ≤ v1) (L' := [(3, .int v1), (0, .ref 49), (1, .int x1), (2, .int x2)]) (st' := []) hr rfl rfl rfl (fun hr => ?_) (fun hr => ?_)
  · skip
    refine ev_seg 5 (k' := 22) (L' := [(3, .int v1), (0, .ref 49), (1, .int x1), (2, .int x2)]) (st' := [.int x2, .ref 23, .int v1]) rfl ?_
    refine ev_ldI hr rfl rfl (fun v2 hr => ?_)
    refine ev_br (P := v1 = v2) (L' := [(3, .int v1), (0, .ref 49), (1, .int x1), (2, .int x2)]) (st' := []) hr rfl rfl rfl (fun hr => ?_) (fun hr => ?_)
    · skip
      refine ev_seg 2 (k' := 28) (L' := [(3, .int v1), (0, .ref 49), (1, .int x1), (2, .int x2)]) (st' := [.int 9, .int v1]) rfl ?_
      refine ev_br (P := ¬ v1 = 9) (L' := [(3, .int v1), (0, .ref 49), (1, .int x1), (2, .int x2)]) (st' := []) hr rfl rfl rfl (fun hr => ?_) (fun hr => ?_)
      · skip
        refine ev_join (L' := [(0, .ref 49), (1, .int x1), (2, .int x2)]) [1, 2, 3] [3, 0, 1, 2] [0, 1, 2] rfl rfl (by decide) (by decide) rfl ?_
        exact hr
      · skip
        refine ev_seg 4 (k' := 33) (L' := [(3, .int v1), (0, .ref 49), (1, .int x1), (2, .int x2)]) (st' := [.int x1, .ref 27]) rfl ?_
        refine ev_ldI hr rfl rfl (fun v3 hr => ?_)
        refine ev_seg 4 (k' := 38) (L' := [(3, .int v1), (0, .ref 49), (1, .int x1), (2, .int x2)]) (st' := [.int x2, .ref 27, .int v3]) rfl ?_
        refine ev_ldI hr rfl rfl (fun v4 hr => ?_)
        refine ev_br (P := v3 = v4) (L' := [(3, .int v1), (0, .ref 49), (1, .int x1), (2, .int x2)]) (st' := []) hr rfl rfl rfl (fun hr => ?_) (fun hr => ?_)
        · skip
          refine ev_join (L' := [(0, .ref 49), (1, .int x1), (2, .int x2)]) [1, 2, 3] [3, 0, 1, 2] [0, 1, 2] rfl rfl (by decide) (by decide) rfl ?_
          exact hr
        · skip
          refine ev_seg 1 (k' := 41) (L' := [(3, .int v1), (0, .ref 49), (1, .int x1), (2, .int x2)]) (st' := [.int 0]) rfl ?_
          exact ev_iret hr rfl rfl rfl
    · skip
      refine ev_seg 1 (k' := 25) (L' := [(3, .int v1), (0, .ref 49), (1, .int x1), (2, .int x2)]) (st' := [.int 0]) rfl ?_
      exact ev_iret hr rfl rfl rfl
  · skip
    refine ev_seg 5 (k' := 14) (L' := [(3, .int v1), (0, .ref 49), (1, .int x1), (2, .int x2)]) (st' := [.int x2, .ref 23, .int v1]) rfl ?_
    refine ev_ldI hr rfl rfl (fun v5 hr => ?_)
    refine ev_callS (q' := q_98) (x := 98) (vs := [.int v1, .int v5]) (rest := []) hr rfl rfl rfl rfl rfl rfl rfl rfl rfl rfl (fun rv s6 hq => ev_kI hq (fun v7 e9 hr => ?_))
    subst e9
    refine ev_st (st' := [.int v7]) rfl ?_
    exact ev_zret hr rfl rfl
set_option maxRecDepth 20000 in
theorem eMa_isAlike_42 (d : Nat) (x1 : Int32) (x2 : Int32) (s : aT) : ∀ r, (cG (fMa_isRow d x1 s) (kI fun v2 s1 => if ¬ v2 = 0 then rI 1 s1 else ldI 5254 s1 24 x1 (fun v3 => ldI 5254 s1 24 x2 (fun v4 => cG (fSc_isSameName d v3 v4 s1) (kI fun v6 s5 => if v6 = 0 then rI 0 s5 else rI 1 s5))))) = some r → fMa_isAlike_42 (d + 1) x1 x2 s = some r := by
  intro r hr
  show ev (d + 1) q_97 42 [(0, .ref 49), (1, .int x1), (2, .int x2)] [] s = some r
  refine ev_seg 2 (k' := 44) (L' := [(0, .ref 49), (1, .int x1), (2, .int x2)]) (st' := [.int x1, .ref 49]) rfl ?_
  refine ev_callV (q' := q_99) (x := 99) (y := 7) (c := 49) (As := [.int x1]) (rest := []) hr rfl rfl rfl rfl rfl rfl rfl rfl rfl rfl rfl rfl (fun rv s1 hq => ev_kI hq (fun v2 e9 hr => ?_))
  subst e9
  refine ev_st (st' := [.int v2]) rfl ?_
  refine ev_br (P := ¬ v2 = 0) (L' := [(0, .ref 49), (1, .int x1), (2, .int x2)]) (st' := []) hr rfl rfl rfl (fun hr => ?_) (fun hr => ?_)
  · skip
    refine ev_seg 2 (k' := 63) (L' := [(0, .ref 49), (1, .int x1), (2, .int x2)]) (st' := [.int 1]) rfl ?_
    exact ev_iret hr rfl rfl rfl
  · skip
    refine ev_seg 6 (k' := 52) (L' := [(0, .ref 49), (1, .int x1), (2, .int x2)]) (st' := [.int x1, .ref 24, .ref 22]) rfl ?_
    refine ev_ldI hr rfl rfl (fun v3 hr => ?_)
    refine ev_seg 4 (k' := 57) (L' := [(0, .ref 49), (1, .int x1), (2, .int x2)]) (st' := [.int x2, .ref 24, .int v3, .ref 22]) rfl ?_
    refine ev_ldI hr rfl rfl (fun v4 hr => ?_)
    refine ev_callV (q' := q_100) (x := 100) (y := 2) (c := 22) (As := [.int v3, .int v4]) (rest := []) hr rfl rfl rfl rfl rfl rfl rfl rfl rfl rfl rfl rfl (fun rv s5 hq => ev_kI hq (fun v6 e9 hr => ?_))
    subst e9
    refine ev_st (st' := [.int v6]) rfl ?_
    refine ev_br (P := v6 = 0) (L' := [(0, .ref 49), (1, .int x1), (2, .int x2)]) (st' := []) hr rfl rfl rfl (fun hr => ?_) (fun hr => ?_)
    · skip
      refine ev_seg 1 (k' := 63) (L' := [(0, .ref 49), (1, .int x1), (2, .int x2)]) (st' := [.int 0]) rfl ?_
      exact ev_iret hr rfl rfl rfl
    · skip
      refine ev_seg 2 (k' := 63) (L' := [(0, .ref 49), (1, .int x1), (2, .int x2)]) (st' := [.int 1]) rfl ?_
      exact ev_iret hr rfl rfl rfl
set_option maxRecDepth 20000 in
theorem eMa_isAlikeWord (d : Nat) (x0 : Int32) (x1 : Int32) (s : aT) : ∀ r, (if x0 = 4 then fMa_isAlikeWord_6 d x0 x1 s else if ¬ x0 = 5 then fMa_isAlikeWord_9 d x0 x1 0 s else fMa_isAlikeWord_6 d x0 x1 s) = some r → fMa_isAlikeWord d x0 x1 s = some r := by
  intro r hr
  show ev d q_98 0 [(0, .int x0), (1, .int x1)] [] s = some r
  refine ev_seg 2 (k' := 2) (L' := [(0, .int x0), (1, .int x1)]) (st' := [.int 4, .int x0]) rfl ?_
  refine ev_br (P := x0 = 4) (L' := [(0, .int x0), (1, .int x1)]) (st' := []) hr rfl rfl rfl (fun hr => ?_) (fun hr => ?_)
  · skip
    exact hr
  · skip
    refine ev_seg 2 (k' := 5) (L' := [(0, .int x0), (1, .int x1)]) (st' := [.int 5, .int x0]) rfl ?_
    refine ev_br (P := ¬ x0 = 5) (L' := [(0, .int x0), (1, .int x1)]) (st' := []) hr rfl rfl rfl (fun hr => ?_) (fun hr => ?_)
    · skip
      refine ev_seg 1 (k' := 9) (L' := [(0, .int x0), (1, .int x1)]) (st' := [.int 0]) rfl ?_
      exact hr
    · skip
      exact hr
set_option maxRecDepth 20000 in
theorem eMa_isAlikeWord_6 (d : Nat) (x0 : Int32) (x1 : Int32) (s : aT) : ∀ r, (fMa_isAlikeWord_9 d x0 x1 1 s) = some r → fMa_isAlikeWord_6 d x0 x1 s = some r := by
  intro r hr
  show ev d q_98 6 [(0, .int x0), (1, .int x1)] [] s = some r
  refine ev_seg 2 (k' := 9) (L' := [(0, .int x0), (1, .int x1)]) (st' := [.int 1]) rfl ?_
  exact hr
set_option maxRecDepth 20000 in
theorem eMa_isAlikeWord_9 (d : Nat) (x0 : Int32) (x1 : Int32) (u0 : Int32) (s : aT) : ∀ r, (if x0 = x1 then rI 1 s else if ¬ x0 = 2 then fMa_isAlikeWord_19 d x1 u0 s else if x1 = 3 then rI 1 s else fMa_isAlikeWord_19 d x1 u0 s) = some r → fMa_isAlikeWord_9 d x0 x1 u0 s = some r := by
  intro r hr
  show ev d q_98 9 [(0, .int x0), (1, .int x1)] [.int u0] s = some r
  refine ev_seg 3 (k' := 12) (L' := [(2, .int u0), (0, .int x0), (1, .int x1)]) (st' := [.int x1, .int x0]) rfl ?_
  refine ev_br (P := x0 = x1) (L' := [(2, .int u0), (0, .int x0), (1, .int x1)]) (st' := []) hr rfl rfl rfl (fun hr => ?_) (fun hr => ?_)
  · skip
    refine ev_seg 2 (k' := 30) (L' := [(2, .int u0), (0, .int x0), (1, .int x1)]) (st' := [.int 1]) rfl ?_
    exact ev_iret hr rfl rfl rfl
  · skip
    refine ev_seg 2 (k' := 15) (L' := [(2, .int u0), (0, .int x0), (1, .int x1)]) (st' := [.int 2, .int x0]) rfl ?_
    refine ev_br (P := ¬ x0 = 2) (L' := [(2, .int u0), (0, .int x0), (1, .int x1)]) (st' := []) hr rfl rfl rfl (fun hr => ?_) (fun hr => ?_)
    · skip
      refine ev_join (L' := [(1, .int x1), (2, .int u0)]) [2, 0] [2, 0, 1] [1, 2] rfl rfl (by decide) (by decide) rfl ?_
      exact hr
    · skip
      refine ev_seg 2 (k' := 18) (L' := [(2, .int u0), (0, .int x0), (1, .int x1)]) (st' := [.int 3, .int x1]) rfl ?_
      refine ev_br (P := x1 = 3) (L' := [(2, .int u0), (0, .int x0), (1, .int x1)]) (st' := []) hr rfl rfl rfl (fun hr => ?_) (fun hr => ?_)
      · skip
        refine ev_seg 2 (k' := 30) (L' := [(2, .int u0), (0, .int x0), (1, .int x1)]) (st' := [.int 1]) rfl ?_
        exact ev_iret hr rfl rfl rfl
      · skip
        refine ev_join (L' := [(1, .int x1), (2, .int u0)]) [2, 0] [2, 0, 1] [1, 2] rfl rfl (by decide) (by decide) rfl ?_
        exact hr
set_option maxRecDepth 20000 in
theorem eMa_isAlikeWord_19 (d : Nat) (x1 : Int32) (z2 : Int32) (s : aT) : ∀ r, (if z2 = 0 then rI 0 s else if x1 = 4 then rI 1 s else if ¬ x1 = 5 then rI 0 s else rI 1 s) = some r → fMa_isAlikeWord_19 d x1 z2 s = some r := by
  intro r hr
  show ev d q_98 19 [(1, .int x1), (2, .int z2)] [] s = some r
  refine ev_seg 1 (k' := 20) (L' := [(1, .int x1), (2, .int z2)]) (st' := [.int z2]) rfl ?_
  refine ev_br (P := z2 = 0) (L' := [(1, .int x1), (2, .int z2)]) (st' := []) hr rfl rfl rfl (fun hr => ?_) (fun hr => ?_)
  · skip
    refine ev_seg 1 (k' := 30) (L' := [(1, .int x1), (2, .int z2)]) (st' := [.int 0]) rfl ?_
    exact ev_iret hr rfl rfl rfl
  · skip
    refine ev_seg 2 (k' := 23) (L' := [(1, .int x1), (2, .int z2)]) (st' := [.int 4, .int x1]) rfl ?_
    refine ev_br (P := x1 = 4) (L' := [(1, .int x1), (2, .int z2)]) (st' := []) hr rfl rfl rfl (fun hr => ?_) (fun hr => ?_)
    · skip
      refine ev_seg 2 (k' := 30) (L' := [(1, .int x1), (2, .int z2)]) (st' := [.int 1]) rfl ?_
      exact ev_iret hr rfl rfl rfl
    · skip
      refine ev_seg 2 (k' := 26) (L' := [(1, .int x1), (2, .int z2)]) (st' := [.int 5, .int x1]) rfl ?_
      refine ev_br (P := ¬ x1 = 5) (L' := [(1, .int x1), (2, .int z2)]) (st' := []) hr rfl rfl rfl (fun hr => ?_) (fun hr => ?_)
      · skip
        refine ev_seg 1 (k' := 30) (L' := [(1, .int x1), (2, .int z2)]) (st' := [.int 0]) rfl ?_
        exact ev_iret hr rfl rfl rfl
      · skip
        refine ev_seg 2 (k' := 30) (L' := [(1, .int x1), (2, .int z2)]) (st' := [.int 1]) rfl ?_
        exact ev_iret hr rfl rfl rfl
set_option maxRecDepth 20000 in
theorem eMa_isRow (d : Nat) (x1 : Int32) (s : aT) : ∀ r, (ldI 5254 s 23 x1 (fun v1 => if v1 = 6 then rI 1 s else ldI 5254 s 23 x1 (fun v2 => if ¬ v2 = 7 then rI 0 s else rI 1 s))) = some r → fMa_isRow d x1 s = some r := by
  intro r hr
  show ev d q_99 0 [(0, .ref 49), (1, .int x1)] [] s = some r
  refine ev_seg 4 (k' := 4) (L' := [(0, .ref 49), (1, .int x1)]) (st' := [.int x1, .ref 23]) rfl ?_
  refine ev_ldI hr rfl rfl (fun v1 hr => ?_)
  refine ev_seg 1 (k' := 6) (L' := [(0, .ref 49), (1, .int x1)]) (st' := [.int 6, .int v1]) rfl ?_
  refine ev_br (P := v1 = 6) (L' := [(0, .ref 49), (1, .int x1)]) (st' := []) hr rfl rfl rfl (fun hr => ?_) (fun hr => ?_)
  · skip
    refine ev_seg 2 (k' := 17) (L' := [(0, .ref 49), (1, .int x1)]) (st' := [.int 1]) rfl ?_
    exact ev_iret hr rfl rfl rfl
  · skip
    refine ev_seg 4 (k' := 11) (L' := [(0, .ref 49), (1, .int x1)]) (st' := [.int x1, .ref 23]) rfl ?_
    refine ev_ldI hr rfl rfl (fun v2 hr => ?_)
    refine ev_seg 1 (k' := 13) (L' := [(0, .ref 49), (1, .int x1)]) (st' := [.int 7, .int v2]) rfl ?_
    refine ev_br (P := ¬ v2 = 7) (L' := [(0, .ref 49), (1, .int x1)]) (st' := []) hr rfl rfl rfl (fun hr => ?_) (fun hr => ?_)
    · skip
      refine ev_seg 1 (k' := 17) (L' := [(0, .ref 49), (1, .int x1)]) (st' := [.int 0]) rfl ?_
      exact ev_iret hr rfl rfl rfl
    · skip
      refine ev_seg 2 (k' := 17) (L' := [(0, .ref 49), (1, .int x1)]) (st' := [.int 1]) rfl ?_
      exact ev_iret hr rfl rfl rfl
set_option maxRecDepth 20000 in
theorem eMa_hasAllSymbols (d : Nat) (x1 : Int32) (x2 : Int32) (s : aT) : ∀ r, (fMa_hasAllSymbols_2 (d + 1) x1 x2 0 s) = some r → fMa_hasAllSymbols (d + 1) x1 x2 s = some r := by
  intro r hr
  show ev (d + 1) q_101 0 [(0, .ref 49), (1, .int x1), (2, .int x2)] [] s = some r
  refine ev_seg 2 (k' := 2) (L' := [(3, .int 0), (0, .ref 49), (1, .int x1), (2, .int x2)]) (st' := []) rfl ?_
  refine ev_join (L' := [(0, .ref 49), (1, .int x1), (2, .int x2), (3, .int 0)]) [1, 2, 3, 0] [3, 0, 1, 2] [0, 1, 2, 3] rfl rfl (by decide) (by decide) rfl ?_
  exact hr
set_option maxRecDepth 20000 in
theorem eMa_hasAllSymbols_2 (d : Nat) (x1 : Int32) (x2 : Int32) (z3 : Int32) (s : aT) : ∀ r, (ldI 5254 s 26 x1 (fun v1 => if v1 ≤ z3 then rI 1 s else ldI 5254 s 25 x1 (fun v2 => cG (fSc_partLike d x2 (v2 + z3) s) (kI fun v4 s3 => if ¬ v4 = (-1) then fMa_hasAllSymbols_2 (d + 1) x1 x2 (z3 + 1) s3 else rI 0 s3)))) = some r → fMa_hasAllSymbols_2 (d + 1) x1 x2 z3 s = some r := by
  intro r hr
  show ev (d + 1) q_101 2 [(0, .ref 49), (1, .int x1), (2, .int x2), (3, .int z3)] [] s = some r
  refine ev_seg 5 (k' := 7) (L' := [(0, .ref 49), (1, .int x1), (2, .int x2), (3, .int z3)]) (st' := [.int x1, .ref 26, .int z3]) rfl ?_
  refine ev_ldI hr rfl rfl (fun v1 hr => ?_)
  refine ev_br (P := v1 ≤ z3) (L' := [(0, .ref 49), (1, .int x1), (2, .int x2), (3, .int z3)]) (st' := []) hr rfl rfl rfl (fun hr => ?_) (fun hr => ?_)
  · skip
    refine ev_seg 1 (k' := 27) (L' := [(0, .ref 49), (1, .int x1), (2, .int x2), (3, .int z3)]) (st' := [.int 1]) rfl ?_
    exact ev_iret hr rfl rfl rfl
  · skip
    refine ev_seg 7 (k' := 16) (L' := [(0, .ref 49), (1, .int x1), (2, .int x2), (3, .int z3)]) (st' := [.int x1, .ref 25, .int x2, .ref 22]) rfl ?_
    refine ev_ldI hr rfl rfl (fun v2 hr => ?_)
    refine ev_seg 2 (k' := 19) (L' := [(0, .ref 49), (1, .int x1), (2, .int x2), (3, .int z3)]) (st' := [.int (v2 + z3), .int x2, .ref 22]) rfl ?_
    refine ev_callV (q' := q_102) (x := 102) (y := 2) (c := 22) (As := [.int x2, .int (v2 + z3)]) (rest := []) hr rfl rfl rfl rfl rfl rfl rfl rfl rfl rfl rfl rfl (fun rv s3 hq => ev_kI hq (fun v4 e9 hr => ?_))
    subst e9
    refine ev_st (st' := [.int v4]) rfl ?_
    refine ev_seg 1 (k' := 21) (L' := [(0, .ref 49), (1, .int x1), (2, .int x2), (3, .int z3)]) (st' := [.int (-1), .int v4]) rfl ?_
    refine ev_br (P := ¬ v4 = (-1)) (L' := [(0, .ref 49), (1, .int x1), (2, .int x2), (3, .int z3)]) (st' := []) hr rfl rfl rfl (fun hr => ?_) (fun hr => ?_)
    · skip
      refine ev_seg 2 (k' := 2) (L' := [(3, .int (z3 + 1)), (0, .ref 49), (1, .int x1), (2, .int x2)]) (st' := []) rfl ?_
      refine ev_join (L' := [(0, .ref 49), (1, .int x1), (2, .int x2), (3, .int (z3 + 1))]) [1, 2, 3, 0] [3, 0, 1, 2] [0, 1, 2, 3] rfl rfl (by decide) (by decide) rfl ?_
      exact hr
    · skip
      refine ev_seg 1 (k' := 23) (L' := [(0, .ref 49), (1, .int x1), (2, .int x2), (3, .int z3)]) (st' := [.int 0]) rfl ?_
      exact ev_iret hr rfl rfl rfl
set_option maxRecDepth 20000 in
theorem eMa_askFields (d : Nat) (x1 : Int32) (x2 : Int32) (s : aT) : ∀ r, (fMa_askFields_2 (d + 1) x1 x2 0 s) = some r → fMa_askFields (d + 1) x1 x2 s = some r := by
  intro r hr
  show ev (d + 1) q_103 0 [(0, .ref 49), (1, .int x1), (2, .int x2)] [] s = some r
  refine ev_seg 2 (k' := 2) (L' := [(3, .int 0), (0, .ref 49), (1, .int x1), (2, .int x2)]) (st' := []) rfl ?_
  refine ev_join (L' := [(0, .ref 49), (1, .int x1), (2, .int x2), (3, .int 0)]) [1, 2, 3, 0] [3, 0, 1, 2] [0, 1, 2, 3] rfl rfl (by decide) (by decide) rfl ?_
  exact hr
set_option maxRecDepth 20000 in
theorem eMa_askFields_2 (d : Nat) (x1 : Int32) (x2 : Int32) (z3 : Int32) (s : aT) : ∀ r, (ldI 5254 s 26 x2 (fun v1 => if v1 ≤ z3 then rI 1 s else ldI 5254 s 25 x2 (fun v2 => cG (fSc_partLike d x1 (v2 + z3) s) (kI fun v4 s3 => if ¬ v4 = (-1) then fMa_askFields_35 (d + 1) x1 x2 z3 (v2 + z3) v4 s3 else ldI 10112 s3 30 (v2 + z3) (fun v5 => if ¬ v5 = (-1) then fMa_askFields_35 (d + 1) x1 x2 z3 (v2 + z3) v4 s3 else rI 0 s3))))) = some r → fMa_askFields_2 (d + 1) x1 x2 z3 s = some r := by
  intro r hr
  show ev (d + 1) q_103 2 [(0, .ref 49), (1, .int x1), (2, .int x2), (3, .int z3)] [] s = some r
  refine ev_seg 5 (k' := 7) (L' := [(0, .ref 49), (1, .int x1), (2, .int x2), (3, .int z3)]) (st' := [.int x2, .ref 26, .int z3]) rfl ?_
  refine ev_ldI hr rfl rfl (fun v1 hr => ?_)
  refine ev_br (P := v1 ≤ z3) (L' := [(0, .ref 49), (1, .int x1), (2, .int x2), (3, .int z3)]) (st' := []) hr rfl rfl rfl (fun hr => ?_) (fun hr => ?_)
  · skip
    refine ev_seg 1 (k' := 53) (L' := [(0, .ref 49), (1, .int x1), (2, .int x2), (3, .int z3)]) (st' := [.int 1]) rfl ?_
    exact ev_iret hr rfl rfl rfl
  · skip
    refine ev_seg 4 (k' := 13) (L' := [(0, .ref 49), (1, .int x1), (2, .int x2), (3, .int z3)]) (st' := [.int x2, .ref 25]) rfl ?_
    refine ev_ldI hr rfl rfl (fun v2 hr => ?_)
    refine ev_seg 7 (k' := 21) (L' := [(4, .int (v2 + z3)), (0, .ref 49), (1, .int x1), (2, .int x2), (3, .int z3)]) (st' := [.int (v2 + z3), .int x1, .ref 22]) rfl ?_
    refine ev_callV (q' := q_102) (x := 102) (y := 2) (c := 22) (As := [.int x1, .int (v2 + z3)]) (rest := []) hr rfl rfl rfl rfl rfl rfl rfl rfl rfl rfl rfl rfl (fun rv s3 hq => ev_kI hq (fun v4 e9 hr => ?_))
    subst e9
    refine ev_st (st' := [.int v4]) rfl ?_
    refine ev_seg 3 (k' := 25) (L' := [(5, .int v4), (4, .int (v2 + z3)), (0, .ref 49), (1, .int x1), (2, .int x2), (3, .int z3)]) (st' := [.int (-1), .int v4]) rfl ?_
    refine ev_br (P := ¬ v4 = (-1)) (L' := [(5, .int v4), (4, .int (v2 + z3)), (0, .ref 49), (1, .int x1), (2, .int x2), (3, .int z3)]) (st' := []) hr rfl rfl rfl (fun hr => ?_) (fun hr => ?_)
    · skip
      refine ev_join (L' := [(0, .ref 49), (1, .int x1), (2, .int x2), (3, .int z3), (4, .int (v2 + z3)), (5, .int v4)]) [2, 3, 4, 5, 1, 0] [5, 4, 0, 1, 2, 3] [0, 1, 2, 3, 4, 5] rfl rfl (by decide) (by decide) rfl ?_
      exact hr
    · skip
      refine ev_seg 4 (k' := 30) (L' := [(5, .int v4), (4, .int (v2 + z3)), (0, .ref 49), (1, .int x1), (2, .int x2), (3, .int z3)]) (st' := [.int (v2 + z3), .ref 30]) rfl ?_
      refine ev_ldI hr rfl rfl (fun v5 hr => ?_)
      refine ev_seg 1 (k' := 32) (L' := [(5, .int v4), (4, .int (v2 + z3)), (0, .ref 49), (1, .int x1), (2, .int x2), (3, .int z3)]) (st' := [.int (-1), .int v5]) rfl ?_
      refine ev_br (P := ¬ v5 = (-1)) (L' := [(5, .int v4), (4, .int (v2 + z3)), (0, .ref 49), (1, .int x1), (2, .int x2), (3, .int z3)]) (st' := []) hr rfl rfl rfl (fun hr => ?_) (fun hr => ?_)
      · skip
        refine ev_join (L' := [(0, .ref 49), (1, .int x1), (2, .int x2), (3, .int z3), (4, .int (v2 + z3)), (5, .int v4)]) [2, 3, 4, 5, 1, 0] [5, 4, 0, 1, 2, 3] [0, 1, 2, 3, 4, 5] rfl rfl (by decide) (by decide) rfl ?_
        exact hr
      · skip
        refine ev_seg 1 (k' := 34) (L' := [(5, .int v4), (4, .int (v2 + z3)), (0, .ref 49), (1, .int x1), (2, .int x2), (3, .int z3)]) (st' := [.int 0]) rfl ?_
        exact ev_iret hr rfl rfl rfl
set_option maxRecDepth 20000 in
theorem eMa_askFields_35 (d : Nat) (x1 : Int32) (x2 : Int32) (z3 : Int32) (z4 : Int32) (z5 : Int32) (s : aT) : ∀ r, (if z5 = (-1) then fMa_askFields_50 (d + 1) x1 x2 z3 s else cG (fSc_partSchemaOf d x1 z5 s) (kI fun v2 s1 => ldI 10112 s1 29 z4 (fun v3 => cG (fMa_ask d v2 v3 s1) (kV fun s4 => fMa_askFields_50 (d + 1) x1 x2 z3 s4)))) = some r → fMa_askFields_35 (d + 1) x1 x2 z3 z4 z5 s = some r := by
  intro r hr
  show ev (d + 1) q_103 35 [(0, .ref 49), (1, .int x1), (2, .int x2), (3, .int z3), (4, .int z4), (5, .int z5)] [] s = some r
  refine ev_seg 2 (k' := 37) (L' := [(0, .ref 49), (1, .int x1), (2, .int x2), (3, .int z3), (4, .int z4), (5, .int z5)]) (st' := [.int (-1), .int z5]) rfl ?_
  refine ev_br (P := z5 = (-1)) (L' := [(0, .ref 49), (1, .int x1), (2, .int x2), (3, .int z3), (4, .int z4), (5, .int z5)]) (st' := []) hr rfl rfl rfl (fun hr => ?_) (fun hr => ?_)
  · skip
    refine ev_join (L' := [(0, .ref 49), (1, .int x1), (2, .int x2), (3, .int z3)]) [0, 1, 2, 3] [0, 1, 2, 3, 4, 5] [0, 1, 2, 3] rfl rfl (by decide) (by decide) rfl ?_
    exact hr
  · skip
    refine ev_seg 5 (k' := 43) (L' := [(0, .ref 49), (1, .int x1), (2, .int x2), (3, .int z3), (4, .int z4), (5, .int z5)]) (st' := [.int z5, .int x1, .ref 22, .ref 49]) rfl ?_
    refine ev_callV (q' := q_39) (x := 39) (y := 2) (c := 22) (As := [.int x1, .int z5]) (rest := [.ref 49]) hr rfl rfl rfl rfl rfl rfl rfl rfl rfl rfl rfl rfl (fun rv s1 hq => ev_kI hq (fun v2 e9 hr => ?_))
    subst e9
    refine ev_st (st' := [.int v2, .ref 49]) rfl ?_
    refine ev_seg 4 (k' := 48) (L' := [(0, .ref 49), (1, .int x1), (2, .int x2), (3, .int z3), (4, .int z4), (5, .int z5)]) (st' := [.int z4, .ref 29, .int v2, .ref 49]) rfl ?_
    refine ev_ldI hr rfl rfl (fun v3 hr => ?_)
    refine ev_callV (q' := q_91) (x := 91) (y := 7) (c := 49) (As := [.int v2, .int v3]) (rest := []) hr rfl rfl rfl rfl rfl rfl rfl rfl rfl rfl rfl rfl (fun rv s4 hq => ev_kV hq (fun e9 hr => ?_))
    subst e9
    refine ev_st (st' := []) rfl ?_
    refine ev_join (L' := [(0, .ref 49), (1, .int x1), (2, .int x2), (3, .int z3)]) [0, 1, 2, 3] [0, 1, 2, 3, 4, 5] [0, 1, 2, 3] rfl rfl (by decide) (by decide) rfl ?_
    exact hr
set_option maxRecDepth 20000 in
theorem eMa_askFields_50 (d : Nat) (x1 : Int32) (x2 : Int32) (z3 : Int32) (s : aT) : ∀ r, (fMa_askFields_2 (d + 1) x1 x2 (z3 + 1) s) = some r → fMa_askFields_50 (d + 1) x1 x2 z3 s = some r := by
  intro r hr
  show ev (d + 1) q_103 50 [(0, .ref 49), (1, .int x1), (2, .int x2), (3, .int z3)] [] s = some r
  refine ev_seg 2 (k' := 2) (L' := [(3, .int (z3 + 1)), (0, .ref 49), (1, .int x1), (2, .int x2)]) (st' := []) rfl ?_
  refine ev_join (L' := [(0, .ref 49), (1, .int x1), (2, .int x2), (3, .int (z3 + 1))]) [1, 2, 3, 0] [3, 0, 1, 2] [0, 1, 2, 3] rfl rfl (by decide) (by decide) rfl ?_
  exact hr
