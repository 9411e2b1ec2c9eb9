/-! RecordLake: what its pieces do -/
set_option maxRecDepth 20000 in
theorem eLk_schema (d : Nat) (s : aT) : ∀ r, (cG (fLk_readTape d s) (kI fun v2 s1 => cG (fSc_drop d s1) (kV fun s3 => rI (gI s3 37 0) s3))) = some r → fLk_schema (d + 1) s = some r := by
  intro r hr
  show ev (d + 1) q_0 0 [(0, .ref 0)] [] s = some r
  refine ev_seg 1 (k' := 1) (L' := [(0, .ref 0)]) (st' := [.ref 0]) rfl ?_
  refine ev_callV (q' := q_1) (x := 1) (y := 11) (c := 0) (As := []) (rest := []) hr rfl rfl rfl rfl rfl rfl rfl rfl rfl rfl rfl rfl (fun rv s1 hq => ev_kI hq (fun v2 e9 hr => ?_))
  subst e9
  refine ev_st (st' := [.int v2]) rfl ?_
  refine ev_seg 3 (k' := 5) (L' := [(0, .ref 0)]) (st' := [.ref 22]) rfl ?_
  refine ev_callV (q' := q_79) (x := 79) (y := 2) (c := 22) (As := []) (rest := []) hr rfl rfl rfl rfl rfl rfl rfl rfl rfl rfl rfl rfl (fun rv s3 hq => ev_kV hq (fun e9 hr => ?_))
  subst e9
  refine ev_st (st' := []) rfl ?_
  refine ev_seg 3 (k' := 9) (L' := [(0, .ref 0)]) (st' := [.int (gI s3 37 0)]) rfl ?_
  exact ev_iret hr rfl rfl rfl
set_option maxRecDepth 20000 in
theorem eLk_readTape (d : Nat) (s : aT) : ∀ r, (cG (fTx_parse d 2 0 (gI s 1 1) s) (kV fun s1 => cG (fSr_readSchema d s1) (kI fun v3 s2 => wI s2 3 1 0 (fun s4 => if v3 = (-1) then wI s4 0 15 (gI s4 37 1) (fun s5 => rI v3 s5) else cG (fPf_writeTo d 3 v3 s4) (kV fun s6 => wI s6 0 15 (gI s6 37 1) (fun s7 => rI v3 s7)))))) = some r → fLk_readTape (d + 1) s = some r := by
  intro r hr
  show ev (d + 1) q_1 0 [(0, .ref 0)] [] s = some r
  refine ev_seg 9 (k' := 9) (L' := [(0, .ref 0)]) (st' := [.int (gI s 1 1), .int 0, .ref 2, .ref 13]) rfl ?_
  refine ev_callV (q' := q_2) (x := 2) (y := 1) (c := 13) (As := [.ref 2, .int 0, .int (gI s 1 1)]) (rest := []) hr rfl rfl rfl rfl rfl rfl rfl rfl rfl rfl rfl rfl (fun rv s1 hq => ev_kV hq (fun e9 hr => ?_))
  subst e9
  refine ev_st (st' := []) rfl ?_
  refine ev_seg 2 (k' := 12) (L' := [(0, .ref 0)]) (st' := [.ref 37]) rfl ?_
  refine ev_callV (q' := q_25) (x := 25) (y := 3) (c := 37) (As := []) (rest := []) hr rfl rfl rfl rfl rfl rfl rfl rfl rfl rfl rfl rfl (fun rv s2 hq => ev_kI hq (fun v3 e9 hr => ?_))
  subst e9
  refine ev_st (st' := [.int v3]) rfl ?_
  refine ev_seg 4 (k' := 17) (L' := [(1, .int v3), (0, .ref 0)]) (st' := [.int 0, .ref 3]) rfl ?_
  refine ev_putI (c := 3) hr rfl rfl rfl (fun s4 hr => ?_)
  refine ev_seg 2 (k' := 20) (L' := [(1, .int v3), (0, .ref 0)]) (st' := [.int (-1), .int v3]) rfl ?_
  refine ev_br (P := v3 = (-1)) (L' := [(1, .int v3), (0, .ref 0)]) (st' := []) hr rfl rfl rfl (fun hr => ?_) (fun hr => ?_)
  · skip
    refine ev_seg 4 (k' := 31) (L' := [(1, .int v3), (0, .ref 0)]) (st' := [.int (gI s4 37 1), .ref 0]) rfl ?_
    refine ev_putI (c := 0) hr rfl rfl rfl (fun s5 hr => ?_)
    refine ev_seg 1 (k' := 33) (L' := [(1, .int v3), (0, .ref 0)]) (st' := [.int v3]) rfl ?_
    exact ev_iret hr rfl rfl rfl
  · skip
    refine ev_seg 5 (k' := 26) (L' := [(1, .int v3), (0, .ref 0)]) (st' := [.int v3, .ref 3, .ref 41]) rfl ?_
    refine ev_callV (q' := q_68) (x := 68) (y := 5) (c := 41) (As := [.ref 3, .int v3]) (rest := []) hr rfl rfl rfl rfl rfl rfl rfl rfl rfl rfl rfl rfl (fun rv s6 hq => ev_kV hq (fun e9 hr => ?_))
    subst e9
    refine ev_st (st' := []) rfl ?_
    refine ev_seg 4 (k' := 31) (L' := [(1, .int v3), (0, .ref 0)]) (st' := [.int (gI s6 37 1), .ref 0]) rfl ?_
    refine ev_putI (c := 0) hr rfl rfl rfl (fun s7 hr => ?_)
    refine ev_seg 1 (k' := 33) (L' := [(1, .int v3), (0, .ref 0)]) (st' := [.int v3]) rfl ?_
    exact ev_iret hr rfl rfl rfl
set_option maxRecDepth 20000 in
theorem eLk_place (d : Nat) (s : aT) : ∀ r, (rI (gI s 0 15) s) = some r → fLk_place d s = some r := by
  intro r hr
  show ev d q_80 0 [(0, .ref 0)] [] s = some r
  refine ev_seg 2 (k' := 2) (L' := [(0, .ref 0)]) (st' := [.int (gI s 0 15)]) rfl ?_
  exact ev_iret hr rfl rfl rfl
set_option maxRecDepth 20000 in
theorem eLk_files (d : Nat) (s : aT) : ∀ r, (if gI s 0 16 = 0 then rI (gI s 58 5) s else rI (-33) s) = some r → fLk_files d s = some r := by
  intro r hr
  show ev d q_81 0 [(0, .ref 0)] [] s = some r
  refine ev_seg 2 (k' := 2) (L' := [(0, .ref 0)]) (st' := [.int (gI s 0 16)]) rfl ?_
  refine ev_br (P := gI s 0 16 = 0) (L' := [(0, .ref 0)]) (st' := []) hr rfl rfl rfl (fun hr => ?_) (fun hr => ?_)
  · skip
    refine ev_seg 3 (k' := 8) (L' := [(0, .ref 0)]) (st' := [.int (gI s 58 5)]) rfl ?_
    exact ev_iret hr rfl rfl rfl
  · skip
    refine ev_seg 2 (k' := 8) (L' := [(0, .ref 0)]) (st' := [.int (-33)]) rfl ?_
    exact ev_iret hr rfl rfl rfl
set_option maxRecDepth 20000 in
theorem eLk_feed (d : Nat) (x1 : Int32) (x2 : Int32) (x3 : Int32) (x4 : Int32) (x5 : Int32) (s : aT) : ∀ r, (if gI s 1 1 ≤ 4076 then cG (fBy_putNumber d 1 x1.toInt64 4 s) (kV fun s1 => cG (fBy_putNumber d 1 x2.toInt64 4 s1) (kV fun s2 => cG (fBy_putNumber d 1 x3.toInt64 4 s2) (kV fun s3 => cG (fBy_putNumber d 1 x4.toInt64 4 s3) (kV fun s4 => cG (fBy_putNumber d 1 x5.toInt64 4 s4) (kV fun s5 => rI (gI s5 1 1) s5))))) else rX 0 s) = some r → fLk_feed (d + 1) x1 x2 x3 x4 x5 s = some r := by
  intro r hr
  show ev (d + 1) q_82 0 [(0, .ref 0), (1, .int x1), (2, .int x2), (3, .int x3), (4, .int x4), (5, .int x5)] [] s = some r
  refine ev_seg 4 (k' := 4) (L' := [(0, .ref 0), (1, .int x1), (2, .int x2), (3, .int x3), (4, .int x4), (5, .int x5)]) (st' := [.int 4076, .int (gI s 1 1)]) rfl ?_
  refine ev_br (P := gI s 1 1 ≤ 4076) (L' := [(0, .ref 0), (1, .int x1), (2, .int x2), (3, .int x3), (4, .int x4), (5, .int x5)]) (st' := []) hr rfl rfl rfl (fun hr => ?_) (fun hr => ?_)
  · skip
    refine ev_seg 5 (k' := 15) (L' := [(0, .ref 0), (1, .int x1), (2, .int x2), (3, .int x3), (4, .int x4), (5, .int x5)]) (st' := [.int 4, .long x1.toInt64, .ref 1]) rfl ?_
    refine ev_callV (q' := q_83) (x := 83) (y := 0) (c := 1) (As := [.long x1.toInt64, .int 4]) (rest := []) hr rfl rfl rfl rfl rfl rfl rfl rfl rfl rfl rfl rfl (fun rv s1 hq => ev_kV hq (fun e9 hr => ?_))
    subst e9
    refine ev_st (st' := []) rfl ?_
    refine ev_seg 5 (k' := 21) (L' := [(0, .ref 0), (1, .int x1), (2, .int x2), (3, .int x3), (4, .int x4), (5, .int x5)]) (st' := [.int 4, .long x2.toInt64, .ref 1]) rfl ?_
    refine ev_callV (q' := q_83) (x := 83) (y := 0) (c := 1) (As := [.long x2.toInt64, .int 4]) (rest := []) hr rfl rfl rfl rfl rfl rfl rfl rfl rfl rfl rfl rfl (fun rv s2 hq => ev_kV hq (fun e9 hr => ?_))
    subst e9
    refine ev_st (st' := []) rfl ?_
    refine ev_seg 5 (k' := 27) (L' := [(0, .ref 0), (1, .int x1), (2, .int x2), (3, .int x3), (4, .int x4), (5, .int x5)]) (st' := [.int 4, .long x3.toInt64, .ref 1]) rfl ?_
    refine ev_callV (q' := q_83) (x := 83) (y := 0) (c := 1) (As := [.long x3.toInt64, .int 4]) (rest := []) hr rfl rfl rfl rfl rfl rfl rfl rfl rfl rfl rfl rfl (fun rv s3 hq => ev_kV hq (fun e9 hr => ?_))
    subst e9
    refine ev_st (st' := []) rfl ?_
    refine ev_seg 5 (k' := 33) (L' := [(0, .ref 0), (1, .int x1), (2, .int x2), (3, .int x3), (4, .int x4), (5, .int x5)]) (st' := [.int 4, .long x4.toInt64, .ref 1]) rfl ?_
    refine ev_callV (q' := q_83) (x := 83) (y := 0) (c := 1) (As := [.long x4.toInt64, .int 4]) (rest := []) hr rfl rfl rfl rfl rfl rfl rfl rfl rfl rfl rfl rfl (fun rv s4 hq => ev_kV hq (fun e9 hr => ?_))
    subst e9
    refine ev_st (st' := []) rfl ?_
    refine ev_seg 5 (k' := 39) (L' := [(0, .ref 0), (1, .int x1), (2, .int x2), (3, .int x3), (4, .int x4), (5, .int x5)]) (st' := [.int 4, .long x5.toInt64, .ref 1]) rfl ?_
    refine ev_callV (q' := q_83) (x := 83) (y := 0) (c := 1) (As := [.long x5.toInt64, .int 4]) (rest := []) hr rfl rfl rfl rfl rfl rfl rfl rfl rfl rfl rfl rfl (fun rv s5 hq => ev_kV hq (fun e9 hr => ?_))
    subst e9
    refine ev_st (st' := []) rfl ?_
    refine ev_seg 3 (k' := 43) (L' := [(0, .ref 0), (1, .int x1), (2, .int x2), (3, .int x3), (4, .int x4), (5, .int x5)]) (st' := [.int (gI s5 1 1)]) rfl ?_
    exact ev_iret hr rfl rfl rfl
  · skip
    exact ev_new hr rfl rfl
set_option maxRecDepth 20000 in
theorem eLk_end (d : Nat) (x1 : Int32) (s : aT) : ∀ r, (if x1 < 0 then rX 1 s else if x1 ≤ gI s 1 1 then wI s 1 1 x1 (fun s1 => rV s1) else rX 1 s) = some r → fLk_end d x1 s = some r := by
  intro r hr
  show ev d q_84 0 [(0, .ref 0), (1, .int x1)] [] s = some r
  refine ev_seg 1 (k' := 1) (L' := [(0, .ref 0), (1, .int x1)]) (st' := [.int x1]) rfl ?_
  refine ev_br (P := x1 < 0) (L' := [(0, .ref 0), (1, .int x1)]) (st' := []) hr rfl rfl rfl (fun hr => ?_) (fun hr => ?_)
  · skip
    exact ev_new hr rfl rfl
  · skip
    refine ev_seg 4 (k' := 6) (L' := [(0, .ref 0), (1, .int x1)]) (st' := [.int (gI s 1 1), .int x1]) rfl ?_
    refine ev_br (P := x1 ≤ gI s 1 1) (L' := [(0, .ref 0), (1, .int x1)]) (st' := []) hr rfl rfl rfl (fun hr => ?_) (fun hr => ?_)
    · skip
      refine ev_seg 3 (k' := 15) (L' := [(0, .ref 0), (1, .int x1)]) (st' := [.int x1, .ref 1]) rfl ?_
      refine ev_putI (c := 1) hr rfl rfl rfl (fun s1 hr => ?_)
      exact ev_vret hr rfl rfl
    · skip
      exact ev_new hr rfl rfl
set_option maxRecDepth 20000 in
theorem eLk_register (d : Nat) (x1 : Int32) (s : aT) : ∀ r, (cG (fLk_needSubject d x1 s) (kV fun s1 => if gI s1 0 16 = 0 then cG (fLk_readTape d s1) (kI fun v3 s2 => if ¬ v3 = (-1) then cG (fLk_keepVersion d x1 v3 s2) (kI fun v5 s4 => fLk_register_22 (d + 1) v5 s4) else fLk_register_22 (d + 1) (-(gI s2 37 0)) s2) else rI (-33) s1)) = some r → fLk_register (d + 1) x1 s = some r := by
  intro r hr
  show ev (d + 1) q_85 0 [(0, .ref 0), (1, .int x1)] [] s = some r
  refine ev_seg 1 (k' := 1) (L' := [(0, .ref 0), (1, .int x1)]) (st' := [.int x1]) rfl ?_
  refine ev_callS (q' := q_86) (x := 86) (vs := [.int x1]) (rest := []) hr rfl rfl rfl rfl rfl rfl rfl rfl rfl rfl (fun rv s1 hq => ev_kV hq (fun e9 hr => ?_))
  subst e9
  refine ev_st (st' := []) rfl ?_
  refine ev_seg 2 (k' := 4) (L' := [(0, .ref 0), (1, .int x1)]) (st' := [.int (gI s1 0 16)]) rfl ?_
  refine ev_br (P := gI s1 0 16 = 0) (L' := [(0, .ref 0), (1, .int x1)]) (st' := []) hr rfl rfl rfl (fun hr => ?_) (fun hr => ?_)
  · skip
    refine ev_seg 1 (k' := 8) (L' := [(0, .ref 0), (1, .int x1)]) (st' := [.ref 0]) rfl ?_
    refine ev_callV (q' := q_1) (x := 1) (y := 11) (c := 0) (As := []) (rest := []) hr rfl rfl rfl rfl rfl rfl rfl rfl rfl rfl rfl rfl (fun rv s2 hq => ev_kI hq (fun v3 e9 hr => ?_))
    subst e9
    refine ev_st (st' := [.int v3]) rfl ?_
    refine ev_seg 3 (k' := 12) (L' := [(2, .int v3), (0, .ref 0), (1, .int x1)]) (st' := [.int (-1), .int v3]) rfl ?_
    refine ev_br (P := ¬ v3 = (-1)) (L' := [(2, .int v3), (0, .ref 0), (1, .int x1)]) (st' := []) hr rfl rfl rfl (fun hr => ?_) (fun hr => ?_)
    · skip
      refine ev_seg 3 (k' := 21) (L' := [(2, .int v3), (0, .ref 0), (1, .int x1)]) (st' := [.int v3, .int x1, .ref 0]) rfl ?_
      refine ev_callV (q' := q_87) (x := 87) (y := 11) (c := 0) (As := [.int x1, .int v3]) (rest := []) hr rfl rfl rfl rfl rfl rfl rfl rfl rfl rfl rfl rfl (fun rv s4 hq => ev_kI hq (fun v5 e9 hr => ?_))
      subst e9
      refine ev_st (st' := [.int v5]) rfl ?_
      refine ev_join (L' := [(0, .ref 0)]) [1] [2, 0, 1] [0] rfl rfl (by decide) (by decide) rfl ?_
      exact hr
    · skip
      refine ev_seg 5 (k' := 22) (L' := [(2, .int v3), (0, .ref 0), (1, .int x1)]) (st' := [.int (-(gI s2 37 0))]) rfl ?_
      refine ev_join (L' := [(0, .ref 0)]) [1] [2, 0, 1] [0] rfl rfl (by decide) (by decide) rfl ?_
      exact hr
  · skip
    refine ev_seg 1 (k' := 6) (L' := [(0, .ref 0), (1, .int x1)]) (st' := [.int (-33)]) rfl ?_
    exact ev_iret hr rfl rfl rfl
set_option maxRecDepth 20000 in
theorem eLk_register_22 (d : Nat) (u0 : Int32) (s : aT) : ∀ r, (if 0 ≤ u0 then wI s 1 1 0 (fun s1 => rI u0 s1) else if ¬ u0 = (-32) then cG (fSc_drop d s) (kV fun s2 => rI u0 s2) else wI s 1 1 0 (fun s3 => rI u0 s3)) = some r → fLk_register_22 (d + 1) u0 s = some r := by
  intro r hr
  show ev (d + 1) q_85 22 [(0, .ref 0)] [.int u0] s = some r
  refine ev_seg 2 (k' := 24) (L' := [(3, .int u0), (0, .ref 0)]) (st' := [.int u0]) rfl ?_
  refine ev_br (P := 0 ≤ u0) (L' := [(3, .int u0), (0, .ref 0)]) (st' := []) hr rfl rfl rfl (fun hr => ?_) (fun hr => ?_)
  · skip
    refine ev_seg 3 (k' := 31) (L' := [(3, .int u0), (0, .ref 0)]) (st' := [.int 0, .ref 1]) rfl ?_
    refine ev_putI (c := 1) hr rfl rfl rfl (fun s1 hr => ?_)
    refine ev_seg 2 (k' := 37) (L' := [(3, .int u0), (0, .ref 0)]) (st' := [.int u0]) rfl ?_
    exact ev_iret hr rfl rfl rfl
  · skip
    refine ev_seg 2 (k' := 27) (L' := [(3, .int u0), (0, .ref 0)]) (st' := [.int (-32), .int u0]) rfl ?_
    refine ev_br (P := ¬ u0 = (-32)) (L' := [(3, .int u0), (0, .ref 0)]) (st' := []) hr rfl rfl rfl (fun hr => ?_) (fun hr => ?_)
    · skip
      refine ev_seg 2 (k' := 35) (L' := [(3, .int u0), (0, .ref 0)]) (st' := [.ref 22]) rfl ?_
      refine ev_callV (q' := q_79) (x := 79) (y := 2) (c := 22) (As := []) (rest := []) hr rfl rfl rfl rfl rfl rfl rfl rfl rfl rfl rfl rfl (fun rv s2 hq => ev_kV hq (fun e9 hr => ?_))
      subst e9
      refine ev_st (st' := []) rfl ?_
      refine ev_seg 1 (k' := 37) (L' := [(3, .int u0), (0, .ref 0)]) (st' := [.int u0]) rfl ?_
      exact ev_iret hr rfl rfl rfl
    · skip
      refine ev_seg 3 (k' := 31) (L' := [(3, .int u0), (0, .ref 0)]) (st' := [.int 0, .ref 1]) rfl ?_
      refine ev_putI (c := 1) hr rfl rfl rfl (fun s3 hr => ?_)
      refine ev_seg 2 (k' := 37) (L' := [(3, .int u0), (0, .ref 0)]) (st' := [.int u0]) rfl ?_
      exact ev_iret hr rfl rfl rfl
set_option maxRecDepth 20000 in
theorem eLk_needSubject (d : Nat) (x0 : Int32) (s : aT) : ∀ r, (if x0 < 0 then rX 2 s else if x0 < 4 then rV s else rX 2 s) = some r → fLk_needSubject d x0 s = some r := by
  intro r hr
  show ev d q_86 0 [(0, .int x0)] [] s = some r
  refine ev_seg 1 (k' := 1) (L' := [(0, .int x0)]) (st' := [.int x0]) rfl ?_
  refine ev_br (P := x0 < 0) (L' := [(0, .int x0)]) (st' := []) hr rfl rfl rfl (fun hr => ?_) (fun hr => ?_)
  · skip
    exact ev_new hr rfl rfl
  · skip
    refine ev_seg 2 (k' := 4) (L' := [(0, .int x0)]) (st' := [.int 4, .int x0]) rfl ?_
    refine ev_br (P := x0 < 4) (L' := [(0, .int x0)]) (st' := []) hr rfl rfl rfl (fun hr => ?_) (fun hr => ?_)
    · skip
      exact ev_vret hr rfl rfl
    · skip
      exact ev_new hr rfl rfl
set_option maxRecDepth 20000 in
theorem eLk_keepVersion (d : Nat) (x1 : Int32) (x2 : Int32) (s : aT) : ∀ r, (ldI 4 s 34 x1 (fun v1 => fLk_keepVersion_8 (d + 1) x1 x2 v1 0 s)) = some r → fLk_keepVersion (d + 1) x1 x2 s = some r := by
  intro r hr
  show ev (d + 1) q_87 0 [(0, .ref 0), (1, .int x1), (2, .int x2)] [] s = some r
  refine ev_seg 4 (k' := 4) (L' := [(0, .ref 0), (1, .int x1), (2, .int x2)]) (st' := [.int x1, .ref 34]) rfl ?_
  refine ev_ldI hr rfl rfl (fun v1 hr => ?_)
  refine ev_seg 3 (k' := 8) (L' := [(4, .int 0), (3, .int v1), (0, .ref 0), (1, .int x1), (2, .int x2)]) (st' := []) rfl ?_
  refine ev_join (L' := [(0, .ref 0), (1, .int x1), (2, .int x2), (3, .int v1), (4, .int 0)]) [2, 3, 4, 1, 0] [4, 3, 0, 1, 2] [0, 1, 2, 3, 4] rfl rfl (by decide) (by decide) rfl ?_
  exact hr
set_option maxRecDepth 20000 in
theorem eLk_keepVersion_8 (d : Nat) (x1 : Int32) (x2 : Int32) (z3 : Int32) (z4 : Int32) (s : aT) : ∀ r, (if z3 ≤ z4 then if z3 < 16 then wI s 11 1 0 (fun s1 => cG (fBy_putRow d 11 2 0 (gI s1 13 9) s1) (kI fun v3 s2 => cG (fLk_storeFile d x1 z3 (-1) s2) (kI fun v5 s4 => if v5 = 0 then cG (fSc_keep d x1 x2 s4) (kV fun s6 => rI z3 s6) else rI v5 s4))) else rI (-31) s else cG (fSc_rootOf d x1 z4 s) (kI fun v8 s7 => cG (fSc_baseOf d x1 z4 s7) (kI fun v10 s9 => cG (fMa_isFitting d v8 v10 x2 (gI s9 22 11) s9) (kI fun v12 s11 => if ¬ v12 = 0 then fLk_keepVersion_8 (d + 1) x1 x2 z3 (z4 + 1) s11 else rI (-30) s11)))) = some r → fLk_keepVersion_8 (d + 1) x1 x2 z3 z4 s = some r := by
  intro r hr
  show ev (d + 1) q_87 8 [(0, .ref 0), (1, .int x1), (2, .int x2), (3, .int z3), (4, .int z4)] [] s = some r
  refine ev_seg 2 (k' := 10) (L' := [(0, .ref 0), (1, .int x1), (2, .int x2), (3, .int z3), (4, .int z4)]) (st' := [.int z3, .int z4]) rfl ?_
  refine ev_br (P := z3 ≤ z4) (L' := [(0, .ref 0), (1, .int x1), (2, .int x2), (3, .int z3), (4, .int z4)]) (st' := []) hr rfl rfl rfl (fun hr => ?_) (fun hr => ?_)
  · skip
    refine ev_seg 2 (k' := 35) (L' := [(0, .ref 0), (1, .int x1), (2, .int x2), (3, .int z3), (4, .int z4)]) (st' := [.int 16, .int z3]) rfl ?_
    refine ev_br (P := z3 < 16) (L' := [(0, .ref 0), (1, .int x1), (2, .int x2), (3, .int z3), (4, .int z4)]) (st' := []) hr rfl rfl rfl (fun hr => ?_) (fun hr => ?_)
    · skip
      refine ev_seg 3 (k' := 41) (L' := [(0, .ref 0), (1, .int x1), (2, .int x2), (3, .int z3), (4, .int z4)]) (st' := [.int 0, .ref 11]) rfl ?_
      refine ev_putI (c := 11) hr rfl rfl rfl (fun s1 hr => ?_)
      refine ev_seg 9 (k' := 51) (L' := [(0, .ref 0), (1, .int x1), (2, .int x2), (3, .int z3), (4, .int z4)]) (st' := [.int (gI s1 13 9), .int 0, .ref 2, .ref 11]) rfl ?_
      refine ev_callV (q' := q_48) (x := 48) (y := 0) (c := 11) (As := [.ref 2, .int 0, .int (gI s1 13 9)]) (rest := []) hr rfl rfl rfl rfl rfl rfl rfl rfl rfl rfl rfl rfl (fun rv s2 hq => ev_kI hq (fun v3 e9 hr => ?_))
      subst e9
      refine ev_st (st' := [.int v3]) rfl ?_
      refine ev_seg 5 (k' := 57) (L' := [(0, .ref 0), (1, .int x1), (2, .int x2), (3, .int z3), (4, .int z4)]) (st' := [.int (-1), .int z3, .int x1, .ref 0]) rfl ?_
      refine ev_callV (q' := q_104) (x := 104) (y := 11) (c := 0) (As := [.int x1, .int z3, .int (-1)]) (rest := []) hr rfl rfl rfl rfl rfl rfl rfl rfl rfl rfl rfl rfl (fun rv s4 hq => ev_kI hq (fun v5 e9 hr => ?_))
      subst e9
      refine ev_st (st' := [.int v5]) rfl ?_
      refine ev_seg 2 (k' := 60) (L' := [(4, .int v5), (0, .ref 0), (1, .int x1), (2, .int x2), (3, .int z3)]) (st' := [.int v5]) rfl ?_
      refine ev_br (P := v5 = 0) (L' := [(4, .int v5), (0, .ref 0), (1, .int x1), (2, .int x2), (3, .int z3)]) (st' := []) hr rfl rfl rfl (fun hr => ?_) (fun hr => ?_)
      · skip
        refine ev_seg 4 (k' := 67) (L' := [(4, .int v5), (0, .ref 0), (1, .int x1), (2, .int x2), (3, .int z3)]) (st' := [.int x2, .int x1, .ref 22]) rfl ?_
        refine ev_callV (q' := q_115) (x := 115) (y := 2) (c := 22) (As := [.int x1, .int x2]) (rest := []) hr rfl rfl rfl rfl rfl rfl rfl rfl rfl rfl rfl rfl (fun rv s6 hq => ev_kV hq (fun e9 hr => ?_))
        subst e9
        refine ev_st (st' := []) rfl ?_
        refine ev_seg 1 (k' := 69) (L' := [(4, .int v5), (0, .ref 0), (1, .int x1), (2, .int x2), (3, .int z3)]) (st' := [.int z3]) rfl ?_
        exact ev_iret hr rfl rfl rfl
      · skip
        refine ev_seg 1 (k' := 62) (L' := [(4, .int v5), (0, .ref 0), (1, .int x1), (2, .int x2), (3, .int z3)]) (st' := [.int v5]) rfl ?_
        exact ev_iret hr rfl rfl rfl
    · skip
      refine ev_seg 1 (k' := 37) (L' := [(0, .ref 0), (1, .int x1), (2, .int x2), (3, .int z3), (4, .int z4)]) (st' := [.int (-31)]) rfl ?_
      exact ev_iret hr rfl rfl rfl
  · skip
    refine ev_seg 6 (k' := 17) (L' := [(0, .ref 0), (1, .int x1), (2, .int x2), (3, .int z3), (4, .int z4)]) (st' := [.int z4, .int x1, .ref 22, .ref 49]) rfl ?_
    refine ev_callV (q' := q_88) (x := 88) (y := 2) (c := 22) (As := [.int x1, .int z4]) (rest := [.ref 49]) hr rfl rfl rfl rfl rfl rfl rfl rfl rfl rfl rfl rfl (fun rv s7 hq => ev_kI hq (fun v8 e9 hr => ?_))
    subst e9
    refine ev_st (st' := [.int v8, .ref 49]) rfl ?_
    refine ev_seg 4 (k' := 22) (L' := [(0, .ref 0), (1, .int x1), (2, .int x2), (3, .int z3), (4, .int z4)]) (st' := [.int z4, .int x1, .ref 22, .int v8, .ref 49]) rfl ?_
    refine ev_callV (q' := q_89) (x := 89) (y := 2) (c := 22) (As := [.int x1, .int z4]) (rest := [.int v8, .ref 49]) hr rfl rfl rfl rfl rfl rfl rfl rfl rfl rfl rfl rfl (fun rv s9 hq => ev_kI hq (fun v10 e9 hr => ?_))
    subst e9
    refine ev_st (st' := [.int v10, .int v8, .ref 49]) rfl ?_
    refine ev_seg 4 (k' := 27) (L' := [(0, .ref 0), (1, .int x1), (2, .int x2), (3, .int z3), (4, .int z4)]) (st' := [.int (gI s9 22 11), .int x2, .int v10, .int v8, .ref 49]) rfl ?_
    refine ev_callV (q' := q_90) (x := 90) (y := 7) (c := 49) (As := [.int v8, .int v10, .int x2, .int (gI s9 22 11)]) (rest := []) hr rfl rfl rfl rfl rfl rfl rfl rfl rfl rfl rfl rfl (fun rv s11 hq => ev_kI hq (fun v12 e9 hr => ?_))
    subst e9
    refine ev_st (st' := [.int v12]) rfl ?_
    refine ev_br (P := ¬ v12 = 0) (L' := [(0, .ref 0), (1, .int x1), (2, .int x2), (3, .int z3), (4, .int z4)]) (st' := []) hr rfl rfl rfl (fun hr => ?_) (fun hr => ?_)
    · skip
      refine ev_seg 2 (k' := 8) (L' := [(4, .int (z4 + 1)), (0, .ref 0), (1, .int x1), (2, .int x2), (3, .int z3)]) (st' := []) rfl ?_
      refine ev_join (L' := [(0, .ref 0), (1, .int x1), (2, .int x2), (3, .int z3), (4, .int (z4 + 1))]) [1, 2, 3, 4, 0] [4, 0, 1, 2, 3] [0, 1, 2, 3, 4] rfl rfl (by decide) (by decide) rfl ?_
      exact hr
    · skip
      refine ev_seg 1 (k' := 30) (L' := [(0, .ref 0), (1, .int x1), (2, .int x2), (3, .int z3), (4, .int z4)]) (st' := [.int (-30)]) rfl ?_
      exact ev_iret hr rfl rfl rfl
set_option maxRecDepth 20000 in
theorem eLk_storeFile (d : Nat) (x1 : Int32) (x2 : Int32) (x3 : Int32) (s : aT) : ∀ r, (cG (fFl_room d (gI s 11 1) s) (kI fun v2 s1 => if v2 = (-1) then rI (-31) s1 else if gI s1 58 5 < 40 then cG (fDi_writeFile d v2 11 s1) (kI fun v4 s3 => if ¬ v4 = 0 then cG (fFl_add d x1 x2 v2 (gI s3 11 1) x3 s3) (kV fun s5 => cG (fLk_writeList d s5) (kI fun v7 s6 => rI v7 s6)) else cG (fLk_losePower d s3) (kI fun v9 s8 => rI v9 s8)) else rI (-31) s1)) = some r → fLk_storeFile (d + 1) x1 x2 x3 s = some r := by
  intro r hr
  show ev (d + 1) q_104 0 [(0, .ref 0), (1, .int x1), (2, .int x2), (3, .int x3)] [] s = some r
  refine ev_seg 5 (k' := 5) (L' := [(0, .ref 0), (1, .int x1), (2, .int x2), (3, .int x3)]) (st' := [.int (gI s 11 1), .ref 58]) rfl ?_
  refine ev_callV (q' := q_105) (x := 105) (y := 10) (c := 58) (As := [.int (gI s 11 1)]) (rest := []) hr rfl rfl rfl rfl rfl rfl rfl rfl rfl rfl rfl rfl (fun rv s1 hq => ev_kI hq (fun v2 e9 hr => ?_))
  subst e9
  refine ev_st (st' := [.int v2]) rfl ?_
  refine ev_seg 3 (k' := 9) (L' := [(4, .int v2), (0, .ref 0), (1, .int x1), (2, .int x2), (3, .int x3)]) (st' := [.int (-1), .int v2]) rfl ?_
  refine ev_br (P := v2 = (-1)) (L' := [(4, .int v2), (0, .ref 0), (1, .int x1), (2, .int x2), (3, .int x3)]) (st' := []) hr rfl rfl rfl (fun hr => ?_) (fun hr => ?_)
  · skip
    refine ev_seg 1 (k' := 16) (L' := [(4, .int v2), (0, .ref 0), (1, .int x1), (2, .int x2), (3, .int x3)]) (st' := [.int (-31)]) rfl ?_
    exact ev_iret hr rfl rfl rfl
  · skip
    refine ev_seg 4 (k' := 14) (L' := [(4, .int v2), (0, .ref 0), (1, .int x1), (2, .int x2), (3, .int x3)]) (st' := [.int 40, .int (gI s1 58 5)]) rfl ?_
    refine ev_br (P := gI s1 58 5 < 40) (L' := [(4, .int v2), (0, .ref 0), (1, .int x1), (2, .int x2), (3, .int x3)]) (st' := []) hr rfl rfl rfl (fun hr => ?_) (fun hr => ?_)
    · skip
      refine ev_seg 5 (k' := 22) (L' := [(4, .int v2), (0, .ref 0), (1, .int x1), (2, .int x2), (3, .int x3)]) (st' := [.ref 11, .int v2, .ref 56]) rfl ?_
      refine ev_callV (q' := q_107) (x := 107) (y := 9) (c := 56) (As := [.int v2, .ref 11]) (rest := []) hr rfl rfl rfl rfl rfl rfl rfl rfl rfl rfl rfl rfl (fun rv s3 hq => ev_kI hq (fun v4 e9 hr => ?_))
      subst e9
      refine ev_st (st' := [.int v4]) rfl ?_
      refine ev_br (P := ¬ v4 = 0) (L' := [(4, .int v2), (0, .ref 0), (1, .int x1), (2, .int x2), (3, .int x3)]) (st' := []) hr rfl rfl rfl (fun hr => ?_) (fun hr => ?_)
      · skip
        refine ev_seg 9 (k' := 36) (L' := [(4, .int v2), (0, .ref 0), (1, .int x1), (2, .int x2), (3, .int x3)]) (st' := [.int x3, .int (gI s3 11 1), .int v2, .int x2, .int x1, .ref 58]) rfl ?_
        refine ev_callV (q' := q_111) (x := 111) (y := 10) (c := 58) (As := [.int x1, .int x2, .int v2, .int (gI s3 11 1), .int x3]) (rest := []) hr rfl rfl rfl rfl rfl rfl rfl rfl rfl rfl rfl rfl (fun rv s5 hq => ev_kV hq (fun e9 hr => ?_))
        subst e9
        refine ev_st (st' := []) rfl ?_
        refine ev_seg 1 (k' := 38) (L' := [(4, .int v2), (0, .ref 0), (1, .int x1), (2, .int x2), (3, .int x3)]) (st' := [.ref 0]) rfl ?_
        refine ev_callV (q' := q_112) (x := 112) (y := 11) (c := 0) (As := []) (rest := []) hr rfl rfl rfl rfl rfl rfl rfl rfl rfl rfl rfl rfl (fun rv s6 hq => ev_kI hq (fun v7 e9 hr => ?_))
        subst e9
        refine ev_st (st' := [.int v7]) rfl ?_
        exact ev_iret hr rfl rfl rfl
      · skip
        refine ev_seg 1 (k' := 25) (L' := [(4, .int v2), (0, .ref 0), (1, .int x1), (2, .int x2), (3, .int x3)]) (st' := [.ref 0]) rfl ?_
        refine ev_callV (q' := q_109) (x := 109) (y := 11) (c := 0) (As := []) (rest := []) hr rfl rfl rfl rfl rfl rfl rfl rfl rfl rfl rfl rfl (fun rv s8 hq => ev_kI hq (fun v9 e9 hr => ?_))
        subst e9
        refine ev_st (st' := [.int v9]) rfl ?_
        exact ev_iret hr rfl rfl rfl
    · skip
      refine ev_seg 1 (k' := 16) (L' := [(4, .int v2), (0, .ref 0), (1, .int x1), (2, .int x2), (3, .int x3)]) (st' := [.int (-31)]) rfl ?_
      exact ev_iret hr rfl rfl rfl
set_option maxRecDepth 20000 in
theorem eLk_losePower (d : Nat) (s : aT) : ∀ r, (wZ s 0 16 1 (fun s1 => cG (fSc_dropAll d s1) (kV fun s2 => wI s2 58 5 0 (fun s3 => rI (-32) s3)))) = some r → fLk_losePower (d + 1) s = some r := by
  intro r hr
  show ev (d + 1) q_109 0 [(0, .ref 0)] [] s = some r
  refine ev_seg 2 (k' := 2) (L' := [(0, .ref 0)]) (st' := [.int 1, .ref 0]) rfl ?_
  refine ev_putZ (c := 0) hr rfl rfl rfl (fun s1 hr => ?_)
  refine ev_seg 2 (k' := 5) (L' := [(0, .ref 0)]) (st' := [.ref 22]) rfl ?_
  refine ev_callV (q' := q_110) (x := 110) (y := 2) (c := 22) (As := []) (rest := []) hr rfl rfl rfl rfl rfl rfl rfl rfl rfl rfl rfl rfl (fun rv s2 hq => ev_kV hq (fun e9 hr => ?_))
  subst e9
  refine ev_st (st' := []) rfl ?_
  refine ev_seg 3 (k' := 9) (L' := [(0, .ref 0)]) (st' := [.int 0, .ref 58]) rfl ?_
  refine ev_putI (c := 58) hr rfl rfl rfl (fun s3 hr => ?_)
  refine ev_seg 1 (k' := 11) (L' := [(0, .ref 0)]) (st' := [.int (-32)]) rfl ?_
  exact ev_iret hr rfl rfl rfl
set_option maxRecDepth 20000 in
theorem eLk_writeList (d : Nat) (s : aT) : ∀ r, (cG (fFl_writeTo d s) (kI fun v2 s1 => if v2 = 0 then cG (fLk_losePower d s1) (kI fun v4 s3 => rI v4 s3) else rI 0 s1)) = some r → fLk_writeList (d + 1) s = some r := by
  intro r hr
  show ev (d + 1) q_112 0 [(0, .ref 0)] [] s = some r
  refine ev_seg 4 (k' := 4) (L' := [(0, .ref 0)]) (st' := [.ref 56, .ref 58]) rfl ?_
  refine ev_callV (q' := q_113) (x := 113) (y := 10) (c := 58) (As := [.ref 56]) (rest := []) hr rfl rfl rfl rfl rfl rfl rfl rfl rfl rfl rfl rfl (fun rv s1 hq => ev_kI hq (fun v2 e9 hr => ?_))
  subst e9
  refine ev_st (st' := [.int v2]) rfl ?_
  refine ev_br (P := v2 = 0) (L' := [(0, .ref 0)]) (st' := []) hr rfl rfl rfl (fun hr => ?_) (fun hr => ?_)
  · skip
    refine ev_seg 1 (k' := 9) (L' := [(0, .ref 0)]) (st' := [.ref 0]) rfl ?_
    refine ev_callV (q' := q_109) (x := 109) (y := 11) (c := 0) (As := []) (rest := []) hr rfl rfl rfl rfl rfl rfl rfl rfl rfl rfl rfl rfl (fun rv s3 hq => ev_kI hq (fun v4 e9 hr => ?_))
    subst e9
    refine ev_st (st' := [.int v4]) rfl ?_
    exact ev_iret hr rfl rfl rfl
  · skip
    refine ev_seg 2 (k' := 10) (L' := [(0, .ref 0)]) (st' := [.int 0]) rfl ?_
    exact ev_iret hr rfl rfl rfl
set_option maxRecDepth 20000 in
theorem eLk_look (d : Nat) (x1 : Int32) (x2 : Int32) (s : aT) : ∀ r, (cG (fLk_needSubject d x1 s) (kV fun s1 => if gI s1 0 16 = 0 then cG (fLk_needVersion d x1 x2 s1) (kV fun s2 => cG (fSc_rootOf d x1 x2 s2) (kI fun v4 s3 => cG (fLk_lookAtTape d v4 s3) (kI fun v6 s5 => rI v6 s5))) else rI (-33) s1)) = some r → fLk_look (d + 1) x1 x2 s = some r := by
  intro r hr
  show ev (d + 1) q_116 0 [(0, .ref 0), (1, .int x1), (2, .int x2)] [] s = some r
  refine ev_seg 1 (k' := 1) (L' := [(0, .ref 0), (1, .int x1), (2, .int x2)]) (st' := [.int x1]) rfl ?_
  refine ev_callS (q' := q_86) (x := 86) (vs := [.int x1]) (rest := []) hr rfl rfl rfl rfl rfl rfl rfl rfl rfl rfl (fun rv s1 hq => ev_kV hq (fun e9 hr => ?_))
  subst e9
  refine ev_st (st' := []) rfl ?_
  refine ev_seg 2 (k' := 4) (L' := [(0, .ref 0), (1, .int x1), (2, .int x2)]) (st' := [.int (gI s1 0 16)]) rfl ?_
  refine ev_br (P := gI s1 0 16 = 0) (L' := [(0, .ref 0), (1, .int x1), (2, .int x2)]) (st' := []) hr rfl rfl rfl (fun hr => ?_) (fun hr => ?_)
  · skip
    refine ev_seg 3 (k' := 10) (L' := [(0, .ref 0), (1, .int x1), (2, .int x2)]) (st' := [.int x2, .int x1, .ref 0]) rfl ?_
    refine ev_callV (q' := q_117) (x := 117) (y := 11) (c := 0) (As := [.int x1, .int x2]) (rest := []) hr rfl rfl rfl rfl rfl rfl rfl rfl rfl rfl rfl rfl (fun rv s2 hq => ev_kV hq (fun e9 hr => ?_))
    subst e9
    refine ev_st (st' := []) rfl ?_
    refine ev_seg 5 (k' := 16) (L' := [(0, .ref 0), (1, .int x1), (2, .int x2)]) (st' := [.int x2, .int x1, .ref 22, .ref 0]) rfl ?_
    refine ev_callV (q' := q_88) (x := 88) (y := 2) (c := 22) (As := [.int x1, .int x2]) (rest := [.ref 0]) hr rfl rfl rfl rfl rfl rfl rfl rfl rfl rfl rfl rfl (fun rv s3 hq => ev_kI hq (fun v4 e9 hr => ?_))
    subst e9
    refine ev_st (st' := [.int v4, .ref 0]) rfl ?_
    refine ev_callV (q' := q_118) (x := 118) (y := 11) (c := 0) (As := [.int v4]) (rest := []) hr rfl rfl rfl rfl rfl rfl rfl rfl rfl rfl rfl rfl (fun rv s5 hq => ev_kI hq (fun v6 e9 hr => ?_))
    subst e9
    refine ev_st (st' := [.int v6]) rfl ?_
    exact ev_iret hr rfl rfl rfl
  · skip
    refine ev_seg 1 (k' := 6) (L' := [(0, .ref 0), (1, .int x1), (2, .int x2)]) (st' := [.int (-33)]) rfl ?_
    exact ev_iret hr rfl rfl rfl
set_option maxRecDepth 20000 in
theorem eLk_needVersion (d : Nat) (x1 : Int32) (x2 : Int32) (s : aT) : ∀ r, (if x2 < 0 then rX 2 s else ldI 4 s 34 x1 (fun v1 => if x2 < v1 then rV s else rX 2 s)) = some r → fLk_needVersion d x1 x2 s = some r := by
  intro r hr
  show ev d q_117 0 [(0, .ref 0), (1, .int x1), (2, .int x2)] [] s = some r
  refine ev_seg 1 (k' := 1) (L' := [(0, .ref 0), (1, .int x1), (2, .int x2)]) (st' := [.int x2]) rfl ?_
  refine ev_br (P := x2 < 0) (L' := [(0, .ref 0), (1, .int x1), (2, .int x2)]) (st' := []) hr rfl rfl rfl (fun hr => ?_) (fun hr => ?_)
  · skip
    exact ev_new hr rfl rfl
  · skip
    refine ev_seg 5 (k' := 7) (L' := [(0, .ref 0), (1, .int x1), (2, .int x2)]) (st' := [.int x1, .ref 34, .int x2]) rfl ?_
    refine ev_ldI hr rfl rfl (fun v1 hr => ?_)
    refine ev_br (P := x2 < v1) (L' := [(0, .ref 0), (1, .int x1), (2, .int x2)]) (st' := []) hr rfl rfl rfl (fun hr => ?_) (fun hr => ?_)
    · skip
      exact ev_vret hr rfl rfl
    · skip
      exact ev_new hr rfl rfl
set_option maxRecDepth 20000 in
theorem eLk_lookAtTape (d : Nat) (x1 : Int32) (s : aT) : ∀ r, (wI s 0 15 (-1) (fun s1 => cG (fLo_open d 2 0 (gI s1 1 1) s1) (kV fun s2 => fLk_lookAtTape_15 (d + 1) x1 0 s2))) = some r → fLk_lookAtTape (d + 1) x1 s = some r := by
  intro r hr
  show ev (d + 1) q_118 0 [(0, .ref 0), (1, .int x1)] [] s = some r
  refine ev_seg 2 (k' := 2) (L' := [(0, .ref 0), (1, .int x1)]) (st' := [.int (-1), .ref 0]) rfl ?_
  refine ev_putI (c := 0) hr rfl rfl rfl (fun s1 hr => ?_)
  refine ev_seg 9 (k' := 12) (L' := [(0, .ref 0), (1, .int x1)]) (st' := [.int (gI s1 1 1), .int 0, .ref 2, .ref 46]) rfl ?_
  refine ev_callV (q' := q_119) (x := 119) (y := 6) (c := 46) (As := [.ref 2, .int 0, .int (gI s1 1 1)]) (rest := []) hr rfl rfl rfl rfl rfl rfl rfl rfl rfl rfl rfl rfl (fun rv s2 hq => ev_kV hq (fun e9 hr => ?_))
  subst e9
  refine ev_st (st' := []) rfl ?_
  refine ev_seg 2 (k' := 15) (L' := [(2, .int 0), (0, .ref 0), (1, .int x1)]) (st' := []) rfl ?_
  refine ev_join (L' := [(0, .ref 0), (1, .int x1), (2, .int 0)]) [1, 2, 0] [2, 0, 1] [0, 1, 2] rfl rfl (by decide) (by decide) rfl ?_
  exact hr
set_option maxRecDepth 20000 in
theorem eLk_lookAtTape_15 (d : Nat) (x1 : Int32) (z2 : Int32) (s : aT) : ∀ r, (if gI s 1 1 ≤ z2 then rI (-34) s else cG (fLo_row d x1 s) (kI fun v2 s1 => if ¬ v2 = 0 then if ¬ gI s1 46 1 = gI s 46 1 then if gI s1 46 1 < gI s1 1 1 then fLk_lookAtTape_15 (d + 1) x1 (z2 + 1) s1 else rI (z2 + 1) s1 else rI (-34) s1 else wI s1 0 15 (gI s1 46 3) (fun s3 => rI (-(gI s3 46 2)) s3))) = some r → fLk_lookAtTape_15 (d + 1) x1 z2 s = some r := by
  intro r hr
  show ev (d + 1) q_118 15 [(0, .ref 0), (1, .int x1), (2, .int z2)] [] s = some r
  refine ev_seg 4 (k' := 19) (L' := [(0, .ref 0), (1, .int x1), (2, .int z2)]) (st' := [.int (gI s 1 1), .int z2]) rfl ?_
  refine ev_br (P := gI s 1 1 ≤ z2) (L' := [(0, .ref 0), (1, .int x1), (2, .int z2)]) (st' := []) hr rfl rfl rfl (fun hr => ?_) (fun hr => ?_)
  · skip
    refine ev_seg 1 (k' := 60) (L' := [(0, .ref 0), (1, .int x1), (2, .int z2)]) (st' := [.int (-34)]) rfl ?_
    exact ev_iret hr rfl rfl rfl
  · skip
    refine ev_seg 7 (k' := 27) (L' := [(3, .int (gI s 46 1)), (0, .ref 0), (1, .int x1), (2, .int z2)]) (st' := [.int x1, .ref 46]) rfl ?_
    refine ev_callV (q' := q_120) (x := 120) (y := 6) (c := 46) (As := [.int x1]) (rest := []) hr rfl rfl rfl rfl rfl rfl rfl rfl rfl rfl rfl rfl (fun rv s1 hq => ev_kI hq (fun v2 e9 hr => ?_))
    subst e9
    refine ev_st (st' := [.int v2]) rfl ?_
    refine ev_br (P := ¬ v2 = 0) (L' := [(3, .int (gI s 46 1)), (0, .ref 0), (1, .int x1), (2, .int z2)]) (st' := []) hr rfl rfl rfl (fun hr => ?_) (fun hr => ?_)
    · skip
      refine ev_seg 4 (k' := 43) (L' := [(3, .int (gI s 46 1)), (0, .ref 0), (1, .int x1), (2, .int z2)]) (st' := [.int (gI s 46 1), .int (gI s1 46 1)]) rfl ?_
      refine ev_br (P := ¬ gI s1 46 1 = gI s 46 1) (L' := [(3, .int (gI s 46 1)), (0, .ref 0), (1, .int x1), (2, .int z2)]) (st' := []) hr rfl rfl rfl (fun hr => ?_) (fun hr => ?_)
      · skip
        refine ev_seg 6 (k' := 52) (L' := [(3, .int (gI s 46 1)), (0, .ref 0), (1, .int x1), (2, .int z2)]) (st' := [.int (gI s1 1 1), .int (gI s1 46 1)]) rfl ?_
        refine ev_br (P := gI s1 46 1 < gI s1 1 1) (L' := [(3, .int (gI s 46 1)), (0, .ref 0), (1, .int x1), (2, .int z2)]) (st' := []) hr rfl rfl rfl (fun hr => ?_) (fun hr => ?_)
        · skip
          refine ev_seg 2 (k' := 15) (L' := [(2, .int (z2 + 1)), (3, .int (gI s 46 1)), (0, .ref 0), (1, .int x1)]) (st' := []) rfl ?_
          refine ev_join (L' := [(0, .ref 0), (1, .int x1), (2, .int (z2 + 1))]) [2, 3, 0] [2, 3, 0, 1] [0, 1, 2] rfl rfl (by decide) (by decide) rfl ?_
          exact hr
        · skip
          refine ev_seg 3 (k' := 56) (L' := [(3, .int (gI s 46 1)), (0, .ref 0), (1, .int x1), (2, .int z2)]) (st' := [.int (z2 + 1)]) rfl ?_
          exact ev_iret hr rfl rfl rfl
      · skip
        refine ev_seg 1 (k' := 45) (L' := [(3, .int (gI s 46 1)), (0, .ref 0), (1, .int x1), (2, .int z2)]) (st' := [.int (-34)]) rfl ?_
        exact ev_iret hr rfl rfl rfl
    · skip
      refine ev_seg 4 (k' := 33) (L' := [(3, .int (gI s 46 1)), (0, .ref 0), (1, .int x1), (2, .int z2)]) (st' := [.int (gI s1 46 3), .ref 0]) rfl ?_
      refine ev_putI (c := 0) hr rfl rfl rfl (fun s3 hr => ?_)
      refine ev_seg 4 (k' := 38) (L' := [(3, .int (gI s 46 1)), (0, .ref 0), (1, .int x1), (2, .int z2)]) (st' := [.int (-(gI s3 46 2))]) rfl ?_
      exact ev_iret hr rfl rfl rfl
set_option maxRecDepth 20000 in
theorem eLk_load (d : Nat) (x1 : Int32) (x2 : Int32) (s : aT) : ∀ r, (cG (fLk_needSubject d x1 s) (kV fun s1 => if gI s1 0 16 = 0 then cG (fLk_needVersion d x1 x2 s1) (kV fun s2 => cG (fSc_rootOf d x1 x2 s2) (kI fun v4 s3 => cG (fLk_lookAtTape d v4 s3) (kI fun v6 s5 => if 0 ≤ v6 then cG (fLk_pack d v6 47 s5) (kI fun v8 s7 => if v8 = 0 then fLk_load_37 (d + 1) v6 (-31) s7 else cG (fLk_storeFile d x1 x2 v6 s7) (kI fun v10 s9 => fLk_load_37 (d + 1) v6 v10 s9)) else rI v6 s5))) else rI (-33) s1)) = some r → fLk_load (d + 1) x1 x2 s = some r := by
  intro r hr
  show ev (d + 1) q_134 0 [(0, .ref 0), (1, .int x1), (2, .int x2)] [] s = some r
  refine ev_seg 1 (k' := 1) (L' := [(0, .ref 0), (1, .int x1), (2, .int x2)]) (st' := [.int x1]) rfl ?_
  refine ev_callS (q' := q_86) (x := 86) (vs := [.int x1]) (rest := []) hr rfl rfl rfl rfl rfl rfl rfl rfl rfl rfl (fun rv s1 hq => ev_kV hq (fun e9 hr => ?_))
  subst e9
  refine ev_st (st' := []) rfl ?_
  refine ev_seg 2 (k' := 4) (L' := [(0, .ref 0), (1, .int x1), (2, .int x2)]) (st' := [.int (gI s1 0 16)]) rfl ?_
  refine ev_br (P := gI s1 0 16 = 0) (L' := [(0, .ref 0), (1, .int x1), (2, .int x2)]) (st' := []) hr rfl rfl rfl (fun hr => ?_) (fun hr => ?_)
  · skip
    refine ev_seg 3 (k' := 10) (L' := [(0, .ref 0), (1, .int x1), (2, .int x2)]) (st' := [.int x2, .int x1, .ref 0]) rfl ?_
    refine ev_callV (q' := q_117) (x := 117) (y := 11) (c := 0) (As := [.int x1, .int x2]) (rest := []) hr rfl rfl rfl rfl rfl rfl rfl rfl rfl rfl rfl rfl (fun rv s2 hq => ev_kV hq (fun e9 hr => ?_))
    subst e9
    refine ev_st (st' := []) rfl ?_
    refine ev_seg 5 (k' := 16) (L' := [(0, .ref 0), (1, .int x1), (2, .int x2)]) (st' := [.int x2, .int x1, .ref 22, .ref 0]) rfl ?_
    refine ev_callV (q' := q_88) (x := 88) (y := 2) (c := 22) (As := [.int x1, .int x2]) (rest := [.ref 0]) hr rfl rfl rfl rfl rfl rfl rfl rfl rfl rfl rfl rfl (fun rv s3 hq => ev_kI hq (fun v4 e9 hr => ?_))
    subst e9
    refine ev_st (st' := [.int v4, .ref 0]) rfl ?_
    refine ev_callV (q' := q_118) (x := 118) (y := 11) (c := 0) (As := [.int v4]) (rest := []) hr rfl rfl rfl rfl rfl rfl rfl rfl rfl rfl rfl rfl (fun rv s5 hq => ev_kI hq (fun v6 e9 hr => ?_))
    subst e9
    refine ev_st (st' := [.int v6]) rfl ?_
    refine ev_seg 2 (k' := 20) (L' := [(3, .int v6), (0, .ref 0), (1, .int x1), (2, .int x2)]) (st' := [.int v6]) rfl ?_
    refine ev_br (P := 0 ≤ v6) (L' := [(3, .int v6), (0, .ref 0), (1, .int x1), (2, .int x2)]) (st' := []) hr rfl rfl rfl (fun hr => ?_) (fun hr => ?_)
    · skip
      refine ev_seg 5 (k' := 28) (L' := [(3, .int v6), (0, .ref 0), (1, .int x1), (2, .int x2)]) (st' := [.ref 47, .int v6, .ref 0]) rfl ?_
      refine ev_callV (q' := q_135) (x := 135) (y := 11) (c := 0) (As := [.int v6, .ref 47]) (rest := []) hr rfl rfl rfl rfl rfl rfl rfl rfl rfl rfl rfl rfl (fun rv s7 hq => ev_kI hq (fun v8 e9 hr => ?_))
      subst e9
      refine ev_st (st' := [.int v8]) rfl ?_
      refine ev_br (P := v8 = 0) (L' := [(3, .int v6), (0, .ref 0), (1, .int x1), (2, .int x2)]) (st' := []) hr rfl rfl rfl (fun hr => ?_) (fun hr => ?_)
      · skip
        refine ev_seg 1 (k' := 37) (L' := [(3, .int v6), (0, .ref 0), (1, .int x1), (2, .int x2)]) (st' := [.int (-31)]) rfl ?_
        refine ev_join (L' := [(0, .ref 0), (3, .int v6)]) [1, 0] [3, 0, 1, 2] [0, 3] rfl rfl (by decide) (by decide) rfl ?_
        exact hr
      · skip
        refine ev_seg 4 (k' := 34) (L' := [(3, .int v6), (0, .ref 0), (1, .int x1), (2, .int x2)]) (st' := [.int v6, .int x2, .int x1, .ref 0]) rfl ?_
        refine ev_callV (q' := q_104) (x := 104) (y := 11) (c := 0) (As := [.int x1, .int x2, .int v6]) (rest := []) hr rfl rfl rfl rfl rfl rfl rfl rfl rfl rfl rfl rfl (fun rv s9 hq => ev_kI hq (fun v10 e9 hr => ?_))
        subst e9
        refine ev_st (st' := [.int v10]) rfl ?_
        refine ev_seg 1 (k' := 37) (L' := [(3, .int v6), (0, .ref 0), (1, .int x1), (2, .int x2)]) (st' := [.int v10]) rfl ?_
        refine ev_join (L' := [(0, .ref 0), (3, .int v6)]) [1, 0] [3, 0, 1, 2] [0, 3] rfl rfl (by decide) (by decide) rfl ?_
        exact hr
    · skip
      refine ev_seg 1 (k' := 22) (L' := [(3, .int v6), (0, .ref 0), (1, .int x1), (2, .int x2)]) (st' := [.int v6]) rfl ?_
      exact ev_iret hr rfl rfl rfl
  · skip
    refine ev_seg 1 (k' := 6) (L' := [(0, .ref 0), (1, .int x1), (2, .int x2)]) (st' := [.int (-33)]) rfl ?_
    exact ev_iret hr rfl rfl rfl
set_option maxRecDepth 20000 in
theorem eLk_load_37 (d : Nat) (z3 : Int32) (u0 : Int32) (s : aT) : ∀ r, (if ¬ u0 = (-31) then wI s 1 1 0 (fun s1 => if ¬ u0 = 0 then rI u0 s1 else rI z3 s1) else rI (-31) s) = some r → fLk_load_37 (d + 1) z3 u0 s = some r := by
  intro r hr
  show ev (d + 1) q_134 37 [(0, .ref 0), (3, .int z3)] [.int u0] s = some r
  refine ev_seg 3 (k' := 40) (L' := [(4, .int u0), (0, .ref 0), (3, .int z3)]) (st' := [.int (-31), .int u0]) rfl ?_
  refine ev_br (P := ¬ u0 = (-31)) (L' := [(4, .int u0), (0, .ref 0), (3, .int z3)]) (st' := []) hr rfl rfl rfl (fun hr => ?_) (fun hr => ?_)
  · skip
    refine ev_seg 3 (k' := 46) (L' := [(4, .int u0), (0, .ref 0), (3, .int z3)]) (st' := [.int 0, .ref 1]) rfl ?_
    refine ev_putI (c := 1) hr rfl rfl rfl (fun s1 hr => ?_)
    refine ev_seg 1 (k' := 48) (L' := [(4, .int u0), (0, .ref 0), (3, .int z3)]) (st' := [.int u0]) rfl ?_
    refine ev_br (P := ¬ u0 = 0) (L' := [(4, .int u0), (0, .ref 0), (3, .int z3)]) (st' := []) hr rfl rfl rfl (fun hr => ?_) (fun hr => ?_)
    · skip
      refine ev_seg 1 (k' := 52) (L' := [(4, .int u0), (0, .ref 0), (3, .int z3)]) (st' := [.int u0]) rfl ?_
      exact ev_iret hr rfl rfl rfl
    · skip
      refine ev_seg 2 (k' := 52) (L' := [(4, .int u0), (0, .ref 0), (3, .int z3)]) (st' := [.int z3]) rfl ?_
      exact ev_iret hr rfl rfl rfl
  · skip
    refine ev_seg 1 (k' := 42) (L' := [(4, .int u0), (0, .ref 0), (3, .int z3)]) (st' := [.int (-31)]) rfl ?_
    exact ev_iret hr rfl rfl rfl
set_option maxRecDepth 20000 in
theorem eLk_pack (d : Nat) (x1 : Int32) (b2 : Nat) (s : aT) (hb2 : isB b2) : ∀ r, (wI s 11 1 0 (fun s1 => cG (fBy_putZeros d 11 11 s1) (kI fun v3 s2 => if v3 = 0 then rI 0 s2 else cG (fBy_putVarint d 11 x1.toInt64 s2) (kI fun v5 s4 => if v5 = 0 then rI 0 s4 else cG (fBy_putVarint d 11 ((gI s4 b2 1).toInt64) s4) (kI fun v7 s6 => if v7 = 0 then rI 0 s6 else cG (fBy_putRow d 11 (b2 + 1) 0 (gI s6 b2 1) s6) (kI fun v9 s8 => if v9 = 0 then rI 0 s8 else cG (fBy_putZeros d 11 8 s8) (kI fun v11 s10 => if v11 = 0 then rI 0 s10 else rI 1 s10))))))) = some r → fLk_pack (d + 1) x1 b2 s = some r := by
  intro r hr
  show ev (d + 1) q_135 0 [(0, .ref 0), (1, .int x1), (2, .ref b2)] [] s = some r
  refine ev_seg 3 (k' := 3) (L' := [(0, .ref 0), (1, .int x1), (2, .ref b2)]) (st' := [.int 0, .ref 11]) rfl ?_
  refine ev_putI (c := 11) hr rfl rfl rfl (fun s1 hr => ?_)
  refine ev_seg 3 (k' := 7) (L' := [(0, .ref 0), (1, .int x1), (2, .ref b2)]) (st' := [.int 11, .ref 11]) rfl ?_
  refine ev_callV (q' := q_114) (x := 114) (y := 0) (c := 11) (As := [.int 11]) (rest := []) hr rfl rfl rfl rfl rfl rfl rfl rfl rfl rfl rfl rfl (fun rv s2 hq => ev_kI hq (fun v3 e9 hr => ?_))
  subst e9
  refine ev_st (st' := [.int v3]) rfl ?_
  refine ev_br (P := v3 = 0) (L' := [(0, .ref 0), (1, .int x1), (2, .ref b2)]) (st' := []) hr rfl rfl rfl (fun hr => ?_) (fun hr => ?_)
  · skip
    refine ev_seg 1 (k' := 39) (L' := [(0, .ref 0), (1, .int x1), (2, .ref b2)]) (st' := [.int 0]) rfl ?_
    exact ev_iret hr rfl rfl rfl
  · skip
    refine ev_seg 4 (k' := 13) (L' := [(0, .ref 0), (1, .int x1), (2, .ref b2)]) (st' := [.long x1.toInt64, .ref 11]) rfl ?_
    refine ev_callV (q' := q_64) (x := 64) (y := 0) (c := 11) (As := [.long x1.toInt64]) (rest := []) hr rfl rfl rfl rfl rfl rfl rfl rfl rfl rfl rfl rfl (fun rv s4 hq => ev_kI hq (fun v5 e9 hr => ?_))
    subst e9
    refine ev_st (st' := [.int v5]) rfl ?_
    refine ev_br (P := v5 = 0) (L' := [(0, .ref 0), (1, .int x1), (2, .ref b2)]) (st' := []) hr rfl rfl rfl (fun hr => ?_) (fun hr => ?_)
    · skip
      refine ev_seg 1 (k' := 39) (L' := [(0, .ref 0), (1, .int x1), (2, .ref b2)]) (st' := [.int 0]) rfl ?_
      exact ev_iret hr rfl rfl rfl
    · skip
      refine ev_seg 3 (k' := 18) (L' := [(0, .ref 0), (1, .int x1), (2, .ref b2)]) (st' := [.ref b2, .ref 11]) rfl ?_
      refine ev_getI (c := b2) rfl (isB_sh hb2) rfl (Or.inl rfl) ?_
      refine ev_seg 1 (k' := 20) (L' := [(0, .ref 0), (1, .int x1), (2, .ref b2)]) (st' := [.long ((gI s4 b2 1).toInt64), .ref 11]) rfl ?_
      refine ev_callV (q' := q_64) (x := 64) (y := 0) (c := 11) (As := [.long ((gI s4 b2 1).toInt64)]) (rest := []) hr rfl rfl rfl rfl rfl rfl rfl rfl rfl rfl rfl rfl (fun rv s6 hq => ev_kI hq (fun v7 e9 hr => ?_))
      subst e9
      refine ev_st (st' := [.int v7]) rfl ?_
      refine ev_br (P := v7 = 0) (L' := [(0, .ref 0), (1, .int x1), (2, .ref b2)]) (st' := []) hr rfl rfl rfl (fun hr => ?_) (fun hr => ?_)
      · skip
        refine ev_seg 1 (k' := 39) (L' := [(0, .ref 0), (1, .int x1), (2, .ref b2)]) (st' := [.int 0]) rfl ?_
        exact ev_iret hr rfl rfl rfl
      · skip
        refine ev_seg 3 (k' := 25) (L' := [(0, .ref 0), (1, .int x1), (2, .ref b2)]) (st' := [.ref b2, .ref 11]) rfl ?_
        refine ev_getR (c := b2) (v := b2 + 1) rfl (isB_sh hb2) rfl (isB_row hb2) ?_
        refine ev_seg 2 (k' := 28) (L' := [(0, .ref 0), (1, .int x1), (2, .ref b2)]) (st' := [.ref b2, .int 0, .ref (b2 + 1), .ref 11]) rfl ?_
        refine ev_getI (c := b2) rfl (isB_sh hb2) rfl (Or.inl rfl) ?_
        refine ev_callV (q' := q_48) (x := 48) (y := 0) (c := 11) (As := [.ref (b2 + 1), .int 0, .int (gI s6 b2 1)]) (rest := []) hr rfl rfl rfl rfl rfl rfl rfl rfl rfl rfl rfl rfl (fun rv s8 hq => ev_kI hq (fun v9 e9 hr => ?_))
        subst e9
        refine ev_st (st' := [.int v9]) rfl ?_
        refine ev_br (P := v9 = 0) (L' := [(0, .ref 0), (1, .int x1), (2, .ref b2)]) (st' := []) hr rfl rfl rfl (fun hr => ?_) (fun hr => ?_)
        · skip
          refine ev_seg 1 (k' := 39) (L' := [(0, .ref 0), (1, .int x1), (2, .ref b2)]) (st' := [.int 0]) rfl ?_
          exact ev_iret hr rfl rfl rfl
        · skip
          refine ev_seg 3 (k' := 34) (L' := [(0, .ref 0), (1, .int x1), (2, .ref b2)]) (st' := [.int 8, .ref 11]) rfl ?_
          refine ev_callV (q' := q_114) (x := 114) (y := 0) (c := 11) (As := [.int 8]) (rest := []) hr rfl rfl rfl rfl rfl rfl rfl rfl rfl rfl rfl rfl (fun rv s10 hq => ev_kI hq (fun v11 e9 hr => ?_))
          subst e9
          refine ev_st (st' := [.int v11]) rfl ?_
          refine ev_br (P := v11 = 0) (L' := [(0, .ref 0), (1, .int x1), (2, .ref b2)]) (st' := []) hr rfl rfl rfl (fun hr => ?_) (fun hr => ?_)
          · skip
            refine ev_seg 1 (k' := 39) (L' := [(0, .ref 0), (1, .int x1), (2, .ref b2)]) (st' := [.int 0]) rfl ?_
            exact ev_iret hr rfl rfl rfl
          · skip
            refine ev_seg 2 (k' := 39) (L' := [(0, .ref 0), (1, .int x1), (2, .ref b2)]) (st' := [.int 1]) rfl ?_
            exact ev_iret hr rfl rfl rfl
set_option maxRecDepth 20000 in
theorem eLk_read (d : Nat) (x1 : Int32) (x2 : Int32) (x3 : Int32) (s : aT) : ∀ r, (cG (fLk_needSubject d x1 s) (kV fun s1 => if gI s1 0 16 = 0 then cG (fLk_needVersion d x1 x2 s1) (kV fun s2 => cG (fFl_fileOfRow d x1 x3 s2) (kI fun v4 s3 => if ¬ v4 = (-1) then ldI 40 s3 60 v4 (fun v5 => cG (fSc_rootOf d x1 v5 s3) (kI fun v7 s6 => cG (fLk_openRows d v4 s6) (kV fun s8 => cG (fFl_rowsBefore d v4 s8) (kI fun v10 s9 => fLk_read_43 (d + 1) x1 x2 x3 v7 v10 s9)))) else rX 2 s3)) else rI (-33) s1)) = some r → fLk_read (d + 1) x1 x2 x3 s = some r := by
  intro r hr
  show ev (d + 1) q_136 0 [(0, .ref 0), (1, .int x1), (2, .int x2), (3, .int x3)] [] s = some r
  refine ev_seg 1 (k' := 1) (L' := [(0, .ref 0), (1, .int x1), (2, .int x2), (3, .int x3)]) (st' := [.int x1]) rfl ?_
  refine ev_callS (q' := q_86) (x := 86) (vs := [.int x1]) (rest := []) hr rfl rfl rfl rfl rfl rfl rfl rfl rfl rfl (fun rv s1 hq => ev_kV hq (fun e9 hr => ?_))
  subst e9
  refine ev_st (st' := []) rfl ?_
  refine ev_seg 2 (k' := 4) (L' := [(0, .ref 0), (1, .int x1), (2, .int x2), (3, .int x3)]) (st' := [.int (gI s1 0 16)]) rfl ?_
  refine ev_br (P := gI s1 0 16 = 0) (L' := [(0, .ref 0), (1, .int x1), (2, .int x2), (3, .int x3)]) (st' := []) hr rfl rfl rfl (fun hr => ?_) (fun hr => ?_)
  · skip
    refine ev_seg 3 (k' := 10) (L' := [(0, .ref 0), (1, .int x1), (2, .int x2), (3, .int x3)]) (st' := [.int x2, .int x1, .ref 0]) rfl ?_
    refine ev_callV (q' := q_117) (x := 117) (y := 11) (c := 0) (As := [.int x1, .int x2]) (rest := []) hr rfl rfl rfl rfl rfl rfl rfl rfl rfl rfl rfl rfl (fun rv s2 hq => ev_kV hq (fun e9 hr => ?_))
    subst e9
    refine ev_st (st' := []) rfl ?_
    refine ev_seg 4 (k' := 15) (L' := [(0, .ref 0), (1, .int x1), (2, .int x2), (3, .int x3)]) (st' := [.int x3, .int x1, .ref 58]) rfl ?_
    refine ev_callV (q' := q_137) (x := 137) (y := 10) (c := 58) (As := [.int x1, .int x3]) (rest := []) hr rfl rfl rfl rfl rfl rfl rfl rfl rfl rfl rfl rfl (fun rv s3 hq => ev_kI hq (fun v4 e9 hr => ?_))
    subst e9
    refine ev_st (st' := [.int v4]) rfl ?_
    refine ev_seg 3 (k' := 19) (L' := [(4, .int v4), (0, .ref 0), (1, .int x1), (2, .int x2), (3, .int x3)]) (st' := [.int (-1), .int v4]) rfl ?_
    refine ev_br (P := ¬ v4 = (-1)) (L' := [(4, .int v4), (0, .ref 0), (1, .int x1), (2, .int x2), (3, .int x3)]) (st' := []) hr rfl rfl rfl (fun hr => ?_) (fun hr => ?_)
    · skip
      refine ev_seg 7 (k' := 32) (L' := [(4, .int v4), (0, .ref 0), (1, .int x1), (2, .int x2), (3, .int x3)]) (st' := [.int v4, .ref 60, .int x1, .ref 22]) rfl ?_
      refine ev_ldI hr rfl rfl (fun v5 hr => ?_)
      refine ev_callV (q' := q_88) (x := 88) (y := 2) (c := 22) (As := [.int x1, .int v5]) (rest := []) hr rfl rfl rfl rfl rfl rfl rfl rfl rfl rfl rfl rfl (fun rv s6 hq => ev_kI hq (fun v7 e9 hr => ?_))
      subst e9
      refine ev_st (st' := [.int v7]) rfl ?_
      refine ev_seg 3 (k' := 37) (L' := [(5, .int v7), (4, .int v4), (0, .ref 0), (1, .int x1), (2, .int x2), (3, .int x3)]) (st' := [.int v4, .ref 0]) rfl ?_
      refine ev_callV (q' := q_139) (x := 139) (y := 11) (c := 0) (As := [.int v4]) (rest := []) hr rfl rfl rfl rfl rfl rfl rfl rfl rfl rfl rfl rfl (fun rv s8 hq => ev_kV hq (fun e9 hr => ?_))
      subst e9
      refine ev_st (st' := []) rfl ?_
      refine ev_seg 3 (k' := 41) (L' := [(5, .int v7), (4, .int v4), (0, .ref 0), (1, .int x1), (2, .int x2), (3, .int x3)]) (st' := [.int v4, .ref 58]) rfl ?_
      refine ev_callV (q' := q_141) (x := 141) (y := 10) (c := 58) (As := [.int v4]) (rest := []) hr rfl rfl rfl rfl rfl rfl rfl rfl rfl rfl rfl rfl (fun rv s9 hq => ev_kI hq (fun v10 e9 hr => ?_))
      subst e9
      refine ev_st (st' := [.int v10]) rfl ?_
      refine ev_seg 1 (k' := 43) (L' := [(6, .int v10), (5, .int v7), (4, .int v4), (0, .ref 0), (1, .int x1), (2, .int x2), (3, .int x3)]) (st' := []) rfl ?_
      refine ev_join (L' := [(0, .ref 0), (1, .int x1), (2, .int x2), (3, .int x3), (5, .int v7), (6, .int v10)]) [3, 4, 5, 6, 1, 0] [6, 5, 4, 0, 1, 2, 3] [0, 1, 2, 3, 5, 6] rfl rfl (by decide) (by decide) rfl ?_
      exact hr
    · skip
      exact ev_new hr rfl rfl
  · skip
    refine ev_seg 1 (k' := 6) (L' := [(0, .ref 0), (1, .int x1), (2, .int x2), (3, .int x3)]) (st' := [.int (-33)]) rfl ?_
    exact ev_iret hr rfl rfl rfl
set_option maxRecDepth 20000 in
theorem eLk_read_43 (d : Nat) (x1 : Int32) (x2 : Int32) (x3 : Int32) (z5 : Int32) (z6 : Int32) (s : aT) : ∀ r, (if x3 ≤ z6 then wI s 5 1 0 (fun s1 => cG (fSc_rootOf d x1 x2 s1) (kI fun v3 s2 => cG (fTe_tell d z5 v3 5 s2) (kI fun v5 s4 => if v5 = 0 then rI (gI s4 5 1) s4 else wI s4 5 1 0 (fun s6 => rI v5 s6)))) else cG (fTe_skipRow d z5 s) (kV fun s7 => fLk_read_43 (d + 1) x1 x2 x3 z5 (z6 + 1) s7)) = some r → fLk_read_43 (d + 1) x1 x2 x3 z5 z6 s = some r := by
  intro r hr
  show ev (d + 1) q_136 43 [(0, .ref 0), (1, .int x1), (2, .int x2), (3, .int x3), (5, .int z5), (6, .int z6)] [] s = some r
  refine ev_seg 2 (k' := 45) (L' := [(0, .ref 0), (1, .int x1), (2, .int x2), (3, .int x3), (5, .int z5), (6, .int z6)]) (st' := [.int x3, .int z6]) rfl ?_
  refine ev_br (P := x3 ≤ z6) (L' := [(0, .ref 0), (1, .int x1), (2, .int x2), (3, .int x3), (5, .int z5), (6, .int z6)]) (st' := []) hr rfl rfl rfl (fun hr => ?_) (fun hr => ?_)
  · skip
    refine ev_seg 3 (k' := 55) (L' := [(0, .ref 0), (1, .int x1), (2, .int x2), (3, .int x3), (5, .int z5), (6, .int z6)]) (st' := [.int 0, .ref 5]) rfl ?_
    refine ev_putI (c := 5) hr rfl rfl rfl (fun s1 hr => ?_)
    refine ev_seg 7 (k' := 63) (L' := [(0, .ref 0), (1, .int x1), (2, .int x2), (3, .int x3), (5, .int z5), (6, .int z6)]) (st' := [.int x2, .int x1, .ref 22, .int z5, .ref 52]) rfl ?_
    refine ev_callV (q' := q_88) (x := 88) (y := 2) (c := 22) (As := [.int x1, .int x2]) (rest := [.int z5, .ref 52]) hr rfl rfl rfl rfl rfl rfl rfl rfl rfl rfl rfl rfl (fun rv s2 hq => ev_kI hq (fun v3 e9 hr => ?_))
    subst e9
    refine ev_st (st' := [.int v3, .int z5, .ref 52]) rfl ?_
    refine ev_seg 2 (k' := 66) (L' := [(0, .ref 0), (1, .int x1), (2, .int x2), (3, .int x3), (5, .int z5), (6, .int z6)]) (st' := [.ref 5, .int v3, .int z5, .ref 52]) rfl ?_
    refine ev_callV (q' := q_148) (x := 148) (y := 8) (c := 52) (As := [.int z5, .int v3, .ref 5]) (rest := []) hr rfl rfl rfl rfl rfl rfl rfl rfl rfl rfl rfl rfl (fun rv s4 hq => ev_kI hq (fun v5 e9 hr => ?_))
    subst e9
    refine ev_st (st' := [.int v5]) rfl ?_
    refine ev_seg 2 (k' := 69) (L' := [(6, .int v5), (0, .ref 0), (1, .int x1), (2, .int x2), (3, .int x3), (5, .int z5)]) (st' := [.int v5]) rfl ?_
    refine ev_br (P := v5 = 0) (L' := [(6, .int v5), (0, .ref 0), (1, .int x1), (2, .int x2), (3, .int x3), (5, .int z5)]) (st' := []) hr rfl rfl rfl (fun hr => ?_) (fun hr => ?_)
    · skip
      refine ev_seg 3 (k' := 79) (L' := [(6, .int v5), (0, .ref 0), (1, .int x1), (2, .int x2), (3, .int x3), (5, .int z5)]) (st' := [.int (gI s4 5 1)]) rfl ?_
      exact ev_iret hr rfl rfl rfl
    · skip
      refine ev_seg 3 (k' := 73) (L' := [(6, .int v5), (0, .ref 0), (1, .int x1), (2, .int x2), (3, .int x3), (5, .int z5)]) (st' := [.int 0, .ref 5]) rfl ?_
      refine ev_putI (c := 5) hr rfl rfl rfl (fun s6 hr => ?_)
      refine ev_seg 1 (k' := 75) (L' := [(6, .int v5), (0, .ref 0), (1, .int x1), (2, .int x2), (3, .int x3), (5, .int z5)]) (st' := [.int v5]) rfl ?_
      exact ev_iret hr rfl rfl rfl
  · skip
    refine ev_seg 3 (k' := 49) (L' := [(0, .ref 0), (1, .int x1), (2, .int x2), (3, .int x3), (5, .int z5), (6, .int z6)]) (st' := [.int z5, .ref 52]) rfl ?_
    refine ev_callV (q' := q_143) (x := 143) (y := 8) (c := 52) (As := [.int z5]) (rest := []) hr rfl rfl rfl rfl rfl rfl rfl rfl rfl rfl rfl rfl (fun rv s7 hq => ev_kV hq (fun e9 hr => ?_))
    subst e9
    refine ev_st (st' := []) rfl ?_
    refine ev_seg 2 (k' := 43) (L' := [(6, .int (z6 + 1)), (0, .ref 0), (1, .int x1), (2, .int x2), (3, .int x3), (5, .int z5)]) (st' := []) rfl ?_
    refine ev_join (L' := [(0, .ref 0), (1, .int x1), (2, .int x2), (3, .int x3), (5, .int z5), (6, .int (z6 + 1))]) [1, 2, 3, 4, 5, 0] [6, 0, 1, 2, 3, 5] [0, 1, 2, 3, 5, 6] rfl rfl (by decide) (by decide) rfl ?_
    exact hr
set_option maxRecDepth 20000 in
theorem eLk_openRows (d : Nat) (x1 : Int32) (s : aT) : ∀ r, (ldI 40 s 61 x1 (fun v1 => ldI 40 s 62 x1 (fun v2 => cG (fLo_open d 57 ((v1 * 256) + 11) (((v1 * 256) + v2) - 8) s) (kV fun s3 => cG (fLo_varint d s3) (kI fun v5 s4 => cG (fLo_varint d s4) (kI fun v7 s6 => cG (fTe_open d 57 (gI s6 46 1) (((v1 * 256) + v2) - 8) s6) (kV fun s8 => rV s8))))))) = some r → fLk_openRows (d + 1) x1 s = some r := by
  intro r hr
  show ev (d + 1) q_139 0 [(0, .ref 0), (1, .int x1)] [] s = some r
  refine ev_seg 4 (k' := 4) (L' := [(0, .ref 0), (1, .int x1)]) (st' := [.int x1, .ref 61]) rfl ?_
  refine ev_ldI hr rfl rfl (fun v1 hr => ?_)
  refine ev_seg 8 (k' := 13) (L' := [(2, .int (v1 * 256)), (0, .ref 0), (1, .int x1)]) (st' := [.int x1, .ref 62, .int (v1 * 256)]) rfl ?_
  refine ev_ldI hr rfl rfl (fun v2 hr => ?_)
  refine ev_seg 13 (k' := 27) (L' := [(3, .int (((v1 * 256) + v2) - 8)), (2, .int (v1 * 256)), (0, .ref 0), (1, .int x1)]) (st' := [.int (((v1 * 256) + v2) - 8), .int ((v1 * 256) + 11), .ref 57, .ref 46]) rfl ?_
  refine ev_callV (q' := q_119) (x := 119) (y := 6) (c := 46) (As := [.ref 57, .int ((v1 * 256) + 11), .int (((v1 * 256) + v2) - 8)]) (rest := []) hr rfl rfl rfl rfl rfl rfl rfl rfl rfl rfl rfl rfl (fun rv s3 hq => ev_kV hq (fun e9 hr => ?_))
  subst e9
  refine ev_st (st' := []) rfl ?_
  refine ev_seg 2 (k' := 30) (L' := [(3, .int (((v1 * 256) + v2) - 8)), (2, .int (v1 * 256)), (0, .ref 0), (1, .int x1)]) (st' := [.ref 46]) rfl ?_
  refine ev_callV (q' := q_125) (x := 125) (y := 6) (c := 46) (As := []) (rest := []) hr rfl rfl rfl rfl rfl rfl rfl rfl rfl rfl rfl rfl (fun rv s4 hq => ev_kI hq (fun v5 e9 hr => ?_))
  subst e9
  refine ev_st (st' := [.int v5]) rfl ?_
  refine ev_seg 3 (k' := 34) (L' := [(3, .int (((v1 * 256) + v2) - 8)), (2, .int (v1 * 256)), (0, .ref 0), (1, .int x1)]) (st' := [.ref 46]) rfl ?_
  refine ev_callV (q' := q_125) (x := 125) (y := 6) (c := 46) (As := []) (rest := []) hr rfl rfl rfl rfl rfl rfl rfl rfl rfl rfl rfl rfl (fun rv s6 hq => ev_kI hq (fun v7 e9 hr => ?_))
  subst e9
  refine ev_st (st' := [.int v7]) rfl ?_
  refine ev_seg 10 (k' := 45) (L' := [(3, .int (((v1 * 256) + v2) - 8)), (2, .int (v1 * 256)), (0, .ref 0), (1, .int x1)]) (st' := [.int (((v1 * 256) + v2) - 8), .int (gI s6 46 1), .ref 57, .ref 52]) rfl ?_
  refine ev_callV (q' := q_140) (x := 140) (y := 8) (c := 52) (As := [.ref 57, .int (gI s6 46 1), .int (((v1 * 256) + v2) - 8)]) (rest := []) hr rfl rfl rfl rfl rfl rfl rfl rfl rfl rfl rfl rfl (fun rv s8 hq => ev_kV hq (fun e9 hr => ?_))
  subst e9
  refine ev_st (st' := []) rfl ?_
  exact ev_vret hr rfl rfl
set_option maxRecDepth 20000 in
theorem eLk_copy (d : Nat) (x1 : Int32) (x2 : Int32) (x3 : Int32) (s : aT) : ∀ r, (cG (fLk_needSubject d x1 s) (kV fun s1 => cG (fLk_needSubject d x2 s1) (kV fun s2 => if gI s2 0 16 = 0 then cG (fLk_needVersion d x2 x3 s2) (kV fun s3 => cG (fSc_rootOf d x2 x3 s3) (kI fun v5 s4 => cG (fLk_gather d x1 v5 s4) (kI fun v7 s6 => if 0 ≤ v7 then cG (fLk_pack d v7 9 s6) (kI fun v9 s8 => if v9 = 0 then fLk_copy_39 (d + 1) v7 (-31) s8 else cG (fLk_storeFile d x2 x3 v7 s8) (kI fun v11 s10 => fLk_copy_39 (d + 1) v7 v11 s10)) else rI v7 s6))) else rI (-33) s2))) = some r → fLk_copy (d + 1) x1 x2 x3 s = some r := by
  intro r hr
  show ev (d + 1) q_155 0 [(0, .ref 0), (1, .int x1), (2, .int x2), (3, .int x3)] [] s = some r
  refine ev_seg 1 (k' := 1) (L' := [(0, .ref 0), (1, .int x1), (2, .int x2), (3, .int x3)]) (st' := [.int x1]) rfl ?_
  refine ev_callS (q' := q_86) (x := 86) (vs := [.int x1]) (rest := []) hr rfl rfl rfl rfl rfl rfl rfl rfl rfl rfl (fun rv s1 hq => ev_kV hq (fun e9 hr => ?_))
  subst e9
  refine ev_st (st' := []) rfl ?_
  refine ev_seg 1 (k' := 3) (L' := [(0, .ref 0), (1, .int x1), (2, .int x2), (3, .int x3)]) (st' := [.int x2]) rfl ?_
  refine ev_callS (q' := q_86) (x := 86) (vs := [.int x2]) (rest := []) hr rfl rfl rfl rfl rfl rfl rfl rfl rfl rfl (fun rv s2 hq => ev_kV hq (fun e9 hr => ?_))
  subst e9
  refine ev_st (st' := []) rfl ?_
  refine ev_seg 2 (k' := 6) (L' := [(0, .ref 0), (1, .int x1), (2, .int x2), (3, .int x3)]) (st' := [.int (gI s2 0 16)]) rfl ?_
  refine ev_br (P := gI s2 0 16 = 0) (L' := [(0, .ref 0), (1, .int x1), (2, .int x2), (3, .int x3)]) (st' := []) hr rfl rfl rfl (fun hr => ?_) (fun hr => ?_)
  · skip
    refine ev_seg 3 (k' := 12) (L' := [(0, .ref 0), (1, .int x1), (2, .int x2), (3, .int x3)]) (st' := [.int x3, .int x2, .ref 0]) rfl ?_
    refine ev_callV (q' := q_117) (x := 117) (y := 11) (c := 0) (As := [.int x2, .int x3]) (rest := []) hr rfl rfl rfl rfl rfl rfl rfl rfl rfl rfl rfl rfl (fun rv s3 hq => ev_kV hq (fun e9 hr => ?_))
    subst e9
    refine ev_st (st' := []) rfl ?_
    refine ev_seg 6 (k' := 19) (L' := [(0, .ref 0), (1, .int x1), (2, .int x2), (3, .int x3)]) (st' := [.int x3, .int x2, .ref 22, .int x1, .ref 0]) rfl ?_
    refine ev_callV (q' := q_88) (x := 88) (y := 2) (c := 22) (As := [.int x2, .int x3]) (rest := [.int x1, .ref 0]) hr rfl rfl rfl rfl rfl rfl rfl rfl rfl rfl rfl rfl (fun rv s4 hq => ev_kI hq (fun v5 e9 hr => ?_))
    subst e9
    refine ev_st (st' := [.int v5, .int x1, .ref 0]) rfl ?_
    refine ev_callV (q' := q_156) (x := 156) (y := 11) (c := 0) (As := [.int x1, .int v5]) (rest := []) hr rfl rfl rfl rfl rfl rfl rfl rfl rfl rfl rfl rfl (fun rv s6 hq => ev_kI hq (fun v7 e9 hr => ?_))
    subst e9
    refine ev_st (st' := [.int v7]) rfl ?_
    refine ev_seg 2 (k' := 23) (L' := [(4, .int v7), (0, .ref 0), (1, .int x1), (2, .int x2), (3, .int x3)]) (st' := [.int v7]) rfl ?_
    refine ev_br (P := 0 ≤ v7) (L' := [(4, .int v7), (0, .ref 0), (1, .int x1), (2, .int x2), (3, .int x3)]) (st' := []) hr rfl rfl rfl (fun hr => ?_) (fun hr => ?_)
    · skip
      refine ev_seg 4 (k' := 30) (L' := [(4, .int v7), (0, .ref 0), (1, .int x1), (2, .int x2), (3, .int x3)]) (st' := [.ref 9, .int v7, .ref 0]) rfl ?_
      refine ev_callV (q' := q_135) (x := 135) (y := 11) (c := 0) (As := [.int v7, .ref 9]) (rest := []) hr rfl rfl rfl rfl rfl rfl rfl rfl rfl rfl rfl rfl (fun rv s8 hq => ev_kI hq (fun v9 e9 hr => ?_))
      subst e9
      refine ev_st (st' := [.int v9]) rfl ?_
      refine ev_br (P := v9 = 0) (L' := [(4, .int v7), (0, .ref 0), (1, .int x1), (2, .int x2), (3, .int x3)]) (st' := []) hr rfl rfl rfl (fun hr => ?_) (fun hr => ?_)
      · skip
        refine ev_seg 1 (k' := 39) (L' := [(4, .int v7), (0, .ref 0), (1, .int x1), (2, .int x2), (3, .int x3)]) (st' := [.int (-31)]) rfl ?_
        refine ev_join (L' := [(4, .int v7)]) [0] [4, 0, 1, 2, 3] [4] rfl rfl (by decide) (by decide) rfl ?_
        exact hr
      · skip
        refine ev_seg 4 (k' := 36) (L' := [(4, .int v7), (0, .ref 0), (1, .int x1), (2, .int x2), (3, .int x3)]) (st' := [.int v7, .int x3, .int x2, .ref 0]) rfl ?_
        refine ev_callV (q' := q_104) (x := 104) (y := 11) (c := 0) (As := [.int x2, .int x3, .int v7]) (rest := []) hr rfl rfl rfl rfl rfl rfl rfl rfl rfl rfl rfl rfl (fun rv s10 hq => ev_kI hq (fun v11 e9 hr => ?_))
        subst e9
        refine ev_st (st' := [.int v11]) rfl ?_
        refine ev_seg 1 (k' := 39) (L' := [(4, .int v7), (0, .ref 0), (1, .int x1), (2, .int x2), (3, .int x3)]) (st' := [.int v11]) rfl ?_
        refine ev_join (L' := [(4, .int v7)]) [0] [4, 0, 1, 2, 3] [4] rfl rfl (by decide) (by decide) rfl ?_
        exact hr
    · skip
      refine ev_seg 1 (k' := 25) (L' := [(4, .int v7), (0, .ref 0), (1, .int x1), (2, .int x2), (3, .int x3)]) (st' := [.int v7]) rfl ?_
      exact ev_iret hr rfl rfl rfl
  · skip
    refine ev_seg 1 (k' := 8) (L' := [(0, .ref 0), (1, .int x1), (2, .int x2), (3, .int x3)]) (st' := [.int (-33)]) rfl ?_
    exact ev_iret hr rfl rfl rfl
set_option maxRecDepth 20000 in
theorem eLk_copy_39 (d : Nat) (z4 : Int32) (u0 : Int32) (s : aT) : ∀ r, (if ¬ u0 = 0 then rI u0 s else rI z4 s) = some r → fLk_copy_39 (d + 1) z4 u0 s = some r := by
  intro r hr
  show ev (d + 1) q_155 39 [(4, .int z4)] [.int u0] s = some r
  refine ev_seg 2 (k' := 41) (L' := [(5, .int u0), (4, .int z4)]) (st' := [.int u0]) rfl ?_
  refine ev_br (P := ¬ u0 = 0) (L' := [(5, .int u0), (4, .int z4)]) (st' := []) hr rfl rfl rfl (fun hr => ?_) (fun hr => ?_)
  · skip
    refine ev_seg 1 (k' := 45) (L' := [(5, .int u0), (4, .int z4)]) (st' := [.int u0]) rfl ?_
    exact ev_iret hr rfl rfl rfl
  · skip
    refine ev_seg 2 (k' := 45) (L' := [(5, .int u0), (4, .int z4)]) (st' := [.int z4]) rfl ?_
    exact ev_iret hr rfl rfl rfl
set_option maxRecDepth 20000 in
theorem eLk_gather (d : Nat) (x1 : Int32) (x2 : Int32) (s : aT) : ∀ r, (wI s 9 1 0 (fun s1 => fLk_gather_12 (d + 1) x1 x2 0 0 1 0 s1)) = some r → fLk_gather (d + 1) x1 x2 s = some r := by
  intro r hr
  show ev (d + 1) q_156 0 [(0, .ref 0), (1, .int x1), (2, .int x2)] [] s = some r
  refine ev_seg 3 (k' := 3) (L' := [(0, .ref 0), (1, .int x1), (2, .int x2)]) (st' := [.int 0, .ref 9]) rfl ?_
  refine ev_putI (c := 9) hr rfl rfl rfl (fun s1 hr => ?_)
  refine ev_seg 8 (k' := 12) (L' := [(6, .int 0), (5, .int 1), (4, .int 0), (3, .int 0), (0, .ref 0), (1, .int x1), (2, .int x2)]) (st' := []) rfl ?_
  refine ev_join (L' := [(0, .ref 0), (1, .int x1), (2, .int x2), (3, .int 0), (4, .int 0), (5, .int 1), (6, .int 0)]) [4, 5, 6, 3, 2, 1, 0] [6, 5, 4, 3, 0, 1, 2] [0, 1, 2, 3, 4, 5, 6] rfl rfl (by decide) (by decide) rfl ?_
  exact hr
set_option maxRecDepth 20000 in
theorem eLk_gather_12 (d : Nat) (x1 : Int32) (x2 : Int32) (z3 : Int32) (z4 : Int32) (z5 : Int32) (z6 : Int32) (s : aT) : ∀ r, (if gI s 58 5 ≤ z6 then if ¬ z4 = 0 then if z5 = 0 then rI (-31) s else rI z3 s else rI (-34) s else cG (fFl_isRowsOf d z6 x1 s) (kI fun v2 s1 => if ¬ v2 = 0 then ldI 40 s1 60 z6 (fun v3 => cG (fSc_rootOf d x1 v3 s1) (kI fun v5 s4 => cG (fLk_openRows d z6 s4) (kV fun s6 => fLk_gather_39 (d + 1) x1 x2 z3 z4 z5 z6 v5 0 s6))) else fLk_gather_81 (d + 1) x1 x2 z3 z4 z5 z6 s1)) = some r → fLk_gather_12 (d + 1) x1 x2 z3 z4 z5 z6 s = some r := by
  intro r hr
  show ev (d + 1) q_156 12 [(0, .ref 0), (1, .int x1), (2, .int x2), (3, .int z3), (4, .int z4), (5, .int z5), (6, .int z6)] [] s = some r
  refine ev_seg 4 (k' := 16) (L' := [(0, .ref 0), (1, .int x1), (2, .int x2), (3, .int z3), (4, .int z4), (5, .int z5), (6, .int z6)]) (st' := [.int (gI s 58 5), .int z6]) rfl ?_
  refine ev_br (P := gI s 58 5 ≤ z6) (L' := [(0, .ref 0), (1, .int x1), (2, .int x2), (3, .int z3), (4, .int z4), (5, .int z5), (6, .int z6)]) (st' := []) hr rfl rfl rfl (fun hr => ?_) (fun hr => ?_)
  · skip
    refine ev_seg 1 (k' := 84) (L' := [(0, .ref 0), (1, .int x1), (2, .int x2), (3, .int z3), (4, .int z4), (5, .int z5), (6, .int z6)]) (st' := [.int z4]) rfl ?_
    refine ev_br (P := ¬ z4 = 0) (L' := [(0, .ref 0), (1, .int x1), (2, .int x2), (3, .int z3), (4, .int z4), (5, .int z5), (6, .int z6)]) (st' := []) hr rfl rfl rfl (fun hr => ?_) (fun hr => ?_)
    · skip
      refine ev_seg 1 (k' := 88) (L' := [(0, .ref 0), (1, .int x1), (2, .int x2), (3, .int z3), (4, .int z4), (5, .int z5), (6, .int z6)]) (st' := [.int z5]) rfl ?_
      refine ev_br (P := z5 = 0) (L' := [(0, .ref 0), (1, .int x1), (2, .int x2), (3, .int z3), (4, .int z4), (5, .int z5), (6, .int z6)]) (st' := []) hr rfl rfl rfl (fun hr => ?_) (fun hr => ?_)
      · skip
        refine ev_seg 1 (k' := 92) (L' := [(0, .ref 0), (1, .int x1), (2, .int x2), (3, .int z3), (4, .int z4), (5, .int z5), (6, .int z6)]) (st' := [.int (-31)]) rfl ?_
        exact ev_iret hr rfl rfl rfl
      · skip
        refine ev_seg 2 (k' := 92) (L' := [(0, .ref 0), (1, .int x1), (2, .int x2), (3, .int z3), (4, .int z4), (5, .int z5), (6, .int z6)]) (st' := [.int z3]) rfl ?_
        exact ev_iret hr rfl rfl rfl
    · skip
      refine ev_seg 1 (k' := 86) (L' := [(0, .ref 0), (1, .int x1), (2, .int x2), (3, .int z3), (4, .int z4), (5, .int z5), (6, .int z6)]) (st' := [.int (-34)]) rfl ?_
      exact ev_iret hr rfl rfl rfl
  · skip
    refine ev_seg 4 (k' := 21) (L' := [(0, .ref 0), (1, .int x1), (2, .int x2), (3, .int z3), (4, .int z4), (5, .int z5), (6, .int z6)]) (st' := [.int x1, .int z6, .ref 58]) rfl ?_
    refine ev_callV (q' := q_138) (x := 138) (y := 10) (c := 58) (As := [.int z6, .int x1]) (rest := []) hr rfl rfl rfl rfl rfl rfl rfl rfl rfl rfl rfl rfl (fun rv s1 hq => ev_kI hq (fun v2 e9 hr => ?_))
    subst e9
    refine ev_st (st' := [.int v2]) rfl ?_
    refine ev_br (P := ¬ v2 = 0) (L' := [(0, .ref 0), (1, .int x1), (2, .int x2), (3, .int z3), (4, .int z4), (5, .int z5), (6, .int z6)]) (st' := []) hr rfl rfl rfl (fun hr => ?_) (fun hr => ?_)
    · skip
      refine ev_seg 7 (k' := 31) (L' := [(0, .ref 0), (1, .int x1), (2, .int x2), (3, .int z3), (4, .int z4), (5, .int z5), (6, .int z6)]) (st' := [.int z6, .ref 60, .int x1, .ref 22]) rfl ?_
      refine ev_ldI hr rfl rfl (fun v3 hr => ?_)
      refine ev_callV (q' := q_88) (x := 88) (y := 2) (c := 22) (As := [.int x1, .int v3]) (rest := []) hr rfl rfl rfl rfl rfl rfl rfl rfl rfl rfl rfl rfl (fun rv s4 hq => ev_kI hq (fun v5 e9 hr => ?_))
      subst e9
      refine ev_st (st' := [.int v5]) rfl ?_
      refine ev_seg 3 (k' := 36) (L' := [(7, .int v5), (0, .ref 0), (1, .int x1), (2, .int x2), (3, .int z3), (4, .int z4), (5, .int z5), (6, .int z6)]) (st' := [.int z6, .ref 0]) rfl ?_
      refine ev_callV (q' := q_139) (x := 139) (y := 11) (c := 0) (As := [.int z6]) (rest := []) hr rfl rfl rfl rfl rfl rfl rfl rfl rfl rfl rfl rfl (fun rv s6 hq => ev_kV hq (fun e9 hr => ?_))
      subst e9
      refine ev_st (st' := []) rfl ?_
      refine ev_seg 2 (k' := 39) (L' := [(8, .int 0), (7, .int v5), (0, .ref 0), (1, .int x1), (2, .int x2), (3, .int z3), (4, .int z4), (5, .int z5), (6, .int z6)]) (st' := []) rfl ?_
      refine ev_join (L' := [(0, .ref 0), (1, .int x1), (2, .int x2), (3, .int z3), (4, .int z4), (5, .int z5), (6, .int z6), (7, .int v5), (8, .int 0)]) [2, 3, 4, 5, 6, 7, 8, 1, 0] [8, 7, 0, 1, 2, 3, 4, 5, 6] [0, 1, 2, 3, 4, 5, 6, 7, 8] rfl rfl (by decide) (by decide) rfl ?_
      exact hr
    · skip
      refine ev_seg 1 (k' := 81) (L' := [(0, .ref 0), (1, .int x1), (2, .int x2), (3, .int z3), (4, .int z4), (5, .int z5), (6, .int z6)]) (st' := []) rfl ?_
      exact hr
set_option maxRecDepth 20000 in
theorem eLk_gather_39 (d : Nat) (x1 : Int32) (x2 : Int32) (z3 : Int32) (z4 : Int32) (z5 : Int32) (z6 : Int32) (z7 : Int32) (z8 : Int32) (s : aT) : ∀ r, (ldI 40 s 63 z6 (fun v1 => if v1 ≤ z8 then fLk_gather_81 (d + 1) x1 x2 z3 z4 z5 z6 s else wI s 7 1 0 (fun s2 => cG (fTe_tell d z7 x2 7 s2) (kI fun v4 s3 => if v4 = 0 then if z5 = 0 then fLk_gather_70 (d + 1) x1 x2 z3 z4 z6 z7 z8 s3 else cG (fLk_gatherRow d x2 s3) (kI fun v6 s5 => if v6 = 0 then fLk_gather_70 (d + 1) x1 x2 z3 z4 z6 z7 z8 s5 else fLk_gather_71 (d + 1) x1 x2 z3 z4 z6 z7 z8 1 s5) else rI v4 s3)))) = some r → fLk_gather_39 (d + 1) x1 x2 z3 z4 z5 z6 z7 z8 s = some r := by
  intro r hr
  show ev (d + 1) q_156 39 [(0, .ref 0), (1, .int x1), (2, .int x2), (3, .int z3), (4, .int z4), (5, .int z5), (6, .int z6), (7, .int z7), (8, .int z8)] [] s = some r
  refine ev_seg 5 (k' := 44) (L' := [(0, .ref 0), (1, .int x1), (2, .int x2), (3, .int z3), (4, .int z4), (5, .int z5), (6, .int z6), (7, .int z7), (8, .int z8)]) (st' := [.int z6, .ref 63, .int z8]) rfl ?_
  refine ev_ldI hr rfl rfl (fun v1 hr => ?_)
  refine ev_br (P := v1 ≤ z8) (L' := [(0, .ref 0), (1, .int x1), (2, .int x2), (3, .int z3), (4, .int z4), (5, .int z5), (6, .int z6), (7, .int z7), (8, .int z8)]) (st' := []) hr rfl rfl rfl (fun hr => ?_) (fun hr => ?_)
  · skip
    refine ev_join (L' := [(0, .ref 0), (1, .int x1), (2, .int x2), (3, .int z3), (4, .int z4), (5, .int z5), (6, .int z6)]) [0, 1, 2, 3, 4, 5, 6] [0, 1, 2, 3, 4, 5, 6, 7, 8] [0, 1, 2, 3, 4, 5, 6] rfl rfl (by decide) (by decide) rfl ?_
    exact hr
  · skip
    refine ev_seg 3 (k' := 49) (L' := [(0, .ref 0), (1, .int x1), (2, .int x2), (3, .int z3), (4, .int z4), (5, .int z5), (6, .int z6), (7, .int z7), (8, .int z8)]) (st' := [.int 0, .ref 7]) rfl ?_
    refine ev_putI (c := 7) hr rfl rfl rfl (fun s2 hr => ?_)
    refine ev_seg 6 (k' := 56) (L' := [(0, .ref 0), (1, .int x1), (2, .int x2), (3, .int z3), (4, .int z4), (5, .int z5), (6, .int z6), (7, .int z7), (8, .int z8)]) (st' := [.ref 7, .int x2, .int z7, .ref 52]) rfl ?_
    refine ev_callV (q' := q_148) (x := 148) (y := 8) (c := 52) (As := [.int z7, .int x2, .ref 7]) (rest := []) hr rfl rfl rfl rfl rfl rfl rfl rfl rfl rfl rfl rfl (fun rv s3 hq => ev_kI hq (fun v4 e9 hr => ?_))
    subst e9
    refine ev_st (st' := [.int v4]) rfl ?_
    refine ev_seg 2 (k' := 59) (L' := [(9, .int v4), (0, .ref 0), (1, .int x1), (2, .int x2), (3, .int z3), (4, .int z4), (5, .int z5), (6, .int z6), (7, .int z7), (8, .int z8)]) (st' := [.int v4]) rfl ?_
    refine ev_br (P := v4 = 0) (L' := [(9, .int v4), (0, .ref 0), (1, .int x1), (2, .int x2), (3, .int z3), (4, .int z4), (5, .int z5), (6, .int z6), (7, .int z7), (8, .int z8)]) (st' := []) hr rfl rfl rfl (fun hr => ?_) (fun hr => ?_)
    · skip
      refine ev_seg 1 (k' := 63) (L' := [(9, .int v4), (0, .ref 0), (1, .int x1), (2, .int x2), (3, .int z3), (4, .int z4), (5, .int z5), (6, .int z6), (7, .int z7), (8, .int z8)]) (st' := [.int z5]) rfl ?_
      refine ev_br (P := z5 = 0) (L' := [(9, .int v4), (0, .ref 0), (1, .int x1), (2, .int x2), (3, .int z3), (4, .int z4), (5, .int z5), (6, .int z6), (7, .int z7), (8, .int z8)]) (st' := []) hr rfl rfl rfl (fun hr => ?_) (fun hr => ?_)
      · skip
        refine ev_join (L' := [(0, .ref 0), (1, .int x1), (2, .int x2), (3, .int z3), (4, .int z4), (6, .int z6), (7, .int z7), (8, .int z8)]) [1, 2, 3, 4, 5, 7, 8, 9] [9, 0, 1, 2, 3, 4, 5, 6, 7, 8] [0, 1, 2, 3, 4, 6, 7, 8] rfl rfl (by decide) (by decide) rfl ?_
        exact hr
      · skip
        refine ev_seg 2 (k' := 66) (L' := [(9, .int v4), (0, .ref 0), (1, .int x1), (2, .int x2), (3, .int z3), (4, .int z4), (5, .int z5), (6, .int z6), (7, .int z7), (8, .int z8)]) (st' := [.int x2, .ref 0]) rfl ?_
        refine ev_callV (q' := q_157) (x := 157) (y := 11) (c := 0) (As := [.int x2]) (rest := []) hr rfl rfl rfl rfl rfl rfl rfl rfl rfl rfl rfl rfl (fun rv s5 hq => ev_kI hq (fun v6 e9 hr => ?_))
        subst e9
        refine ev_st (st' := [.int v6]) rfl ?_
        refine ev_br (P := v6 = 0) (L' := [(9, .int v4), (0, .ref 0), (1, .int x1), (2, .int x2), (3, .int z3), (4, .int z4), (5, .int z5), (6, .int z6), (7, .int z7), (8, .int z8)]) (st' := []) hr rfl rfl rfl (fun hr => ?_) (fun hr => ?_)
        · skip
          refine ev_join (L' := [(0, .ref 0), (1, .int x1), (2, .int x2), (3, .int z3), (4, .int z4), (6, .int z6), (7, .int z7), (8, .int z8)]) [1, 2, 3, 4, 5, 7, 8, 9] [9, 0, 1, 2, 3, 4, 5, 6, 7, 8] [0, 1, 2, 3, 4, 6, 7, 8] rfl rfl (by decide) (by decide) rfl ?_
          exact hr
        · skip
          refine ev_seg 2 (k' := 71) (L' := [(9, .int v4), (0, .ref 0), (1, .int x1), (2, .int x2), (3, .int z3), (4, .int z4), (5, .int z5), (6, .int z6), (7, .int z7), (8, .int z8)]) (st' := [.int 1]) rfl ?_
          refine ev_join (L' := [(0, .ref 0), (1, .int x1), (2, .int x2), (3, .int z3), (4, .int z4), (6, .int z6), (7, .int z7), (8, .int z8)]) [1, 2, 3, 4, 5, 7, 8, 9] [9, 0, 1, 2, 3, 4, 5, 6, 7, 8] [0, 1, 2, 3, 4, 6, 7, 8] rfl rfl (by decide) (by decide) rfl ?_
          exact hr
    · skip
      refine ev_seg 1 (k' := 61) (L' := [(9, .int v4), (0, .ref 0), (1, .int x1), (2, .int x2), (3, .int z3), (4, .int z4), (5, .int z5), (6, .int z6), (7, .int z7), (8, .int z8)]) (st' := [.int v4]) rfl ?_
      exact ev_iret hr rfl rfl rfl
set_option maxRecDepth 20000 in
theorem eLk_gather_81 (d : Nat) (x1 : Int32) (x2 : Int32) (z3 : Int32) (z4 : Int32) (z5 : Int32) (z6 : Int32) (s : aT) : ∀ r, (fLk_gather_12 (d + 1) x1 x2 z3 z4 z5 (z6 + 1) s) = some r → fLk_gather_81 (d + 1) x1 x2 z3 z4 z5 z6 s = some r := by
  intro r hr
  show ev (d + 1) q_156 81 [(0, .ref 0), (1, .int x1), (2, .int x2), (3, .int z3), (4, .int z4), (5, .int z5), (6, .int z6)] [] s = some r
  refine ev_seg 2 (k' := 12) (L' := [(6, .int (z6 + 1)), (0, .ref 0), (1, .int x1), (2, .int x2), (3, .int z3), (4, .int z4), (5, .int z5)]) (st' := []) rfl ?_
  refine ev_join (L' := [(0, .ref 0), (1, .int x1), (2, .int x2), (3, .int z3), (4, .int z4), (5, .int z5), (6, .int (z6 + 1))]) [1, 2, 3, 4, 5, 6, 0] [6, 0, 1, 2, 3, 4, 5] [0, 1, 2, 3, 4, 5, 6] rfl rfl (by decide) (by decide) rfl ?_
  exact hr
set_option maxRecDepth 20000 in
theorem eLk_gather_70 (d : Nat) (x1 : Int32) (x2 : Int32) (z3 : Int32) (z4 : Int32) (z6 : Int32) (z7 : Int32) (z8 : Int32) (s : aT) : ∀ r, (fLk_gather_71 (d + 1) x1 x2 z3 z4 z6 z7 z8 0 s) = some r → fLk_gather_70 (d + 1) x1 x2 z3 z4 z6 z7 z8 s = some r := by
  intro r hr
  show ev (d + 1) q_156 70 [(0, .ref 0), (1, .int x1), (2, .int x2), (3, .int z3), (4, .int z4), (6, .int z6), (7, .int z7), (8, .int z8)] [] s = some r
  refine ev_seg 1 (k' := 71) (L' := [(0, .ref 0), (1, .int x1), (2, .int x2), (3, .int z3), (4, .int z4), (6, .int z6), (7, .int z7), (8, .int z8)]) (st' := [.int 0]) rfl ?_
  exact hr
set_option maxRecDepth 20000 in
theorem eLk_gather_71 (d : Nat) (x1 : Int32) (x2 : Int32) (z3 : Int32) (z4 : Int32) (z6 : Int32) (z7 : Int32) (z8 : Int32) (u0 : Int32) (s : aT) : ∀ r, (fLk_gather_39 (d + 1) x1 x2 (z3 + 1) (z4 + (gI s 7 1)) u0 z6 z7 (z8 + 1) s) = some r → fLk_gather_71 (d + 1) x1 x2 z3 z4 z6 z7 z8 u0 s = some r := by
  intro r hr
  show ev (d + 1) q_156 71 [(0, .ref 0), (1, .int x1), (2, .int x2), (3, .int z3), (4, .int z4), (6, .int z6), (7, .int z7), (8, .int z8)] [.int u0] s = some r
  refine ev_seg 10 (k' := 39) (L' := [(8, .int (z8 + 1)), (4, .int (z4 + (gI s 7 1))), (3, .int (z3 + 1)), (5, .int u0), (0, .ref 0), (1, .int x1), (2, .int x2), (6, .int z6), (7, .int z7)]) (st' := []) rfl ?_
  refine ev_join (L' := [(0, .ref 0), (1, .int x1), (2, .int x2), (3, .int (z3 + 1)), (4, .int (z4 + (gI s 7 1))), (5, .int u0), (6, .int z6), (7, .int z7), (8, .int (z8 + 1))]) [4, 5, 6, 2, 1, 3, 7, 8, 0] [8, 4, 3, 5, 0, 1, 2, 6, 7] [0, 1, 2, 3, 4, 5, 6, 7, 8] rfl rfl (by decide) (by decide) rfl ?_
  exact hr
set_option maxRecDepth 20000 in
theorem eLk_gatherRow (d : Nat) (x1 : Int32) (s : aT) : ∀ r, (cG (fLo_open d 8 0 (gI s 7 1) s) (kV fun s1 => cG (fLo_row d x1 s1) (kI fun v3 s2 => if v3 = 0 then rI 0 s2 else cG (fBy_putRow d 9 8 0 (gI s2 7 1) s2) (kI fun v5 s4 => if v5 = 0 then rI 0 s4 else rI 1 s4)))) = some r → fLk_gatherRow (d + 1) x1 s = some r := by
  intro r hr
  show ev (d + 1) q_157 0 [(0, .ref 0), (1, .int x1)] [] s = some r
  refine ev_seg 9 (k' := 9) (L' := [(0, .ref 0), (1, .int x1)]) (st' := [.int (gI s 7 1), .int 0, .ref 8, .ref 46]) rfl ?_
  refine ev_callV (q' := q_119) (x := 119) (y := 6) (c := 46) (As := [.ref 8, .int 0, .int (gI s 7 1)]) (rest := []) hr rfl rfl rfl rfl rfl rfl rfl rfl rfl rfl rfl rfl (fun rv s1 hq => ev_kV hq (fun e9 hr => ?_))
  subst e9
  refine ev_st (st' := []) rfl ?_
  refine ev_seg 3 (k' := 13) (L' := [(0, .ref 0), (1, .int x1)]) (st' := [.int x1, .ref 46]) rfl ?_
  refine ev_callV (q' := q_120) (x := 120) (y := 6) (c := 46) (As := [.int x1]) (rest := []) hr rfl rfl rfl rfl rfl rfl rfl rfl rfl rfl rfl rfl (fun rv s2 hq => ev_kI hq (fun v3 e9 hr => ?_))
  subst e9
  refine ev_st (st' := [.int v3]) rfl ?_
  refine ev_br (P := v3 = 0) (L' := [(0, .ref 0), (1, .int x1)]) (st' := []) hr rfl rfl rfl (fun hr => ?_) (fun hr => ?_)
  · skip
    refine ev_seg 1 (k' := 29) (L' := [(0, .ref 0), (1, .int x1)]) (st' := [.int 0]) rfl ?_
    exact ev_iret hr rfl rfl rfl
  · skip
    refine ev_seg 9 (k' := 24) (L' := [(0, .ref 0), (1, .int x1)]) (st' := [.int (gI s2 7 1), .int 0, .ref 8, .ref 9]) rfl ?_
    refine ev_callV (q' := q_48) (x := 48) (y := 0) (c := 9) (As := [.ref 8, .int 0, .int (gI s2 7 1)]) (rest := []) hr rfl rfl rfl rfl rfl rfl rfl rfl rfl rfl rfl rfl (fun rv s4 hq => ev_kI hq (fun v5 e9 hr => ?_))
    subst e9
    refine ev_st (st' := [.int v5]) rfl ?_
    refine ev_br (P := v5 = 0) (L' := [(0, .ref 0), (1, .int x1)]) (st' := []) hr rfl rfl rfl (fun hr => ?_) (fun hr => ?_)
    · skip
      refine ev_seg 1 (k' := 29) (L' := [(0, .ref 0), (1, .int x1)]) (st' := [.int 0]) rfl ?_
      exact ev_iret hr rfl rfl rfl
    · skip
      refine ev_seg 2 (k' := 29) (L' := [(0, .ref 0), (1, .int x1)]) (st' := [.int 1]) rfl ?_
      exact ev_iret hr rfl rfl rfl
set_option maxRecDepth 20000 in
theorem eLk_compact (d : Nat) (x1 : Int32) (s : aT) : ∀ r, (cG (fLk_needSubject d x1 s) (kV fun s1 => if gI s1 0 16 = 0 then fLk_compact_9 (d + 1) x1 0 s1 else rI (-33) s1)) = some r → fLk_compact (d + 1) x1 s = some r := by
  intro r hr
  show ev (d + 1) q_158 0 [(0, .ref 0), (1, .int x1)] [] s = some r
  refine ev_seg 1 (k' := 1) (L' := [(0, .ref 0), (1, .int x1)]) (st' := [.int x1]) rfl ?_
  refine ev_callS (q' := q_86) (x := 86) (vs := [.int x1]) (rest := []) hr rfl rfl rfl rfl rfl rfl rfl rfl rfl rfl (fun rv s1 hq => ev_kV hq (fun e9 hr => ?_))
  subst e9
  refine ev_st (st' := []) rfl ?_
  refine ev_seg 2 (k' := 4) (L' := [(0, .ref 0), (1, .int x1)]) (st' := [.int (gI s1 0 16)]) rfl ?_
  refine ev_br (P := gI s1 0 16 = 0) (L' := [(0, .ref 0), (1, .int x1)]) (st' := []) hr rfl rfl rfl (fun hr => ?_) (fun hr => ?_)
  · skip
    refine ev_seg 2 (k' := 9) (L' := [(2, .int 0), (0, .ref 0), (1, .int x1)]) (st' := []) rfl ?_
    refine ev_join (L' := [(0, .ref 0), (1, .int x1), (2, .int 0)]) [1, 2, 0] [2, 0, 1] [0, 1, 2] rfl rfl (by decide) (by decide) rfl ?_
    exact hr
  · skip
    refine ev_seg 1 (k' := 6) (L' := [(0, .ref 0), (1, .int x1)]) (st' := [.int (-33)]) rfl ?_
    exact ev_iret hr rfl rfl rfl
set_option maxRecDepth 20000 in
theorem eLk_compact_9 (d : Nat) (x1 : Int32) (z2 : Int32) (s : aT) : ∀ r, (if gI s 58 5 ≤ z2 then rI 0 s else cG (fFl_isRowsOf d z2 x1 s) (kI fun v2 s1 => if v2 = 0 then fLk_compact_29 (d + 1) x1 z2 (-1) s1 else cG (fFl_nextRowsOf d x1 (z2 + 1) s1) (kI fun v4 s3 => fLk_compact_29 (d + 1) x1 z2 v4 s3))) = some r → fLk_compact_9 (d + 1) x1 z2 s = some r := by
  intro r hr
  show ev (d + 1) q_158 9 [(0, .ref 0), (1, .int x1), (2, .int z2)] [] s = some r
  refine ev_seg 4 (k' := 13) (L' := [(0, .ref 0), (1, .int x1), (2, .int z2)]) (st' := [.int (gI s 58 5), .int z2]) rfl ?_
  refine ev_br (P := gI s 58 5 ≤ z2) (L' := [(0, .ref 0), (1, .int x1), (2, .int z2)]) (st' := []) hr rfl rfl rfl (fun hr => ?_) (fun hr => ?_)
  · skip
    refine ev_seg 1 (k' := 51) (L' := [(0, .ref 0), (1, .int x1), (2, .int z2)]) (st' := [.int 0]) rfl ?_
    exact ev_iret hr rfl rfl rfl
  · skip
    refine ev_seg 4 (k' := 18) (L' := [(0, .ref 0), (1, .int x1), (2, .int z2)]) (st' := [.int x1, .int z2, .ref 58]) rfl ?_
    refine ev_callV (q' := q_138) (x := 138) (y := 10) (c := 58) (As := [.int z2, .int x1]) (rest := []) hr rfl rfl rfl rfl rfl rfl rfl rfl rfl rfl rfl rfl (fun rv s1 hq => ev_kI hq (fun v2 e9 hr => ?_))
    subst e9
    refine ev_st (st' := [.int v2]) rfl ?_
    refine ev_br (P := v2 = 0) (L' := [(0, .ref 0), (1, .int x1), (2, .int z2)]) (st' := []) hr rfl rfl rfl (fun hr => ?_) (fun hr => ?_)
    · skip
      refine ev_seg 1 (k' := 29) (L' := [(0, .ref 0), (1, .int x1), (2, .int z2)]) (st' := [.int (-1)]) rfl ?_
      exact hr
    · skip
      refine ev_seg 6 (k' := 26) (L' := [(0, .ref 0), (1, .int x1), (2, .int z2)]) (st' := [.int (z2 + 1), .int x1, .ref 58]) rfl ?_
      refine ev_callV (q' := q_159) (x := 159) (y := 10) (c := 58) (As := [.int x1, .int (z2 + 1)]) (rest := []) hr rfl rfl rfl rfl rfl rfl rfl rfl rfl rfl rfl rfl (fun rv s3 hq => ev_kI hq (fun v4 e9 hr => ?_))
      subst e9
      refine ev_st (st' := [.int v4]) rfl ?_
      refine ev_seg 1 (k' := 29) (L' := [(0, .ref 0), (1, .int x1), (2, .int z2)]) (st' := [.int v4]) rfl ?_
      exact hr
set_option maxRecDepth 20000 in
theorem eLk_compact_29 (d : Nat) (x1 : Int32) (z2 : Int32) (u0 : Int32) (s : aT) : ∀ r, (if u0 = (-1) then fLk_compact_48 (d + 1) x1 z2 s else cG (fLk_sameForm d z2 u0 s) (kI fun v2 s1 => if v2 = 0 then fLk_compact_48 (d + 1) x1 z2 s1 else cG (fLk_packBoth d z2 u0 s1) (kI fun v4 s3 => if v4 = 0 then fLk_compact_48 (d + 1) x1 z2 s3 else cG (fLk_replaceBoth d z2 u0 s3) (kI fun v6 s5 => rI v6 s5)))) = some r → fLk_compact_29 (d + 1) x1 z2 u0 s = some r := by
  intro r hr
  show ev (d + 1) q_158 29 [(0, .ref 0), (1, .int x1), (2, .int z2)] [.int u0] s = some r
  refine ev_seg 3 (k' := 32) (L' := [(3, .int u0), (0, .ref 0), (1, .int x1), (2, .int z2)]) (st' := [.int (-1), .int u0]) rfl ?_
  refine ev_br (P := u0 = (-1)) (L' := [(3, .int u0), (0, .ref 0), (1, .int x1), (2, .int z2)]) (st' := []) hr rfl rfl rfl (fun hr => ?_) (fun hr => ?_)
  · skip
    refine ev_join (L' := [(0, .ref 0), (1, .int x1), (2, .int z2)]) [1, 2, 3] [3, 0, 1, 2] [0, 1, 2] rfl rfl (by decide) (by decide) rfl ?_
    exact hr
  · skip
    refine ev_seg 3 (k' := 36) (L' := [(3, .int u0), (0, .ref 0), (1, .int x1), (2, .int z2)]) (st' := [.int u0, .int z2, .ref 0]) rfl ?_
    refine ev_callV (q' := q_160) (x := 160) (y := 11) (c := 0) (As := [.int z2, .int u0]) (rest := []) hr rfl rfl rfl rfl rfl rfl rfl rfl rfl rfl rfl rfl (fun rv s1 hq => ev_kI hq (fun v2 e9 hr => ?_))
    subst e9
    refine ev_st (st' := [.int v2]) rfl ?_
    refine ev_br (P := v2 = 0) (L' := [(3, .int u0), (0, .ref 0), (1, .int x1), (2, .int z2)]) (st' := []) hr rfl rfl rfl (fun hr => ?_) (fun hr => ?_)
    · skip
      refine ev_join (L' := [(0, .ref 0), (1, .int x1), (2, .int z2)]) [1, 2, 3] [3, 0, 1, 2] [0, 1, 2] rfl rfl (by decide) (by decide) rfl ?_
      exact hr
    · skip
      refine ev_seg 3 (k' := 41) (L' := [(3, .int u0), (0, .ref 0), (1, .int x1), (2, .int z2)]) (st' := [.int u0, .int z2, .ref 0]) rfl ?_
      refine ev_callV (q' := q_163) (x := 163) (y := 11) (c := 0) (As := [.int z2, .int u0]) (rest := []) hr rfl rfl rfl rfl rfl rfl rfl rfl rfl rfl rfl rfl (fun rv s3 hq => ev_kI hq (fun v4 e9 hr => ?_))
      subst e9
      refine ev_st (st' := [.int v4]) rfl ?_
      refine ev_br (P := v4 = 0) (L' := [(3, .int u0), (0, .ref 0), (1, .int x1), (2, .int z2)]) (st' := []) hr rfl rfl rfl (fun hr => ?_) (fun hr => ?_)
      · skip
        refine ev_join (L' := [(0, .ref 0), (1, .int x1), (2, .int z2)]) [1, 2, 3] [3, 0, 1, 2] [0, 1, 2] rfl rfl (by decide) (by decide) rfl ?_
        exact hr
      · skip
        refine ev_seg 3 (k' := 46) (L' := [(3, .int u0), (0, .ref 0), (1, .int x1), (2, .int z2)]) (st' := [.int u0, .int z2, .ref 0]) rfl ?_
        refine ev_callV (q' := q_165) (x := 165) (y := 11) (c := 0) (As := [.int z2, .int u0]) (rest := []) hr rfl rfl rfl rfl rfl rfl rfl rfl rfl rfl rfl rfl (fun rv s5 hq => ev_kI hq (fun v6 e9 hr => ?_))
        subst e9
        refine ev_st (st' := [.int v6]) rfl ?_
        exact ev_iret hr rfl rfl rfl
set_option maxRecDepth 20000 in
theorem eLk_compact_48 (d : Nat) (x1 : Int32) (z2 : Int32) (s : aT) : ∀ r, (fLk_compact_9 (d + 1) x1 (z2 + 1) s) = some r → fLk_compact_48 (d + 1) x1 z2 s = some r := by
  intro r hr
  show ev (d + 1) q_158 48 [(0, .ref 0), (1, .int x1), (2, .int z2)] [] s = some r
  refine ev_seg 2 (k' := 9) (L' := [(2, .int (z2 + 1)), (0, .ref 0), (1, .int x1)]) (st' := []) rfl ?_
  refine ev_join (L' := [(0, .ref 0), (1, .int x1), (2, .int (z2 + 1))]) [1, 2, 0] [2, 0, 1] [0, 1, 2] rfl rfl (by decide) (by decide) rfl ?_
  exact hr
set_option maxRecDepth 20000 in
theorem eLk_sameForm (d : Nat) (x1 : Int32) (x2 : Int32) (s : aT) : ∀ r, (ldI 40 s 59 x1 (fun v1 => ldI 40 s 60 x1 (fun v2 => cG (fSc_rootOf d v1 v2 s) (kI fun v4 s3 => ldI 40 s3 60 x2 (fun v5 => cG (fSc_rootOf d v1 v5 s3) (kI fun v7 s6 => cG (fPf_isSame d v4 v7 s6) (kI fun v9 s8 => rZ v9 s8))))))) = some r → fLk_sameForm (d + 1) x1 x2 s = some r := by
  intro r hr
  show ev (d + 1) q_160 0 [(0, .ref 0), (1, .int x1), (2, .int x2)] [] s = some r
  refine ev_seg 4 (k' := 4) (L' := [(0, .ref 0), (1, .int x1), (2, .int x2)]) (st' := [.int x1, .ref 59]) rfl ?_
  refine ev_ldI hr rfl rfl (fun v1 hr => ?_)
  refine ev_seg 10 (k' := 15) (L' := [(3, .int v1), (0, .ref 0), (1, .int x1), (2, .int x2)]) (st' := [.int x1, .ref 60, .int v1, .ref 22, .ref 41]) rfl ?_
  refine ev_ldI hr rfl rfl (fun v2 hr => ?_)
  refine ev_callV (q' := q_88) (x := 88) (y := 2) (c := 22) (As := [.int v1, .int v2]) (rest := [.ref 41]) hr rfl rfl rfl rfl rfl rfl rfl rfl rfl rfl rfl rfl (fun rv s3 hq => ev_kI hq (fun v4 e9 hr => ?_))
  subst e9
  refine ev_st (st' := [.int v4, .ref 41]) rfl ?_
  refine ev_seg 7 (k' := 24) (L' := [(3, .int v1), (0, .ref 0), (1, .int x1), (2, .int x2)]) (st' := [.int x2, .ref 60, .int v1, .ref 22, .int v4, .ref 41]) rfl ?_
  refine ev_ldI hr rfl rfl (fun v5 hr => ?_)
  refine ev_callV (q' := q_88) (x := 88) (y := 2) (c := 22) (As := [.int v1, .int v5]) (rest := [.int v4, .ref 41]) hr rfl rfl rfl rfl rfl rfl rfl rfl rfl rfl rfl rfl (fun rv s6 hq => ev_kI hq (fun v7 e9 hr => ?_))
  subst e9
  refine ev_st (st' := [.int v7, .int v4, .ref 41]) rfl ?_
  refine ev_callV (q' := q_161) (x := 161) (y := 5) (c := 41) (As := [.int v4, .int v7]) (rest := []) hr rfl rfl rfl rfl rfl rfl rfl rfl rfl rfl rfl rfl (fun rv s8 hq => ev_kI hq (fun v9 e9 hr => ?_))
  subst e9
  refine ev_st (st' := [.int v9]) rfl ?_
  exact ev_zret hr rfl rfl
set_option maxRecDepth 20000 in
theorem eLk_packBoth (d : Nat) (x1 : Int32) (x2 : Int32) (s : aT) : ∀ r, (wI s 9 1 0 (fun s1 => cG (fLk_gatherFile d x1 s1) (kI fun v3 s2 => if v3 = 0 then rI 0 s2 else cG (fLk_gatherFile d x2 s2) (kI fun v5 s4 => if v5 = 0 then rI 0 s4 else ldI 40 s4 63 x1 (fun v6 => ldI 40 s4 63 x2 (fun v7 => cG (fLk_pack d (v6 + v7) 9 s4) (kI fun v9 s8 => if v9 = 0 then rI 0 s8 else rI 1 s8))))))) = some r → fLk_packBoth (d + 1) x1 x2 s = some r := by
  intro r hr
  show ev (d + 1) q_163 0 [(0, .ref 0), (1, .int x1), (2, .int x2)] [] s = some r
  refine ev_seg 3 (k' := 3) (L' := [(0, .ref 0), (1, .int x1), (2, .int x2)]) (st' := [.int 0, .ref 9]) rfl ?_
  refine ev_putI (c := 9) hr rfl rfl rfl (fun s1 hr => ?_)
  refine ev_seg 2 (k' := 6) (L' := [(0, .ref 0), (1, .int x1), (2, .int x2)]) (st' := [.int x1, .ref 0]) rfl ?_
  refine ev_callV (q' := q_164) (x := 164) (y := 11) (c := 0) (As := [.int x1]) (rest := []) hr rfl rfl rfl rfl rfl rfl rfl rfl rfl rfl rfl rfl (fun rv s2 hq => ev_kI hq (fun v3 e9 hr => ?_))
  subst e9
  refine ev_st (st' := [.int v3]) rfl ?_
  refine ev_br (P := v3 = 0) (L' := [(0, .ref 0), (1, .int x1), (2, .int x2)]) (st' := []) hr rfl rfl rfl (fun hr => ?_) (fun hr => ?_)
  · skip
    refine ev_seg 1 (k' := 31) (L' := [(0, .ref 0), (1, .int x1), (2, .int x2)]) (st' := [.int 0]) rfl ?_
    exact ev_iret hr rfl rfl rfl
  · skip
    refine ev_seg 2 (k' := 10) (L' := [(0, .ref 0), (1, .int x1), (2, .int x2)]) (st' := [.int x2, .ref 0]) rfl ?_
    refine ev_callV (q' := q_164) (x := 164) (y := 11) (c := 0) (As := [.int x2]) (rest := []) hr rfl rfl rfl rfl rfl rfl rfl rfl rfl rfl rfl rfl (fun rv s4 hq => ev_kI hq (fun v5 e9 hr => ?_))
    subst e9
    refine ev_st (st' := [.int v5]) rfl ?_
    refine ev_br (P := v5 = 0) (L' := [(0, .ref 0), (1, .int x1), (2, .int x2)]) (st' := []) hr rfl rfl rfl (fun hr => ?_) (fun hr => ?_)
    · skip
      refine ev_seg 1 (k' := 31) (L' := [(0, .ref 0), (1, .int x1), (2, .int x2)]) (st' := [.int 0]) rfl ?_
      exact ev_iret hr rfl rfl rfl
    · skip
      refine ev_seg 5 (k' := 17) (L' := [(0, .ref 0), (1, .int x1), (2, .int x2)]) (st' := [.int x1, .ref 63, .ref 0]) rfl ?_
      refine ev_ldI hr rfl rfl (fun v6 hr => ?_)
      refine ev_seg 4 (k' := 22) (L' := [(0, .ref 0), (1, .int x1), (2, .int x2)]) (st' := [.int x2, .ref 63, .int v6, .ref 0]) rfl ?_
      refine ev_ldI hr rfl rfl (fun v7 hr => ?_)
      refine ev_seg 3 (k' := 26) (L' := [(0, .ref 0), (1, .int x1), (2, .int x2)]) (st' := [.ref 9, .int (v6 + v7), .ref 0]) rfl ?_
      refine ev_callV (q' := q_135) (x := 135) (y := 11) (c := 0) (As := [.int (v6 + v7), .ref 9]) (rest := []) hr rfl rfl rfl rfl rfl rfl rfl rfl rfl rfl rfl rfl (fun rv s8 hq => ev_kI hq (fun v9 e9 hr => ?_))
      subst e9
      refine ev_st (st' := [.int v9]) rfl ?_
      refine ev_br (P := v9 = 0) (L' := [(0, .ref 0), (1, .int x1), (2, .int x2)]) (st' := []) hr rfl rfl rfl (fun hr => ?_) (fun hr => ?_)
      · skip
        refine ev_seg 1 (k' := 31) (L' := [(0, .ref 0), (1, .int x1), (2, .int x2)]) (st' := [.int 0]) rfl ?_
        exact ev_iret hr rfl rfl rfl
      · skip
        refine ev_seg 2 (k' := 31) (L' := [(0, .ref 0), (1, .int x1), (2, .int x2)]) (st' := [.int 1]) rfl ?_
        exact ev_iret hr rfl rfl rfl
set_option maxRecDepth 20000 in
theorem eLk_gatherFile (d : Nat) (x1 : Int32) (s : aT) : ∀ r, (cG (fLk_openRows d x1 s) (kV fun s1 => cG (fBy_putRow d 9 57 (gI s1 52 0) ((gI s1 52 1) - (gI s1 52 0)) s1) (kI fun v3 s2 => rZ v3 s2))) = some r → fLk_gatherFile (d + 1) x1 s = some r := by
  intro r hr
  show ev (d + 1) q_164 0 [(0, .ref 0), (1, .int x1)] [] s = some r
  refine ev_seg 2 (k' := 2) (L' := [(0, .ref 0), (1, .int x1)]) (st' := [.int x1, .ref 0]) rfl ?_
  refine ev_callV (q' := q_139) (x := 139) (y := 11) (c := 0) (As := [.int x1]) (rest := []) hr rfl rfl rfl rfl rfl rfl rfl rfl rfl rfl rfl rfl (fun rv s1 hq => ev_kV hq (fun e9 hr => ?_))
  subst e9
  refine ev_st (st' := []) rfl ?_
  refine ev_seg 15 (k' := 18) (L' := [(0, .ref 0), (1, .int x1)]) (st' := [.int ((gI s1 52 1) - (gI s1 52 0)), .int (gI s1 52 0), .ref 57, .ref 9]) rfl ?_
  refine ev_callV (q' := q_48) (x := 48) (y := 0) (c := 9) (As := [.ref 57, .int (gI s1 52 0), .int ((gI s1 52 1) - (gI s1 52 0))]) (rest := []) hr rfl rfl rfl rfl rfl rfl rfl rfl rfl rfl rfl rfl (fun rv s2 hq => ev_kI hq (fun v3 e9 hr => ?_))
  subst e9
  refine ev_st (st' := [.int v3]) rfl ?_
  exact ev_zret hr rfl rfl
set_option maxRecDepth 20000 in
theorem eLk_replaceBoth (d : Nat) (x1 : Int32) (x2 : Int32) (s : aT) : ∀ r, (cG (fFl_room d (gI s 11 1) s) (kI fun v2 s1 => if ¬ v2 = (-1) then cG (fDi_writeFile d v2 11 s1) (kI fun v4 s3 => if ¬ v4 = 0 then cG (fFl_merge d x1 x2 v2 (gI s3 11 1) s3) (kV fun s5 => cG (fLk_writeList d s5) (kI fun v7 s6 => if ¬ v7 = 0 then rI v7 s6 else rI 1 s6)) else cG (fLk_losePower d s3) (kI fun v9 s8 => rI v9 s8)) else rI (-31) s1)) = some r → fLk_replaceBoth (d + 1) x1 x2 s = some r := by
  intro r hr
  show ev (d + 1) q_165 0 [(0, .ref 0), (1, .int x1), (2, .int x2)] [] s = some r
  refine ev_seg 5 (k' := 5) (L' := [(0, .ref 0), (1, .int x1), (2, .int x2)]) (st' := [.int (gI s 11 1), .ref 58]) rfl ?_
  refine ev_callV (q' := q_105) (x := 105) (y := 10) (c := 58) (As := [.int (gI s 11 1)]) (rest := []) hr rfl rfl rfl rfl rfl rfl rfl rfl rfl rfl rfl rfl (fun rv s1 hq => ev_kI hq (fun v2 e9 hr => ?_))
  subst e9
  refine ev_st (st' := [.int v2]) rfl ?_
  refine ev_seg 3 (k' := 9) (L' := [(3, .int v2), (0, .ref 0), (1, .int x1), (2, .int x2)]) (st' := [.int (-1), .int v2]) rfl ?_
  refine ev_br (P := ¬ v2 = (-1)) (L' := [(3, .int v2), (0, .ref 0), (1, .int x1), (2, .int x2)]) (st' := []) hr rfl rfl rfl (fun hr => ?_) (fun hr => ?_)
  · skip
    refine ev_seg 5 (k' := 17) (L' := [(3, .int v2), (0, .ref 0), (1, .int x1), (2, .int x2)]) (st' := [.ref 11, .int v2, .ref 56]) rfl ?_
    refine ev_callV (q' := q_107) (x := 107) (y := 9) (c := 56) (As := [.int v2, .ref 11]) (rest := []) hr rfl rfl rfl rfl rfl rfl rfl rfl rfl rfl rfl rfl (fun rv s3 hq => ev_kI hq (fun v4 e9 hr => ?_))
    subst e9
    refine ev_st (st' := [.int v4]) rfl ?_
    refine ev_br (P := ¬ v4 = 0) (L' := [(3, .int v2), (0, .ref 0), (1, .int x1), (2, .int x2)]) (st' := []) hr rfl rfl rfl (fun hr => ?_) (fun hr => ?_)
    · skip
      refine ev_seg 8 (k' := 30) (L' := [(3, .int v2), (0, .ref 0), (1, .int x1), (2, .int x2)]) (st' := [.int (gI s3 11 1), .int v2, .int x2, .int x1, .ref 58]) rfl ?_
      refine ev_callV (q' := q_166) (x := 166) (y := 10) (c := 58) (As := [.int x1, .int x2, .int v2, .int (gI s3 11 1)]) (rest := []) hr rfl rfl rfl rfl rfl rfl rfl rfl rfl rfl rfl rfl (fun rv s5 hq => ev_kV hq (fun e9 hr => ?_))
      subst e9
      refine ev_st (st' := []) rfl ?_
      refine ev_seg 1 (k' := 32) (L' := [(3, .int v2), (0, .ref 0), (1, .int x1), (2, .int x2)]) (st' := [.ref 0]) rfl ?_
      refine ev_callV (q' := q_112) (x := 112) (y := 11) (c := 0) (As := []) (rest := []) hr rfl rfl rfl rfl rfl rfl rfl rfl rfl rfl rfl rfl (fun rv s6 hq => ev_kI hq (fun v7 e9 hr => ?_))
      subst e9
      refine ev_st (st' := [.int v7]) rfl ?_
      refine ev_seg 2 (k' := 35) (L' := [(4, .int v7), (3, .int v2), (0, .ref 0), (1, .int x1), (2, .int x2)]) (st' := [.int v7]) rfl ?_
      refine ev_br (P := ¬ v7 = 0) (L' := [(4, .int v7), (3, .int v2), (0, .ref 0), (1, .int x1), (2, .int x2)]) (st' := []) hr rfl rfl rfl (fun hr => ?_) (fun hr => ?_)
      · skip
        refine ev_seg 1 (k' := 39) (L' := [(4, .int v7), (3, .int v2), (0, .ref 0), (1, .int x1), (2, .int x2)]) (st' := [.int v7]) rfl ?_
        exact ev_iret hr rfl rfl rfl
      · skip
        refine ev_seg 2 (k' := 39) (L' := [(4, .int v7), (3, .int v2), (0, .ref 0), (1, .int x1), (2, .int x2)]) (st' := [.int 1]) rfl ?_
        exact ev_iret hr rfl rfl rfl
    · skip
      refine ev_seg 1 (k' := 20) (L' := [(3, .int v2), (0, .ref 0), (1, .int x1), (2, .int x2)]) (st' := [.ref 0]) rfl ?_
      refine ev_callV (q' := q_109) (x := 109) (y := 11) (c := 0) (As := []) (rest := []) hr rfl rfl rfl rfl rfl rfl rfl rfl rfl rfl rfl rfl (fun rv s8 hq => ev_kI hq (fun v9 e9 hr => ?_))
      subst e9
      refine ev_st (st' := [.int v9]) rfl ?_
      exact ev_iret hr rfl rfl rfl
  · skip
    refine ev_seg 1 (k' := 11) (L' := [(3, .int v2), (0, .ref 0), (1, .int x1), (2, .int x2)]) (st' := [.int (-31)]) rfl ?_
    exact ev_iret hr rfl rfl rfl
set_option maxRecDepth 20000 in
theorem eLk_clear (d : Nat) (x1 : Int32) (s : aT) : ∀ r, (cG (fLk_needSubject d x1 s) (kV fun s1 => if gI s1 0 16 = 0 then cG (fFl_rowsOf d x1 s1) (kI fun v3 s2 => if ¬ v3 = 0 then cG (fFl_removeRowsOf d x1 s2) (kV fun s4 => cG (fLk_writeList d s4) (kI fun v6 s5 => if ¬ v6 = 0 then rI v6 s5 else rI v3 s5)) else rI 0 s2) else rI (-33) s1)) = some r → fLk_clear (d + 1) x1 s = some r := by
  intro r hr
  show ev (d + 1) q_168 0 [(0, .ref 0), (1, .int x1)] [] s = some r
  refine ev_seg 1 (k' := 1) (L' := [(0, .ref 0), (1, .int x1)]) (st' := [.int x1]) rfl ?_
  refine ev_callS (q' := q_86) (x := 86) (vs := [.int x1]) (rest := []) hr rfl rfl rfl rfl rfl rfl rfl rfl rfl rfl (fun rv s1 hq => ev_kV hq (fun e9 hr => ?_))
  subst e9
  refine ev_st (st' := []) rfl ?_
  refine ev_seg 2 (k' := 4) (L' := [(0, .ref 0), (1, .int x1)]) (st' := [.int (gI s1 0 16)]) rfl ?_
  refine ev_br (P := gI s1 0 16 = 0) (L' := [(0, .ref 0), (1, .int x1)]) (st' := []) hr rfl rfl rfl (fun hr => ?_) (fun hr => ?_)
  · skip
    refine ev_seg 3 (k' := 10) (L' := [(0, .ref 0), (1, .int x1)]) (st' := [.int x1, .ref 58]) rfl ?_
    refine ev_callV (q' := q_169) (x := 169) (y := 10) (c := 58) (As := [.int x1]) (rest := []) hr rfl rfl rfl rfl rfl rfl rfl rfl rfl rfl rfl rfl (fun rv s2 hq => ev_kI hq (fun v3 e9 hr => ?_))
    subst e9
    refine ev_st (st' := [.int v3]) rfl ?_
    refine ev_seg 2 (k' := 13) (L' := [(2, .int v3), (0, .ref 0), (1, .int x1)]) (st' := [.int v3]) rfl ?_
    refine ev_br (P := ¬ v3 = 0) (L' := [(2, .int v3), (0, .ref 0), (1, .int x1)]) (st' := []) hr rfl rfl rfl (fun hr => ?_) (fun hr => ?_)
    · skip
      refine ev_seg 3 (k' := 19) (L' := [(2, .int v3), (0, .ref 0), (1, .int x1)]) (st' := [.int x1, .ref 58]) rfl ?_
      refine ev_callV (q' := q_170) (x := 170) (y := 10) (c := 58) (As := [.int x1]) (rest := []) hr rfl rfl rfl rfl rfl rfl rfl rfl rfl rfl rfl rfl (fun rv s4 hq => ev_kV hq (fun e9 hr => ?_))
      subst e9
      refine ev_st (st' := []) rfl ?_
      refine ev_seg 1 (k' := 21) (L' := [(2, .int v3), (0, .ref 0), (1, .int x1)]) (st' := [.ref 0]) rfl ?_
      refine ev_callV (q' := q_112) (x := 112) (y := 11) (c := 0) (As := []) (rest := []) hr rfl rfl rfl rfl rfl rfl rfl rfl rfl rfl rfl rfl (fun rv s5 hq => ev_kI hq (fun v6 e9 hr => ?_))
      subst e9
      refine ev_st (st' := [.int v6]) rfl ?_
      refine ev_seg 2 (k' := 24) (L' := [(3, .int v6), (2, .int v3), (0, .ref 0), (1, .int x1)]) (st' := [.int v6]) rfl ?_
      refine ev_br (P := ¬ v6 = 0) (L' := [(3, .int v6), (2, .int v3), (0, .ref 0), (1, .int x1)]) (st' := []) hr rfl rfl rfl (fun hr => ?_) (fun hr => ?_)
      · skip
        refine ev_seg 1 (k' := 28) (L' := [(3, .int v6), (2, .int v3), (0, .ref 0), (1, .int x1)]) (st' := [.int v6]) rfl ?_
        exact ev_iret hr rfl rfl rfl
      · skip
        refine ev_seg 2 (k' := 28) (L' := [(3, .int v6), (2, .int v3), (0, .ref 0), (1, .int x1)]) (st' := [.int v3]) rfl ?_
        exact ev_iret hr rfl rfl rfl
    · skip
      refine ev_seg 1 (k' := 15) (L' := [(2, .int v3), (0, .ref 0), (1, .int x1)]) (st' := [.int 0]) rfl ?_
      exact ev_iret hr rfl rfl rfl
  · skip
    refine ev_seg 1 (k' := 6) (L' := [(0, .ref 0), (1, .int x1)]) (st' := [.int (-33)]) rfl ?_
    exact ev_iret hr rfl rfl rfl
set_option maxRecDepth 20000 in
theorem eLk_fits (d : Nat) (x1 : Int32) (x2 : Int32) (x3 : Int32) (x4 : Int32) (s : aT) : ∀ r, (cG (fLk_needSubject d x1 s) (kV fun s1 => cG (fLk_needSubject d x3 s1) (kV fun s2 => if gI s2 0 16 = 0 then cG (fLk_needVersion d x1 x2 s2) (kV fun s3 => cG (fLk_needVersion d x3 x4 s3) (kV fun s4 => cG (fSc_rootOf d x1 x2 s4) (kI fun v6 s5 => cG (fSc_baseOf d x1 x2 s5) (kI fun v8 s7 => cG (fSc_rootOf d x3 x4 s7) (kI fun v10 s9 => cG (fSc_baseOf d x3 x4 s9) (kI fun v12 s11 => cG (fMa_isFitting d v6 v8 v10 v12 s11) (kI fun v14 s13 => rZ v14 s13))))))) else rI 0 s2))) = some r → fLk_fits (d + 1) x1 x2 x3 x4 s = some r := by
  intro r hr
  show ev (d + 1) q_171 0 [(0, .ref 0), (1, .int x1), (2, .int x2), (3, .int x3), (4, .int x4)] [] s = some r
  refine ev_seg 1 (k' := 1) (L' := [(0, .ref 0), (1, .int x1), (2, .int x2), (3, .int x3), (4, .int x4)]) (st' := [.int x1]) rfl ?_
  refine ev_callS (q' := q_86) (x := 86) (vs := [.int x1]) (rest := []) hr rfl rfl rfl rfl rfl rfl rfl rfl rfl rfl (fun rv s1 hq => ev_kV hq (fun e9 hr => ?_))
  subst e9
  refine ev_st (st' := []) rfl ?_
  refine ev_seg 1 (k' := 3) (L' := [(0, .ref 0), (1, .int x1), (2, .int x2), (3, .int x3), (4, .int x4)]) (st' := [.int x3]) rfl ?_
  refine ev_callS (q' := q_86) (x := 86) (vs := [.int x3]) (rest := []) hr rfl rfl rfl rfl rfl rfl rfl rfl rfl rfl (fun rv s2 hq => ev_kV hq (fun e9 hr => ?_))
  subst e9
  refine ev_st (st' := []) rfl ?_
  refine ev_seg 2 (k' := 6) (L' := [(0, .ref 0), (1, .int x1), (2, .int x2), (3, .int x3), (4, .int x4)]) (st' := [.int (gI s2 0 16)]) rfl ?_
  refine ev_br (P := gI s2 0 16 = 0) (L' := [(0, .ref 0), (1, .int x1), (2, .int x2), (3, .int x3), (4, .int x4)]) (st' := []) hr rfl rfl rfl (fun hr => ?_) (fun hr => ?_)
  · skip
    refine ev_seg 3 (k' := 12) (L' := [(0, .ref 0), (1, .int x1), (2, .int x2), (3, .int x3), (4, .int x4)]) (st' := [.int x2, .int x1, .ref 0]) rfl ?_
    refine ev_callV (q' := q_117) (x := 117) (y := 11) (c := 0) (As := [.int x1, .int x2]) (rest := []) hr rfl rfl rfl rfl rfl rfl rfl rfl rfl rfl rfl rfl (fun rv s3 hq => ev_kV hq (fun e9 hr => ?_))
    subst e9
    refine ev_st (st' := []) rfl ?_
    refine ev_seg 3 (k' := 16) (L' := [(0, .ref 0), (1, .int x1), (2, .int x2), (3, .int x3), (4, .int x4)]) (st' := [.int x4, .int x3, .ref 0]) rfl ?_
    refine ev_callV (q' := q_117) (x := 117) (y := 11) (c := 0) (As := [.int x3, .int x4]) (rest := []) hr rfl rfl rfl rfl rfl rfl rfl rfl rfl rfl rfl rfl (fun rv s4 hq => ev_kV hq (fun e9 hr => ?_))
    subst e9
    refine ev_st (st' := []) rfl ?_
    refine ev_seg 6 (k' := 23) (L' := [(0, .ref 0), (1, .int x1), (2, .int x2), (3, .int x3), (4, .int x4)]) (st' := [.int x2, .int x1, .ref 22, .ref 49]) rfl ?_
    refine ev_callV (q' := q_88) (x := 88) (y := 2) (c := 22) (As := [.int x1, .int x2]) (rest := [.ref 49]) hr rfl rfl rfl rfl rfl rfl rfl rfl rfl rfl rfl rfl (fun rv s5 hq => ev_kI hq (fun v6 e9 hr => ?_))
    subst e9
    refine ev_st (st' := [.int v6, .ref 49]) rfl ?_
    refine ev_seg 4 (k' := 28) (L' := [(0, .ref 0), (1, .int x1), (2, .int x2), (3, .int x3), (4, .int x4)]) (st' := [.int x2, .int x1, .ref 22, .int v6, .ref 49]) rfl ?_
    refine ev_callV (q' := q_89) (x := 89) (y := 2) (c := 22) (As := [.int x1, .int x2]) (rest := [.int v6, .ref 49]) hr rfl rfl rfl rfl rfl rfl rfl rfl rfl rfl rfl rfl (fun rv s7 hq => ev_kI hq (fun v8 e9 hr => ?_))
    subst e9
    refine ev_st (st' := [.int v8, .int v6, .ref 49]) rfl ?_
    refine ev_seg 4 (k' := 33) (L' := [(0, .ref 0), (1, .int x1), (2, .int x2), (3, .int x3), (4, .int x4)]) (st' := [.int x4, .int x3, .ref 22, .int v8, .int v6, .ref 49]) rfl ?_
    refine ev_callV (q' := q_88) (x := 88) (y := 2) (c := 22) (As := [.int x3, .int x4]) (rest := [.int v8, .int v6, .ref 49]) hr rfl rfl rfl rfl rfl rfl rfl rfl rfl rfl rfl rfl (fun rv s9 hq => ev_kI hq (fun v10 e9 hr => ?_))
    subst e9
    refine ev_st (st' := [.int v10, .int v8, .int v6, .ref 49]) rfl ?_
    refine ev_seg 4 (k' := 38) (L' := [(0, .ref 0), (1, .int x1), (2, .int x2), (3, .int x3), (4, .int x4)]) (st' := [.int x4, .int x3, .ref 22, .int v10, .int v8, .int v6, .ref 49]) rfl ?_
    refine ev_callV (q' := q_89) (x := 89) (y := 2) (c := 22) (As := [.int x3, .int x4]) (rest := [.int v10, .int v8, .int v6, .ref 49]) hr rfl rfl rfl rfl rfl rfl rfl rfl rfl rfl rfl rfl (fun rv s11 hq => ev_kI hq (fun v12 e9 hr => ?_))
    subst e9
    refine ev_st (st' := [.int v12, .int v10, .int v8, .int v6, .ref 49]) rfl ?_
    refine ev_callV (q' := q_90) (x := 90) (y := 7) (c := 49) (As := [.int v6, .int v8, .int v10, .int v12]) (rest := []) hr rfl rfl rfl rfl rfl rfl rfl rfl rfl rfl rfl rfl (fun rv s13 hq => ev_kI hq (fun v14 e9 hr => ?_))
    subst e9
    refine ev_st (st' := [.int v14]) rfl ?_
    exact ev_zret hr rfl rfl
  · skip
    refine ev_seg 1 (k' := 8) (L' := [(0, .ref 0), (1, .int x1), (2, .int x2), (3, .int x3), (4, .int x4)]) (st' := [.int 0]) rfl ?_
    exact ev_iret hr rfl rfl rfl
set_option maxRecDepth 20000 in
theorem eLk_count (d : Nat) (x1 : Int32) (x2 : Int32) (s : aT) : ∀ r, (cG (fLk_needSubject d x1 s) (kV fun s1 => cG (fLk_needWhat d x2 2 s1) (kV fun s2 => if gI s2 0 16 = 0 then if x2 = 0 then ldI 4 s2 34 x1 (fun v4 => rI v4 s2) else if x2 = 1 then cG (fFl_filesOf d x1 s2) (kI fun v7 s6 => rI v7 s6) else cG (fFl_rowsOf d x1 s2) (kI fun v9 s8 => rI v9 s8) else rI (-33) s2))) = some r → fLk_count (d + 1) x1 x2 s = some r := by
  intro r hr
  show ev (d + 1) q_172 0 [(0, .ref 0), (1, .int x1), (2, .int x2)] [] s = some r
  refine ev_seg 1 (k' := 1) (L' := [(0, .ref 0), (1, .int x1), (2, .int x2)]) (st' := [.int x1]) rfl ?_
  refine ev_callS (q' := q_86) (x := 86) (vs := [.int x1]) (rest := []) hr rfl rfl rfl rfl rfl rfl rfl rfl rfl rfl (fun rv s1 hq => ev_kV hq (fun e9 hr => ?_))
  subst e9
  refine ev_st (st' := []) rfl ?_
  refine ev_seg 2 (k' := 4) (L' := [(0, .ref 0), (1, .int x1), (2, .int x2)]) (st' := [.int 2, .int x2]) rfl ?_
  refine ev_callS (q' := q_173) (x := 173) (vs := [.int x2, .int 2]) (rest := []) hr rfl rfl rfl rfl rfl rfl rfl rfl rfl rfl (fun rv s2 hq => ev_kV hq (fun e9 hr => ?_))
  subst e9
  refine ev_st (st' := []) rfl ?_
  refine ev_seg 2 (k' := 7) (L' := [(0, .ref 0), (1, .int x1), (2, .int x2)]) (st' := [.int (gI s2 0 16)]) rfl ?_
  refine ev_br (P := gI s2 0 16 = 0) (L' := [(0, .ref 0), (1, .int x1), (2, .int x2)]) (st' := []) hr rfl rfl rfl (fun hr => ?_) (fun hr => ?_)
  · skip
    refine ev_seg 1 (k' := 11) (L' := [(0, .ref 0), (1, .int x1), (2, .int x2)]) (st' := [.int x2]) rfl ?_
    refine ev_if hr (fun h3 hr => ?_) (fun h3 hr => ?_)
    · skip
      refine ev_look (o := 28) (t := 12) rfl rfl (by rw [h3]; rfl) rfl ?_
      refine ev_seg 4 (k' := 16) (L' := [(0, .ref 0), (1, .int x1), (2, .int x2)]) (st' := [.int x1, .ref 34]) rfl ?_
      refine ev_ldI hr rfl rfl (fun v4 hr => ?_)
      exact ev_iret hr rfl rfl rfl
    refine ev_if hr (fun h5 hr => ?_) (fun h5 hr => ?_)
    · skip
      refine ev_look (o := 38) (t := 18) rfl rfl (by rw [h5]; rfl) rfl ?_
      refine ev_seg 3 (k' := 21) (L' := [(0, .ref 0), (1, .int x1), (2, .int x2)]) (st' := [.int x1, .ref 58]) rfl ?_
      refine ev_callV (q' := q_174) (x := 174) (y := 10) (c := 58) (As := [.int x1]) (rest := []) hr rfl rfl rfl rfl rfl rfl rfl rfl rfl rfl rfl rfl (fun rv s6 hq => ev_kI hq (fun v7 e9 hr => ?_))
      subst e9
      refine ev_st (st' := [.int v7]) rfl ?_
      exact ev_iret hr rfl rfl rfl
    refine ev_look (o := 47) (t := 23) rfl rfl (by have e0 := i_neL (z := 0) (w := 0) rfl h3; have e1 := i_neL (z := 1) (w := 1) rfl h5; simp only [Op.lookupswitch.offset, if_neg (Ne.symm e0), if_neg (Ne.symm e1)]) rfl ?_
    refine ev_seg 3 (k' := 26) (L' := [(0, .ref 0), (1, .int x1), (2, .int x2)]) (st' := [.int x1, .ref 58]) rfl ?_
    refine ev_callV (q' := q_169) (x := 169) (y := 10) (c := 58) (As := [.int x1]) (rest := []) hr rfl rfl rfl rfl rfl rfl rfl rfl rfl rfl rfl rfl (fun rv s8 hq => ev_kI hq (fun v9 e9 hr => ?_))
    subst e9
    refine ev_st (st' := [.int v9]) rfl ?_
    exact ev_iret hr rfl rfl rfl
  · skip
    refine ev_seg 1 (k' := 9) (L' := [(0, .ref 0), (1, .int x1), (2, .int x2)]) (st' := [.int (-33)]) rfl ?_
    exact ev_iret hr rfl rfl rfl
set_option maxRecDepth 20000 in
theorem eLk_needWhat (d : Nat) (x0 : Int32) (x1 : Int32) (s : aT) : ∀ r, (if x0 < 0 then rX 1 s else if x0 ≤ x1 then rV s else rX 1 s) = some r → fLk_needWhat d x0 x1 s = some r := by
  intro r hr
  show ev d q_173 0 [(0, .int x0), (1, .int x1)] [] s = some r
  refine ev_seg 1 (k' := 1) (L' := [(0, .int x0), (1, .int x1)]) (st' := [.int x0]) rfl ?_
  refine ev_br (P := x0 < 0) (L' := [(0, .int x0), (1, .int x1)]) (st' := []) hr rfl rfl rfl (fun hr => ?_) (fun hr => ?_)
  · skip
    exact ev_new hr rfl rfl
  · skip
    refine ev_seg 2 (k' := 4) (L' := [(0, .int x0), (1, .int x1)]) (st' := [.int x1, .int x0]) rfl ?_
    refine ev_br (P := x0 ≤ x1) (L' := [(0, .int x0), (1, .int x1)]) (st' := []) hr rfl rfl rfl (fun hr => ?_) (fun hr => ?_)
    · skip
      exact ev_vret hr rfl rfl
    · skip
      exact ev_new hr rfl rfl
set_option maxRecDepth 20000 in
theorem eLk_print (d : Nat) (x1 : Int32) (x2 : Int32) (s : aT) : ∀ r, (cG (fLk_needSubject d x1 s) (kV fun s1 => if gI s1 0 16 = 0 then cG (fLk_needVersion d x1 x2 s1) (kV fun s2 => cG (fSc_rootOf d x1 x2 s2) (kI fun v4 s3 => cG (fPf_printOf d v4 s3) (kL fun v6 s5 => rL v6 s5))) else rL 0 s1)) = some r → fLk_print (d + 1) x1 x2 s = some r := by
  intro r hr
  show ev (d + 1) q_175 0 [(0, .ref 0), (1, .int x1), (2, .int x2)] [] s = some r
  refine ev_seg 1 (k' := 1) (L' := [(0, .ref 0), (1, .int x1), (2, .int x2)]) (st' := [.int x1]) rfl ?_
  refine ev_callS (q' := q_86) (x := 86) (vs := [.int x1]) (rest := []) hr rfl rfl rfl rfl rfl rfl rfl rfl rfl rfl (fun rv s1 hq => ev_kV hq (fun e9 hr => ?_))
  subst e9
  refine ev_st (st' := []) rfl ?_
  refine ev_seg 2 (k' := 4) (L' := [(0, .ref 0), (1, .int x1), (2, .int x2)]) (st' := [.int (gI s1 0 16)]) rfl ?_
  refine ev_br (P := gI s1 0 16 = 0) (L' := [(0, .ref 0), (1, .int x1), (2, .int x2)]) (st' := []) hr rfl rfl rfl (fun hr => ?_) (fun hr => ?_)
  · skip
    refine ev_seg 3 (k' := 10) (L' := [(0, .ref 0), (1, .int x1), (2, .int x2)]) (st' := [.int x2, .int x1, .ref 0]) rfl ?_
    refine ev_callV (q' := q_117) (x := 117) (y := 11) (c := 0) (As := [.int x1, .int x2]) (rest := []) hr rfl rfl rfl rfl rfl rfl rfl rfl rfl rfl rfl rfl (fun rv s2 hq => ev_kV hq (fun e9 hr => ?_))
    subst e9
    refine ev_st (st' := []) rfl ?_
    refine ev_seg 6 (k' := 17) (L' := [(0, .ref 0), (1, .int x1), (2, .int x2)]) (st' := [.int x2, .int x1, .ref 22, .ref 41]) rfl ?_
    refine ev_callV (q' := q_88) (x := 88) (y := 2) (c := 22) (As := [.int x1, .int x2]) (rest := [.ref 41]) hr rfl rfl rfl rfl rfl rfl rfl rfl rfl rfl rfl rfl (fun rv s3 hq => ev_kI hq (fun v4 e9 hr => ?_))
    subst e9
    refine ev_st (st' := [.int v4, .ref 41]) rfl ?_
    refine ev_callV (q' := q_176) (x := 176) (y := 5) (c := 41) (As := [.int v4]) (rest := []) hr rfl rfl rfl rfl rfl rfl rfl rfl rfl rfl rfl rfl (fun rv s5 hq => ev_kL hq (fun v6 e9 hr => ?_))
    subst e9
    refine ev_st (st' := [.long v6]) rfl ?_
    exact ev_lret hr rfl rfl
  · skip
    refine ev_seg 1 (k' := 6) (L' := [(0, .ref 0), (1, .int x1), (2, .int x2)]) (st' := [.long 0]) rfl ?_
    exact ev_lret hr rfl rfl
set_option maxRecDepth 20000 in
theorem eLk_letter (d : Nat) (x1 : Int32) (x2 : Int32) (s : aT) : ∀ r, (cG (fLk_needWhat d x2 1 s) (kV fun s1 => if ¬ x2 = 0 then cG (fBy_at d 5 x1 s1) (kI fun v3 s2 => fLk_letter_14 (d + 1) v3 s2) else cG (fBy_at d 3 x1 s1) (kI fun v5 s4 => fLk_letter_14 (d + 1) v5 s4))) = some r → fLk_letter (d + 1) x1 x2 s = some r := by
  intro r hr
  show ev (d + 1) q_177 0 [(0, .ref 0), (1, .int x1), (2, .int x2)] [] s = some r
  refine ev_seg 2 (k' := 2) (L' := [(0, .ref 0), (1, .int x1), (2, .int x2)]) (st' := [.int 1, .int x2]) rfl ?_
  refine ev_callS (q' := q_173) (x := 173) (vs := [.int x2, .int 1]) (rest := []) hr rfl rfl rfl rfl rfl rfl rfl rfl rfl rfl (fun rv s1 hq => ev_kV hq (fun e9 hr => ?_))
  subst e9
  refine ev_st (st' := []) rfl ?_
  refine ev_seg 1 (k' := 4) (L' := [(0, .ref 0), (1, .int x1), (2, .int x2)]) (st' := [.int x2]) rfl ?_
  refine ev_br (P := ¬ x2 = 0) (L' := [(0, .ref 0), (1, .int x1), (2, .int x2)]) (st' := []) hr rfl rfl rfl (fun hr => ?_) (fun hr => ?_)
  · skip
    refine ev_seg 3 (k' := 13) (L' := [(0, .ref 0), (1, .int x1), (2, .int x2)]) (st' := [.int x1, .ref 5]) rfl ?_
    refine ev_callV (q' := q_46) (x := 46) (y := 0) (c := 5) (As := [.int x1]) (rest := []) hr rfl rfl rfl rfl rfl rfl rfl rfl rfl rfl rfl rfl (fun rv s2 hq => ev_kI hq (fun v3 e9 hr => ?_))
    subst e9
    refine ev_st (st' := [.int v3]) rfl ?_
    refine ev_join (L' := []) [] [0, 1, 2] [] rfl rfl (by decide) (by decide) rfl ?_
    exact hr
  · skip
    refine ev_seg 3 (k' := 8) (L' := [(0, .ref 0), (1, .int x1), (2, .int x2)]) (st' := [.int x1, .ref 3]) rfl ?_
    refine ev_callV (q' := q_46) (x := 46) (y := 0) (c := 3) (As := [.int x1]) (rest := []) hr rfl rfl rfl rfl rfl rfl rfl rfl rfl rfl rfl rfl (fun rv s4 hq => ev_kI hq (fun v5 e9 hr => ?_))
    subst e9
    refine ev_st (st' := [.int v5]) rfl ?_
    refine ev_seg 1 (k' := 14) (L' := [(0, .ref 0), (1, .int x1), (2, .int x2)]) (st' := [.int v5]) rfl ?_
    refine ev_join (L' := []) [] [0, 1, 2] [] rfl rfl (by decide) (by decide) rfl ?_
    exact hr
set_option maxRecDepth 20000 in
theorem eLk_letter_14 (d : Nat) (u0 : Int32) (s : aT) : ∀ r, (if ¬ u0 = (-1) then rI u0 s else rX 2 s) = some r → fLk_letter_14 (d + 1) u0 s = some r := by
  intro r hr
  show ev (d + 1) q_177 14 [] [.int u0] s = some r
  refine ev_seg 3 (k' := 17) (L' := [(3, .int u0)]) (st' := [.int (-1), .int u0]) rfl ?_
  refine ev_br (P := ¬ u0 = (-1)) (L' := [(3, .int u0)]) (st' := []) hr rfl rfl rfl (fun hr => ?_) (fun hr => ?_)
  · skip
    refine ev_seg 1 (k' := 24) (L' := [(3, .int u0)]) (st' := [.int u0]) rfl ?_
    exact ev_iret hr rfl rfl rfl
  · skip
    exact ev_new hr rfl rfl
set_option maxRecDepth 20000 in
theorem eLk_size (d : Nat) (x1 : Int32) (s : aT) : ∀ r, (cG (fLk_needWhat d x1 1 s) (kV fun s1 => if ¬ x1 = 0 then rI (gI s1 5 1) s1 else rI (gI s1 3 1) s1)) = some r → fLk_size (d + 1) x1 s = some r := by
  intro r hr
  show ev (d + 1) q_178 0 [(0, .ref 0), (1, .int x1)] [] s = some r
  refine ev_seg 2 (k' := 2) (L' := [(0, .ref 0), (1, .int x1)]) (st' := [.int 1, .int x1]) rfl ?_
  refine ev_callS (q' := q_173) (x := 173) (vs := [.int x1, .int 1]) (rest := []) hr rfl rfl rfl rfl rfl rfl rfl rfl rfl rfl (fun rv s1 hq => ev_kV hq (fun e9 hr => ?_))
  subst e9
  refine ev_st (st' := []) rfl ?_
  refine ev_seg 1 (k' := 4) (L' := [(0, .ref 0), (1, .int x1)]) (st' := [.int x1]) rfl ?_
  refine ev_br (P := ¬ x1 = 0) (L' := [(0, .ref 0), (1, .int x1)]) (st' := []) hr rfl rfl rfl (fun hr => ?_) (fun hr => ?_)
  · skip
    refine ev_seg 3 (k' := 12) (L' := [(0, .ref 0), (1, .int x1)]) (st' := [.int (gI s1 5 1)]) rfl ?_
    exact ev_iret hr rfl rfl rfl
  · skip
    refine ev_seg 4 (k' := 12) (L' := [(0, .ref 0), (1, .int x1)]) (st' := [.int (gI s1 3 1)]) rfl ?_
    exact ev_iret hr rfl rfl rfl
set_option maxRecDepth 20000 in
theorem eLk_file (d : Nat) (x1 : Int32) (x2 : Int32) (s : aT) : ∀ r, (if ¬ gI s 0 16 = 0 then fLk_file_15 (d + 1) x1 x2 s else if x1 < 0 then rX 2 s else if x1 < gI s 58 5 then fLk_file_15 (d + 1) x1 x2 s else rX 2 s) = some r → fLk_file (d + 1) x1 x2 s = some r := by
  intro r hr
  show ev (d + 1) q_179 0 [(0, .ref 0), (1, .int x1), (2, .int x2)] [] s = some r
  refine ev_seg 2 (k' := 2) (L' := [(0, .ref 0), (1, .int x1), (2, .int x2)]) (st' := [.int (gI s 0 16)]) rfl ?_
  refine ev_br (P := ¬ gI s 0 16 = 0) (L' := [(0, .ref 0), (1, .int x1), (2, .int x2)]) (st' := []) hr rfl rfl rfl (fun hr => ?_) (fun hr => ?_)
  · skip
    exact hr
  · skip
    refine ev_seg 1 (k' := 4) (L' := [(0, .ref 0), (1, .int x1), (2, .int x2)]) (st' := [.int x1]) rfl ?_
    refine ev_br (P := x1 < 0) (L' := [(0, .ref 0), (1, .int x1), (2, .int x2)]) (st' := []) hr rfl rfl rfl (fun hr => ?_) (fun hr => ?_)
    · skip
      exact ev_new hr rfl rfl
    · skip
      refine ev_seg 4 (k' := 9) (L' := [(0, .ref 0), (1, .int x1), (2, .int x2)]) (st' := [.int (gI s 58 5), .int x1]) rfl ?_
      refine ev_br (P := x1 < gI s 58 5) (L' := [(0, .ref 0), (1, .int x1), (2, .int x2)]) (st' := []) hr rfl rfl rfl (fun hr => ?_) (fun hr => ?_)
      · skip
        exact hr
      · skip
        exact ev_new hr rfl rfl
set_option maxRecDepth 20000 in
theorem eLk_file_15 (d : Nat) (x1 : Int32) (x2 : Int32) (s : aT) : ∀ r, (cG (fLk_needWhat d x2 4 s) (kV fun s1 => if gI s1 0 16 = 0 then if x2 = 0 then ldI 40 s1 59 x1 (fun v3 => rI v3 s1) else if x2 = 1 then ldI 40 s1 60 x1 (fun v5 => rI v5 s1) else if x2 = 2 then ldI 40 s1 61 x1 (fun v7 => rI v7 s1) else if x2 = 3 then ldI 40 s1 62 x1 (fun v9 => rI v9 s1) else ldI 40 s1 63 x1 (fun v10 => rI v10 s1) else rI (-33) s1)) = some r → fLk_file_15 (d + 1) x1 x2 s = some r := by
  intro r hr
  show ev (d + 1) q_179 15 [(0, .ref 0), (1, .int x1), (2, .int x2)] [] s = some r
  refine ev_seg 2 (k' := 17) (L' := [(0, .ref 0), (1, .int x1), (2, .int x2)]) (st' := [.int 4, .int x2]) rfl ?_
  refine ev_callS (q' := q_173) (x := 173) (vs := [.int x2, .int 4]) (rest := []) hr rfl rfl rfl rfl rfl rfl rfl rfl rfl rfl (fun rv s1 hq => ev_kV hq (fun e9 hr => ?_))
  subst e9
  refine ev_st (st' := []) rfl ?_
  refine ev_seg 2 (k' := 20) (L' := [(0, .ref 0), (1, .int x1), (2, .int x2)]) (st' := [.int (gI s1 0 16)]) rfl ?_
  refine ev_br (P := gI s1 0 16 = 0) (L' := [(0, .ref 0), (1, .int x1), (2, .int x2)]) (st' := []) hr rfl rfl rfl (fun hr => ?_) (fun hr => ?_)
  · skip
    refine ev_seg 1 (k' := 24) (L' := [(0, .ref 0), (1, .int x1), (2, .int x2)]) (st' := [.int x2]) rfl ?_
    refine ev_if hr (fun h2 hr => ?_) (fun h2 hr => ?_)
    · skip
      refine ev_tab (o := 32) (t := 25) rfl (by rw [h2]; rfl) rfl ?_
      refine ev_seg 4 (k' := 29) (L' := [(0, .ref 0), (1, .int x1), (2, .int x2)]) (st' := [.int x1, .ref 59]) rfl ?_
      refine ev_ldI hr rfl rfl (fun v3 hr => ?_)
      exact ev_iret hr rfl rfl rfl
    refine ev_if hr (fun h4 hr => ?_) (fun h4 hr => ?_)
    · skip
      refine ev_tab (o := 42) (t := 31) rfl (by rw [h4]; rfl) rfl ?_
      refine ev_seg 4 (k' := 35) (L' := [(0, .ref 0), (1, .int x1), (2, .int x2)]) (st' := [.int x1, .ref 60]) rfl ?_
      refine ev_ldI hr rfl rfl (fun v5 hr => ?_)
      exact ev_iret hr rfl rfl rfl
    refine ev_if hr (fun h6 hr => ?_) (fun h6 hr => ?_)
    · skip
      refine ev_tab (o := 52) (t := 37) rfl (by rw [h6]; rfl) rfl ?_
      refine ev_seg 4 (k' := 41) (L' := [(0, .ref 0), (1, .int x1), (2, .int x2)]) (st' := [.int x1, .ref 61]) rfl ?_
      refine ev_ldI hr rfl rfl (fun v7 hr => ?_)
      exact ev_iret hr rfl rfl rfl
    refine ev_if hr (fun h8 hr => ?_) (fun h8 hr => ?_)
    · skip
      refine ev_tab (o := 62) (t := 43) rfl (by rw [h8]; rfl) rfl ?_
      refine ev_seg 4 (k' := 47) (L' := [(0, .ref 0), (1, .int x1), (2, .int x2)]) (st' := [.int x1, .ref 62]) rfl ?_
      refine ev_ldI hr rfl rfl (fun v9 hr => ?_)
      exact ev_iret hr rfl rfl rfl
    refine ev_tab (o := 72) (t := 49) rfl (tab_in (by have e0 := i_neL (z := 0) (w := 0) rfl h2; have e1 := i_neL (z := 1) (w := 1) rfl h4; have e2 := i_neL (z := 2) (w := 2) rfl h6; have e3 := i_neL (z := 3) (w := 3) rfl h8; omega)) rfl ?_
    refine ev_seg 4 (k' := 53) (L' := [(0, .ref 0), (1, .int x1), (2, .int x2)]) (st' := [.int x1, .ref 63]) rfl ?_
    refine ev_ldI hr rfl rfl (fun v10 hr => ?_)
    exact ev_iret hr rfl rfl rfl
  · skip
    refine ev_seg 1 (k' := 22) (L' := [(0, .ref 0), (1, .int x1), (2, .int x2)]) (st' := [.int (-33)]) rfl ?_
    exact ev_iret hr rfl rfl rfl
set_option maxRecDepth 20000 in
theorem eLk_power (d : Nat) (x1 : Int32) (s : aT) : ∀ r, (if x1 < (-1) then rX 1 s else if x1 ≤ 1000 then wI s 56 1 x1 (fun s1 => rV s1) else rX 1 s) = some r → fLk_power d x1 s = some r := by
  intro r hr
  show ev d q_180 0 [(0, .ref 0), (1, .int x1)] [] s = some r
  refine ev_seg 2 (k' := 2) (L' := [(0, .ref 0), (1, .int x1)]) (st' := [.int (-1), .int x1]) rfl ?_
  refine ev_br (P := x1 < (-1)) (L' := [(0, .ref 0), (1, .int x1)]) (st' := []) hr rfl rfl rfl (fun hr => ?_) (fun hr => ?_)
  · skip
    exact ev_new hr rfl rfl
  · skip
    refine ev_seg 2 (k' := 5) (L' := [(0, .ref 0), (1, .int x1)]) (st' := [.int 1000, .int x1]) rfl ?_
    refine ev_br (P := x1 ≤ 1000) (L' := [(0, .ref 0), (1, .int x1)]) (st' := []) hr rfl rfl rfl (fun hr => ?_) (fun hr => ?_)
    · skip
      refine ev_seg 3 (k' := 14) (L' := [(0, .ref 0), (1, .int x1)]) (st' := [.int x1, .ref 56]) rfl ?_
      refine ev_putI (c := 56) hr rfl rfl rfl (fun s1 hr => ?_)
      exact ev_vret hr rfl rfl
    · skip
      exact ev_new hr rfl rfl
set_option maxRecDepth 20000 in
theorem eLk_start (d : Nat) (s : aT) : ∀ r, (if ¬ gI s 0 16 = 0 then cG (fFl_readFrom d s) (kV fun s1 => fLk_start_15 (d + 1) 0 s1) else rX 0 s) = some r → fLk_start (d + 1) s = some r := by
  intro r hr
  show ev (d + 1) q_181 0 [(0, .ref 0)] [] s = some r
  refine ev_seg 2 (k' := 2) (L' := [(0, .ref 0)]) (st' := [.int (gI s 0 16)]) rfl ?_
  refine ev_br (P := ¬ gI s 0 16 = 0) (L' := [(0, .ref 0)]) (st' := []) hr rfl rfl rfl (fun hr => ?_) (fun hr => ?_)
  · skip
    refine ev_seg 4 (k' := 12) (L' := [(0, .ref 0)]) (st' := [.ref 56, .ref 58]) rfl ?_
    refine ev_callV (q' := q_182) (x := 182) (y := 10) (c := 58) (As := [.ref 56]) (rest := []) hr rfl rfl rfl rfl rfl rfl rfl rfl rfl rfl rfl rfl (fun rv s1 hq => ev_kV hq (fun e9 hr => ?_))
    subst e9
    refine ev_st (st' := []) rfl ?_
    refine ev_seg 2 (k' := 15) (L' := [(1, .int 0), (0, .ref 0)]) (st' := []) rfl ?_
    refine ev_join (L' := [(0, .ref 0), (1, .int 0)]) [1, 0] [1, 0] [0, 1] rfl rfl (by decide) (by decide) rfl ?_
    exact hr
  · skip
    exact ev_new hr rfl rfl
set_option maxRecDepth 20000 in
theorem eLk_start_15 (d : Nat) (z1 : Int32) (s : aT) : ∀ r, (if gI s 58 5 ≤ z1 then wZ s 0 16 0 (fun s1 => rI (gI s1 58 5) s1) else ldI 40 s 63 z1 (fun v2 => if ¬ v2 = (-1) then fLk_start_30 (d + 1) z1 s else cG (fLk_readVersion d z1 s) (kV fun s3 => fLk_start_30 (d + 1) z1 s3))) = some r → fLk_start_15 (d + 1) z1 s = some r := by
  intro r hr
  show ev (d + 1) q_181 15 [(0, .ref 0), (1, .int z1)] [] s = some r
  refine ev_seg 4 (k' := 19) (L' := [(0, .ref 0), (1, .int z1)]) (st' := [.int (gI s 58 5), .int z1]) rfl ?_
  refine ev_br (P := gI s 58 5 ≤ z1) (L' := [(0, .ref 0), (1, .int z1)]) (st' := []) hr rfl rfl rfl (fun hr => ?_) (fun hr => ?_)
  · skip
    refine ev_seg 2 (k' := 34) (L' := [(0, .ref 0), (1, .int z1)]) (st' := [.int 0, .ref 0]) rfl ?_
    refine ev_putZ (c := 0) hr rfl rfl rfl (fun s1 hr => ?_)
    refine ev_seg 3 (k' := 38) (L' := [(0, .ref 0), (1, .int z1)]) (st' := [.int (gI s1 58 5)]) rfl ?_
    exact ev_iret hr rfl rfl rfl
  · skip
    refine ev_seg 4 (k' := 24) (L' := [(0, .ref 0), (1, .int z1)]) (st' := [.int z1, .ref 63]) rfl ?_
    refine ev_ldI hr rfl rfl (fun v2 hr => ?_)
    refine ev_seg 1 (k' := 26) (L' := [(0, .ref 0), (1, .int z1)]) (st' := [.int (-1), .int v2]) rfl ?_
    refine ev_br (P := ¬ v2 = (-1)) (L' := [(0, .ref 0), (1, .int z1)]) (st' := []) hr rfl rfl rfl (fun hr => ?_) (fun hr => ?_)
    · skip
      exact hr
    · skip
      refine ev_seg 2 (k' := 29) (L' := [(0, .ref 0), (1, .int z1)]) (st' := [.int z1, .ref 0]) rfl ?_
      refine ev_callV (q' := q_186) (x := 186) (y := 11) (c := 0) (As := [.int z1]) (rest := []) hr rfl rfl rfl rfl rfl rfl rfl rfl rfl rfl rfl rfl (fun rv s3 hq => ev_kV hq (fun e9 hr => ?_))
      subst e9
      refine ev_st (st' := []) rfl ?_
      exact hr
set_option maxRecDepth 20000 in
theorem eLk_start_30 (d : Nat) (z1 : Int32) (s : aT) : ∀ r, (fLk_start_15 (d + 1) (z1 + 1) s) = some r → fLk_start_30 (d + 1) z1 s = some r := by
  intro r hr
  show ev (d + 1) q_181 30 [(0, .ref 0), (1, .int z1)] [] s = some r
  refine ev_seg 2 (k' := 15) (L' := [(1, .int (z1 + 1)), (0, .ref 0)]) (st' := []) rfl ?_
  refine ev_join (L' := [(0, .ref 0), (1, .int (z1 + 1))]) [1, 0] [1, 0] [0, 1] rfl rfl (by decide) (by decide) rfl ?_
  exact hr
set_option maxRecDepth 20000 in
theorem eLk_readVersion (d : Nat) (x1 : Int32) (s : aT) : ∀ r, (ldI 40 s 61 x1 (fun v1 => ldI 40 s 62 x1 (fun v2 => cG (fTx_parse d 57 (v1 * 256) v2 s) (kV fun s3 => cG (fSr_readSchema d s3) (kI fun v5 s4 => if ¬ v5 = (-1) then ldI 40 s4 59 x1 (fun v6 => cG (fSc_keep d v6 v5 s4) (kV fun s7 => rV s7)) else cG (fSc_drop d s4) (kV fun s8 => rV s8)))))) = some r → fLk_readVersion (d + 1) x1 s = some r := by
  intro r hr
  show ev (d + 1) q_186 0 [(0, .ref 0), (1, .int x1)] [] s = some r
  refine ev_seg 9 (k' := 9) (L' := [(0, .ref 0), (1, .int x1)]) (st' := [.int x1, .ref 61, .ref 57, .ref 13]) rfl ?_
  refine ev_ldI hr rfl rfl (fun v1 hr => ?_)
  refine ev_seg 6 (k' := 16) (L' := [(0, .ref 0), (1, .int x1)]) (st' := [.int x1, .ref 62, .int (v1 * 256), .ref 57, .ref 13]) rfl ?_
  refine ev_ldI hr rfl rfl (fun v2 hr => ?_)
  refine ev_callV (q' := q_2) (x := 2) (y := 1) (c := 13) (As := [.ref 57, .int (v1 * 256), .int v2]) (rest := []) hr rfl rfl rfl rfl rfl rfl rfl rfl rfl rfl rfl rfl (fun rv s3 hq => ev_kV hq (fun e9 hr => ?_))
  subst e9
  refine ev_st (st' := []) rfl ?_
  refine ev_seg 2 (k' := 20) (L' := [(0, .ref 0), (1, .int x1)]) (st' := [.ref 37]) rfl ?_
  refine ev_callV (q' := q_25) (x := 25) (y := 3) (c := 37) (As := []) (rest := []) hr rfl rfl rfl rfl rfl rfl rfl rfl rfl rfl rfl rfl (fun rv s4 hq => ev_kI hq (fun v5 e9 hr => ?_))
  subst e9
  refine ev_st (st' := [.int v5]) rfl ?_
  refine ev_seg 3 (k' := 24) (L' := [(2, .int v5), (0, .ref 0), (1, .int x1)]) (st' := [.int (-1), .int v5]) rfl ?_
  refine ev_br (P := ¬ v5 = (-1)) (L' := [(2, .int v5), (0, .ref 0), (1, .int x1)]) (st' := []) hr rfl rfl rfl (fun hr => ?_) (fun hr => ?_)
  · skip
    refine ev_seg 6 (k' := 35) (L' := [(2, .int v5), (0, .ref 0), (1, .int x1)]) (st' := [.int x1, .ref 59, .ref 22]) rfl ?_
    refine ev_ldI hr rfl rfl (fun v6 hr => ?_)
    refine ev_seg 1 (k' := 37) (L' := [(2, .int v5), (0, .ref 0), (1, .int x1)]) (st' := [.int v5, .int v6, .ref 22]) rfl ?_
    refine ev_callV (q' := q_115) (x := 115) (y := 2) (c := 22) (As := [.int v6, .int v5]) (rest := []) hr rfl rfl rfl rfl rfl rfl rfl rfl rfl rfl rfl rfl (fun rv s7 hq => ev_kV hq (fun e9 hr => ?_))
    subst e9
    refine ev_st (st' := []) rfl ?_
    exact ev_vret hr rfl rfl
  · skip
    refine ev_seg 2 (k' := 27) (L' := [(2, .int v5), (0, .ref 0), (1, .int x1)]) (st' := [.ref 22]) rfl ?_
    refine ev_callV (q' := q_79) (x := 79) (y := 2) (c := 22) (As := []) (rest := []) hr rfl rfl rfl rfl rfl rfl rfl rfl rfl rfl rfl rfl (fun rv s8 hq => ev_kV hq (fun e9 hr => ?_))
    subst e9
    refine ev_st (st' := []) rfl ?_
    refine ev_seg 1 (k' := 38) (L' := [(2, .int v5), (0, .ref 0), (1, .int x1)]) (st' := []) rfl ?_
    exact ev_vret hr rfl rfl
