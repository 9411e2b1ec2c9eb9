/-! RecordLakeModel$Text: what its pieces do -/
set_option maxRecDepth 20000 in
theorem eMt_read (d : Nat) (c : Nat) (a1 : Nat) (x2 : Int32) (x3 : Int32) (s : aT) (hc : isT c) : ∀ r, (fMt_read_2 (d + 1) c a1 x2 x3 0 s) = some r → fMt_read (d + 1) c a1 x2 x3 s = some r := by
  intro r hr
  show ev (d + 1) q_195 0 [(0, .ref c), (1, .ref a1), (2, .int x2), (3, .int x3)] [] s = some r
  refine ev_seg 2 (k' := 2) (L' := [(4, .int 0), (0, .ref c), (1, .ref a1), (2, .int x2), (3, .int x3)]) (st' := []) rfl ?_
  refine ev_join (L' := [(0, .ref c), (1, .ref a1), (2, .int x2), (3, .int x3), (4, .int 0)]) [1, 2, 3, 4, 0] [4, 0, 1, 2, 3] [0, 1, 2, 3, 4] rfl rfl (by decide) (by decide) rfl ?_
  exact hr
set_option maxRecDepth 20000 in
theorem eMt_read_2 (d : Nat) (c : Nat) (a1 : Nat) (x2 : Int32) (x3 : Int32) (z4 : Int32) (s : aT) (hc : isT c) : ∀ r, (if x3 ≤ z4 then wI s c 1 x3 (fun s1 => wI s1 c 2 0 (fun s2 => wI s2 c 3 0 (fun s3 => wI s3 c 7 0 (fun s4 => wI s4 c 15 0 (fun s5 => wI s5 c 16 6 (fun s6 => fMt_read_36 (d + 1) c 0 s6)))))) else ldI (alen a1) s a1 (x2 + z4) (fun v7 => stI 4096 s (c + 1) z4 (vp_nar .byte v7) (fun s8 => fMt_read_2 (d + 1) c a1 x2 x3 (z4 + 1) s8))) = some r → fMt_read_2 (d + 1) c a1 x2 x3 z4 s = some r := by
  intro r hr
  show ev (d + 1) q_195 2 [(0, .ref c), (1, .ref a1), (2, .int x2), (3, .int x3), (4, .int z4)] [] s = some r
  refine ev_seg 2 (k' := 4) (L' := [(0, .ref c), (1, .ref a1), (2, .int x2), (3, .int x3), (4, .int z4)]) (st' := [.int x3, .int z4]) rfl ?_
  refine ev_br (P := x3 ≤ z4) (L' := [(0, .ref c), (1, .ref a1), (2, .int x2), (3, .int x3), (4, .int z4)]) (st' := []) hr rfl rfl rfl (fun hr => ?_) (fun hr => ?_)
  · skip
    refine ev_seg 2 (k' := 18) (L' := [(0, .ref c), (1, .ref a1), (2, .int x2), (3, .int x3), (4, .int z4)]) (st' := [.int x3, .ref c]) rfl ?_
    refine ev_putI (c := c) hr rfl (isT_sh hc) rfl (fun s1 hr => ?_)
    refine ev_seg 2 (k' := 21) (L' := [(0, .ref c), (1, .ref a1), (2, .int x2), (3, .int x3), (4, .int z4)]) (st' := [.int 0, .ref c]) rfl ?_
    refine ev_putI (c := c) hr rfl (isT_sh hc) rfl (fun s2 hr => ?_)
    refine ev_seg 2 (k' := 24) (L' := [(0, .ref c), (1, .ref a1), (2, .int x2), (3, .int x3), (4, .int z4)]) (st' := [.int 0, .ref c]) rfl ?_
    refine ev_putI (c := c) hr rfl (isT_sh hc) rfl (fun s3 hr => ?_)
    refine ev_seg 2 (k' := 27) (L' := [(0, .ref c), (1, .ref a1), (2, .int x2), (3, .int x3), (4, .int z4)]) (st' := [.int 0, .ref c]) rfl ?_
    refine ev_putI (c := c) hr rfl (isT_sh hc) rfl (fun s4 hr => ?_)
    refine ev_seg 2 (k' := 30) (L' := [(0, .ref c), (1, .ref a1), (2, .int x2), (3, .int x3), (4, .int z4)]) (st' := [.int 0, .ref c]) rfl ?_
    refine ev_putI (c := c) hr rfl (isT_sh hc) rfl (fun s5 hr => ?_)
    refine ev_seg 2 (k' := 33) (L' := [(0, .ref c), (1, .ref a1), (2, .int x2), (3, .int x3), (4, .int z4)]) (st' := [.int 6, .ref c]) rfl ?_
    refine ev_putI (c := c) hr rfl (isT_sh hc) rfl (fun s6 hr => ?_)
    refine ev_seg 2 (k' := 36) (L' := [(4, .int 0), (0, .ref c), (1, .ref a1), (2, .int x2), (3, .int x3)]) (st' := []) rfl ?_
    refine ev_join (L' := [(0, .ref c), (4, .int 0)]) [1, 0] [4, 0, 1, 2, 3] [0, 4] rfl rfl (by decide) (by decide) rfl ?_
    exact hr
  · skip
    refine ev_seg 1 (k' := 6) (L' := [(0, .ref c), (1, .ref a1), (2, .int x2), (3, .int x3), (4, .int z4)]) (st' := [.ref c]) rfl ?_
    refine ev_getR (c := c) (v := c + 1) rfl (isT_sh hc) rfl (isT_r1 hc) ?_
    refine ev_seg 5 (k' := 12) (L' := [(0, .ref c), (1, .ref a1), (2, .int x2), (3, .int x3), (4, .int z4)]) (st' := [.int (x2 + z4), .ref a1, .int z4, .ref (c + 1)]) rfl ?_
    refine ev_ldX hr rfl (fun v7 hr => ?_)
    refine ev_stB hr rfl (isT_a1 hc) (fun s8 hr => ?_)
    refine ev_seg 2 (k' := 2) (L' := [(4, .int (z4 + 1)), (0, .ref c), (1, .ref a1), (2, .int x2), (3, .int x3)]) (st' := []) rfl ?_
    refine ev_join (L' := [(0, .ref c), (1, .ref a1), (2, .int x2), (3, .int x3), (4, .int (z4 + 1))]) [1, 2, 3, 4, 0] [4, 0, 1, 2, 3] [0, 1, 2, 3, 4] rfl rfl (by decide) (by decide) rfl ?_
    exact hr
set_option maxRecDepth 20000 in
theorem eMt_read_36 (d : Nat) (c : Nat) (z4 : Int32) (s : aT) (hc : isT c) : ∀ r, (if 6 ≤ z4 then wI s c 17 0 (fun s1 => wI s1 c 24 0 (fun s2 => wI s2 c 29 0 (fun s3 => wI s3 c 4 0 (fun s4 => wI s4 c 5 (-1) (fun s5 => wI s5 c 33 0 (fun s6 => cC (fMt_readAll d c s6) (kV fun s7 => fMt_read_83 (d + 1) c 0 s7) (fun s7 => rI (gI s7 c 4) s7))))))) else stI 140 s (c + 9) z4 z4 (fun s8 => stI 140 s8 (c + 10) z4 (-1) (fun s9 => stI 140 s9 (c + 12) z4 (-1) (fun s10 => fMt_read_36 (d + 1) c (z4 + 1) s10)))) = some r → fMt_read_36 (d + 1) c z4 s = some r := by
  intro r hr
  show ev (d + 1) q_195 36 [(0, .ref c), (4, .int z4)] [] s = some r
  refine ev_seg 2 (k' := 38) (L' := [(0, .ref c), (4, .int z4)]) (st' := [.int 6, .int z4]) rfl ?_
  refine ev_br (P := 6 ≤ z4) (L' := [(0, .ref c), (4, .int z4)]) (st' := []) hr rfl rfl rfl (fun hr => ?_) (fun hr => ?_)
  · skip
    refine ev_seg 2 (k' := 58) (L' := [(0, .ref c), (4, .int z4)]) (st' := [.int 0, .ref c]) rfl ?_
    refine ev_putI (c := c) hr rfl (isT_sh hc) rfl (fun s1 hr => ?_)
    refine ev_seg 2 (k' := 61) (L' := [(0, .ref c), (4, .int z4)]) (st' := [.int 0, .ref c]) rfl ?_
    refine ev_putI (c := c) hr rfl (isT_sh hc) rfl (fun s2 hr => ?_)
    refine ev_seg 2 (k' := 64) (L' := [(0, .ref c), (4, .int z4)]) (st' := [.int 0, .ref c]) rfl ?_
    refine ev_putI (c := c) hr rfl (isT_sh hc) rfl (fun s3 hr => ?_)
    refine ev_seg 2 (k' := 67) (L' := [(0, .ref c), (4, .int z4)]) (st' := [.int 0, .ref c]) rfl ?_
    refine ev_putI (c := c) hr rfl (isT_sh hc) rfl (fun s4 hr => ?_)
    refine ev_seg 2 (k' := 70) (L' := [(0, .ref c), (4, .int z4)]) (st' := [.int (-1), .ref c]) rfl ?_
    refine ev_putI (c := c) hr rfl (isT_sh hc) rfl (fun s5 hr => ?_)
    refine ev_seg 2 (k' := 73) (L' := [(0, .ref c), (4, .int z4)]) (st' := [.int 0, .ref c]) rfl ?_
    refine ev_putI (c := c) hr rfl (isT_sh hc) rfl (fun s6 hr => ?_)
    refine ev_seg 1 (k' := 75) (L' := [(0, .ref c), (4, .int z4)]) (st' := [.ref c]) rfl ?_
    refine ev_callC (q' := q_196) (x := 196) (y := 12) (c := c) (As := []) (rest := []) (z := (130, 134, 137, 85, 77, 4)) (L' := [(0, .ref c)]) hr rfl rfl rfl rfl rfl rfl (isT_sh hc) rfl rfl rfl rfl rfl rfl rfl (fun rv s7 hq => ev_kV hq (fun e9 hr => ?_)) (fun s7 hr => ?_)
    · skip
      subst e9
      refine ev_st (st' := []) rfl ?_
      refine ev_seg 3 (k' := 83) (L' := [(4, .int 0), (0, .ref c)]) (st' := []) rfl ?_
      refine ev_join (L' := [(0, .ref c), (4, .int 0)]) [1, 0] [4, 0] [0, 4] rfl rfl (by decide) (by decide) rfl ?_
      exact hr
    · skip
      refine ev_seg 1 (k' := 79) (L' := [(0, .ref c)]) (st' := [.ref c]) rfl ?_
      refine ev_getI (c := c) rfl (isT_sh hc) rfl (Or.inl rfl) ?_
      exact ev_iret hr rfl rfl rfl
  · skip
    refine ev_seg 1 (k' := 40) (L' := [(0, .ref c), (4, .int z4)]) (st' := [.ref c]) rfl ?_
    refine ev_getR (c := c) (v := c + 9) rfl (isT_sh hc) rfl (isT_r9 hc) ?_
    refine ev_seg 2 (k' := 43) (L' := [(0, .ref c), (4, .int z4)]) (st' := [.int z4, .int z4, .ref (c + 9)]) rfl ?_
    refine ev_stI hr rfl (isT_a9 hc) (fun s8 hr => ?_)
    refine ev_seg 1 (k' := 45) (L' := [(0, .ref c), (4, .int z4)]) (st' := [.ref c]) rfl ?_
    refine ev_getR (c := c) (v := c + 10) rfl (isT_sh hc) rfl (isT_r10 hc) ?_
    refine ev_seg 2 (k' := 48) (L' := [(0, .ref c), (4, .int z4)]) (st' := [.int (-1), .int z4, .ref (c + 10)]) rfl ?_
    refine ev_stI hr rfl (isT_a10 hc) (fun s9 hr => ?_)
    refine ev_seg 1 (k' := 50) (L' := [(0, .ref c), (4, .int z4)]) (st' := [.ref c]) rfl ?_
    refine ev_getR (c := c) (v := c + 12) rfl (isT_sh hc) rfl (isT_r12 hc) ?_
    refine ev_seg 2 (k' := 53) (L' := [(0, .ref c), (4, .int z4)]) (st' := [.int (-1), .int z4, .ref (c + 12)]) rfl ?_
    refine ev_stI hr rfl (isT_a12 hc) (fun s10 hr => ?_)
    refine ev_seg 2 (k' := 36) (L' := [(4, .int (z4 + 1)), (0, .ref c)]) (st' := []) rfl ?_
    refine ev_join (L' := [(0, .ref c), (4, .int (z4 + 1))]) [1, 0] [4, 0] [0, 4] rfl rfl (by decide) (by decide) rfl ?_
    exact hr
set_option maxRecDepth 20000 in
theorem eMt_read_83 (d : Nat) (c : Nat) (z4 : Int32) (s : aT) (hc : isT c) : ∀ r, (if gI s c 16 ≤ z4 then cN (fMt_write d c (gI s c 31) s) (kV fun s1 => rI 0 s1) else stI 140 s (c + 21) z4 (vp_nar .boolean 0) (fun s2 => fMt_read_83 (d + 1) c (z4 + 1) s2)) = some r → fMt_read_83 (d + 1) c z4 s = some r := by
  intro r hr
  show ev (d + 1) q_195 83 [(0, .ref c), (4, .int z4)] [] s = some r
  refine ev_seg 2 (k' := 85) (L' := [(0, .ref c), (4, .int z4)]) (st' := [.ref c, .int z4]) rfl ?_
  refine ev_getI (c := c) rfl (isT_sh hc) rfl (Or.inl rfl) ?_
  refine ev_br (P := gI s c 16 ≤ z4) (L' := [(0, .ref c), (4, .int z4)]) (st' := []) hr rfl rfl rfl (fun hr => ?_) (fun hr => ?_)
  · skip
    refine ev_seg 2 (k' := 96) (L' := [(0, .ref c), (4, .int z4)]) (st' := [.ref c, .ref c]) rfl ?_
    refine ev_getI (c := c) rfl (isT_sh hc) rfl (Or.inl rfl) ?_
    refine ev_callN (q' := q_227) (x := 227) (y := 12) (c := c) (As := [.int (gI s c 31)]) (rest := []) hr rfl rfl rfl rfl rfl rfl (isT_sh hc) rfl rfl (fun rv s1 hq => ev_kV hq (fun e9 hr => ?_))
    subst e9
    refine ev_st (st' := []) rfl ?_
    refine ev_seg 1 (k' := 99) (L' := [(0, .ref c), (4, .int z4)]) (st' := [.int 0]) rfl ?_
    exact ev_iret hr rfl rfl rfl
  · skip
    refine ev_seg 1 (k' := 88) (L' := [(0, .ref c), (4, .int z4)]) (st' := [.ref c]) rfl ?_
    refine ev_getR (c := c) (v := c + 21) rfl (isT_sh hc) rfl (isT_r21 hc) ?_
    refine ev_seg 2 (k' := 91) (L' := [(0, .ref c), (4, .int z4)]) (st' := [.int 0, .int z4, .ref (c + 21)]) rfl ?_
    refine ev_stZ hr rfl (isT_a21 hc) (fun s2 hr => ?_)
    refine ev_seg 2 (k' := 83) (L' := [(4, .int (z4 + 1)), (0, .ref c)]) (st' := []) rfl ?_
    refine ev_join (L' := [(0, .ref c), (4, .int (z4 + 1))]) [1, 0] [4, 0] [0, 4] rfl rfl (by decide) (by decide) rfl ?_
    exact hr
set_option maxRecDepth 20000 in
theorem eMt_readAll (d : Nat) (c : Nat) (s : aT) (hc : isT c) : ∀ r, (cG (fMt_blanks d c s) (kV fun s1 => cG (fMt_value d c s1) (kI fun v3 s2 => wI s2 c 6 (gI s2 c 2) (fun s4 => cG (fMt_blanks d c s4) (kV fun s5 => if ¬ gI s5 c 2 = gI s5 c 1 then fMt_readAll_20 (d + 1) c v3 0 s5 else fMt_readAll_20 (d + 1) c v3 1 s5))))) = some r → fMt_readAll (d + 1) c s = some r := by
  intro r hr
  show ev (d + 1) q_196 0 [(0, .ref c)] [] s = some r
  refine ev_seg 1 (k' := 1) (L' := [(0, .ref c)]) (st' := [.ref c]) rfl ?_
  refine ev_callV (q' := q_197) (x := 197) (y := 12) (c := c) (As := []) (rest := []) hr rfl rfl rfl rfl rfl rfl (isT_sh hc) rfl rfl rfl rfl rfl (fun rv s1 hq => ev_kV hq (fun e9 hr => ?_))
  subst e9
  refine ev_st (st' := []) rfl ?_
  refine ev_seg 1 (k' := 3) (L' := [(0, .ref c)]) (st' := [.ref c]) rfl ?_
  refine ev_callV (q' := q_199) (x := 199) (y := 12) (c := c) (As := []) (rest := []) hr rfl rfl rfl rfl rfl rfl (isT_sh hc) rfl rfl rfl rfl rfl (fun rv s2 hq => ev_kI hq (fun v3 e9 hr => ?_))
  subst e9
  refine ev_st (st' := [.int v3]) rfl ?_
  refine ev_seg 3 (k' := 7) (L' := [(1, .int v3), (0, .ref c)]) (st' := [.ref c, .ref c]) rfl ?_
  refine ev_getI (c := c) rfl (isT_sh hc) rfl (Or.inl rfl) ?_
  refine ev_putI (c := c) hr rfl (isT_sh hc) rfl (fun s4 hr => ?_)
  refine ev_seg 1 (k' := 10) (L' := [(1, .int v3), (0, .ref c)]) (st' := [.ref c]) rfl ?_
  refine ev_callV (q' := q_197) (x := 197) (y := 12) (c := c) (As := []) (rest := []) hr rfl rfl rfl rfl rfl rfl (isT_sh hc) rfl rfl rfl rfl rfl (fun rv s5 hq => ev_kV hq (fun e9 hr => ?_))
  subst e9
  refine ev_st (st' := []) rfl ?_
  refine ev_seg 2 (k' := 13) (L' := [(1, .int v3), (0, .ref c)]) (st' := [.ref c, .ref c]) rfl ?_
  refine ev_getI (c := c) rfl (isT_sh hc) rfl (Or.inl rfl) ?_
  refine ev_seg 1 (k' := 15) (L' := [(1, .int v3), (0, .ref c)]) (st' := [.ref c, .int (gI s5 c 2), .ref c]) rfl ?_
  refine ev_getI (c := c) rfl (isT_sh hc) rfl (Or.inl rfl) ?_
  refine ev_br (P := ¬ gI s5 c 2 = gI s5 c 1) (L' := [(1, .int v3), (0, .ref c)]) (st' := [.ref c]) hr rfl rfl rfl (fun hr => ?_) (fun hr => ?_)
  · skip
    refine ev_seg 1 (k' := 20) (L' := [(1, .int v3), (0, .ref c)]) (st' := [.int 0, .ref c]) rfl ?_
    refine ev_join (L' := [(0, .ref c), (1, .int v3)]) [1, 0] [1, 0] [0, 1] rfl rfl (by decide) (by decide) rfl ?_
    exact hr
  · skip
    refine ev_seg 2 (k' := 20) (L' := [(1, .int v3), (0, .ref c)]) (st' := [.int 1, .ref c]) rfl ?_
    refine ev_join (L' := [(0, .ref c), (1, .int v3)]) [1, 0] [1, 0] [0, 1] rfl rfl (by decide) (by decide) rfl ?_
    exact hr
set_option maxRecDepth 20000 in
theorem eMt_readAll_20 (d : Nat) (c : Nat) (z1 : Int32) (u0 : Int32) (s : aT) (hc : isT c) : ∀ r, (cG (fMt_need d c u0 1 (gI s c 2) s) (kV fun s1 => cG (fMt_schemaOf d c z1 0 0 s1) (kI fun v3 s2 => wI s2 c 31 v3 (fun s4 => fMt_readAll_33 (d + 1) c 0 s4)))) = some r → fMt_readAll_20 (d + 1) c z1 u0 s = some r := by
  intro r hr
  show ev (d + 1) q_196 20 [(0, .ref c), (1, .int z1)] [.int u0, .ref c] s = some r
  refine ev_seg 2 (k' := 22) (L' := [(0, .ref c), (1, .int z1)]) (st' := [.ref c, .int 1, .int u0, .ref c]) rfl ?_
  refine ev_getI (c := c) rfl (isT_sh hc) rfl (Or.inl rfl) ?_
  refine ev_callV (q' := q_200) (x := 200) (y := 12) (c := c) (As := [.int u0, .int 1, .int (gI s c 2)]) (rest := []) hr rfl rfl rfl rfl rfl rfl (isT_sh hc) rfl rfl rfl rfl rfl (fun rv s1 hq => ev_kV hq (fun e9 hr => ?_))
  subst e9
  refine ev_st (st' := []) rfl ?_
  refine ev_seg 5 (k' := 29) (L' := [(0, .ref c), (1, .int z1)]) (st' := [.int 0, .int 0, .int z1, .ref c, .ref c]) rfl ?_
  refine ev_callV (q' := q_211) (x := 211) (y := 12) (c := c) (As := [.int z1, .int 0, .int 0]) (rest := [.ref c]) hr rfl rfl rfl rfl rfl rfl (isT_sh hc) rfl rfl rfl rfl rfl (fun rv s2 hq => ev_kI hq (fun v3 e9 hr => ?_))
  subst e9
  refine ev_st (st' := [.int v3, .ref c]) rfl ?_
  refine ev_putI (c := c) hr rfl (isT_sh hc) rfl (fun s4 hr => ?_)
  refine ev_seg 2 (k' := 33) (L' := [(2, .int 0), (0, .ref c), (1, .int z1)]) (st' := []) rfl ?_
  refine ev_join (L' := [(0, .ref c), (2, .int 0)]) [1, 0] [2, 0, 1] [0, 2] rfl rfl (by decide) (by decide) rfl ?_
  exact hr
set_option maxRecDepth 20000 in
theorem eMt_readAll_33 (d : Nat) (c : Nat) (z2 : Int32) (s : aT) (hc : isT c) : ∀ r, (if gI s c 29 ≤ z2 then rV s else ldI 2200 s (c + 19) z2 (fun v1 => ldI 2200 s (c + 17) v1 (fun v2 => if v2 < 0 then fMt_readAll_57 (d + 1) c z2 s else ldI 2200 s (c + 17) v1 (fun v3 => ldI 2200 s (c + 15) v1 (fun v4 => cG (fMt_fit d c v3 v4 s) (kV fun s5 => fMt_readAll_57 (d + 1) c z2 s5)))))) = some r → fMt_readAll_33 (d + 1) c z2 s = some r := by
  intro r hr
  show ev (d + 1) q_196 33 [(0, .ref c), (2, .int z2)] [] s = some r
  refine ev_seg 2 (k' := 35) (L' := [(0, .ref c), (2, .int z2)]) (st' := [.ref c, .int z2]) rfl ?_
  refine ev_getI (c := c) rfl (isT_sh hc) rfl (Or.inl rfl) ?_
  refine ev_br (P := gI s c 29 ≤ z2) (L' := [(0, .ref c), (2, .int z2)]) (st' := []) hr rfl rfl rfl (fun hr => ?_) (fun hr => ?_)
  · skip
    exact ev_vret hr rfl rfl
  · skip
    refine ev_seg 1 (k' := 38) (L' := [(0, .ref c), (2, .int z2)]) (st' := [.ref c]) rfl ?_
    refine ev_getR (c := c) (v := c + 19) rfl (isT_sh hc) rfl (isT_r19 hc) ?_
    refine ev_seg 1 (k' := 40) (L' := [(0, .ref c), (2, .int z2)]) (st' := [.int z2, .ref (c + 19)]) rfl ?_
    refine ev_ldI hr rfl (isT_a19 hc) (fun v1 hr => ?_)
    refine ev_seg 2 (k' := 43) (L' := [(3, .int v1), (0, .ref c), (2, .int z2)]) (st' := [.ref c]) rfl ?_
    refine ev_getR (c := c) (v := c + 17) rfl (isT_sh hc) rfl (isT_r17 hc) ?_
    refine ev_seg 1 (k' := 45) (L' := [(3, .int v1), (0, .ref c), (2, .int z2)]) (st' := [.int v1, .ref (c + 17)]) rfl ?_
    refine ev_ldI hr rfl (isT_a17 hc) (fun v2 hr => ?_)
    refine ev_br (P := v2 < 0) (L' := [(3, .int v1), (0, .ref c), (2, .int z2)]) (st' := []) hr rfl rfl rfl (fun hr => ?_) (fun hr => ?_)
    · skip
      refine ev_join (L' := [(0, .ref c), (2, .int z2)]) [1, 2] [3, 0, 2] [0, 2] rfl rfl (by decide) (by decide) rfl ?_
      exact hr
    · skip
      refine ev_seg 2 (k' := 49) (L' := [(3, .int v1), (0, .ref c), (2, .int z2)]) (st' := [.ref c, .ref c]) rfl ?_
      refine ev_getR (c := c) (v := c + 17) rfl (isT_sh hc) rfl (isT_r17 hc) ?_
      refine ev_seg 1 (k' := 51) (L' := [(3, .int v1), (0, .ref c), (2, .int z2)]) (st' := [.int v1, .ref (c + 17), .ref c]) rfl ?_
      refine ev_ldI hr rfl (isT_a17 hc) (fun v3 hr => ?_)
      refine ev_seg 1 (k' := 53) (L' := [(3, .int v1), (0, .ref c), (2, .int z2)]) (st' := [.ref c, .int v3, .ref c]) rfl ?_
      refine ev_getR (c := c) (v := c + 15) rfl (isT_sh hc) rfl (isT_r15 hc) ?_
      refine ev_seg 1 (k' := 55) (L' := [(3, .int v1), (0, .ref c), (2, .int z2)]) (st' := [.int v1, .ref (c + 15), .int v3, .ref c]) rfl ?_
      refine ev_ldI hr rfl (isT_a15 hc) (fun v4 hr => ?_)
      refine ev_callV (q' := q_225) (x := 225) (y := 12) (c := c) (As := [.int v3, .int v4]) (rest := []) hr rfl rfl rfl rfl rfl rfl (isT_sh hc) rfl rfl rfl rfl rfl (fun rv s5 hq => ev_kV hq (fun e9 hr => ?_))
      subst e9
      refine ev_st (st' := []) rfl ?_
      refine ev_join (L' := [(0, .ref c), (2, .int z2)]) [1, 2] [3, 0, 2] [0, 2] rfl rfl (by decide) (by decide) rfl ?_
      exact hr
set_option maxRecDepth 20000 in
theorem eMt_readAll_57 (d : Nat) (c : Nat) (z2 : Int32) (s : aT) (hc : isT c) : ∀ r, (fMt_readAll_33 (d + 1) c (z2 + 1) s) = some r → fMt_readAll_57 (d + 1) c z2 s = some r := by
  intro r hr
  show ev (d + 1) q_196 57 [(0, .ref c), (2, .int z2)] [] s = some r
  refine ev_seg 2 (k' := 33) (L' := [(2, .int (z2 + 1)), (0, .ref c)]) (st' := []) rfl ?_
  refine ev_join (L' := [(0, .ref c), (2, .int (z2 + 1))]) [1, 0] [2, 0] [0, 2] rfl rfl (by decide) (by decide) rfl ?_
  exact hr
set_option maxRecDepth 20000 in
theorem eMt_blanks (d : Nat) (c : Nat) (s : aT) (hc : isT c) : ∀ r, (cG (fMt_look d c s) (kI fun v2 s1 => if v2 = 32 then fMt_blanks_16 (d + 1) c s1 else cG (fMt_look d c s1) (kI fun v4 s3 => if v4 = 9 then fMt_blanks_16 (d + 1) c s3 else cG (fMt_look d c s3) (kI fun v6 s5 => if v6 = 10 then fMt_blanks_16 (d + 1) c s5 else cG (fMt_look d c s5) (kI fun v8 s7 => if ¬ v8 = 13 then rV s7 else fMt_blanks_16 (d + 1) c s7))))) = some r → fMt_blanks (d + 1) c s = some r := by
  intro r hr
  show ev (d + 1) q_197 0 [(0, .ref c)] [] s = some r
  refine ev_seg 1 (k' := 1) (L' := [(0, .ref c)]) (st' := [.ref c]) rfl ?_
  refine ev_callV (q' := q_198) (x := 198) (y := 12) (c := c) (As := []) (rest := []) hr rfl rfl rfl rfl rfl rfl (isT_sh hc) rfl rfl rfl rfl rfl (fun rv s1 hq => ev_kI hq (fun v2 e9 hr => ?_))
  subst e9
  refine ev_st (st' := [.int v2]) rfl ?_
  refine ev_seg 1 (k' := 3) (L' := [(0, .ref c)]) (st' := [.int 32, .int v2]) rfl ?_
  refine ev_br (P := v2 = 32) (L' := [(0, .ref c)]) (st' := []) hr rfl rfl rfl (fun hr => ?_) (fun hr => ?_)
  · skip
    exact hr
  · skip
    refine ev_seg 1 (k' := 5) (L' := [(0, .ref c)]) (st' := [.ref c]) rfl ?_
    refine ev_callV (q' := q_198) (x := 198) (y := 12) (c := c) (As := []) (rest := []) hr rfl rfl rfl rfl rfl rfl (isT_sh hc) rfl rfl rfl rfl rfl (fun rv s3 hq => ev_kI hq (fun v4 e9 hr => ?_))
    subst e9
    refine ev_st (st' := [.int v4]) rfl ?_
    refine ev_seg 1 (k' := 7) (L' := [(0, .ref c)]) (st' := [.int 9, .int v4]) rfl ?_
    refine ev_br (P := v4 = 9) (L' := [(0, .ref c)]) (st' := []) hr rfl rfl rfl (fun hr => ?_) (fun hr => ?_)
    · skip
      exact hr
    · skip
      refine ev_seg 1 (k' := 9) (L' := [(0, .ref c)]) (st' := [.ref c]) rfl ?_
      refine ev_callV (q' := q_198) (x := 198) (y := 12) (c := c) (As := []) (rest := []) hr rfl rfl rfl rfl rfl rfl (isT_sh hc) rfl rfl rfl rfl rfl (fun rv s5 hq => ev_kI hq (fun v6 e9 hr => ?_))
      subst e9
      refine ev_st (st' := [.int v6]) rfl ?_
      refine ev_seg 1 (k' := 11) (L' := [(0, .ref c)]) (st' := [.int 10, .int v6]) rfl ?_
      refine ev_br (P := v6 = 10) (L' := [(0, .ref c)]) (st' := []) hr rfl rfl rfl (fun hr => ?_) (fun hr => ?_)
      · skip
        exact hr
      · skip
        refine ev_seg 1 (k' := 13) (L' := [(0, .ref c)]) (st' := [.ref c]) rfl ?_
        refine ev_callV (q' := q_198) (x := 198) (y := 12) (c := c) (As := []) (rest := []) hr rfl rfl rfl rfl rfl rfl (isT_sh hc) rfl rfl rfl rfl rfl (fun rv s7 hq => ev_kI hq (fun v8 e9 hr => ?_))
        subst e9
        refine ev_st (st' := [.int v8]) rfl ?_
        refine ev_seg 1 (k' := 15) (L' := [(0, .ref c)]) (st' := [.int 13, .int v8]) rfl ?_
        refine ev_br (P := ¬ v8 = 13) (L' := [(0, .ref c)]) (st' := []) hr rfl rfl rfl (fun hr => ?_) (fun hr => ?_)
        · skip
          exact ev_vret hr rfl rfl
        · skip
          exact hr
set_option maxRecDepth 20000 in
theorem eMt_blanks_16 (d : Nat) (c : Nat) (s : aT) (hc : isT c) : ∀ r, (wI s c 2 ((gI s c 2) + 1) (fun s1 => fMt_blanks (d + 1) c s1)) = some r → fMt_blanks_16 (d + 1) c s = some r := by
  intro r hr
  show ev (d + 1) q_197 16 [(0, .ref c)] [] s = some r
  refine ev_seg 2 (k' := 18) (L' := [(0, .ref c)]) (st' := [.ref c, .ref c]) rfl ?_
  refine ev_getI (c := c) rfl (isT_sh hc) rfl (Or.inl rfl) ?_
  refine ev_seg 2 (k' := 21) (L' := [(0, .ref c)]) (st' := [.int ((gI s c 2) + 1), .ref c]) rfl ?_
  refine ev_putI (c := c) hr rfl (isT_sh hc) rfl (fun s1 hr => ?_)
  refine ev_seg 1 (k' := 0) (L' := [(0, .ref c)]) (st' := []) rfl ?_
  exact hr
set_option maxRecDepth 20000 in
theorem eMt_look (d : Nat) (c : Nat) (s : aT) (hc : isT c) : ∀ r, (if gI s c 1 ≤ gI s c 2 then rI (-1) s else ldI 4096 s (c + 1) (gI s c 2) (fun v1 => rI v1 s)) = some r → fMt_look d c s = some r := by
  intro r hr
  show ev d q_198 0 [(0, .ref c)] [] s = some r
  refine ev_seg 1 (k' := 1) (L' := [(0, .ref c)]) (st' := [.ref c]) rfl ?_
  refine ev_getI (c := c) rfl (isT_sh hc) rfl (Or.inl rfl) ?_
  refine ev_seg 1 (k' := 3) (L' := [(0, .ref c)]) (st' := [.ref c, .int (gI s c 2)]) rfl ?_
  refine ev_getI (c := c) rfl (isT_sh hc) rfl (Or.inl rfl) ?_
  refine ev_br (P := gI s c 1 ≤ gI s c 2) (L' := [(0, .ref c)]) (st' := []) hr rfl rfl rfl (fun hr => ?_) (fun hr => ?_)
  · skip
    refine ev_seg 1 (k' := 12) (L' := [(0, .ref c)]) (st' := [.int (-1)]) rfl ?_
    exact ev_iret hr rfl rfl rfl
  · skip
    refine ev_seg 1 (k' := 6) (L' := [(0, .ref c)]) (st' := [.ref c]) rfl ?_
    refine ev_getR (c := c) (v := c + 1) rfl (isT_sh hc) rfl (isT_r1 hc) ?_
    refine ev_seg 1 (k' := 8) (L' := [(0, .ref c)]) (st' := [.ref c, .ref (c + 1)]) rfl ?_
    refine ev_getI (c := c) rfl (isT_sh hc) rfl (Or.inl rfl) ?_
    refine ev_ldB hr rfl (isT_a1 hc) (fun v1 hr => ?_)
    refine ev_seg 1 (k' := 12) (L' := [(0, .ref c)]) (st' := [.int v1]) rfl ?_
    exact ev_iret hr rfl rfl rfl
set_option maxRecDepth 20000 in
theorem eMt_value (d : Nat) (c : Nat) (s : aT) (hc : isT c) : ∀ r, (cG (fMt_look (d + 5) c s) (kI fun v2 s1 => if v2 = 123 then fMt_value_9 (d + 6) c v2 s1 else if ¬ v2 = 91 then if ¬ v2 = 34 then if v2 = 45 then fMt_value_59 (d + 6) c s1 else if v2 < 48 then fMt_value_62 (d + 6) c v2 s1 else if 57 < v2 then fMt_value_62 (d + 6) c v2 s1 else fMt_value_59 (d + 6) c s1 else cG (fMt_string (d + 5) c s1) (kI fun v4 s3 => rI v4 s3) else fMt_value_9 (d + 6) c v2 s1)) = some r → fMt_value (d + 6) c s = some r := by
  intro r hr
  show ev (d + 6) q_199 0 [(0, .ref c)] [] s = some r
  refine ev_seg 1 (k' := 1) (L' := [(0, .ref c)]) (st' := [.ref c]) rfl ?_
  refine ev_callV (q' := q_198) (x := 198) (y := 12) (c := c) (As := []) (rest := []) hr rfl rfl rfl rfl rfl rfl (isT_sh hc) rfl rfl rfl rfl rfl (fun rv s1 hq => ev_kI hq (fun v2 e9 hr => ?_))
  subst e9
  refine ev_st (st' := [.int v2]) rfl ?_
  refine ev_seg 3 (k' := 5) (L' := [(1, .int v2), (0, .ref c)]) (st' := [.int 123, .int v2]) rfl ?_
  refine ev_br (P := v2 = 123) (L' := [(1, .int v2), (0, .ref c)]) (st' := []) hr rfl rfl rfl (fun hr => ?_) (fun hr => ?_)
  · skip
    refine ev_join (L' := [(0, .ref c), (1, .int v2)]) [1, 0] [1, 0] [0, 1] rfl rfl (by decide) (by decide) rfl ?_
    exact hr
  · skip
    refine ev_seg 2 (k' := 8) (L' := [(1, .int v2), (0, .ref c)]) (st' := [.int 91, .int v2]) rfl ?_
    refine ev_br (P := ¬ v2 = 91) (L' := [(1, .int v2), (0, .ref c)]) (st' := []) hr rfl rfl rfl (fun hr => ?_) (fun hr => ?_)
    · skip
      refine ev_seg 2 (k' := 46) (L' := [(1, .int v2), (0, .ref c)]) (st' := [.int 34, .int v2]) rfl ?_
      refine ev_br (P := ¬ v2 = 34) (L' := [(1, .int v2), (0, .ref c)]) (st' := []) hr rfl rfl rfl (fun hr => ?_) (fun hr => ?_)
      · skip
        refine ev_seg 2 (k' := 52) (L' := [(1, .int v2), (0, .ref c)]) (st' := [.int 45, .int v2]) rfl ?_
        refine ev_br (P := v2 = 45) (L' := [(1, .int v2), (0, .ref c)]) (st' := []) hr rfl rfl rfl (fun hr => ?_) (fun hr => ?_)
        · skip
          refine ev_join (L' := [(0, .ref c)]) [1] [1, 0] [0] rfl rfl (by decide) (by decide) rfl ?_
          exact hr
        · skip
          refine ev_seg 2 (k' := 55) (L' := [(1, .int v2), (0, .ref c)]) (st' := [.int 48, .int v2]) rfl ?_
          refine ev_br (P := v2 < 48) (L' := [(1, .int v2), (0, .ref c)]) (st' := []) hr rfl rfl rfl (fun hr => ?_) (fun hr => ?_)
          · skip
            refine ev_join (L' := [(0, .ref c), (1, .int v2)]) [1, 0] [1, 0] [0, 1] rfl rfl (by decide) (by decide) rfl ?_
            exact hr
          · skip
            refine ev_seg 2 (k' := 58) (L' := [(1, .int v2), (0, .ref c)]) (st' := [.int 57, .int v2]) rfl ?_
            refine ev_br (P := 57 < v2) (L' := [(1, .int v2), (0, .ref c)]) (st' := []) hr rfl rfl rfl (fun hr => ?_) (fun hr => ?_)
            · skip
              refine ev_join (L' := [(0, .ref c), (1, .int v2)]) [1, 0] [1, 0] [0, 1] rfl rfl (by decide) (by decide) rfl ?_
              exact hr
            · skip
              refine ev_join (L' := [(0, .ref c)]) [1] [1, 0] [0] rfl rfl (by decide) (by decide) rfl ?_
              exact hr
      · skip
        refine ev_seg 1 (k' := 48) (L' := [(1, .int v2), (0, .ref c)]) (st' := [.ref c]) rfl ?_
        refine ev_callV (q' := q_204) (x := 204) (y := 12) (c := c) (As := []) (rest := []) hr rfl rfl rfl rfl rfl rfl (isT_sh hc) rfl rfl rfl rfl rfl (fun rv s3 hq => ev_kI hq (fun v4 e9 hr => ?_))
        subst e9
        refine ev_st (st' := [.int v4]) rfl ?_
        exact ev_iret hr rfl rfl rfl
    · skip
      refine ev_join (L' := [(0, .ref c), (1, .int v2)]) [1, 0] [1, 0] [0, 1] rfl rfl (by decide) (by decide) rfl ?_
      exact hr
set_option maxRecDepth 20000 in
theorem eMt_value_9 (d : Nat) (c : Nat) (z1 : Int32) (s : aT) (hc : isT c) : ∀ r, (if 24 ≤ gI s c 3 then fMt_value_17 (d + 6) c z1 0 s else fMt_value_17 (d + 6) c z1 1 s) = some r → fMt_value_9 (d + 6) c z1 s = some r := by
  intro r hr
  show ev (d + 6) q_199 9 [(0, .ref c), (1, .int z1)] [] s = some r
  refine ev_seg 2 (k' := 11) (L' := [(0, .ref c), (1, .int z1)]) (st' := [.ref c, .ref c]) rfl ?_
  refine ev_getI (c := c) rfl (isT_sh hc) rfl (Or.inl rfl) ?_
  refine ev_seg 1 (k' := 13) (L' := [(0, .ref c), (1, .int z1)]) (st' := [.int 24, .int (gI s c 3), .ref c]) rfl ?_
  refine ev_br (P := 24 ≤ gI s c 3) (L' := [(0, .ref c), (1, .int z1)]) (st' := [.ref c]) hr rfl rfl rfl (fun hr => ?_) (fun hr => ?_)
  · skip
    refine ev_seg 1 (k' := 17) (L' := [(0, .ref c), (1, .int z1)]) (st' := [.int 0, .ref c]) rfl ?_
    exact hr
  · skip
    refine ev_seg 2 (k' := 17) (L' := [(0, .ref c), (1, .int z1)]) (st' := [.int 1, .ref c]) rfl ?_
    exact hr
set_option maxRecDepth 20000 in
theorem eMt_value_59 (d : Nat) (c : Nat) (s : aT) (hc : isT c) : ∀ r, (cG (fMt_number (d + 5) c s) (kI fun v2 s1 => rI v2 s1)) = some r → fMt_value_59 (d + 6) c s = some r := by
  intro r hr
  show ev (d + 6) q_199 59 [(0, .ref c)] [] s = some r
  refine ev_seg 1 (k' := 60) (L' := [(0, .ref c)]) (st' := [.ref c]) rfl ?_
  refine ev_callV (q' := q_210) (x := 210) (y := 12) (c := c) (As := []) (rest := []) hr rfl rfl rfl rfl rfl rfl (isT_sh hc) rfl rfl rfl rfl rfl (fun rv s1 hq => ev_kI hq (fun v2 e9 hr => ?_))
  subst e9
  refine ev_st (st' := [.int v2]) rfl ?_
  exact ev_iret hr rfl rfl rfl
set_option maxRecDepth 20000 in
theorem eMt_value_62 (d : Nat) (c : Nat) (z1 : Int32) (s : aT) (hc : isT c) : ∀ r, (if ¬ z1 = 116 then if ¬ z1 = 102 then fMt_value_74 (d + 6) c z1 6 s else fMt_value_74 (d + 6) c z1 5 s else fMt_value_74 (d + 6) c z1 4 s) = some r → fMt_value_62 (d + 6) c z1 s = some r := by
  intro r hr
  show ev (d + 6) q_199 62 [(0, .ref c), (1, .int z1)] [] s = some r
  refine ev_seg 3 (k' := 65) (L' := [(0, .ref c), (1, .int z1)]) (st' := [.int 116, .int z1, .ref c]) rfl ?_
  refine ev_br (P := ¬ z1 = 116) (L' := [(0, .ref c), (1, .int z1)]) (st' := [.ref c]) hr rfl rfl rfl (fun hr => ?_) (fun hr => ?_)
  · skip
    refine ev_seg 2 (k' := 70) (L' := [(0, .ref c), (1, .int z1)]) (st' := [.int 102, .int z1, .ref c]) rfl ?_
    refine ev_br (P := ¬ z1 = 102) (L' := [(0, .ref c), (1, .int z1)]) (st' := [.ref c]) hr rfl rfl rfl (fun hr => ?_) (fun hr => ?_)
    · skip
      refine ev_seg 1 (k' := 74) (L' := [(0, .ref c), (1, .int z1)]) (st' := [.int 6, .ref c]) rfl ?_
      exact hr
    · skip
      refine ev_seg 2 (k' := 74) (L' := [(0, .ref c), (1, .int z1)]) (st' := [.int 5, .ref c]) rfl ?_
      exact hr
  · skip
    refine ev_seg 2 (k' := 74) (L' := [(0, .ref c), (1, .int z1)]) (st' := [.int 4, .ref c]) rfl ?_
    exact hr
set_option maxRecDepth 20000 in
theorem eMt_value_17 (d : Nat) (c : Nat) (z1 : Int32) (u0 : Int32) (s : aT) (hc : isT c) : ∀ r, (cG (fMt_need (d + 5) c u0 1 (gI s c 2) s) (kV fun s1 => wI s1 c 3 ((gI s1 c 3) + 1) (fun s2 => if ¬ z1 = 123 then cG (fMt_list (d + 5) c s2) (kI fun v4 s3 => fMt_value_35 (d + 6) c v4 s3) else cG (fMt_object (d + 5) c s2) (kI fun v6 s5 => fMt_value_35 (d + 6) c v6 s5)))) = some r → fMt_value_17 (d + 6) c z1 u0 s = some r := by
  intro r hr
  show ev (d + 6) q_199 17 [(0, .ref c), (1, .int z1)] [.int u0, .ref c] s = some r
  refine ev_seg 2 (k' := 19) (L' := [(0, .ref c), (1, .int z1)]) (st' := [.ref c, .int 1, .int u0, .ref c]) rfl ?_
  refine ev_getI (c := c) rfl (isT_sh hc) rfl (Or.inl rfl) ?_
  refine ev_callV (q' := q_200) (x := 200) (y := 12) (c := c) (As := [.int u0, .int 1, .int (gI s c 2)]) (rest := []) hr rfl rfl rfl rfl rfl rfl (isT_sh hc) rfl rfl rfl rfl rfl (fun rv s1 hq => ev_kV hq (fun e9 hr => ?_))
  subst e9
  refine ev_st (st' := []) rfl ?_
  refine ev_seg 2 (k' := 23) (L' := [(0, .ref c), (1, .int z1)]) (st' := [.ref c, .ref c]) rfl ?_
  refine ev_getI (c := c) rfl (isT_sh hc) rfl (Or.inl rfl) ?_
  refine ev_seg 2 (k' := 26) (L' := [(0, .ref c), (1, .int z1)]) (st' := [.int ((gI s1 c 3) + 1), .ref c]) rfl ?_
  refine ev_putI (c := c) hr rfl (isT_sh hc) rfl (fun s2 hr => ?_)
  refine ev_seg 2 (k' := 29) (L' := [(0, .ref c), (1, .int z1)]) (st' := [.int 123, .int z1]) rfl ?_
  refine ev_br (P := ¬ z1 = 123) (L' := [(0, .ref c), (1, .int z1)]) (st' := []) hr rfl rfl rfl (fun hr => ?_) (fun hr => ?_)
  · skip
    refine ev_seg 1 (k' := 34) (L' := [(0, .ref c), (1, .int z1)]) (st' := [.ref c]) rfl ?_
    refine ev_callV (q' := q_209) (x := 209) (y := 12) (c := c) (As := []) (rest := []) hr rfl rfl rfl rfl rfl rfl (isT_sh hc) rfl rfl rfl rfl rfl (fun rv s3 hq => ev_kI hq (fun v4 e9 hr => ?_))
    subst e9
    refine ev_st (st' := [.int v4]) rfl ?_
    refine ev_join (L' := [(0, .ref c)]) [0] [0, 1] [0] rfl rfl (by decide) (by decide) rfl ?_
    exact hr
  · skip
    refine ev_seg 1 (k' := 31) (L' := [(0, .ref c), (1, .int z1)]) (st' := [.ref c]) rfl ?_
    refine ev_callV (q' := q_202) (x := 202) (y := 12) (c := c) (As := []) (rest := []) hr rfl rfl rfl rfl rfl rfl (isT_sh hc) rfl rfl rfl rfl rfl (fun rv s5 hq => ev_kI hq (fun v6 e9 hr => ?_))
    subst e9
    refine ev_st (st' := [.int v6]) rfl ?_
    refine ev_seg 1 (k' := 35) (L' := [(0, .ref c), (1, .int z1)]) (st' := [.int v6]) rfl ?_
    refine ev_join (L' := [(0, .ref c)]) [0] [0, 1] [0] rfl rfl (by decide) (by decide) rfl ?_
    exact hr
set_option maxRecDepth 20000 in
theorem eMt_value_74 (d : Nat) (c : Nat) (z1 : Int32) (u0 : Int32) (s : aT) (hc : isT c) : ∀ r, (cG (fMt_node (d + 5) c u0 s) (kI fun v2 s1 => if ¬ z1 = 116 then if ¬ z1 = 102 then fMt_value_87 (d + 6) c v2 1046 s1 else fMt_value_87 (d + 6) c v2 1045 s1 else fMt_value_87 (d + 6) c v2 1044 s1)) = some r → fMt_value_74 (d + 6) c z1 u0 s = some r := by
  intro r hr
  show ev (d + 6) q_199 74 [(0, .ref c), (1, .int z1)] [.int u0, .ref c] s = some r
  refine ev_callV (q' := q_203) (x := 203) (y := 12) (c := c) (As := [.int u0]) (rest := []) hr rfl rfl rfl rfl rfl rfl (isT_sh hc) rfl rfl rfl rfl rfl (fun rv s1 hq => ev_kI hq (fun v2 e9 hr => ?_))
  subst e9
  refine ev_st (st' := [.int v2]) rfl ?_
  refine ev_seg 3 (k' := 78) (L' := [(2, .int v2), (0, .ref c), (1, .int z1)]) (st' := [.int 116, .int z1]) rfl ?_
  refine ev_br (P := ¬ z1 = 116) (L' := [(2, .int v2), (0, .ref c), (1, .int z1)]) (st' := []) hr rfl rfl rfl (fun hr => ?_) (fun hr => ?_)
  · skip
    refine ev_seg 2 (k' := 83) (L' := [(2, .int v2), (0, .ref c), (1, .int z1)]) (st' := [.int 102, .int z1]) rfl ?_
    refine ev_br (P := ¬ z1 = 102) (L' := [(2, .int v2), (0, .ref c), (1, .int z1)]) (st' := []) hr rfl rfl rfl (fun hr => ?_) (fun hr => ?_)
    · skip
      refine ev_seg 1 (k' := 87) (L' := [(2, .int v2), (0, .ref c), (1, .int z1)]) (st' := [.ref 1046]) rfl ?_
      refine ev_join (L' := [(0, .ref c), (2, .int v2)]) [1, 0] [2, 0, 1] [0, 2] rfl rfl (by decide) (by decide) rfl ?_
      exact hr
    · skip
      refine ev_seg 2 (k' := 87) (L' := [(2, .int v2), (0, .ref c), (1, .int z1)]) (st' := [.ref 1045]) rfl ?_
      refine ev_join (L' := [(0, .ref c), (2, .int v2)]) [1, 0] [2, 0, 1] [0, 2] rfl rfl (by decide) (by decide) rfl ?_
      exact hr
  · skip
    refine ev_seg 2 (k' := 87) (L' := [(2, .int v2), (0, .ref c), (1, .int z1)]) (st' := [.ref 1044]) rfl ?_
    refine ev_join (L' := [(0, .ref c), (2, .int v2)]) [1, 0] [2, 0, 1] [0, 2] rfl rfl (by decide) (by decide) rfl ?_
    exact hr
set_option maxRecDepth 20000 in
theorem eMt_value_35 (d : Nat) (c : Nat) (u0 : Int32) (s : aT) (hc : isT c) : ∀ r, (wI s c 3 ((gI s c 3) - 1) (fun s1 => rI u0 s1)) = some r → fMt_value_35 (d + 6) c u0 s = some r := by
  intro r hr
  show ev (d + 6) q_199 35 [(0, .ref c)] [.int u0] s = some r
  refine ev_seg 3 (k' := 38) (L' := [(2, .int u0), (0, .ref c)]) (st' := [.ref c, .ref c]) rfl ?_
  refine ev_getI (c := c) rfl (isT_sh hc) rfl (Or.inl rfl) ?_
  refine ev_seg 2 (k' := 41) (L' := [(2, .int u0), (0, .ref c)]) (st' := [.int ((gI s c 3) - 1), .ref c]) rfl ?_
  refine ev_putI (c := c) hr rfl (isT_sh hc) rfl (fun s1 hr => ?_)
  refine ev_seg 1 (k' := 43) (L' := [(2, .int u0), (0, .ref c)]) (st' := [.int u0]) rfl ?_
  exact ev_iret hr rfl rfl rfl
set_option maxRecDepth 20000 in
theorem eMt_value_87 (d : Nat) (c : Nat) (z2 : Int32) (q0 : Nat) (s : aT) (hc : isT c) : ∀ r, (fMt_value_90 (d + 6) c z2 q0 0 s) = some r → fMt_value_87 (d + 6) c z2 q0 s = some r := by
  intro r hr
  show ev (d + 6) q_199 87 [(0, .ref c), (2, .int z2)] [.ref q0] s = some r
  refine ev_seg 3 (k' := 90) (L' := [(4, .int 0), (3, .ref q0), (0, .ref c), (2, .int z2)]) (st' := []) rfl ?_
  refine ev_join (L' := [(0, .ref c), (2, .int z2), (3, .ref q0), (4, .int 0)]) [2, 3, 1, 0] [4, 3, 0, 2] [0, 2, 3, 4] rfl rfl (by decide) (by decide) rfl ?_
  exact hr
set_option maxRecDepth 20000 in
theorem eMt_value_90 (d : Nat) (c : Nat) (z2 : Int32) (r3 : Nat) (z4 : Int32) (s : aT) (hc : isT c) : ∀ r, (cP 900 [.ref r3] (fun v1 => if v1 ≤ z4 then rI z2 s else cP 901 [.ref r3, .int z4] (fun v2 => cG (fMt_take (d + 5) c v2 s) (kV fun s3 => fMt_value_90 (d + 6) c z2 r3 (z4 + 1) s3)))) = some r → fMt_value_90 (d + 6) c z2 r3 z4 s = some r := by
  intro r hr
  show ev (d + 6) q_199 90 [(0, .ref c), (2, .int z2), (3, .ref r3), (4, .int z4)] [] s = some r
  refine ev_seg 2 (k' := 92) (L' := [(0, .ref c), (2, .int z2), (3, .ref r3), (4, .int z4)]) (st' := [.ref r3, .int z4]) rfl ?_
  refine ev_primV (x := 900) (As := [.ref r3]) (rest := [.int z4]) hr rfl rfl rfl rfl (fun v1 hr => ?_)
  refine ev_br (P := v1 ≤ z4) (L' := [(0, .ref c), (2, .int z2), (3, .ref r3), (4, .int z4)]) (st' := []) hr rfl rfl rfl (fun hr => ?_) (fun hr => ?_)
  · skip
    refine ev_seg 1 (k' := 102) (L' := [(0, .ref c), (2, .int z2), (3, .ref r3), (4, .int z4)]) (st' := [.int z2]) rfl ?_
    exact ev_iret hr rfl rfl rfl
  · skip
    refine ev_seg 3 (k' := 97) (L' := [(0, .ref c), (2, .int z2), (3, .ref r3), (4, .int z4)]) (st' := [.int z4, .ref r3, .ref c]) rfl ?_
    refine ev_primV (x := 901) (As := [.ref r3, .int z4]) (rest := [.ref c]) hr rfl rfl rfl rfl (fun v2 hr => ?_)
    refine ev_callV (q' := q_206) (x := 206) (y := 12) (c := c) (As := [.int v2]) (rest := []) hr rfl rfl rfl rfl rfl rfl (isT_sh hc) rfl rfl rfl rfl rfl (fun rv s3 hq => ev_kV hq (fun e9 hr => ?_))
    subst e9
    refine ev_st (st' := []) rfl ?_
    refine ev_seg 2 (k' := 90) (L' := [(4, .int (z4 + 1)), (0, .ref c), (2, .int z2), (3, .ref r3)]) (st' := []) rfl ?_
    refine ev_join (L' := [(0, .ref c), (2, .int z2), (3, .ref r3), (4, .int (z4 + 1))]) [1, 2, 3, 0] [4, 0, 2, 3] [0, 2, 3, 4] rfl rfl (by decide) (by decide) rfl ?_
    exact hr
set_option maxRecDepth 20000 in
theorem eMt_need (d : Nat) (c : Nat) (x1 : Int32) (x2 : Int32) (x3 : Int32) (s : aT) (hc : isT c) : ∀ r, (if ¬ x1 = 0 then rV s else cG (fMt_fail d c x2 x3 s) (kV fun s1 => rV s1)) = some r → fMt_need (d + 1) c x1 x2 x3 s = some r := by
  intro r hr
  show ev (d + 1) q_200 0 [(0, .ref c), (1, .int x1), (2, .int x2), (3, .int x3)] [] s = some r
  refine ev_seg 1 (k' := 1) (L' := [(0, .ref c), (1, .int x1), (2, .int x2), (3, .int x3)]) (st' := [.int x1]) rfl ?_
  refine ev_br (P := ¬ x1 = 0) (L' := [(0, .ref c), (1, .int x1), (2, .int x2), (3, .int x3)]) (st' := []) hr rfl rfl rfl (fun hr => ?_) (fun hr => ?_)
  · skip
    exact ev_vret hr rfl rfl
  · skip
    refine ev_seg 3 (k' := 5) (L' := [(0, .ref c), (1, .int x1), (2, .int x2), (3, .int x3)]) (st' := [.int x3, .int x2, .ref c]) rfl ?_
    refine ev_callV (q' := q_201) (x := 201) (y := 12) (c := c) (As := [.int x2, .int x3]) (rest := []) hr rfl rfl rfl rfl rfl rfl (isT_sh hc) rfl rfl rfl rfl rfl (fun rv s1 hq => ev_kV hq (fun e9 hr => ?_))
    subst e9
    refine ev_st (st' := []) rfl ?_
    exact ev_vret hr rfl rfl
set_option maxRecDepth 20000 in
theorem eMt_fail (d : Nat) (c : Nat) (x1 : Int32) (x2 : Int32) (s : aT) (hc : isT c) : ∀ r, (wI s c 4 x1 (fun s1 => wI s1 c 5 x2 (fun s2 => rX 0 s2))) = some r → fMt_fail d c x1 x2 s = some r := by
  intro r hr
  show ev d q_201 0 [(0, .ref c), (1, .int x1), (2, .int x2)] [] s = some r
  refine ev_seg 2 (k' := 2) (L' := [(0, .ref c), (1, .int x1), (2, .int x2)]) (st' := [.int x1, .ref c]) rfl ?_
  refine ev_putI (c := c) hr rfl (isT_sh hc) rfl (fun s1 hr => ?_)
  refine ev_seg 2 (k' := 5) (L' := [(0, .ref c), (1, .int x1), (2, .int x2)]) (st' := [.int x2, .ref c]) rfl ?_
  refine ev_putI (c := c) hr rfl (isT_sh hc) rfl (fun s2 hr => ?_)
  exact ev_new hr rfl rfl
set_option maxRecDepth 20000 in
theorem eMt_object (d : Nat) (c : Nat) (s : aT) (hc : isT c) : ∀ r, (cG (fMt_node d c 0 s) (kI fun v2 s1 => wI s1 c 2 ((gI s1 c 2) + 1) (fun s3 => cG (fMt_blanks d c s3) (kV fun s4 => cG (fMt_look d c s4) (kI fun v6 s5 => if v6 = 125 then fMt_object_21 (d + 1) c v2 (-1) 0 s5 else fMt_object_21 (d + 1) c v2 (-1) 1 s5))))) = some r → fMt_object (d + 1) c s = some r := by
  intro r hr
  show ev (d + 1) q_202 0 [(0, .ref c)] [] s = some r
  refine ev_seg 2 (k' := 2) (L' := [(0, .ref c)]) (st' := [.int 0, .ref c]) rfl ?_
  refine ev_callV (q' := q_203) (x := 203) (y := 12) (c := c) (As := [.int 0]) (rest := []) hr rfl rfl rfl rfl rfl rfl (isT_sh hc) rfl rfl rfl rfl rfl (fun rv s1 hq => ev_kI hq (fun v2 e9 hr => ?_))
  subst e9
  refine ev_st (st' := [.int v2]) rfl ?_
  refine ev_seg 3 (k' := 6) (L' := [(1, .int v2), (0, .ref c)]) (st' := [.ref c, .ref c]) rfl ?_
  refine ev_getI (c := c) rfl (isT_sh hc) rfl (Or.inl rfl) ?_
  refine ev_seg 2 (k' := 9) (L' := [(1, .int v2), (0, .ref c)]) (st' := [.int ((gI s1 c 2) + 1), .ref c]) rfl ?_
  refine ev_putI (c := c) hr rfl (isT_sh hc) rfl (fun s3 hr => ?_)
  refine ev_seg 1 (k' := 11) (L' := [(1, .int v2), (0, .ref c)]) (st' := [.ref c]) rfl ?_
  refine ev_callV (q' := q_197) (x := 197) (y := 12) (c := c) (As := []) (rest := []) hr rfl rfl rfl rfl rfl rfl (isT_sh hc) rfl rfl rfl rfl rfl (fun rv s4 hq => ev_kV hq (fun e9 hr => ?_))
  subst e9
  refine ev_st (st' := []) rfl ?_
  refine ev_seg 3 (k' := 15) (L' := [(2, .int (-1)), (1, .int v2), (0, .ref c)]) (st' := [.ref c]) rfl ?_
  refine ev_callV (q' := q_198) (x := 198) (y := 12) (c := c) (As := []) (rest := []) hr rfl rfl rfl rfl rfl rfl (isT_sh hc) rfl rfl rfl rfl rfl (fun rv s5 hq => ev_kI hq (fun v6 e9 hr => ?_))
  subst e9
  refine ev_st (st' := [.int v6]) rfl ?_
  refine ev_seg 1 (k' := 17) (L' := [(2, .int (-1)), (1, .int v2), (0, .ref c)]) (st' := [.int 125, .int v6]) rfl ?_
  refine ev_br (P := v6 = 125) (L' := [(2, .int (-1)), (1, .int v2), (0, .ref c)]) (st' := []) hr rfl rfl rfl (fun hr => ?_) (fun hr => ?_)
  · skip
    refine ev_seg 1 (k' := 21) (L' := [(2, .int (-1)), (1, .int v2), (0, .ref c)]) (st' := [.int 0]) rfl ?_
    refine ev_join (L' := [(0, .ref c), (1, .int v2), (2, .int (-1))]) [2, 1, 0] [2, 1, 0] [0, 1, 2] rfl rfl (by decide) (by decide) rfl ?_
    exact hr
  · skip
    refine ev_seg 2 (k' := 21) (L' := [(2, .int (-1)), (1, .int v2), (0, .ref c)]) (st' := [.int 1]) rfl ?_
    refine ev_join (L' := [(0, .ref c), (1, .int v2), (2, .int (-1))]) [2, 1, 0] [2, 1, 0] [0, 1, 2] rfl rfl (by decide) (by decide) rfl ?_
    exact hr
set_option maxRecDepth 20000 in
theorem eMt_object_21 (d : Nat) (c : Nat) (z1 : Int32) (z2 : Int32) (u0 : Int32) (s : aT) (hc : isT c) : ∀ r, (fMt_object_22 (d + 1) c z1 z2 u0 s) = some r → fMt_object_21 (d + 1) c z1 z2 u0 s = some r := by
  intro r hr
  show ev (d + 1) q_202 21 [(0, .ref c), (1, .int z1), (2, .int z2)] [.int u0] s = some r
  refine ev_seg 1 (k' := 22) (L' := [(3, .int u0), (0, .ref c), (1, .int z1), (2, .int z2)]) (st' := []) rfl ?_
  refine ev_join (L' := [(0, .ref c), (1, .int z1), (2, .int z2), (3, .int u0)]) [1, 2, 3, 0] [3, 0, 1, 2] [0, 1, 2, 3] rfl rfl (by decide) (by decide) rfl ?_
  exact hr
set_option maxRecDepth 20000 in
theorem eMt_object_22 (d : Nat) (c : Nat) (z1 : Int32) (z2 : Int32) (z3 : Int32) (s : aT) (hc : isT c) : ∀ r, (if z3 = 0 then cG (fMt_take d c 125 s) (kV fun s1 => rI z1 s1) else cG (fMt_look d c s) (kI fun v3 s2 => if ¬ v3 = 34 then fMt_object_32 (d + 1) c z1 z2 0 s2 else fMt_object_32 (d + 1) c z1 z2 1 s2)) = some r → fMt_object_22 (d + 1) c z1 z2 z3 s = some r := by
  intro r hr
  show ev (d + 1) q_202 22 [(0, .ref c), (1, .int z1), (2, .int z2), (3, .int z3)] [] s = some r
  refine ev_seg 1 (k' := 23) (L' := [(0, .ref c), (1, .int z1), (2, .int z2), (3, .int z3)]) (st' := [.int z3]) rfl ?_
  refine ev_br (P := z3 = 0) (L' := [(0, .ref c), (1, .int z1), (2, .int z2), (3, .int z3)]) (st' := []) hr rfl rfl rfl (fun hr => ?_) (fun hr => ?_)
  · skip
    refine ev_seg 2 (k' := 124) (L' := [(0, .ref c), (1, .int z1), (2, .int z2), (3, .int z3)]) (st' := [.int 125, .ref c]) rfl ?_
    refine ev_callV (q' := q_206) (x := 206) (y := 12) (c := c) (As := [.int 125]) (rest := []) hr rfl rfl rfl rfl rfl rfl (isT_sh hc) rfl rfl rfl rfl rfl (fun rv s1 hq => ev_kV hq (fun e9 hr => ?_))
    subst e9
    refine ev_st (st' := []) rfl ?_
    refine ev_seg 1 (k' := 126) (L' := [(0, .ref c), (1, .int z1), (2, .int z2), (3, .int z3)]) (st' := [.int z1]) rfl ?_
    exact ev_iret hr rfl rfl rfl
  · skip
    refine ev_seg 2 (k' := 26) (L' := [(0, .ref c), (1, .int z1), (2, .int z2), (3, .int z3)]) (st' := [.ref c, .ref c]) rfl ?_
    refine ev_callV (q' := q_198) (x := 198) (y := 12) (c := c) (As := []) (rest := [.ref c]) hr rfl rfl rfl rfl rfl rfl (isT_sh hc) rfl rfl rfl rfl rfl (fun rv s2 hq => ev_kI hq (fun v3 e9 hr => ?_))
    subst e9
    refine ev_st (st' := [.int v3, .ref c]) rfl ?_
    refine ev_seg 1 (k' := 28) (L' := [(0, .ref c), (1, .int z1), (2, .int z2), (3, .int z3)]) (st' := [.int 34, .int v3, .ref c]) rfl ?_
    refine ev_br (P := ¬ v3 = 34) (L' := [(0, .ref c), (1, .int z1), (2, .int z2), (3, .int z3)]) (st' := [.ref c]) hr rfl rfl rfl (fun hr => ?_) (fun hr => ?_)
    · skip
      refine ev_seg 1 (k' := 32) (L' := [(0, .ref c), (1, .int z1), (2, .int z2), (3, .int z3)]) (st' := [.int 0, .ref c]) rfl ?_
      refine ev_join (L' := [(0, .ref c), (1, .int z1), (2, .int z2)]) [0, 1, 2] [0, 1, 2, 3] [0, 1, 2] rfl rfl (by decide) (by decide) rfl ?_
      exact hr
    · skip
      refine ev_seg 2 (k' := 32) (L' := [(0, .ref c), (1, .int z1), (2, .int z2), (3, .int z3)]) (st' := [.int 1, .ref c]) rfl ?_
      refine ev_join (L' := [(0, .ref c), (1, .int z1), (2, .int z2)]) [0, 1, 2] [0, 1, 2, 3] [0, 1, 2] rfl rfl (by decide) (by decide) rfl ?_
      exact hr
set_option maxRecDepth 20000 in
theorem eMt_object_32 (d : Nat) (c : Nat) (z1 : Int32) (z2 : Int32) (u0 : Int32) (s : aT) (hc : isT c) : ∀ r, (cG (fMt_need d c u0 1 (gI s c 2) s) (kV fun s1 => cG (fMt_string d c s1) (kI fun v3 s2 => ldI 4200 s2 (c + 6) z1 (fun v4 => fMt_object_44 (d + 1) c z1 z2 v3 v4 s2)))) = some r → fMt_object_32 (d + 1) c z1 z2 u0 s = some r := by
  intro r hr
  show ev (d + 1) q_202 32 [(0, .ref c), (1, .int z1), (2, .int z2)] [.int u0, .ref c] s = some r
  refine ev_seg 2 (k' := 34) (L' := [(0, .ref c), (1, .int z1), (2, .int z2)]) (st' := [.ref c, .int 1, .int u0, .ref c]) rfl ?_
  refine ev_getI (c := c) rfl (isT_sh hc) rfl (Or.inl rfl) ?_
  refine ev_callV (q' := q_200) (x := 200) (y := 12) (c := c) (As := [.int u0, .int 1, .int (gI s c 2)]) (rest := []) hr rfl rfl rfl rfl rfl rfl (isT_sh hc) rfl rfl rfl rfl rfl (fun rv s1 hq => ev_kV hq (fun e9 hr => ?_))
  subst e9
  refine ev_st (st' := []) rfl ?_
  refine ev_seg 1 (k' := 37) (L' := [(0, .ref c), (1, .int z1), (2, .int z2)]) (st' := [.ref c]) rfl ?_
  refine ev_callV (q' := q_204) (x := 204) (y := 12) (c := c) (As := []) (rest := []) hr rfl rfl rfl rfl rfl rfl (isT_sh hc) rfl rfl rfl rfl rfl (fun rv s2 hq => ev_kI hq (fun v3 e9 hr => ?_))
  subst e9
  refine ev_st (st' := [.int v3]) rfl ?_
  refine ev_seg 2 (k' := 40) (L' := [(4, .int v3), (0, .ref c), (1, .int z1), (2, .int z2)]) (st' := [.ref c]) rfl ?_
  refine ev_getR (c := c) (v := c + 6) rfl (isT_sh hc) rfl (isT_r6 hc) ?_
  refine ev_seg 1 (k' := 42) (L' := [(4, .int v3), (0, .ref c), (1, .int z1), (2, .int z2)]) (st' := [.int z1, .ref (c + 6)]) rfl ?_
  refine ev_ldI hr rfl (isT_a6 hc) (fun v4 hr => ?_)
  refine ev_seg 1 (k' := 44) (L' := [(5, .int v4), (4, .int v3), (0, .ref c), (1, .int z1), (2, .int z2)]) (st' := []) rfl ?_
  refine ev_join (L' := [(0, .ref c), (1, .int z1), (2, .int z2), (4, .int v3), (5, .int v4)]) [2, 3, 4, 1, 0] [5, 4, 0, 1, 2] [0, 1, 2, 4, 5] rfl rfl (by decide) (by decide) rfl ?_
  exact hr
set_option maxRecDepth 20000 in
theorem eMt_object_44 (d : Nat) (c : Nat) (z1 : Int32) (z2 : Int32) (z4 : Int32) (z5 : Int32) (s : aT) (hc : isT c) : ∀ r, (if z5 < 0 then cG (fMt_blanks d c s) (kV fun s1 => cG (fMt_take d c 58 s1) (kV fun s2 => cG (fMt_blanks d c s2) (kV fun s3 => cG (fMt_value d c s3) (kI fun v5 s4 => if 0 ≤ z2 then stI 4200 s4 (c + 7) z2 z4 (fun s6 => fMt_object_94 (d + 1) c z1 z4 v5 s6) else stI 4200 s4 (c + 6) z1 z4 (fun s7 => fMt_object_94 (d + 1) c z1 z4 v5 s7))))) else cG (fMt_same d c z5 c z4 s) (kI fun v9 s8 => if ¬ v9 = 0 then fMt_object_56 (d + 1) c z1 z2 z4 z5 0 s8 else fMt_object_56 (d + 1) c z1 z2 z4 z5 1 s8)) = some r → fMt_object_44 (d + 1) c z1 z2 z4 z5 s = some r := by
  intro r hr
  show ev (d + 1) q_202 44 [(0, .ref c), (1, .int z1), (2, .int z2), (4, .int z4), (5, .int z5)] [] s = some r
  refine ev_seg 1 (k' := 45) (L' := [(0, .ref c), (1, .int z1), (2, .int z2), (4, .int z4), (5, .int z5)]) (st' := [.int z5]) rfl ?_
  refine ev_br (P := z5 < 0) (L' := [(0, .ref c), (1, .int z1), (2, .int z2), (4, .int z4), (5, .int z5)]) (st' := []) hr rfl rfl rfl (fun hr => ?_) (fun hr => ?_)
  · skip
    refine ev_seg 1 (k' := 72) (L' := [(0, .ref c), (1, .int z1), (2, .int z2), (4, .int z4), (5, .int z5)]) (st' := [.ref c]) rfl ?_
    refine ev_callV (q' := q_197) (x := 197) (y := 12) (c := c) (As := []) (rest := []) hr rfl rfl rfl rfl rfl rfl (isT_sh hc) rfl rfl rfl rfl rfl (fun rv s1 hq => ev_kV hq (fun e9 hr => ?_))
    subst e9
    refine ev_st (st' := []) rfl ?_
    refine ev_seg 2 (k' := 75) (L' := [(0, .ref c), (1, .int z1), (2, .int z2), (4, .int z4), (5, .int z5)]) (st' := [.int 58, .ref c]) rfl ?_
    refine ev_callV (q' := q_206) (x := 206) (y := 12) (c := c) (As := [.int 58]) (rest := []) hr rfl rfl rfl rfl rfl rfl (isT_sh hc) rfl rfl rfl rfl rfl (fun rv s2 hq => ev_kV hq (fun e9 hr => ?_))
    subst e9
    refine ev_st (st' := []) rfl ?_
    refine ev_seg 1 (k' := 77) (L' := [(0, .ref c), (1, .int z1), (2, .int z2), (4, .int z4), (5, .int z5)]) (st' := [.ref c]) rfl ?_
    refine ev_callV (q' := q_197) (x := 197) (y := 12) (c := c) (As := []) (rest := []) hr rfl rfl rfl rfl rfl rfl (isT_sh hc) rfl rfl rfl rfl rfl (fun rv s3 hq => ev_kV hq (fun e9 hr => ?_))
    subst e9
    refine ev_st (st' := []) rfl ?_
    refine ev_seg 1 (k' := 79) (L' := [(0, .ref c), (1, .int z1), (2, .int z2), (4, .int z4), (5, .int z5)]) (st' := [.ref c]) rfl ?_
    refine ev_callV (q' := q_199) (x := 199) (y := 12) (c := c) (As := []) (rest := []) hr rfl rfl rfl rfl rfl rfl (isT_sh hc) rfl rfl rfl rfl rfl (fun rv s4 hq => ev_kI hq (fun v5 e9 hr => ?_))
    subst e9
    refine ev_st (st' := [.int v5]) rfl ?_
    refine ev_seg 2 (k' := 82) (L' := [(5, .int v5), (0, .ref c), (1, .int z1), (2, .int z2), (4, .int z4)]) (st' := [.int z2]) rfl ?_
    refine ev_br (P := 0 ≤ z2) (L' := [(5, .int v5), (0, .ref c), (1, .int z1), (2, .int z2), (4, .int z4)]) (st' := []) hr rfl rfl rfl (fun hr => ?_) (fun hr => ?_)
    · skip
      refine ev_seg 1 (k' := 90) (L' := [(5, .int v5), (0, .ref c), (1, .int z1), (2, .int z2), (4, .int z4)]) (st' := [.ref c]) rfl ?_
      refine ev_getR (c := c) (v := c + 7) rfl (isT_sh hc) rfl (isT_r7 hc) ?_
      refine ev_seg 2 (k' := 93) (L' := [(5, .int v5), (0, .ref c), (1, .int z1), (2, .int z2), (4, .int z4)]) (st' := [.int z4, .int z2, .ref (c + 7)]) rfl ?_
      refine ev_stI hr rfl (isT_a7 hc) (fun s6 hr => ?_)
      refine ev_join (L' := [(0, .ref c), (1, .int z1), (4, .int z4), (5, .int v5)]) [1, 2, 4, 0] [5, 0, 1, 2, 4] [0, 1, 4, 5] rfl rfl (by decide) (by decide) rfl ?_
      exact hr
    · skip
      refine ev_seg 1 (k' := 84) (L' := [(5, .int v5), (0, .ref c), (1, .int z1), (2, .int z2), (4, .int z4)]) (st' := [.ref c]) rfl ?_
      refine ev_getR (c := c) (v := c + 6) rfl (isT_sh hc) rfl (isT_r6 hc) ?_
      refine ev_seg 2 (k' := 87) (L' := [(5, .int v5), (0, .ref c), (1, .int z1), (2, .int z2), (4, .int z4)]) (st' := [.int z4, .int z1, .ref (c + 6)]) rfl ?_
      refine ev_stI hr rfl (isT_a6 hc) (fun s7 hr => ?_)
      refine ev_seg 1 (k' := 94) (L' := [(5, .int v5), (0, .ref c), (1, .int z1), (2, .int z2), (4, .int z4)]) (st' := []) rfl ?_
      refine ev_join (L' := [(0, .ref c), (1, .int z1), (4, .int z4), (5, .int v5)]) [1, 2, 4, 0] [5, 0, 1, 2, 4] [0, 1, 4, 5] rfl rfl (by decide) (by decide) rfl ?_
      exact hr
  · skip
    refine ev_seg 5 (k' := 51) (L' := [(0, .ref c), (1, .int z1), (2, .int z2), (4, .int z4), (5, .int z5)]) (st' := [.int z4, .ref c, .int z5, .ref c, .ref c]) rfl ?_
    refine ev_callV (q' := q_208) (x := 208) (y := 12) (c := c) (As := [.int z5, .ref c, .int z4]) (rest := [.ref c]) hr rfl rfl rfl rfl rfl rfl (isT_sh hc) rfl rfl rfl rfl rfl (fun rv s8 hq => ev_kI hq (fun v9 e9 hr => ?_))
    subst e9
    refine ev_st (st' := [.int v9, .ref c]) rfl ?_
    refine ev_br (P := ¬ v9 = 0) (L' := [(0, .ref c), (1, .int z1), (2, .int z2), (4, .int z4), (5, .int z5)]) (st' := [.ref c]) hr rfl rfl rfl (fun hr => ?_) (fun hr => ?_)
    · skip
      refine ev_seg 1 (k' := 56) (L' := [(0, .ref c), (1, .int z1), (2, .int z2), (4, .int z4), (5, .int z5)]) (st' := [.int 0, .ref c]) rfl ?_
      exact hr
    · skip
      refine ev_seg 2 (k' := 56) (L' := [(0, .ref c), (1, .int z1), (2, .int z2), (4, .int z4), (5, .int z5)]) (st' := [.int 1, .ref c]) rfl ?_
      exact hr
set_option maxRecDepth 20000 in
theorem eMt_object_94 (d : Nat) (c : Nat) (z1 : Int32) (z4 : Int32) (z5 : Int32) (s : aT) (hc : isT c) : ∀ r, (stI 4200 s (c + 7) z4 z5 (fun s1 => cG (fMt_blanks d c s1) (kV fun s2 => cG (fMt_look d c s2) (kI fun v4 s3 => if ¬ v4 = 44 then fMt_object_110 (d + 1) c z1 z5 0 s3 else fMt_object_110 (d + 1) c z1 z5 1 s3)))) = some r → fMt_object_94 (d + 1) c z1 z4 z5 s = some r := by
  intro r hr
  show ev (d + 1) q_202 94 [(0, .ref c), (1, .int z1), (4, .int z4), (5, .int z5)] [] s = some r
  refine ev_seg 1 (k' := 95) (L' := [(0, .ref c), (1, .int z1), (4, .int z4), (5, .int z5)]) (st' := [.ref c]) rfl ?_
  refine ev_getR (c := c) (v := c + 7) rfl (isT_sh hc) rfl (isT_r7 hc) ?_
  refine ev_seg 2 (k' := 98) (L' := [(0, .ref c), (1, .int z1), (4, .int z4), (5, .int z5)]) (st' := [.int z5, .int z4, .ref (c + 7)]) rfl ?_
  refine ev_stI hr rfl (isT_a7 hc) (fun s1 hr => ?_)
  refine ev_seg 3 (k' := 102) (L' := [(2, .int z5), (0, .ref c), (1, .int z1), (4, .int z4), (5, .int z5)]) (st' := [.ref c]) rfl ?_
  refine ev_callV (q' := q_197) (x := 197) (y := 12) (c := c) (As := []) (rest := []) hr rfl rfl rfl rfl rfl rfl (isT_sh hc) rfl rfl rfl rfl rfl (fun rv s2 hq => ev_kV hq (fun e9 hr => ?_))
  subst e9
  refine ev_st (st' := []) rfl ?_
  refine ev_seg 1 (k' := 104) (L' := [(2, .int z5), (0, .ref c), (1, .int z1), (4, .int z4), (5, .int z5)]) (st' := [.ref c]) rfl ?_
  refine ev_callV (q' := q_198) (x := 198) (y := 12) (c := c) (As := []) (rest := []) hr rfl rfl rfl rfl rfl rfl (isT_sh hc) rfl rfl rfl rfl rfl (fun rv s3 hq => ev_kI hq (fun v4 e9 hr => ?_))
  subst e9
  refine ev_st (st' := [.int v4]) rfl ?_
  refine ev_seg 1 (k' := 106) (L' := [(2, .int z5), (0, .ref c), (1, .int z1), (4, .int z4), (5, .int z5)]) (st' := [.int 44, .int v4]) rfl ?_
  refine ev_br (P := ¬ v4 = 44) (L' := [(2, .int z5), (0, .ref c), (1, .int z1), (4, .int z4), (5, .int z5)]) (st' := []) hr rfl rfl rfl (fun hr => ?_) (fun hr => ?_)
  · skip
    refine ev_seg 1 (k' := 110) (L' := [(2, .int z5), (0, .ref c), (1, .int z1), (4, .int z4), (5, .int z5)]) (st' := [.int 0]) rfl ?_
    refine ev_join (L' := [(0, .ref c), (1, .int z1), (2, .int z5)]) [1, 2, 0] [2, 0, 1, 4, 5] [0, 1, 2] rfl rfl (by decide) (by decide) rfl ?_
    exact hr
  · skip
    refine ev_seg 2 (k' := 110) (L' := [(2, .int z5), (0, .ref c), (1, .int z1), (4, .int z4), (5, .int z5)]) (st' := [.int 1]) rfl ?_
    refine ev_join (L' := [(0, .ref c), (1, .int z1), (2, .int z5)]) [1, 2, 0] [2, 0, 1, 4, 5] [0, 1, 2] rfl rfl (by decide) (by decide) rfl ?_
    exact hr
set_option maxRecDepth 20000 in
theorem eMt_object_56 (d : Nat) (c : Nat) (z1 : Int32) (z2 : Int32) (z4 : Int32) (z5 : Int32) (u0 : Int32) (s : aT) (hc : isT c) : ∀ r, (ldI 4200 s (c + 3) z4 (fun v1 => cG (fMt_need d c u0 1 v1 s) (kV fun s2 => ldI 4200 s2 (c + 7) z5 (fun v3 => ldI 4200 s2 (c + 7) v3 (fun v4 => fMt_object_44 (d + 1) c z1 z2 z4 v4 s2))))) = some r → fMt_object_56 (d + 1) c z1 z2 z4 z5 u0 s = some r := by
  intro r hr
  show ev (d + 1) q_202 56 [(0, .ref c), (1, .int z1), (2, .int z2), (4, .int z4), (5, .int z5)] [.int u0, .ref c] s = some r
  refine ev_seg 2 (k' := 58) (L' := [(0, .ref c), (1, .int z1), (2, .int z2), (4, .int z4), (5, .int z5)]) (st' := [.ref c, .int 1, .int u0, .ref c]) rfl ?_
  refine ev_getR (c := c) (v := c + 3) rfl (isT_sh hc) rfl (isT_r3 hc) ?_
  refine ev_seg 1 (k' := 60) (L' := [(0, .ref c), (1, .int z1), (2, .int z2), (4, .int z4), (5, .int z5)]) (st' := [.int z4, .ref (c + 3), .int 1, .int u0, .ref c]) rfl ?_
  refine ev_ldI hr rfl (isT_a3 hc) (fun v1 hr => ?_)
  refine ev_callV (q' := q_200) (x := 200) (y := 12) (c := c) (As := [.int u0, .int 1, .int v1]) (rest := []) hr rfl rfl rfl rfl rfl rfl (isT_sh hc) rfl rfl rfl rfl rfl (fun rv s2 hq => ev_kV hq (fun e9 hr => ?_))
  subst e9
  refine ev_st (st' := []) rfl ?_
  refine ev_seg 1 (k' := 63) (L' := [(0, .ref c), (1, .int z1), (2, .int z2), (4, .int z4), (5, .int z5)]) (st' := [.ref c]) rfl ?_
  refine ev_getR (c := c) (v := c + 7) rfl (isT_sh hc) rfl (isT_r7 hc) ?_
  refine ev_seg 1 (k' := 65) (L' := [(0, .ref c), (1, .int z1), (2, .int z2), (4, .int z4), (5, .int z5)]) (st' := [.ref c, .ref (c + 7)]) rfl ?_
  refine ev_getR (c := c) (v := c + 7) rfl (isT_sh hc) rfl (isT_r7 hc) ?_
  refine ev_seg 1 (k' := 67) (L' := [(0, .ref c), (1, .int z1), (2, .int z2), (4, .int z4), (5, .int z5)]) (st' := [.int z5, .ref (c + 7), .ref (c + 7)]) rfl ?_
  refine ev_ldI hr rfl (isT_a7 hc) (fun v3 hr => ?_)
  refine ev_ldI hr rfl (isT_a7 hc) (fun v4 hr => ?_)
  refine ev_seg 2 (k' := 44) (L' := [(5, .int v4), (0, .ref c), (1, .int z1), (2, .int z2), (4, .int z4)]) (st' := []) rfl ?_
  refine ev_join (L' := [(0, .ref c), (1, .int z1), (2, .int z2), (4, .int z4), (5, .int v4)]) [1, 2, 3, 4, 0] [5, 0, 1, 2, 4] [0, 1, 2, 4, 5] rfl rfl (by decide) (by decide) rfl ?_
  exact hr
set_option maxRecDepth 20000 in
theorem eMt_object_110 (d : Nat) (c : Nat) (z1 : Int32) (z2 : Int32) (u0 : Int32) (s : aT) (hc : isT c) : ∀ r, (if u0 = 0 then fMt_object_121 (d + 1) c z1 z2 u0 s else wI s c 2 ((gI s c 2) + 1) (fun s1 => cG (fMt_blanks d c s1) (kV fun s2 => fMt_object_121 (d + 1) c z1 z2 u0 s2))) = some r → fMt_object_110 (d + 1) c z1 z2 u0 s = some r := by
  intro r hr
  show ev (d + 1) q_202 110 [(0, .ref c), (1, .int z1), (2, .int z2)] [.int u0] s = some r
  refine ev_seg 2 (k' := 112) (L' := [(3, .int u0), (0, .ref c), (1, .int z1), (2, .int z2)]) (st' := [.int u0]) rfl ?_
  refine ev_br (P := u0 = 0) (L' := [(3, .int u0), (0, .ref c), (1, .int z1), (2, .int z2)]) (st' := []) hr rfl rfl rfl (fun hr => ?_) (fun hr => ?_)
  · skip
    refine ev_join (L' := [(0, .ref c), (1, .int z1), (2, .int z2), (3, .int u0)]) [1, 2, 3, 0] [3, 0, 1, 2] [0, 1, 2, 3] rfl rfl (by decide) (by decide) rfl ?_
    exact hr
  · skip
    refine ev_seg 2 (k' := 115) (L' := [(3, .int u0), (0, .ref c), (1, .int z1), (2, .int z2)]) (st' := [.ref c, .ref c]) rfl ?_
    refine ev_getI (c := c) rfl (isT_sh hc) rfl (Or.inl rfl) ?_
    refine ev_seg 2 (k' := 118) (L' := [(3, .int u0), (0, .ref c), (1, .int z1), (2, .int z2)]) (st' := [.int ((gI s c 2) + 1), .ref c]) rfl ?_
    refine ev_putI (c := c) hr rfl (isT_sh hc) rfl (fun s1 hr => ?_)
    refine ev_seg 1 (k' := 120) (L' := [(3, .int u0), (0, .ref c), (1, .int z1), (2, .int z2)]) (st' := [.ref c]) rfl ?_
    refine ev_callV (q' := q_197) (x := 197) (y := 12) (c := c) (As := []) (rest := []) hr rfl rfl rfl rfl rfl rfl (isT_sh hc) rfl rfl rfl rfl rfl (fun rv s2 hq => ev_kV hq (fun e9 hr => ?_))
    subst e9
    refine ev_st (st' := []) rfl ?_
    refine ev_join (L' := [(0, .ref c), (1, .int z1), (2, .int z2), (3, .int u0)]) [1, 2, 3, 0] [3, 0, 1, 2] [0, 1, 2, 3] rfl rfl (by decide) (by decide) rfl ?_
    exact hr
set_option maxRecDepth 20000 in
theorem eMt_object_121 (d : Nat) (c : Nat) (z1 : Int32) (z2 : Int32) (z3 : Int32) (s : aT) (hc : isT c) : ∀ r, (fMt_object_22 (d + 1) c z1 z2 z3 s) = some r → fMt_object_121 (d + 1) c z1 z2 z3 s = some r := by
  intro r hr
  show ev (d + 1) q_202 121 [(0, .ref c), (1, .int z1), (2, .int z2), (3, .int z3)] [] s = some r
  refine ev_seg 1 (k' := 22) (L' := [(0, .ref c), (1, .int z1), (2, .int z2), (3, .int z3)]) (st' := []) rfl ?_
  exact hr
set_option maxRecDepth 20000 in
theorem eMt_node (d : Nat) (c : Nat) (x1 : Int32) (s : aT) (hc : isT c) : ∀ r, (stI 4200 s (c + 2) (gI s c 7) x1 (fun s1 => stI 4200 s1 (c + 3) (gI s1 c 7) (gI s1 c 2) (fun s2 => stL 4200 s2 (c + 4) (gI s2 c 7) 0 (fun s3 => stI 4200 s3 (c + 5) (gI s3 c 7) 0 (fun s4 => stI 4200 s4 (c + 6) (gI s4 c 7) (-1) (fun s5 => stI 4200 s5 (c + 7) (gI s5 c 7) (-1) (fun s6 => wI s6 c 7 ((gI s6 c 7) + 1) (fun s7 => rI ((gI s7 c 7) - 1) s7)))))))) = some r → fMt_node d c x1 s = some r := by
  intro r hr
  show ev d q_203 0 [(0, .ref c), (1, .int x1)] [] s = some r
  refine ev_seg 1 (k' := 1) (L' := [(0, .ref c), (1, .int x1)]) (st' := [.ref c]) rfl ?_
  refine ev_getR (c := c) (v := c + 2) rfl (isT_sh hc) rfl (isT_r2 hc) ?_
  refine ev_seg 1 (k' := 3) (L' := [(0, .ref c), (1, .int x1)]) (st' := [.ref c, .ref (c + 2)]) rfl ?_
  refine ev_getI (c := c) rfl (isT_sh hc) rfl (Or.inl rfl) ?_
  refine ev_seg 1 (k' := 5) (L' := [(0, .ref c), (1, .int x1)]) (st' := [.int x1, .int (gI s c 7), .ref (c + 2)]) rfl ?_
  refine ev_stI hr rfl (isT_a2 hc) (fun s1 hr => ?_)
  refine ev_seg 1 (k' := 7) (L' := [(0, .ref c), (1, .int x1)]) (st' := [.ref c]) rfl ?_
  refine ev_getR (c := c) (v := c + 3) rfl (isT_sh hc) rfl (isT_r3 hc) ?_
  refine ev_seg 1 (k' := 9) (L' := [(0, .ref c), (1, .int x1)]) (st' := [.ref c, .ref (c + 3)]) rfl ?_
  refine ev_getI (c := c) rfl (isT_sh hc) rfl (Or.inl rfl) ?_
  refine ev_seg 1 (k' := 11) (L' := [(0, .ref c), (1, .int x1)]) (st' := [.ref c, .int (gI s1 c 7), .ref (c + 3)]) rfl ?_
  refine ev_getI (c := c) rfl (isT_sh hc) rfl (Or.inl rfl) ?_
  refine ev_stI hr rfl (isT_a3 hc) (fun s2 hr => ?_)
  refine ev_seg 1 (k' := 14) (L' := [(0, .ref c), (1, .int x1)]) (st' := [.ref c]) rfl ?_
  refine ev_getR (c := c) (v := c + 4) rfl (isT_sh hc) rfl (isT_r4 hc) ?_
  refine ev_seg 1 (k' := 16) (L' := [(0, .ref c), (1, .int x1)]) (st' := [.ref c, .ref (c + 4)]) rfl ?_
  refine ev_getI (c := c) rfl (isT_sh hc) rfl (Or.inl rfl) ?_
  refine ev_seg 1 (k' := 18) (L' := [(0, .ref c), (1, .int x1)]) (st' := [.long 0, .int (gI s2 c 7), .ref (c + 4)]) rfl ?_
  refine ev_stL hr rfl (isT_a4 hc) (fun s3 hr => ?_)
  refine ev_seg 1 (k' := 20) (L' := [(0, .ref c), (1, .int x1)]) (st' := [.ref c]) rfl ?_
  refine ev_getR (c := c) (v := c + 5) rfl (isT_sh hc) rfl (isT_r5 hc) ?_
  refine ev_seg 1 (k' := 22) (L' := [(0, .ref c), (1, .int x1)]) (st' := [.ref c, .ref (c + 5)]) rfl ?_
  refine ev_getI (c := c) rfl (isT_sh hc) rfl (Or.inl rfl) ?_
  refine ev_seg 1 (k' := 24) (L' := [(0, .ref c), (1, .int x1)]) (st' := [.int 0, .int (gI s3 c 7), .ref (c + 5)]) rfl ?_
  refine ev_stI hr rfl (isT_a5 hc) (fun s4 hr => ?_)
  refine ev_seg 1 (k' := 26) (L' := [(0, .ref c), (1, .int x1)]) (st' := [.ref c]) rfl ?_
  refine ev_getR (c := c) (v := c + 6) rfl (isT_sh hc) rfl (isT_r6 hc) ?_
  refine ev_seg 1 (k' := 28) (L' := [(0, .ref c), (1, .int x1)]) (st' := [.ref c, .ref (c + 6)]) rfl ?_
  refine ev_getI (c := c) rfl (isT_sh hc) rfl (Or.inl rfl) ?_
  refine ev_seg 1 (k' := 30) (L' := [(0, .ref c), (1, .int x1)]) (st' := [.int (-1), .int (gI s4 c 7), .ref (c + 6)]) rfl ?_
  refine ev_stI hr rfl (isT_a6 hc) (fun s5 hr => ?_)
  refine ev_seg 1 (k' := 32) (L' := [(0, .ref c), (1, .int x1)]) (st' := [.ref c]) rfl ?_
  refine ev_getR (c := c) (v := c + 7) rfl (isT_sh hc) rfl (isT_r7 hc) ?_
  refine ev_seg 1 (k' := 34) (L' := [(0, .ref c), (1, .int x1)]) (st' := [.ref c, .ref (c + 7)]) rfl ?_
  refine ev_getI (c := c) rfl (isT_sh hc) rfl (Or.inl rfl) ?_
  refine ev_seg 1 (k' := 36) (L' := [(0, .ref c), (1, .int x1)]) (st' := [.int (-1), .int (gI s5 c 7), .ref (c + 7)]) rfl ?_
  refine ev_stI hr rfl (isT_a7 hc) (fun s6 hr => ?_)
  refine ev_seg 2 (k' := 39) (L' := [(0, .ref c), (1, .int x1)]) (st' := [.ref c, .ref c]) rfl ?_
  refine ev_getI (c := c) rfl (isT_sh hc) rfl (Or.inl rfl) ?_
  refine ev_seg 2 (k' := 42) (L' := [(0, .ref c), (1, .int x1)]) (st' := [.int ((gI s6 c 7) + 1), .ref c]) rfl ?_
  refine ev_putI (c := c) hr rfl (isT_sh hc) rfl (fun s7 hr => ?_)
  refine ev_seg 1 (k' := 44) (L' := [(0, .ref c), (1, .int x1)]) (st' := [.ref c]) rfl ?_
  refine ev_getI (c := c) rfl (isT_sh hc) rfl (Or.inl rfl) ?_
  refine ev_seg 2 (k' := 47) (L' := [(0, .ref c), (1, .int x1)]) (st' := [.int ((gI s7 c 7) - 1)]) rfl ?_
  exact ev_iret hr rfl rfl rfl
set_option maxRecDepth 20000 in
theorem eMt_string (d : Nat) (c : Nat) (s : aT) (hc : isT c) : ∀ r, (cG (fMt_node d c 2 s) (kI fun v2 s1 => stL 4200 s1 (c + 4) v2 ((gI s1 c 15).toInt64) (fun s3 => wI s3 c 2 ((gI s3 c 2) + 1) (fun s4 => fMt_string_17 (d + 1) c v2 s4)))) = some r → fMt_string (d + 1) c s = some r := by
  intro r hr
  show ev (d + 1) q_204 0 [(0, .ref c)] [] s = some r
  refine ev_seg 2 (k' := 2) (L' := [(0, .ref c)]) (st' := [.int 2, .ref c]) rfl ?_
  refine ev_callV (q' := q_203) (x := 203) (y := 12) (c := c) (As := [.int 2]) (rest := []) hr rfl rfl rfl rfl rfl rfl (isT_sh hc) rfl rfl rfl rfl rfl (fun rv s1 hq => ev_kI hq (fun v2 e9 hr => ?_))
  subst e9
  refine ev_st (st' := [.int v2]) rfl ?_
  refine ev_seg 2 (k' := 5) (L' := [(1, .int v2), (0, .ref c)]) (st' := [.ref c]) rfl ?_
  refine ev_getR (c := c) (v := c + 4) rfl (isT_sh hc) rfl (isT_r4 hc) ?_
  refine ev_seg 2 (k' := 8) (L' := [(1, .int v2), (0, .ref c)]) (st' := [.ref c, .int v2, .ref (c + 4)]) rfl ?_
  refine ev_getI (c := c) rfl (isT_sh hc) rfl (Or.inl rfl) ?_
  refine ev_seg 1 (k' := 10) (L' := [(1, .int v2), (0, .ref c)]) (st' := [.long ((gI s1 c 15).toInt64), .int v2, .ref (c + 4)]) rfl ?_
  refine ev_stL hr rfl (isT_a4 hc) (fun s3 hr => ?_)
  refine ev_seg 2 (k' := 13) (L' := [(1, .int v2), (0, .ref c)]) (st' := [.ref c, .ref c]) rfl ?_
  refine ev_getI (c := c) rfl (isT_sh hc) rfl (Or.inl rfl) ?_
  refine ev_seg 2 (k' := 16) (L' := [(1, .int v2), (0, .ref c)]) (st' := [.int ((gI s3 c 2) + 1), .ref c]) rfl ?_
  refine ev_putI (c := c) hr rfl (isT_sh hc) rfl (fun s4 hr => ?_)
  refine ev_join (L' := [(0, .ref c), (1, .int v2)]) [1, 0] [1, 0] [0, 1] rfl rfl (by decide) (by decide) rfl ?_
  exact hr
set_option maxRecDepth 20000 in
theorem eMt_string_17 (d : Nat) (c : Nat) (z1 : Int32) (s : aT) (hc : isT c) : ∀ r, (cG (fMt_look d c s) (kI fun v2 s1 => if v2 = 34 then wI s1 c 2 ((gI s1 c 2) + 1) (fun s3 => rI z1 s3) else cG (fMt_look d c s1) (kI fun v5 s4 => if v5 < 32 then fMt_string_33 (d + 1) c z1 v5 s4 else if 126 < v5 then fMt_string_33 (d + 1) c z1 v5 s4 else fMt_string_34 (d + 1) c z1 v5 1 s4))) = some r → fMt_string_17 (d + 1) c z1 s = some r := by
  intro r hr
  show ev (d + 1) q_204 17 [(0, .ref c), (1, .int z1)] [] s = some r
  refine ev_seg 1 (k' := 18) (L' := [(0, .ref c), (1, .int z1)]) (st' := [.ref c]) rfl ?_
  refine ev_callV (q' := q_198) (x := 198) (y := 12) (c := c) (As := []) (rest := []) hr rfl rfl rfl rfl rfl rfl (isT_sh hc) rfl rfl rfl rfl rfl (fun rv s1 hq => ev_kI hq (fun v2 e9 hr => ?_))
  subst e9
  refine ev_st (st' := [.int v2]) rfl ?_
  refine ev_seg 1 (k' := 20) (L' := [(0, .ref c), (1, .int z1)]) (st' := [.int 34, .int v2]) rfl ?_
  refine ev_br (P := v2 = 34) (L' := [(0, .ref c), (1, .int z1)]) (st' := []) hr rfl rfl rfl (fun hr => ?_) (fun hr => ?_)
  · skip
    refine ev_seg 2 (k' := 75) (L' := [(0, .ref c), (1, .int z1)]) (st' := [.ref c, .ref c]) rfl ?_
    refine ev_getI (c := c) rfl (isT_sh hc) rfl (Or.inl rfl) ?_
    refine ev_seg 2 (k' := 78) (L' := [(0, .ref c), (1, .int z1)]) (st' := [.int ((gI s1 c 2) + 1), .ref c]) rfl ?_
    refine ev_putI (c := c) hr rfl (isT_sh hc) rfl (fun s3 hr => ?_)
    refine ev_seg 1 (k' := 80) (L' := [(0, .ref c), (1, .int z1)]) (st' := [.int z1]) rfl ?_
    exact ev_iret hr rfl rfl rfl
  · skip
    refine ev_seg 1 (k' := 22) (L' := [(0, .ref c), (1, .int z1)]) (st' := [.ref c]) rfl ?_
    refine ev_callV (q' := q_198) (x := 198) (y := 12) (c := c) (As := []) (rest := []) hr rfl rfl rfl rfl rfl rfl (isT_sh hc) rfl rfl rfl rfl rfl (fun rv s4 hq => ev_kI hq (fun v5 e9 hr => ?_))
    subst e9
    refine ev_st (st' := [.int v5]) rfl ?_
    refine ev_seg 4 (k' := 27) (L' := [(2, .int v5), (0, .ref c), (1, .int z1)]) (st' := [.int 32, .int v5, .ref c]) rfl ?_
    refine ev_br (P := v5 < 32) (L' := [(2, .int v5), (0, .ref c), (1, .int z1)]) (st' := [.ref c]) hr rfl rfl rfl (fun hr => ?_) (fun hr => ?_)
    · skip
      refine ev_join (L' := [(0, .ref c), (1, .int z1), (2, .int v5)]) [1, 2, 0] [2, 0, 1] [0, 1, 2] rfl rfl (by decide) (by decide) rfl ?_
      exact hr
    · skip
      refine ev_seg 2 (k' := 30) (L' := [(2, .int v5), (0, .ref c), (1, .int z1)]) (st' := [.int 126, .int v5, .ref c]) rfl ?_
      refine ev_br (P := 126 < v5) (L' := [(2, .int v5), (0, .ref c), (1, .int z1)]) (st' := [.ref c]) hr rfl rfl rfl (fun hr => ?_) (fun hr => ?_)
      · skip
        refine ev_join (L' := [(0, .ref c), (1, .int z1), (2, .int v5)]) [1, 2, 0] [2, 0, 1] [0, 1, 2] rfl rfl (by decide) (by decide) rfl ?_
        exact hr
      · skip
        refine ev_seg 2 (k' := 34) (L' := [(2, .int v5), (0, .ref c), (1, .int z1)]) (st' := [.int 1, .ref c]) rfl ?_
        refine ev_join (L' := [(0, .ref c), (1, .int z1), (2, .int v5)]) [1, 2, 0] [2, 0, 1] [0, 1, 2] rfl rfl (by decide) (by decide) rfl ?_
        exact hr
set_option maxRecDepth 20000 in
theorem eMt_string_33 (d : Nat) (c : Nat) (z1 : Int32) (z2 : Int32) (s : aT) (hc : isT c) : ∀ r, (fMt_string_34 (d + 1) c z1 z2 0 s) = some r → fMt_string_33 (d + 1) c z1 z2 s = some r := by
  intro r hr
  show ev (d + 1) q_204 33 [(0, .ref c), (1, .int z1), (2, .int z2)] [.ref c] s = some r
  refine ev_seg 1 (k' := 34) (L' := [(0, .ref c), (1, .int z1), (2, .int z2)]) (st' := [.int 0, .ref c]) rfl ?_
  exact hr
set_option maxRecDepth 20000 in
theorem eMt_string_34 (d : Nat) (c : Nat) (z1 : Int32) (z2 : Int32) (u0 : Int32) (s : aT) (hc : isT c) : ∀ r, (cG (fMt_need d c u0 1 (gI s c 2) s) (kV fun s1 => if ¬ z2 = 92 then wI s1 c 2 ((gI s1 c 2) + 1) (fun s2 => fMt_string_51 (d + 1) c z1 z2 s2) else cG (fMt_escaped d c s1) (kI fun v4 s3 => fMt_string_51 (d + 1) c z1 v4 s3))) = some r → fMt_string_34 (d + 1) c z1 z2 u0 s = some r := by
  intro r hr
  show ev (d + 1) q_204 34 [(0, .ref c), (1, .int z1), (2, .int z2)] [.int u0, .ref c] s = some r
  refine ev_seg 2 (k' := 36) (L' := [(0, .ref c), (1, .int z1), (2, .int z2)]) (st' := [.ref c, .int 1, .int u0, .ref c]) rfl ?_
  refine ev_getI (c := c) rfl (isT_sh hc) rfl (Or.inl rfl) ?_
  refine ev_callV (q' := q_200) (x := 200) (y := 12) (c := c) (As := [.int u0, .int 1, .int (gI s c 2)]) (rest := []) hr rfl rfl rfl rfl rfl rfl (isT_sh hc) rfl rfl rfl rfl rfl (fun rv s1 hq => ev_kV hq (fun e9 hr => ?_))
  subst e9
  refine ev_st (st' := []) rfl ?_
  refine ev_seg 2 (k' := 40) (L' := [(0, .ref c), (1, .int z1), (2, .int z2)]) (st' := [.int 92, .int z2]) rfl ?_
  refine ev_br (P := ¬ z2 = 92) (L' := [(0, .ref c), (1, .int z1), (2, .int z2)]) (st' := []) hr rfl rfl rfl (fun hr => ?_) (fun hr => ?_)
  · skip
    refine ev_seg 2 (k' := 47) (L' := [(0, .ref c), (1, .int z1), (2, .int z2)]) (st' := [.ref c, .ref c]) rfl ?_
    refine ev_getI (c := c) rfl (isT_sh hc) rfl (Or.inl rfl) ?_
    refine ev_seg 2 (k' := 50) (L' := [(0, .ref c), (1, .int z1), (2, .int z2)]) (st' := [.int ((gI s1 c 2) + 1), .ref c]) rfl ?_
    refine ev_putI (c := c) hr rfl (isT_sh hc) rfl (fun s2 hr => ?_)
    exact hr
  · skip
    refine ev_seg 1 (k' := 42) (L' := [(0, .ref c), (1, .int z1), (2, .int z2)]) (st' := [.ref c]) rfl ?_
    refine ev_callV (q' := q_205) (x := 205) (y := 12) (c := c) (As := []) (rest := []) hr rfl rfl rfl rfl rfl rfl (isT_sh hc) rfl rfl rfl rfl rfl (fun rv s3 hq => ev_kI hq (fun v4 e9 hr => ?_))
    subst e9
    refine ev_st (st' := [.int v4]) rfl ?_
    refine ev_seg 2 (k' := 51) (L' := [(2, .int v4), (0, .ref c), (1, .int z1)]) (st' := []) rfl ?_
    refine ev_join (L' := [(0, .ref c), (1, .int z1), (2, .int v4)]) [1, 2, 0] [2, 0, 1] [0, 1, 2] rfl rfl (by decide) (by decide) rfl ?_
    exact hr
set_option maxRecDepth 20000 in
theorem eMt_string_51 (d : Nat) (c : Nat) (z1 : Int32) (z2 : Int32) (s : aT) (hc : isT c) : ∀ r, (stI 4200 s (c + 8) (gI s c 15) (vp_nar .byte z2.toInt8.toInt32) (fun s1 => wI s1 c 15 ((gI s1 c 15) + 1) (fun s2 => ldI 4200 s2 (c + 5) z1 (fun v3 => stI 4200 s2 (c + 5) z1 (v3 + 1) (fun s4 => fMt_string_17 (d + 1) c z1 s4))))) = some r → fMt_string_51 (d + 1) c z1 z2 s = some r := by
  intro r hr
  show ev (d + 1) q_204 51 [(0, .ref c), (1, .int z1), (2, .int z2)] [] s = some r
  refine ev_seg 1 (k' := 52) (L' := [(0, .ref c), (1, .int z1), (2, .int z2)]) (st' := [.ref c]) rfl ?_
  refine ev_getR (c := c) (v := c + 8) rfl (isT_sh hc) rfl (isT_r8 hc) ?_
  refine ev_seg 1 (k' := 54) (L' := [(0, .ref c), (1, .int z1), (2, .int z2)]) (st' := [.ref c, .ref (c + 8)]) rfl ?_
  refine ev_getI (c := c) rfl (isT_sh hc) rfl (Or.inl rfl) ?_
  refine ev_seg 2 (k' := 57) (L' := [(0, .ref c), (1, .int z1), (2, .int z2)]) (st' := [.int z2.toInt8.toInt32, .int (gI s c 15), .ref (c + 8)]) rfl ?_
  refine ev_stB hr rfl (isT_a8 hc) (fun s1 hr => ?_)
  refine ev_seg 2 (k' := 60) (L' := [(0, .ref c), (1, .int z1), (2, .int z2)]) (st' := [.ref c, .ref c]) rfl ?_
  refine ev_getI (c := c) rfl (isT_sh hc) rfl (Or.inl rfl) ?_
  refine ev_seg 2 (k' := 63) (L' := [(0, .ref c), (1, .int z1), (2, .int z2)]) (st' := [.int ((gI s1 c 15) + 1), .ref c]) rfl ?_
  refine ev_putI (c := c) hr rfl (isT_sh hc) rfl (fun s2 hr => ?_)
  refine ev_seg 1 (k' := 65) (L' := [(0, .ref c), (1, .int z1), (2, .int z2)]) (st' := [.ref c]) rfl ?_
  refine ev_getR (c := c) (v := c + 5) rfl (isT_sh hc) rfl (isT_r5 hc) ?_
  refine ev_seg 2 (k' := 68) (L' := [(0, .ref c), (1, .int z1), (2, .int z2)]) (st' := [.int z1, .ref (c + 5), .int z1, .ref (c + 5)]) rfl ?_
  refine ev_ldI hr rfl (isT_a5 hc) (fun v3 hr => ?_)
  refine ev_seg 2 (k' := 71) (L' := [(0, .ref c), (1, .int z1), (2, .int z2)]) (st' := [.int (v3 + 1), .int z1, .ref (c + 5)]) rfl ?_
  refine ev_stI hr rfl (isT_a5 hc) (fun s4 hr => ?_)
  refine ev_seg 1 (k' := 17) (L' := [(0, .ref c), (1, .int z1), (2, .int z2)]) (st' := []) rfl ?_
  refine ev_join (L' := [(0, .ref c), (1, .int z1)]) [0, 1] [0, 1, 2] [0, 1] rfl rfl (by decide) (by decide) rfl ?_
  exact hr
set_option maxRecDepth 20000 in
theorem eMt_escaped (d : Nat) (c : Nat) (s : aT) (hc : isT c) : ∀ r, (wI s c 2 ((gI s c 2) + 1) (fun s1 => cG (fMt_look (d + 5) c s1) (kI fun v3 s2 => if 0 ≤ v3 then cP 902 [.ref 1043, .int ((v3.toUInt32 % 65536).toInt32)] (fun v4 => fMt_escaped_20 (d + 6) c (gI s c 2) v4 s2) else fMt_escaped_20 (d + 6) c (gI s c 2) (-1) s2))) = some r → fMt_escaped (d + 6) c s = some r := by
  intro r hr
  show ev (d + 6) q_205 0 [(0, .ref c)] [] s = some r
  refine ev_seg 1 (k' := 1) (L' := [(0, .ref c)]) (st' := [.ref c]) rfl ?_
  refine ev_getI (c := c) rfl (isT_sh hc) rfl (Or.inl rfl) ?_
  refine ev_seg 3 (k' := 5) (L' := [(1, .int (gI s c 2)), (0, .ref c)]) (st' := [.ref c, .ref c]) rfl ?_
  refine ev_getI (c := c) rfl (isT_sh hc) rfl (Or.inl rfl) ?_
  refine ev_seg 2 (k' := 8) (L' := [(1, .int (gI s c 2)), (0, .ref c)]) (st' := [.int ((gI s c 2) + 1), .ref c]) rfl ?_
  refine ev_putI (c := c) hr rfl (isT_sh hc) rfl (fun s1 hr => ?_)
  refine ev_seg 1 (k' := 10) (L' := [(1, .int (gI s c 2)), (0, .ref c)]) (st' := [.ref c]) rfl ?_
  refine ev_callV (q' := q_198) (x := 198) (y := 12) (c := c) (As := []) (rest := []) hr rfl rfl rfl rfl rfl rfl (isT_sh hc) rfl rfl rfl rfl rfl (fun rv s2 hq => ev_kI hq (fun v3 e9 hr => ?_))
  subst e9
  refine ev_st (st' := [.int v3]) rfl ?_
  refine ev_seg 2 (k' := 13) (L' := [(2, .int v3), (1, .int (gI s c 2)), (0, .ref c)]) (st' := [.int v3]) rfl ?_
  refine ev_br (P := 0 ≤ v3) (L' := [(2, .int v3), (1, .int (gI s c 2)), (0, .ref c)]) (st' := []) hr rfl rfl rfl (fun hr => ?_) (fun hr => ?_)
  · skip
    refine ev_seg 3 (k' := 19) (L' := [(2, .int v3), (1, .int (gI s c 2)), (0, .ref c)]) (st' := [.int ((v3.toUInt32 % 65536).toInt32), .ref 1043]) rfl ?_
    refine ev_primV (x := 902) (As := [.ref 1043, .int ((v3.toUInt32 % 65536).toInt32)]) (rest := []) hr rfl rfl rfl rfl (fun v4 hr => ?_)
    refine ev_join (L' := [(0, .ref c), (1, .int (gI s c 2))]) [2, 1] [2, 1, 0] [0, 1] rfl rfl (by decide) (by decide) rfl ?_
    exact hr
  · skip
    refine ev_seg 2 (k' := 20) (L' := [(2, .int v3), (1, .int (gI s c 2)), (0, .ref c)]) (st' := [.int (-1)]) rfl ?_
    refine ev_join (L' := [(0, .ref c), (1, .int (gI s c 2))]) [2, 1] [2, 1, 0] [0, 1] rfl rfl (by decide) (by decide) rfl ?_
    exact hr
set_option maxRecDepth 20000 in
theorem eMt_escaped_20 (d : Nat) (c : Nat) (z1 : Int32) (u0 : Int32) (s : aT) (hc : isT c) : ∀ r, (if u0 < 0 then cG (fMt_take (d + 5) c 117 s) (kV fun s1 => fMt_escaped_72 (d + 6) c z1 0 0 s1) else wI s c 2 ((gI s c 2) + 1) (fun s2 => if ¬ u0 = 0 then if ¬ u0 = 1 then if ¬ u0 = 2 then if ¬ u0 = 3 then if ¬ u0 = 4 then if ¬ u0 = 5 then if ¬ u0 = 6 then rI 9 s2 else rI 13 s2 else rI 10 s2 else rI 12 s2 else rI 8 s2 else rI 47 s2 else rI 92 s2 else rI 34 s2)) = some r → fMt_escaped_20 (d + 6) c z1 u0 s = some r := by
  intro r hr
  show ev (d + 6) q_205 20 [(0, .ref c), (1, .int z1)] [.int u0] s = some r
  refine ev_seg 2 (k' := 22) (L' := [(3, .int u0), (0, .ref c), (1, .int z1)]) (st' := [.int u0]) rfl ?_
  refine ev_br (P := u0 < 0) (L' := [(3, .int u0), (0, .ref c), (1, .int z1)]) (st' := []) hr rfl rfl rfl (fun hr => ?_) (fun hr => ?_)
  · skip
    refine ev_seg 2 (k' := 67) (L' := [(3, .int u0), (0, .ref c), (1, .int z1)]) (st' := [.int 117, .ref c]) rfl ?_
    refine ev_callV (q' := q_206) (x := 206) (y := 12) (c := c) (As := [.int 117]) (rest := []) hr rfl rfl rfl rfl rfl rfl (isT_sh hc) rfl rfl rfl rfl rfl (fun rv s1 hq => ev_kV hq (fun e9 hr => ?_))
    subst e9
    refine ev_st (st' := []) rfl ?_
    refine ev_seg 4 (k' := 72) (L' := [(5, .int 0), (4, .int 0), (3, .int u0), (0, .ref c), (1, .int z1)]) (st' := []) rfl ?_
    refine ev_join (L' := [(0, .ref c), (1, .int z1), (4, .int 0), (5, .int 0)]) [3, 4, 1, 0] [5, 4, 3, 0, 1] [0, 1, 4, 5] rfl rfl (by decide) (by decide) rfl ?_
    exact hr
  · skip
    refine ev_seg 2 (k' := 25) (L' := [(3, .int u0), (0, .ref c), (1, .int z1)]) (st' := [.ref c, .ref c]) rfl ?_
    refine ev_getI (c := c) rfl (isT_sh hc) rfl (Or.inl rfl) ?_
    refine ev_seg 2 (k' := 28) (L' := [(3, .int u0), (0, .ref c), (1, .int z1)]) (st' := [.int ((gI s c 2) + 1), .ref c]) rfl ?_
    refine ev_putI (c := c) hr rfl (isT_sh hc) rfl (fun s2 hr => ?_)
    refine ev_seg 1 (k' := 30) (L' := [(3, .int u0), (0, .ref c), (1, .int z1)]) (st' := [.int u0]) rfl ?_
    refine ev_br (P := ¬ u0 = 0) (L' := [(3, .int u0), (0, .ref c), (1, .int z1)]) (st' := []) hr rfl rfl rfl (fun hr => ?_) (fun hr => ?_)
    · skip
      refine ev_seg 2 (k' := 35) (L' := [(3, .int u0), (0, .ref c), (1, .int z1)]) (st' := [.int 1, .int u0]) rfl ?_
      refine ev_br (P := ¬ u0 = 1) (L' := [(3, .int u0), (0, .ref c), (1, .int z1)]) (st' := []) hr rfl rfl rfl (fun hr => ?_) (fun hr => ?_)
      · skip
        refine ev_seg 2 (k' := 40) (L' := [(3, .int u0), (0, .ref c), (1, .int z1)]) (st' := [.int 2, .int u0]) rfl ?_
        refine ev_br (P := ¬ u0 = 2) (L' := [(3, .int u0), (0, .ref c), (1, .int z1)]) (st' := []) hr rfl rfl rfl (fun hr => ?_) (fun hr => ?_)
        · skip
          refine ev_seg 2 (k' := 45) (L' := [(3, .int u0), (0, .ref c), (1, .int z1)]) (st' := [.int 3, .int u0]) rfl ?_
          refine ev_br (P := ¬ u0 = 3) (L' := [(3, .int u0), (0, .ref c), (1, .int z1)]) (st' := []) hr rfl rfl rfl (fun hr => ?_) (fun hr => ?_)
          · skip
            refine ev_seg 2 (k' := 50) (L' := [(3, .int u0), (0, .ref c), (1, .int z1)]) (st' := [.int 4, .int u0]) rfl ?_
            refine ev_br (P := ¬ u0 = 4) (L' := [(3, .int u0), (0, .ref c), (1, .int z1)]) (st' := []) hr rfl rfl rfl (fun hr => ?_) (fun hr => ?_)
            · skip
              refine ev_seg 2 (k' := 55) (L' := [(3, .int u0), (0, .ref c), (1, .int z1)]) (st' := [.int 5, .int u0]) rfl ?_
              refine ev_br (P := ¬ u0 = 5) (L' := [(3, .int u0), (0, .ref c), (1, .int z1)]) (st' := []) hr rfl rfl rfl (fun hr => ?_) (fun hr => ?_)
              · skip
                refine ev_seg 2 (k' := 60) (L' := [(3, .int u0), (0, .ref c), (1, .int z1)]) (st' := [.int 6, .int u0]) rfl ?_
                refine ev_br (P := ¬ u0 = 6) (L' := [(3, .int u0), (0, .ref c), (1, .int z1)]) (st' := []) hr rfl rfl rfl (fun hr => ?_) (fun hr => ?_)
                · skip
                  refine ev_seg 1 (k' := 64) (L' := [(3, .int u0), (0, .ref c), (1, .int z1)]) (st' := [.int 9]) rfl ?_
                  exact ev_iret hr rfl rfl rfl
                · skip
                  refine ev_seg 2 (k' := 64) (L' := [(3, .int u0), (0, .ref c), (1, .int z1)]) (st' := [.int 13]) rfl ?_
                  exact ev_iret hr rfl rfl rfl
              · skip
                refine ev_seg 2 (k' := 64) (L' := [(3, .int u0), (0, .ref c), (1, .int z1)]) (st' := [.int 10]) rfl ?_
                exact ev_iret hr rfl rfl rfl
            · skip
              refine ev_seg 2 (k' := 64) (L' := [(3, .int u0), (0, .ref c), (1, .int z1)]) (st' := [.int 12]) rfl ?_
              exact ev_iret hr rfl rfl rfl
          · skip
            refine ev_seg 2 (k' := 64) (L' := [(3, .int u0), (0, .ref c), (1, .int z1)]) (st' := [.int 8]) rfl ?_
            exact ev_iret hr rfl rfl rfl
        · skip
          refine ev_seg 2 (k' := 64) (L' := [(3, .int u0), (0, .ref c), (1, .int z1)]) (st' := [.int 47]) rfl ?_
          exact ev_iret hr rfl rfl rfl
      · skip
        refine ev_seg 2 (k' := 64) (L' := [(3, .int u0), (0, .ref c), (1, .int z1)]) (st' := [.int 92]) rfl ?_
        exact ev_iret hr rfl rfl rfl
    · skip
      refine ev_seg 2 (k' := 64) (L' := [(3, .int u0), (0, .ref c), (1, .int z1)]) (st' := [.int 34]) rfl ?_
      exact ev_iret hr rfl rfl rfl
set_option maxRecDepth 20000 in
theorem eMt_escaped_72 (d : Nat) (c : Nat) (z1 : Int32) (z4 : Int32) (z5 : Int32) (s : aT) (hc : isT c) : ∀ r, (if 4 ≤ z5 then if 256 ≤ z4 then fMt_escaped_110 (d + 6) z1 z4 0 c s else fMt_escaped_110 (d + 6) z1 z4 1 c s else cG (fMt_look (d + 5) c s) (kI fun v2 s1 => cG (fMt_hex (d + 5) v2 s1) (kI fun v4 s3 => if v4 < 0 then fMt_escaped_83 (d + 6) c z1 z4 z5 0 s3 else fMt_escaped_83 (d + 6) c z1 z4 z5 1 s3))) = some r → fMt_escaped_72 (d + 6) c z1 z4 z5 s = some r := by
  intro r hr
  show ev (d + 6) q_205 72 [(0, .ref c), (1, .int z1), (4, .int z4), (5, .int z5)] [] s = some r
  refine ev_seg 2 (k' := 74) (L' := [(0, .ref c), (1, .int z1), (4, .int z4), (5, .int z5)]) (st' := [.int 4, .int z5]) rfl ?_
  refine ev_br (P := 4 ≤ z5) (L' := [(0, .ref c), (1, .int z1), (4, .int z4), (5, .int z5)]) (st' := []) hr rfl rfl rfl (fun hr => ?_) (fun hr => ?_)
  · skip
    refine ev_seg 3 (k' := 106) (L' := [(0, .ref c), (1, .int z1), (4, .int z4), (5, .int z5)]) (st' := [.int 256, .int z4, .ref c]) rfl ?_
    refine ev_br (P := 256 ≤ z4) (L' := [(0, .ref c), (1, .int z1), (4, .int z4), (5, .int z5)]) (st' := [.ref c]) hr rfl rfl rfl (fun hr => ?_) (fun hr => ?_)
    · skip
      refine ev_seg 1 (k' := 110) (L' := [(0, .ref c), (1, .int z1), (4, .int z4), (5, .int z5)]) (st' := [.int 0, .ref c]) rfl ?_
      refine ev_join (L' := [(1, .int z1), (4, .int z4)]) [1, 2] [0, 1, 4, 5] [1, 4] rfl rfl (by decide) (by decide) rfl ?_
      exact hr
    · skip
      refine ev_seg 2 (k' := 110) (L' := [(0, .ref c), (1, .int z1), (4, .int z4), (5, .int z5)]) (st' := [.int 1, .ref c]) rfl ?_
      refine ev_join (L' := [(1, .int z1), (4, .int z4)]) [1, 2] [0, 1, 4, 5] [1, 4] rfl rfl (by decide) (by decide) rfl ?_
      exact hr
  · skip
    refine ev_seg 2 (k' := 77) (L' := [(0, .ref c), (1, .int z1), (4, .int z4), (5, .int z5)]) (st' := [.ref c, .ref c]) rfl ?_
    refine ev_callV (q' := q_198) (x := 198) (y := 12) (c := c) (As := []) (rest := [.ref c]) hr rfl rfl rfl rfl rfl rfl (isT_sh hc) rfl rfl rfl rfl rfl (fun rv s1 hq => ev_kI hq (fun v2 e9 hr => ?_))
    subst e9
    refine ev_st (st' := [.int v2, .ref c]) rfl ?_
    refine ev_callS (q' := q_207) (x := 207) (vs := [.int v2]) (rest := [.ref c]) hr rfl rfl rfl rfl rfl rfl rfl rfl rfl rfl (fun rv s3 hq => ev_kI hq (fun v4 e9 hr => ?_))
    subst e9
    refine ev_st (st' := [.int v4, .ref c]) rfl ?_
    refine ev_br (P := v4 < 0) (L' := [(0, .ref c), (1, .int z1), (4, .int z4), (5, .int z5)]) (st' := [.ref c]) hr rfl rfl rfl (fun hr => ?_) (fun hr => ?_)
    · skip
      refine ev_seg 1 (k' := 83) (L' := [(0, .ref c), (1, .int z1), (4, .int z4), (5, .int z5)]) (st' := [.int 0, .ref c]) rfl ?_
      exact hr
    · skip
      refine ev_seg 2 (k' := 83) (L' := [(0, .ref c), (1, .int z1), (4, .int z4), (5, .int z5)]) (st' := [.int 1, .ref c]) rfl ?_
      exact hr
set_option maxRecDepth 20000 in
theorem eMt_escaped_110 (d : Nat) (z1 : Int32) (z4 : Int32) (u0 : Int32) (c : Nat) (s : aT) (hc : isT c) : ∀ r, (cG (fMt_need (d + 5) c u0 1 z1 s) (kV fun s1 => rI z4 s1)) = some r → fMt_escaped_110 (d + 6) z1 z4 u0 c s = some r := by
  intro r hr
  show ev (d + 6) q_205 110 [(1, .int z1), (4, .int z4)] [.int u0, .ref c] s = some r
  refine ev_seg 2 (k' := 112) (L' := [(1, .int z1), (4, .int z4)]) (st' := [.int z1, .int 1, .int u0, .ref c]) rfl ?_
  refine ev_callV (q' := q_200) (x := 200) (y := 12) (c := c) (As := [.int u0, .int 1, .int z1]) (rest := []) hr rfl rfl rfl rfl rfl rfl (isT_sh hc) rfl rfl rfl rfl rfl (fun rv s1 hq => ev_kV hq (fun e9 hr => ?_))
  subst e9
  refine ev_st (st' := []) rfl ?_
  refine ev_seg 1 (k' := 114) (L' := [(1, .int z1), (4, .int z4)]) (st' := [.int z4]) rfl ?_
  exact ev_iret hr rfl rfl rfl
set_option maxRecDepth 20000 in
theorem eMt_escaped_83 (d : Nat) (c : Nat) (z1 : Int32) (z4 : Int32) (z5 : Int32) (u0 : Int32) (s : aT) (hc : isT c) : ∀ r, (cG (fMt_need (d + 5) c u0 1 (gI s c 2) s) (kV fun s1 => cG (fMt_look (d + 5) c s1) (kI fun v3 s2 => cG (fMt_hex (d + 5) v3 s2) (kI fun v5 s4 => wI s4 c 2 ((gI s4 c 2) + 1) (fun s6 => fMt_escaped_72 (d + 6) c z1 ((16 * z4) + v5) (z5 + 1) s6))))) = some r → fMt_escaped_83 (d + 6) c z1 z4 z5 u0 s = some r := by
  intro r hr
  show ev (d + 6) q_205 83 [(0, .ref c), (1, .int z1), (4, .int z4), (5, .int z5)] [.int u0, .ref c] s = some r
  refine ev_seg 2 (k' := 85) (L' := [(0, .ref c), (1, .int z1), (4, .int z4), (5, .int z5)]) (st' := [.ref c, .int 1, .int u0, .ref c]) rfl ?_
  refine ev_getI (c := c) rfl (isT_sh hc) rfl (Or.inl rfl) ?_
  refine ev_callV (q' := q_200) (x := 200) (y := 12) (c := c) (As := [.int u0, .int 1, .int (gI s c 2)]) (rest := []) hr rfl rfl rfl rfl rfl rfl (isT_sh hc) rfl rfl rfl rfl rfl (fun rv s1 hq => ev_kV hq (fun e9 hr => ?_))
  subst e9
  refine ev_st (st' := []) rfl ?_
  refine ev_seg 4 (k' := 91) (L' := [(0, .ref c), (1, .int z1), (4, .int z4), (5, .int z5)]) (st' := [.ref c, .int (16 * z4)]) rfl ?_
  refine ev_callV (q' := q_198) (x := 198) (y := 12) (c := c) (As := []) (rest := [.int (16 * z4)]) hr rfl rfl rfl rfl rfl rfl (isT_sh hc) rfl rfl rfl rfl rfl (fun rv s2 hq => ev_kI hq (fun v3 e9 hr => ?_))
  subst e9
  refine ev_st (st' := [.int v3, .int (16 * z4)]) rfl ?_
  refine ev_callS (q' := q_207) (x := 207) (vs := [.int v3]) (rest := [.int (16 * z4)]) hr rfl rfl rfl rfl rfl rfl rfl rfl rfl rfl (fun rv s4 hq => ev_kI hq (fun v5 e9 hr => ?_))
  subst e9
  refine ev_st (st' := [.int v5, .int (16 * z4)]) rfl ?_
  refine ev_seg 4 (k' := 97) (L' := [(4, .int ((16 * z4) + v5)), (0, .ref c), (1, .int z1), (5, .int z5)]) (st' := [.ref c, .ref c]) rfl ?_
  refine ev_getI (c := c) rfl (isT_sh hc) rfl (Or.inl rfl) ?_
  refine ev_seg 2 (k' := 100) (L' := [(4, .int ((16 * z4) + v5)), (0, .ref c), (1, .int z1), (5, .int z5)]) (st' := [.int ((gI s4 c 2) + 1), .ref c]) rfl ?_
  refine ev_putI (c := c) hr rfl (isT_sh hc) rfl (fun s6 hr => ?_)
  refine ev_seg 2 (k' := 72) (L' := [(5, .int (z5 + 1)), (4, .int ((16 * z4) + v5)), (0, .ref c), (1, .int z1)]) (st' := []) rfl ?_
  refine ev_join (L' := [(0, .ref c), (1, .int z1), (4, .int ((16 * z4) + v5)), (5, .int (z5 + 1))]) [2, 3, 1, 0] [5, 4, 0, 1] [0, 1, 4, 5] rfl rfl (by decide) (by decide) rfl ?_
  exact hr
set_option maxRecDepth 20000 in
theorem eMt_take (d : Nat) (c : Nat) (x1 : Int32) (s : aT) (hc : isT c) : ∀ r, (cG (fMt_look d c s) (kI fun v2 s1 => if ¬ v2 = x1 then fMt_take_8 (d + 1) c 0 s1 else fMt_take_8 (d + 1) c 1 s1)) = some r → fMt_take (d + 1) c x1 s = some r := by
  intro r hr
  show ev (d + 1) q_206 0 [(0, .ref c), (1, .int x1)] [] s = some r
  refine ev_seg 2 (k' := 2) (L' := [(0, .ref c), (1, .int x1)]) (st' := [.ref c, .ref c]) rfl ?_
  refine ev_callV (q' := q_198) (x := 198) (y := 12) (c := c) (As := []) (rest := [.ref c]) hr rfl rfl rfl rfl rfl rfl (isT_sh hc) rfl rfl rfl rfl rfl (fun rv s1 hq => ev_kI hq (fun v2 e9 hr => ?_))
  subst e9
  refine ev_st (st' := [.int v2, .ref c]) rfl ?_
  refine ev_seg 1 (k' := 4) (L' := [(0, .ref c), (1, .int x1)]) (st' := [.int x1, .int v2, .ref c]) rfl ?_
  refine ev_br (P := ¬ v2 = x1) (L' := [(0, .ref c), (1, .int x1)]) (st' := [.ref c]) hr rfl rfl rfl (fun hr => ?_) (fun hr => ?_)
  · skip
    refine ev_seg 1 (k' := 8) (L' := [(0, .ref c), (1, .int x1)]) (st' := [.int 0, .ref c]) rfl ?_
    refine ev_join (L' := [(0, .ref c)]) [0] [0, 1] [0] rfl rfl (by decide) (by decide) rfl ?_
    exact hr
  · skip
    refine ev_seg 2 (k' := 8) (L' := [(0, .ref c), (1, .int x1)]) (st' := [.int 1, .ref c]) rfl ?_
    refine ev_join (L' := [(0, .ref c)]) [0] [0, 1] [0] rfl rfl (by decide) (by decide) rfl ?_
    exact hr
set_option maxRecDepth 20000 in
theorem eMt_take_8 (d : Nat) (c : Nat) (u0 : Int32) (s : aT) (hc : isT c) : ∀ r, (cG (fMt_need d c u0 1 (gI s c 2) s) (kV fun s1 => wI s1 c 2 ((gI s1 c 2) + 1) (fun s2 => rV s2))) = some r → fMt_take_8 (d + 1) c u0 s = some r := by
  intro r hr
  show ev (d + 1) q_206 8 [(0, .ref c)] [.int u0, .ref c] s = some r
  refine ev_seg 2 (k' := 10) (L' := [(0, .ref c)]) (st' := [.ref c, .int 1, .int u0, .ref c]) rfl ?_
  refine ev_getI (c := c) rfl (isT_sh hc) rfl (Or.inl rfl) ?_
  refine ev_callV (q' := q_200) (x := 200) (y := 12) (c := c) (As := [.int u0, .int 1, .int (gI s c 2)]) (rest := []) hr rfl rfl rfl rfl rfl rfl (isT_sh hc) rfl rfl rfl rfl rfl (fun rv s1 hq => ev_kV hq (fun e9 hr => ?_))
  subst e9
  refine ev_st (st' := []) rfl ?_
  refine ev_seg 2 (k' := 14) (L' := [(0, .ref c)]) (st' := [.ref c, .ref c]) rfl ?_
  refine ev_getI (c := c) rfl (isT_sh hc) rfl (Or.inl rfl) ?_
  refine ev_seg 2 (k' := 17) (L' := [(0, .ref c)]) (st' := [.int ((gI s1 c 2) + 1), .ref c]) rfl ?_
  refine ev_putI (c := c) hr rfl (isT_sh hc) rfl (fun s2 hr => ?_)
  exact ev_vret hr rfl rfl
set_option maxRecDepth 20000 in
theorem eMt_hex (d : Nat) (x0 : Int32) (s : aT) : ∀ r, (if x0 < 48 then fMt_hex_10 d x0 s else if 57 < x0 then fMt_hex_10 d x0 s else rI (x0 - 48) s) = some r → fMt_hex d x0 s = some r := by
  intro r hr
  show ev d q_207 0 [(0, .int x0)] [] s = some r
  refine ev_seg 2 (k' := 2) (L' := [(0, .int x0)]) (st' := [.int 48, .int x0]) rfl ?_
  refine ev_br (P := x0 < 48) (L' := [(0, .int x0)]) (st' := []) hr rfl rfl rfl (fun hr => ?_) (fun hr => ?_)
  · skip
    exact hr
  · skip
    refine ev_seg 2 (k' := 5) (L' := [(0, .int x0)]) (st' := [.int 57, .int x0]) rfl ?_
    refine ev_br (P := 57 < x0) (L' := [(0, .int x0)]) (st' := []) hr rfl rfl rfl (fun hr => ?_) (fun hr => ?_)
    · skip
      exact hr
    · skip
      refine ev_seg 4 (k' := 35) (L' := [(0, .int x0)]) (st' := [.int (x0 - 48)]) rfl ?_
      exact ev_iret hr rfl rfl rfl
set_option maxRecDepth 20000 in
theorem eMt_hex_10 (d : Nat) (x0 : Int32) (s : aT) : ∀ r, (if x0 < 97 then fMt_hex_22 d x0 s else if 102 < x0 then fMt_hex_22 d x0 s else rI ((x0 - 97) + 10) s) = some r → fMt_hex_10 d x0 s = some r := by
  intro r hr
  show ev d q_207 10 [(0, .int x0)] [] s = some r
  refine ev_seg 2 (k' := 12) (L' := [(0, .int x0)]) (st' := [.int 97, .int x0]) rfl ?_
  refine ev_br (P := x0 < 97) (L' := [(0, .int x0)]) (st' := []) hr rfl rfl rfl (fun hr => ?_) (fun hr => ?_)
  · skip
    exact hr
  · skip
    refine ev_seg 2 (k' := 15) (L' := [(0, .int x0)]) (st' := [.int 102, .int x0]) rfl ?_
    refine ev_br (P := 102 < x0) (L' := [(0, .int x0)]) (st' := []) hr rfl rfl rfl (fun hr => ?_) (fun hr => ?_)
    · skip
      exact hr
    · skip
      refine ev_seg 6 (k' := 35) (L' := [(0, .int x0)]) (st' := [.int ((x0 - 97) + 10)]) rfl ?_
      exact ev_iret hr rfl rfl rfl
set_option maxRecDepth 20000 in
theorem eMt_hex_22 (d : Nat) (x0 : Int32) (s : aT) : ∀ r, (if x0 < 65 then rI (-1) s else if 70 < x0 then rI (-1) s else rI ((x0 - 65) + 10) s) = some r → fMt_hex_22 d x0 s = some r := by
  intro r hr
  show ev d q_207 22 [(0, .int x0)] [] s = some r
  refine ev_seg 2 (k' := 24) (L' := [(0, .int x0)]) (st' := [.int 65, .int x0]) rfl ?_
  refine ev_br (P := x0 < 65) (L' := [(0, .int x0)]) (st' := []) hr rfl rfl rfl (fun hr => ?_) (fun hr => ?_)
  · skip
    refine ev_seg 1 (k' := 35) (L' := [(0, .int x0)]) (st' := [.int (-1)]) rfl ?_
    exact ev_iret hr rfl rfl rfl
  · skip
    refine ev_seg 2 (k' := 27) (L' := [(0, .int x0)]) (st' := [.int 70, .int x0]) rfl ?_
    refine ev_br (P := 70 < x0) (L' := [(0, .int x0)]) (st' := []) hr rfl rfl rfl (fun hr => ?_) (fun hr => ?_)
    · skip
      refine ev_seg 1 (k' := 35) (L' := [(0, .int x0)]) (st' := [.int (-1)]) rfl ?_
      exact ev_iret hr rfl rfl rfl
    · skip
      refine ev_seg 6 (k' := 35) (L' := [(0, .int x0)]) (st' := [.int ((x0 - 65) + 10)]) rfl ?_
      exact ev_iret hr rfl rfl rfl
set_option maxRecDepth 20000 in
theorem eMt_same (d : Nat) (c : Nat) (x1 : Int32) (t2 : Nat) (x3 : Int32) (s : aT) (hc : isT c) (ht2 : isT t2) : ∀ r, (ldI 4200 s (c + 5) x1 (fun v1 => ldI 4200 s (t2 + 5) x3 (fun v2 => if v1 = v2 then fMt_same_13 d c x1 t2 x3 0 s else rI 0 s))) = some r → fMt_same d c x1 t2 x3 s = some r := by
  intro r hr
  show ev d q_208 0 [(0, .ref c), (1, .int x1), (2, .ref t2), (3, .int x3)] [] s = some r
  refine ev_seg 1 (k' := 1) (L' := [(0, .ref c), (1, .int x1), (2, .ref t2), (3, .int x3)]) (st' := [.ref c]) rfl ?_
  refine ev_getR (c := c) (v := c + 5) rfl (isT_sh hc) rfl (isT_r5 hc) ?_
  refine ev_seg 1 (k' := 3) (L' := [(0, .ref c), (1, .int x1), (2, .ref t2), (3, .int x3)]) (st' := [.int x1, .ref (c + 5)]) rfl ?_
  refine ev_ldI hr rfl (isT_a5 hc) (fun v1 hr => ?_)
  refine ev_seg 1 (k' := 5) (L' := [(0, .ref c), (1, .int x1), (2, .ref t2), (3, .int x3)]) (st' := [.ref t2, .int v1]) rfl ?_
  refine ev_getR (c := t2) (v := t2 + 5) rfl (isT_sh ht2) rfl (isT_r5 ht2) ?_
  refine ev_seg 1 (k' := 7) (L' := [(0, .ref c), (1, .int x1), (2, .ref t2), (3, .int x3)]) (st' := [.int x3, .ref (t2 + 5), .int v1]) rfl ?_
  refine ev_ldI hr rfl (isT_a5 ht2) (fun v2 hr => ?_)
  refine ev_br (P := v1 = v2) (L' := [(0, .ref c), (1, .int x1), (2, .ref t2), (3, .int x3)]) (st' := []) hr rfl rfl rfl (fun hr => ?_) (fun hr => ?_)
  · skip
    refine ev_seg 2 (k' := 13) (L' := [(4, .int 0), (0, .ref c), (1, .int x1), (2, .ref t2), (3, .int x3)]) (st' := []) rfl ?_
    refine ev_join (L' := [(0, .ref c), (1, .int x1), (2, .ref t2), (3, .int x3), (4, .int 0)]) [1, 2, 3, 4, 0] [4, 0, 1, 2, 3] [0, 1, 2, 3, 4] rfl rfl (by decide) (by decide) rfl ?_
    exact hr
  · skip
    refine ev_seg 1 (k' := 10) (L' := [(0, .ref c), (1, .int x1), (2, .ref t2), (3, .int x3)]) (st' := [.int 0]) rfl ?_
    exact ev_iret hr rfl rfl rfl
set_option maxRecDepth 20000 in
theorem eMt_same_13 (d : Nat) (c : Nat) (x1 : Int32) (t2 : Nat) (x3 : Int32) (z4 : Int32) (s : aT) (hc : isT c) (ht2 : isT t2) : ∀ r, (ldI 4200 s (c + 5) x1 (fun v1 => if v1 ≤ z4 then rI 1 s else ldL 4200 s (c + 4) x1 (fun v2 => ldI 4200 s (c + 8) (v2.toInt32 + z4) (fun v3 => ldL 4200 s (t2 + 4) x3 (fun v4 => ldI 4200 s (t2 + 8) (v4.toInt32 + z4) (fun v5 => if v3 = v5 then fMt_same_13 d c x1 t2 x3 (z4 + 1) s else rI 0 s)))))) = some r → fMt_same_13 d c x1 t2 x3 z4 s = some r := by
  intro r hr
  show ev d q_208 13 [(0, .ref c), (1, .int x1), (2, .ref t2), (3, .int x3), (4, .int z4)] [] s = some r
  refine ev_seg 2 (k' := 15) (L' := [(0, .ref c), (1, .int x1), (2, .ref t2), (3, .int x3), (4, .int z4)]) (st' := [.ref c, .int z4]) rfl ?_
  refine ev_getR (c := c) (v := c + 5) rfl (isT_sh hc) rfl (isT_r5 hc) ?_
  refine ev_seg 1 (k' := 17) (L' := [(0, .ref c), (1, .int x1), (2, .ref t2), (3, .int x3), (4, .int z4)]) (st' := [.int x1, .ref (c + 5), .int z4]) rfl ?_
  refine ev_ldI hr rfl (isT_a5 hc) (fun v1 hr => ?_)
  refine ev_br (P := v1 ≤ z4) (L' := [(0, .ref c), (1, .int x1), (2, .ref t2), (3, .int x3), (4, .int z4)]) (st' := []) hr rfl rfl rfl (fun hr => ?_) (fun hr => ?_)
  · skip
    refine ev_seg 1 (k' := 45) (L' := [(0, .ref c), (1, .int x1), (2, .ref t2), (3, .int x3), (4, .int z4)]) (st' := [.int 1]) rfl ?_
    exact ev_iret hr rfl rfl rfl
  · skip
    refine ev_seg 1 (k' := 20) (L' := [(0, .ref c), (1, .int x1), (2, .ref t2), (3, .int x3), (4, .int z4)]) (st' := [.ref c]) rfl ?_
    refine ev_getR (c := c) (v := c + 8) rfl (isT_sh hc) rfl (isT_r8 hc) ?_
    refine ev_seg 1 (k' := 22) (L' := [(0, .ref c), (1, .int x1), (2, .ref t2), (3, .int x3), (4, .int z4)]) (st' := [.ref c, .ref (c + 8)]) rfl ?_
    refine ev_getR (c := c) (v := c + 4) rfl (isT_sh hc) rfl (isT_r4 hc) ?_
    refine ev_seg 1 (k' := 24) (L' := [(0, .ref c), (1, .int x1), (2, .ref t2), (3, .int x3), (4, .int z4)]) (st' := [.int x1, .ref (c + 4), .ref (c + 8)]) rfl ?_
    refine ev_ldL hr rfl (isT_a4 hc) (fun v2 hr => ?_)
    refine ev_seg 3 (k' := 28) (L' := [(0, .ref c), (1, .int x1), (2, .ref t2), (3, .int x3), (4, .int z4)]) (st' := [.int (v2.toInt32 + z4), .ref (c + 8)]) rfl ?_
    refine ev_ldB hr rfl (isT_a8 hc) (fun v3 hr => ?_)
    refine ev_seg 1 (k' := 30) (L' := [(0, .ref c), (1, .int x1), (2, .ref t2), (3, .int x3), (4, .int z4)]) (st' := [.ref t2, .int v3]) rfl ?_
    refine ev_getR (c := t2) (v := t2 + 8) rfl (isT_sh ht2) rfl (isT_r8 ht2) ?_
    refine ev_seg 1 (k' := 32) (L' := [(0, .ref c), (1, .int x1), (2, .ref t2), (3, .int x3), (4, .int z4)]) (st' := [.ref t2, .ref (t2 + 8), .int v3]) rfl ?_
    refine ev_getR (c := t2) (v := t2 + 4) rfl (isT_sh ht2) rfl (isT_r4 ht2) ?_
    refine ev_seg 1 (k' := 34) (L' := [(0, .ref c), (1, .int x1), (2, .ref t2), (3, .int x3), (4, .int z4)]) (st' := [.int x3, .ref (t2 + 4), .ref (t2 + 8), .int v3]) rfl ?_
    refine ev_ldL hr rfl (isT_a4 ht2) (fun v4 hr => ?_)
    refine ev_seg 3 (k' := 38) (L' := [(0, .ref c), (1, .int x1), (2, .ref t2), (3, .int x3), (4, .int z4)]) (st' := [.int (v4.toInt32 + z4), .ref (t2 + 8), .int v3]) rfl ?_
    refine ev_ldB hr rfl (isT_a8 ht2) (fun v5 hr => ?_)
    refine ev_br (P := v3 = v5) (L' := [(0, .ref c), (1, .int x1), (2, .ref t2), (3, .int x3), (4, .int z4)]) (st' := []) hr rfl rfl rfl (fun hr => ?_) (fun hr => ?_)
    · skip
      refine ev_seg 2 (k' := 13) (L' := [(4, .int (z4 + 1)), (0, .ref c), (1, .int x1), (2, .ref t2), (3, .int x3)]) (st' := []) rfl ?_
      refine ev_join (L' := [(0, .ref c), (1, .int x1), (2, .ref t2), (3, .int x3), (4, .int (z4 + 1))]) [1, 2, 3, 4, 0] [4, 0, 1, 2, 3] [0, 1, 2, 3, 4] rfl rfl (by decide) (by decide) rfl ?_
      exact hr
    · skip
      refine ev_seg 1 (k' := 41) (L' := [(0, .ref c), (1, .int x1), (2, .ref t2), (3, .int x3), (4, .int z4)]) (st' := [.int 0]) rfl ?_
      exact ev_iret hr rfl rfl rfl
set_option maxRecDepth 20000 in
theorem eMt_list (d : Nat) (c : Nat) (s : aT) (hc : isT c) : ∀ r, (cG (fMt_node d c 1 s) (kI fun v2 s1 => wI s1 c 2 ((gI s1 c 2) + 1) (fun s3 => cG (fMt_blanks d c s3) (kV fun s4 => cG (fMt_look d c s4) (kI fun v6 s5 => if v6 = 93 then fMt_list_21 (d + 1) c v2 (-1) 0 s5 else fMt_list_21 (d + 1) c v2 (-1) 1 s5))))) = some r → fMt_list (d + 1) c s = some r := by
  intro r hr
  show ev (d + 1) q_209 0 [(0, .ref c)] [] s = some r
  refine ev_seg 2 (k' := 2) (L' := [(0, .ref c)]) (st' := [.int 1, .ref c]) rfl ?_
  refine ev_callV (q' := q_203) (x := 203) (y := 12) (c := c) (As := [.int 1]) (rest := []) hr rfl rfl rfl rfl rfl rfl (isT_sh hc) rfl rfl rfl rfl rfl (fun rv s1 hq => ev_kI hq (fun v2 e9 hr => ?_))
  subst e9
  refine ev_st (st' := [.int v2]) rfl ?_
  refine ev_seg 3 (k' := 6) (L' := [(1, .int v2), (0, .ref c)]) (st' := [.ref c, .ref c]) rfl ?_
  refine ev_getI (c := c) rfl (isT_sh hc) rfl (Or.inl rfl) ?_
  refine ev_seg 2 (k' := 9) (L' := [(1, .int v2), (0, .ref c)]) (st' := [.int ((gI s1 c 2) + 1), .ref c]) rfl ?_
  refine ev_putI (c := c) hr rfl (isT_sh hc) rfl (fun s3 hr => ?_)
  refine ev_seg 1 (k' := 11) (L' := [(1, .int v2), (0, .ref c)]) (st' := [.ref c]) rfl ?_
  refine ev_callV (q' := q_197) (x := 197) (y := 12) (c := c) (As := []) (rest := []) hr rfl rfl rfl rfl rfl rfl (isT_sh hc) rfl rfl rfl rfl rfl (fun rv s4 hq => ev_kV hq (fun e9 hr => ?_))
  subst e9
  refine ev_st (st' := []) rfl ?_
  refine ev_seg 3 (k' := 15) (L' := [(2, .int (-1)), (1, .int v2), (0, .ref c)]) (st' := [.ref c]) rfl ?_
  refine ev_callV (q' := q_198) (x := 198) (y := 12) (c := c) (As := []) (rest := []) hr rfl rfl rfl rfl rfl rfl (isT_sh hc) rfl rfl rfl rfl rfl (fun rv s5 hq => ev_kI hq (fun v6 e9 hr => ?_))
  subst e9
  refine ev_st (st' := [.int v6]) rfl ?_
  refine ev_seg 1 (k' := 17) (L' := [(2, .int (-1)), (1, .int v2), (0, .ref c)]) (st' := [.int 93, .int v6]) rfl ?_
  refine ev_br (P := v6 = 93) (L' := [(2, .int (-1)), (1, .int v2), (0, .ref c)]) (st' := []) hr rfl rfl rfl (fun hr => ?_) (fun hr => ?_)
  · skip
    refine ev_seg 1 (k' := 21) (L' := [(2, .int (-1)), (1, .int v2), (0, .ref c)]) (st' := [.int 0]) rfl ?_
    refine ev_join (L' := [(0, .ref c), (1, .int v2), (2, .int (-1))]) [2, 1, 0] [2, 1, 0] [0, 1, 2] rfl rfl (by decide) (by decide) rfl ?_
    exact hr
  · skip
    refine ev_seg 2 (k' := 21) (L' := [(2, .int (-1)), (1, .int v2), (0, .ref c)]) (st' := [.int 1]) rfl ?_
    refine ev_join (L' := [(0, .ref c), (1, .int v2), (2, .int (-1))]) [2, 1, 0] [2, 1, 0] [0, 1, 2] rfl rfl (by decide) (by decide) rfl ?_
    exact hr
set_option maxRecDepth 20000 in
theorem eMt_list_21 (d : Nat) (c : Nat) (z1 : Int32) (z2 : Int32) (u0 : Int32) (s : aT) (hc : isT c) : ∀ r, (fMt_list_22 (d + 1) c z1 z2 u0 s) = some r → fMt_list_21 (d + 1) c z1 z2 u0 s = some r := by
  intro r hr
  show ev (d + 1) q_209 21 [(0, .ref c), (1, .int z1), (2, .int z2)] [.int u0] s = some r
  refine ev_seg 1 (k' := 22) (L' := [(3, .int u0), (0, .ref c), (1, .int z1), (2, .int z2)]) (st' := []) rfl ?_
  refine ev_join (L' := [(0, .ref c), (1, .int z1), (2, .int z2), (3, .int u0)]) [1, 2, 3, 0] [3, 0, 1, 2] [0, 1, 2, 3] rfl rfl (by decide) (by decide) rfl ?_
  exact hr
set_option maxRecDepth 20000 in
theorem eMt_list_22 (d : Nat) (c : Nat) (z1 : Int32) (z2 : Int32) (z3 : Int32) (s : aT) (hc : isT c) : ∀ r, (if z3 = 0 then cG (fMt_take d c 93 s) (kV fun s1 => rI z1 s1) else cG (fMt_value d c s) (kI fun v3 s2 => if 0 ≤ z2 then stI 4200 s2 (c + 7) z2 v3 (fun s4 => fMt_list_40 (d + 1) c z1 v3 s4) else stI 4200 s2 (c + 6) z1 v3 (fun s5 => fMt_list_40 (d + 1) c z1 v3 s5))) = some r → fMt_list_22 (d + 1) c z1 z2 z3 s = some r := by
  intro r hr
  show ev (d + 1) q_209 22 [(0, .ref c), (1, .int z1), (2, .int z2), (3, .int z3)] [] s = some r
  refine ev_seg 1 (k' := 23) (L' := [(0, .ref c), (1, .int z1), (2, .int z2), (3, .int z3)]) (st' := [.int z3]) rfl ?_
  refine ev_br (P := z3 = 0) (L' := [(0, .ref c), (1, .int z1), (2, .int z2), (3, .int z3)]) (st' := []) hr rfl rfl rfl (fun hr => ?_) (fun hr => ?_)
  · skip
    refine ev_seg 2 (k' := 73) (L' := [(0, .ref c), (1, .int z1), (2, .int z2), (3, .int z3)]) (st' := [.int 93, .ref c]) rfl ?_
    refine ev_callV (q' := q_206) (x := 206) (y := 12) (c := c) (As := [.int 93]) (rest := []) hr rfl rfl rfl rfl rfl rfl (isT_sh hc) rfl rfl rfl rfl rfl (fun rv s1 hq => ev_kV hq (fun e9 hr => ?_))
    subst e9
    refine ev_st (st' := []) rfl ?_
    refine ev_seg 1 (k' := 75) (L' := [(0, .ref c), (1, .int z1), (2, .int z2), (3, .int z3)]) (st' := [.int z1]) rfl ?_
    exact ev_iret hr rfl rfl rfl
  · skip
    refine ev_seg 1 (k' := 25) (L' := [(0, .ref c), (1, .int z1), (2, .int z2), (3, .int z3)]) (st' := [.ref c]) rfl ?_
    refine ev_callV (q' := q_199) (x := 199) (y := 12) (c := c) (As := []) (rest := []) hr rfl rfl rfl rfl rfl rfl (isT_sh hc) rfl rfl rfl rfl rfl (fun rv s2 hq => ev_kI hq (fun v3 e9 hr => ?_))
    subst e9
    refine ev_st (st' := [.int v3]) rfl ?_
    refine ev_seg 2 (k' := 28) (L' := [(4, .int v3), (0, .ref c), (1, .int z1), (2, .int z2), (3, .int z3)]) (st' := [.int z2]) rfl ?_
    refine ev_br (P := 0 ≤ z2) (L' := [(4, .int v3), (0, .ref c), (1, .int z1), (2, .int z2), (3, .int z3)]) (st' := []) hr rfl rfl rfl (fun hr => ?_) (fun hr => ?_)
    · skip
      refine ev_seg 1 (k' := 36) (L' := [(4, .int v3), (0, .ref c), (1, .int z1), (2, .int z2), (3, .int z3)]) (st' := [.ref c]) rfl ?_
      refine ev_getR (c := c) (v := c + 7) rfl (isT_sh hc) rfl (isT_r7 hc) ?_
      refine ev_seg 2 (k' := 39) (L' := [(4, .int v3), (0, .ref c), (1, .int z1), (2, .int z2), (3, .int z3)]) (st' := [.int v3, .int z2, .ref (c + 7)]) rfl ?_
      refine ev_stI hr rfl (isT_a7 hc) (fun s4 hr => ?_)
      refine ev_join (L' := [(0, .ref c), (1, .int z1), (4, .int v3)]) [1, 2, 0] [4, 0, 1, 2, 3] [0, 1, 4] rfl rfl (by decide) (by decide) rfl ?_
      exact hr
    · skip
      refine ev_seg 1 (k' := 30) (L' := [(4, .int v3), (0, .ref c), (1, .int z1), (2, .int z2), (3, .int z3)]) (st' := [.ref c]) rfl ?_
      refine ev_getR (c := c) (v := c + 6) rfl (isT_sh hc) rfl (isT_r6 hc) ?_
      refine ev_seg 2 (k' := 33) (L' := [(4, .int v3), (0, .ref c), (1, .int z1), (2, .int z2), (3, .int z3)]) (st' := [.int v3, .int z1, .ref (c + 6)]) rfl ?_
      refine ev_stI hr rfl (isT_a6 hc) (fun s5 hr => ?_)
      refine ev_seg 1 (k' := 40) (L' := [(4, .int v3), (0, .ref c), (1, .int z1), (2, .int z2), (3, .int z3)]) (st' := []) rfl ?_
      refine ev_join (L' := [(0, .ref c), (1, .int z1), (4, .int v3)]) [1, 2, 0] [4, 0, 1, 2, 3] [0, 1, 4] rfl rfl (by decide) (by decide) rfl ?_
      exact hr
set_option maxRecDepth 20000 in
theorem eMt_list_40 (d : Nat) (c : Nat) (z1 : Int32) (z4 : Int32) (s : aT) (hc : isT c) : ∀ r, (ldI 4200 s (c + 5) z1 (fun v1 => stI 4200 s (c + 5) z1 (v1 + 1) (fun s2 => cG (fMt_blanks d c s2) (kV fun s3 => cG (fMt_look d c s3) (kI fun v5 s4 => if ¬ v5 = 44 then fMt_list_59 (d + 1) c z1 z4 0 s4 else fMt_list_59 (d + 1) c z1 z4 1 s4))))) = some r → fMt_list_40 (d + 1) c z1 z4 s = some r := by
  intro r hr
  show ev (d + 1) q_209 40 [(0, .ref c), (1, .int z1), (4, .int z4)] [] s = some r
  refine ev_seg 3 (k' := 43) (L' := [(2, .int z4), (0, .ref c), (1, .int z1), (4, .int z4)]) (st' := [.ref c]) rfl ?_
  refine ev_getR (c := c) (v := c + 5) rfl (isT_sh hc) rfl (isT_r5 hc) ?_
  refine ev_seg 2 (k' := 46) (L' := [(2, .int z4), (0, .ref c), (1, .int z1), (4, .int z4)]) (st' := [.int z1, .ref (c + 5), .int z1, .ref (c + 5)]) rfl ?_
  refine ev_ldI hr rfl (isT_a5 hc) (fun v1 hr => ?_)
  refine ev_seg 2 (k' := 49) (L' := [(2, .int z4), (0, .ref c), (1, .int z1), (4, .int z4)]) (st' := [.int (v1 + 1), .int z1, .ref (c + 5)]) rfl ?_
  refine ev_stI hr rfl (isT_a5 hc) (fun s2 hr => ?_)
  refine ev_seg 1 (k' := 51) (L' := [(2, .int z4), (0, .ref c), (1, .int z1), (4, .int z4)]) (st' := [.ref c]) rfl ?_
  refine ev_callV (q' := q_197) (x := 197) (y := 12) (c := c) (As := []) (rest := []) hr rfl rfl rfl rfl rfl rfl (isT_sh hc) rfl rfl rfl rfl rfl (fun rv s3 hq => ev_kV hq (fun e9 hr => ?_))
  subst e9
  refine ev_st (st' := []) rfl ?_
  refine ev_seg 1 (k' := 53) (L' := [(2, .int z4), (0, .ref c), (1, .int z1), (4, .int z4)]) (st' := [.ref c]) rfl ?_
  refine ev_callV (q' := q_198) (x := 198) (y := 12) (c := c) (As := []) (rest := []) hr rfl rfl rfl rfl rfl rfl (isT_sh hc) rfl rfl rfl rfl rfl (fun rv s4 hq => ev_kI hq (fun v5 e9 hr => ?_))
  subst e9
  refine ev_st (st' := [.int v5]) rfl ?_
  refine ev_seg 1 (k' := 55) (L' := [(2, .int z4), (0, .ref c), (1, .int z1), (4, .int z4)]) (st' := [.int 44, .int v5]) rfl ?_
  refine ev_br (P := ¬ v5 = 44) (L' := [(2, .int z4), (0, .ref c), (1, .int z1), (4, .int z4)]) (st' := []) hr rfl rfl rfl (fun hr => ?_) (fun hr => ?_)
  · skip
    refine ev_seg 1 (k' := 59) (L' := [(2, .int z4), (0, .ref c), (1, .int z1), (4, .int z4)]) (st' := [.int 0]) rfl ?_
    refine ev_join (L' := [(0, .ref c), (1, .int z1), (2, .int z4)]) [1, 2, 0] [2, 0, 1, 4] [0, 1, 2] rfl rfl (by decide) (by decide) rfl ?_
    exact hr
  · skip
    refine ev_seg 2 (k' := 59) (L' := [(2, .int z4), (0, .ref c), (1, .int z1), (4, .int z4)]) (st' := [.int 1]) rfl ?_
    refine ev_join (L' := [(0, .ref c), (1, .int z1), (2, .int z4)]) [1, 2, 0] [2, 0, 1, 4] [0, 1, 2] rfl rfl (by decide) (by decide) rfl ?_
    exact hr
set_option maxRecDepth 20000 in
theorem eMt_list_59 (d : Nat) (c : Nat) (z1 : Int32) (z2 : Int32) (u0 : Int32) (s : aT) (hc : isT c) : ∀ r, (if u0 = 0 then fMt_list_70 (d + 1) c z1 z2 u0 s else wI s c 2 ((gI s c 2) + 1) (fun s1 => cG (fMt_blanks d c s1) (kV fun s2 => fMt_list_70 (d + 1) c z1 z2 u0 s2))) = some r → fMt_list_59 (d + 1) c z1 z2 u0 s = some r := by
  intro r hr
  show ev (d + 1) q_209 59 [(0, .ref c), (1, .int z1), (2, .int z2)] [.int u0] s = some r
  refine ev_seg 2 (k' := 61) (L' := [(3, .int u0), (0, .ref c), (1, .int z1), (2, .int z2)]) (st' := [.int u0]) rfl ?_
  refine ev_br (P := u0 = 0) (L' := [(3, .int u0), (0, .ref c), (1, .int z1), (2, .int z2)]) (st' := []) hr rfl rfl rfl (fun hr => ?_) (fun hr => ?_)
  · skip
    refine ev_join (L' := [(0, .ref c), (1, .int z1), (2, .int z2), (3, .int u0)]) [1, 2, 3, 0] [3, 0, 1, 2] [0, 1, 2, 3] rfl rfl (by decide) (by decide) rfl ?_
    exact hr
  · skip
    refine ev_seg 2 (k' := 64) (L' := [(3, .int u0), (0, .ref c), (1, .int z1), (2, .int z2)]) (st' := [.ref c, .ref c]) rfl ?_
    refine ev_getI (c := c) rfl (isT_sh hc) rfl (Or.inl rfl) ?_
    refine ev_seg 2 (k' := 67) (L' := [(3, .int u0), (0, .ref c), (1, .int z1), (2, .int z2)]) (st' := [.int ((gI s c 2) + 1), .ref c]) rfl ?_
    refine ev_putI (c := c) hr rfl (isT_sh hc) rfl (fun s1 hr => ?_)
    refine ev_seg 1 (k' := 69) (L' := [(3, .int u0), (0, .ref c), (1, .int z1), (2, .int z2)]) (st' := [.ref c]) rfl ?_
    refine ev_callV (q' := q_197) (x := 197) (y := 12) (c := c) (As := []) (rest := []) hr rfl rfl rfl rfl rfl rfl (isT_sh hc) rfl rfl rfl rfl rfl (fun rv s2 hq => ev_kV hq (fun e9 hr => ?_))
    subst e9
    refine ev_st (st' := []) rfl ?_
    refine ev_join (L' := [(0, .ref c), (1, .int z1), (2, .int z2), (3, .int u0)]) [1, 2, 3, 0] [3, 0, 1, 2] [0, 1, 2, 3] rfl rfl (by decide) (by decide) rfl ?_
    exact hr
set_option maxRecDepth 20000 in
theorem eMt_list_70 (d : Nat) (c : Nat) (z1 : Int32) (z2 : Int32) (z3 : Int32) (s : aT) (hc : isT c) : ∀ r, (fMt_list_22 (d + 1) c z1 z2 z3 s) = some r → fMt_list_70 (d + 1) c z1 z2 z3 s = some r := by
  intro r hr
  show ev (d + 1) q_209 70 [(0, .ref c), (1, .int z1), (2, .int z2), (3, .int z3)] [] s = some r
  refine ev_seg 1 (k' := 22) (L' := [(0, .ref c), (1, .int z1), (2, .int z2), (3, .int z3)]) (st' := []) rfl ?_
  exact hr
set_option maxRecDepth 20000 in
theorem eMt_number (d : Nat) (c : Nat) (s : aT) (hc : isT c) : ∀ r, (cG (fMt_node d c 3 s) (kI fun v2 s1 => cG (fMt_look d c s1) (kI fun v4 s3 => if ¬ v4 = 45 then fMt_number_11 (d + 1) c v2 0 s3 else fMt_number_11 (d + 1) c v2 1 s3))) = some r → fMt_number (d + 1) c s = some r := by
  intro r hr
  show ev (d + 1) q_210 0 [(0, .ref c)] [] s = some r
  refine ev_seg 2 (k' := 2) (L' := [(0, .ref c)]) (st' := [.int 3, .ref c]) rfl ?_
  refine ev_callV (q' := q_203) (x := 203) (y := 12) (c := c) (As := [.int 3]) (rest := []) hr rfl rfl rfl rfl rfl rfl (isT_sh hc) rfl rfl rfl rfl rfl (fun rv s1 hq => ev_kI hq (fun v2 e9 hr => ?_))
  subst e9
  refine ev_st (st' := [.int v2]) rfl ?_
  refine ev_seg 2 (k' := 5) (L' := [(1, .int v2), (0, .ref c)]) (st' := [.ref c]) rfl ?_
  refine ev_callV (q' := q_198) (x := 198) (y := 12) (c := c) (As := []) (rest := []) hr rfl rfl rfl rfl rfl rfl (isT_sh hc) rfl rfl rfl rfl rfl (fun rv s3 hq => ev_kI hq (fun v4 e9 hr => ?_))
  subst e9
  refine ev_st (st' := [.int v4]) rfl ?_
  refine ev_seg 1 (k' := 7) (L' := [(1, .int v2), (0, .ref c)]) (st' := [.int 45, .int v4]) rfl ?_
  refine ev_br (P := ¬ v4 = 45) (L' := [(1, .int v2), (0, .ref c)]) (st' := []) hr rfl rfl rfl (fun hr => ?_) (fun hr => ?_)
  · skip
    refine ev_seg 1 (k' := 11) (L' := [(1, .int v2), (0, .ref c)]) (st' := [.int 0]) rfl ?_
    refine ev_join (L' := [(0, .ref c), (1, .int v2)]) [1, 0] [1, 0] [0, 1] rfl rfl (by decide) (by decide) rfl ?_
    exact hr
  · skip
    refine ev_seg 2 (k' := 11) (L' := [(1, .int v2), (0, .ref c)]) (st' := [.int 1]) rfl ?_
    refine ev_join (L' := [(0, .ref c), (1, .int v2)]) [1, 0] [1, 0] [0, 1] rfl rfl (by decide) (by decide) rfl ?_
    exact hr
set_option maxRecDepth 20000 in
theorem eMt_number_11 (d : Nat) (c : Nat) (z1 : Int32) (u0 : Int32) (s : aT) (hc : isT c) : ∀ r, (if u0 = 0 then fMt_number_22 (d + 1) c z1 u0 (gI s c 2) s else fMt_number_22 (d + 1) c z1 u0 ((gI s c 2) + 1) s) = some r → fMt_number_11 (d + 1) c z1 u0 s = some r := by
  intro r hr
  show ev (d + 1) q_210 11 [(0, .ref c), (1, .int z1)] [.int u0] s = some r
  refine ev_seg 3 (k' := 14) (L' := [(2, .int u0), (0, .ref c), (1, .int z1)]) (st' := [.int u0, .ref c]) rfl ?_
  refine ev_br (P := u0 = 0) (L' := [(2, .int u0), (0, .ref c), (1, .int z1)]) (st' := [.ref c]) hr rfl rfl rfl (fun hr => ?_) (fun hr => ?_)
  · skip
    refine ev_seg 1 (k' := 21) (L' := [(2, .int u0), (0, .ref c), (1, .int z1)]) (st' := [.ref c, .ref c]) rfl ?_
    refine ev_getI (c := c) rfl (isT_sh hc) rfl (Or.inl rfl) ?_
    refine ev_join (L' := [(0, .ref c), (1, .int z1), (2, .int u0)]) [1, 2, 0] [2, 0, 1] [0, 1, 2] rfl rfl (by decide) (by decide) rfl ?_
    exact hr
  · skip
    refine ev_seg 1 (k' := 16) (L' := [(2, .int u0), (0, .ref c), (1, .int z1)]) (st' := [.ref c, .ref c]) rfl ?_
    refine ev_getI (c := c) rfl (isT_sh hc) rfl (Or.inl rfl) ?_
    refine ev_seg 3 (k' := 22) (L' := [(2, .int u0), (0, .ref c), (1, .int z1)]) (st' := [.int ((gI s c 2) + 1), .ref c]) rfl ?_
    refine ev_join (L' := [(0, .ref c), (1, .int z1), (2, .int u0)]) [1, 2, 0] [2, 0, 1] [0, 1, 2] rfl rfl (by decide) (by decide) rfl ?_
    exact hr
set_option maxRecDepth 20000 in
theorem eMt_number_22 (d : Nat) (c : Nat) (z1 : Int32) (z2 : Int32) (u0 : Int32) (s : aT) (hc : isT c) : ∀ r, (wI s c 2 u0 (fun s1 => cG (fMt_look d c s1) (kI fun v3 s2 => if v3 < 48 then fMt_number_34 (d + 1) c z1 z2 s2 else cG (fMt_look d c s2) (kI fun v5 s4 => if 57 < v5 then fMt_number_34 (d + 1) c z1 z2 s4 else fMt_number_35 (d + 1) c z1 z2 1 s4)))) = some r → fMt_number_22 (d + 1) c z1 z2 u0 s = some r := by
  intro r hr
  show ev (d + 1) q_210 22 [(0, .ref c), (1, .int z1), (2, .int z2)] [.int u0, .ref c] s = some r
  refine ev_putI (c := c) hr rfl (isT_sh hc) rfl (fun s1 hr => ?_)
  refine ev_seg 2 (k' := 25) (L' := [(0, .ref c), (1, .int z1), (2, .int z2)]) (st' := [.ref c, .ref c]) rfl ?_
  refine ev_callV (q' := q_198) (x := 198) (y := 12) (c := c) (As := []) (rest := [.ref c]) hr rfl rfl rfl rfl rfl rfl (isT_sh hc) rfl rfl rfl rfl rfl (fun rv s2 hq => ev_kI hq (fun v3 e9 hr => ?_))
  subst e9
  refine ev_st (st' := [.int v3, .ref c]) rfl ?_
  refine ev_seg 1 (k' := 27) (L' := [(0, .ref c), (1, .int z1), (2, .int z2)]) (st' := [.int 48, .int v3, .ref c]) rfl ?_
  refine ev_br (P := v3 < 48) (L' := [(0, .ref c), (1, .int z1), (2, .int z2)]) (st' := [.ref c]) hr rfl rfl rfl (fun hr => ?_) (fun hr => ?_)
  · skip
    exact hr
  · skip
    refine ev_seg 1 (k' := 29) (L' := [(0, .ref c), (1, .int z1), (2, .int z2)]) (st' := [.ref c, .ref c]) rfl ?_
    refine ev_callV (q' := q_198) (x := 198) (y := 12) (c := c) (As := []) (rest := [.ref c]) hr rfl rfl rfl rfl rfl rfl (isT_sh hc) rfl rfl rfl rfl rfl (fun rv s4 hq => ev_kI hq (fun v5 e9 hr => ?_))
    subst e9
    refine ev_st (st' := [.int v5, .ref c]) rfl ?_
    refine ev_seg 1 (k' := 31) (L' := [(0, .ref c), (1, .int z1), (2, .int z2)]) (st' := [.int 57, .int v5, .ref c]) rfl ?_
    refine ev_br (P := 57 < v5) (L' := [(0, .ref c), (1, .int z1), (2, .int z2)]) (st' := [.ref c]) hr rfl rfl rfl (fun hr => ?_) (fun hr => ?_)
    · skip
      exact hr
    · skip
      refine ev_seg 2 (k' := 35) (L' := [(0, .ref c), (1, .int z1), (2, .int z2)]) (st' := [.int 1, .ref c]) rfl ?_
      exact hr
set_option maxRecDepth 20000 in
theorem eMt_number_34 (d : Nat) (c : Nat) (z1 : Int32) (z2 : Int32) (s : aT) (hc : isT c) : ∀ r, (fMt_number_35 (d + 1) c z1 z2 0 s) = some r → fMt_number_34 (d + 1) c z1 z2 s = some r := by
  intro r hr
  show ev (d + 1) q_210 34 [(0, .ref c), (1, .int z1), (2, .int z2)] [.ref c] s = some r
  refine ev_seg 1 (k' := 35) (L' := [(0, .ref c), (1, .int z1), (2, .int z2)]) (st' := [.int 0, .ref c]) rfl ?_
  exact hr
set_option maxRecDepth 20000 in
theorem eMt_number_35 (d : Nat) (c : Nat) (z1 : Int32) (z2 : Int32) (u0 : Int32) (s : aT) (hc : isT c) : ∀ r, (cG (fMt_need d c u0 1 (gI s c 2) s) (kV fun s1 => cG (fMt_look d c s1) (kI fun v3 s2 => if ¬ v3 = 48 then fMt_number_46 (d + 1) c z1 z2 0 s2 else fMt_number_46 (d + 1) c z1 z2 1 s2))) = some r → fMt_number_35 (d + 1) c z1 z2 u0 s = some r := by
  intro r hr
  show ev (d + 1) q_210 35 [(0, .ref c), (1, .int z1), (2, .int z2)] [.int u0, .ref c] s = some r
  refine ev_seg 2 (k' := 37) (L' := [(0, .ref c), (1, .int z1), (2, .int z2)]) (st' := [.ref c, .int 1, .int u0, .ref c]) rfl ?_
  refine ev_getI (c := c) rfl (isT_sh hc) rfl (Or.inl rfl) ?_
  refine ev_callV (q' := q_200) (x := 200) (y := 12) (c := c) (As := [.int u0, .int 1, .int (gI s c 2)]) (rest := []) hr rfl rfl rfl rfl rfl rfl (isT_sh hc) rfl rfl rfl rfl rfl (fun rv s1 hq => ev_kV hq (fun e9 hr => ?_))
  subst e9
  refine ev_st (st' := []) rfl ?_
  refine ev_seg 1 (k' := 40) (L' := [(0, .ref c), (1, .int z1), (2, .int z2)]) (st' := [.ref c]) rfl ?_
  refine ev_callV (q' := q_198) (x := 198) (y := 12) (c := c) (As := []) (rest := []) hr rfl rfl rfl rfl rfl rfl (isT_sh hc) rfl rfl rfl rfl rfl (fun rv s2 hq => ev_kI hq (fun v3 e9 hr => ?_))
  subst e9
  refine ev_st (st' := [.int v3]) rfl ?_
  refine ev_seg 1 (k' := 42) (L' := [(0, .ref c), (1, .int z1), (2, .int z2)]) (st' := [.int 48, .int v3]) rfl ?_
  refine ev_br (P := ¬ v3 = 48) (L' := [(0, .ref c), (1, .int z1), (2, .int z2)]) (st' := []) hr rfl rfl rfl (fun hr => ?_) (fun hr => ?_)
  · skip
    refine ev_seg 1 (k' := 46) (L' := [(0, .ref c), (1, .int z1), (2, .int z2)]) (st' := [.int 0]) rfl ?_
    exact hr
  · skip
    refine ev_seg 2 (k' := 46) (L' := [(0, .ref c), (1, .int z1), (2, .int z2)]) (st' := [.int 1]) rfl ?_
    exact hr
