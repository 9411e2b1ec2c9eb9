/-! RecordLakeModel$Text: what its pieces do -/
set_option maxRecDepth 20000 in
theorem eMt_writeNamed_77 (d : Nat) (c : Nat) (x1 : Int32) (z2 : Int32) (s : aT) (hc : isT c) : ∀ r, (if z2 < 0 then cG (fMt_put d c 1078 s) (kV fun s1 => rV s1) else ldI 140 s (c + 9) x1 (fun v2 => if ¬ v2 = 11 then fMt_writeNamed_88 (d + 1) c x1 z2 s else cG (fMt_put d c 1073 s) (kV fun s3 => fMt_writeNamed_88 (d + 1) c x1 z2 s3))) = some r → fMt_writeNamed_77 (d + 1) c x1 z2 s = some r := by
  intro r hr
  show ev (d + 1) q_229 77 [(0, .ref c), (1, .int x1), (2, .int z2)] [] s = some r
  refine ev_seg 1 (k' := 78) (L' := [(0, .ref c), (1, .int x1), (2, .int z2)]) (st' := [.int z2]) rfl ?_
  refine ev_br (P := z2 < 0) (L' := [(0, .ref c), (1, .int x1), (2, .int z2)]) (st' := []) hr rfl rfl rfl (fun hr => ?_) (fun hr => ?_)
  · skip
    refine ev_seg 2 (k' := 130) (L' := [(0, .ref c), (1, .int x1), (2, .int z2)]) (st' := [.ref 1078, .ref c]) rfl ?_
    refine ev_callV (q' := q_228) (x := 228) (y := 12) (c := c) (As := [.ref 1078]) (rest := []) hr rfl rfl rfl rfl rfl rfl (isT_sh hc) rfl rfl rfl rfl rfl (fun rv s1 hq => ev_kV hq (fun e9 hr => ?_))
    subst e9
    refine ev_st (st' := []) rfl ?_
    exact ev_vret hr rfl rfl
  · skip
    refine ev_seg 1 (k' := 80) (L' := [(0, .ref c), (1, .int x1), (2, .int z2)]) (st' := [.ref c]) rfl ?_
    refine ev_getR (c := c) (v := c + 9) rfl (isT_sh hc) rfl (isT_r9 hc) ?_
    refine ev_seg 1 (k' := 82) (L' := [(0, .ref c), (1, .int x1), (2, .int z2)]) (st' := [.int x1, .ref (c + 9)]) rfl ?_
    refine ev_ldI hr rfl (isT_a9 hc) (fun v2 hr => ?_)
    refine ev_seg 1 (k' := 84) (L' := [(0, .ref c), (1, .int x1), (2, .int z2)]) (st' := [.int 11, .int v2]) rfl ?_
    refine ev_br (P := ¬ v2 = 11) (L' := [(0, .ref c), (1, .int x1), (2, .int z2)]) (st' := []) hr rfl rfl rfl (fun hr => ?_) (fun hr => ?_)
    · skip
      exact hr
    · skip
      refine ev_seg 2 (k' := 87) (L' := [(0, .ref c), (1, .int x1), (2, .int z2)]) (st' := [.ref 1073, .ref c]) rfl ?_
      refine ev_callV (q' := q_228) (x := 228) (y := 12) (c := c) (As := [.ref 1073]) (rest := []) hr rfl rfl rfl rfl rfl rfl (isT_sh hc) rfl rfl rfl rfl rfl (fun rv s3 hq => ev_kV hq (fun e9 hr => ?_))
      subst e9
      refine ev_st (st' := []) rfl ?_
      exact hr
set_option maxRecDepth 20000 in
theorem eMt_writeNamed_88 (d : Nat) (c : Nat) (x1 : Int32) (z2 : Int32) (s : aT) (hc : isT c) : ∀ r, (ldI 2200 s (c + 16) z2 (fun v1 => cG (fMt_putName d c v1 s) (kV fun s2 => ldI 140 s2 (c + 9) x1 (fun v3 => if ¬ v3 = 11 then fMt_writeNamed_112 (d + 1) c x1 z2 s2 else cG (fMt_put d c 1077 s2) (kV fun s4 => ldI 2200 s4 (c + 15) z2 (fun v5 => cG (fMt_write d c v5 s4) (kV fun s6 => cG (fMt_put d c 1067 s6) (kV fun s7 => fMt_writeNamed_112 (d + 1) c x1 z2 s7)))))))) = some r → fMt_writeNamed_88 (d + 1) c x1 z2 s = some r := by
  intro r hr
  show ev (d + 1) q_229 88 [(0, .ref c), (1, .int x1), (2, .int z2)] [] s = some r
  refine ev_seg 2 (k' := 90) (L' := [(0, .ref c), (1, .int x1), (2, .int z2)]) (st' := [.ref c, .ref c]) rfl ?_
  refine ev_getR (c := c) (v := c + 16) rfl (isT_sh hc) rfl (isT_r16 hc) ?_
  refine ev_seg 1 (k' := 92) (L' := [(0, .ref c), (1, .int x1), (2, .int z2)]) (st' := [.int z2, .ref (c + 16), .ref c]) rfl ?_
  refine ev_ldI hr rfl (isT_a16 hc) (fun v1 hr => ?_)
  refine ev_callV (q' := q_230) (x := 230) (y := 12) (c := c) (As := [.int v1]) (rest := []) hr rfl rfl rfl rfl rfl rfl (isT_sh hc) rfl rfl rfl rfl rfl (fun rv s2 hq => ev_kV hq (fun e9 hr => ?_))
  subst e9
  refine ev_st (st' := []) rfl ?_
  refine ev_seg 1 (k' := 95) (L' := [(0, .ref c), (1, .int x1), (2, .int z2)]) (st' := [.ref c]) rfl ?_
  refine ev_getR (c := c) (v := c + 9) rfl (isT_sh hc) rfl (isT_r9 hc) ?_
  refine ev_seg 1 (k' := 97) (L' := [(0, .ref c), (1, .int x1), (2, .int z2)]) (st' := [.int x1, .ref (c + 9)]) rfl ?_
  refine ev_ldI hr rfl (isT_a9 hc) (fun v3 hr => ?_)
  refine ev_seg 1 (k' := 99) (L' := [(0, .ref c), (1, .int x1), (2, .int z2)]) (st' := [.int 11, .int v3]) rfl ?_
  refine ev_br (P := ¬ v3 = 11) (L' := [(0, .ref c), (1, .int x1), (2, .int z2)]) (st' := []) hr rfl rfl rfl (fun hr => ?_) (fun hr => ?_)
  · skip
    exact hr
  · skip
    refine ev_seg 2 (k' := 102) (L' := [(0, .ref c), (1, .int x1), (2, .int z2)]) (st' := [.ref 1077, .ref c]) rfl ?_
    refine ev_callV (q' := q_228) (x := 228) (y := 12) (c := c) (As := [.ref 1077]) (rest := []) hr rfl rfl rfl rfl rfl rfl (isT_sh hc) rfl rfl rfl rfl rfl (fun rv s4 hq => ev_kV hq (fun e9 hr => ?_))
    subst e9
    refine ev_st (st' := []) rfl ?_
    refine ev_seg 2 (k' := 105) (L' := [(0, .ref c), (1, .int x1), (2, .int z2)]) (st' := [.ref c, .ref c]) rfl ?_
    refine ev_getR (c := c) (v := c + 15) rfl (isT_sh hc) rfl (isT_r15 hc) ?_
    refine ev_seg 1 (k' := 107) (L' := [(0, .ref c), (1, .int x1), (2, .int z2)]) (st' := [.int z2, .ref (c + 15), .ref c]) rfl ?_
    refine ev_ldI hr rfl (isT_a15 hc) (fun v5 hr => ?_)
    refine ev_callV (q' := q_227) (x := 227) (y := 12) (c := c) (As := [.int v5]) (rest := []) hr rfl rfl rfl rfl rfl rfl (isT_sh hc) rfl rfl rfl rfl rfl (fun rv s6 hq => ev_kV hq (fun e9 hr => ?_))
    subst e9
    refine ev_st (st' := []) rfl ?_
    refine ev_seg 2 (k' := 111) (L' := [(0, .ref c), (1, .int x1), (2, .int z2)]) (st' := [.ref 1067, .ref c]) rfl ?_
    refine ev_callV (q' := q_228) (x := 228) (y := 12) (c := c) (As := [.ref 1067]) (rest := []) hr rfl rfl rfl rfl rfl rfl (isT_sh hc) rfl rfl rfl rfl rfl (fun rv s7 hq => ev_kV hq (fun e9 hr => ?_))
    subst e9
    refine ev_st (st' := []) rfl ?_
    exact hr
set_option maxRecDepth 20000 in
theorem eMt_writeNamed_112 (d : Nat) (c : Nat) (x1 : Int32) (z2 : Int32) (s : aT) (hc : isT c) : ∀ r, (ldI 2200 s (c + 18) z2 (fun v1 => if v1 < 0 then fMt_writeNamed_121 (d + 1) c x1 z2 1070 s else fMt_writeNamed_121 (d + 1) c x1 z2 1069 s)) = some r → fMt_writeNamed_112 (d + 1) c x1 z2 s = some r := by
  intro r hr
  show ev (d + 1) q_229 112 [(0, .ref c), (1, .int x1), (2, .int z2)] [] s = some r
  refine ev_seg 2 (k' := 114) (L' := [(0, .ref c), (1, .int x1), (2, .int z2)]) (st' := [.ref c, .ref c]) rfl ?_
  refine ev_getR (c := c) (v := c + 18) rfl (isT_sh hc) rfl (isT_r18 hc) ?_
  refine ev_seg 1 (k' := 116) (L' := [(0, .ref c), (1, .int x1), (2, .int z2)]) (st' := [.int z2, .ref (c + 18), .ref c]) rfl ?_
  refine ev_ldI hr rfl (isT_a18 hc) (fun v1 hr => ?_)
  refine ev_br (P := v1 < 0) (L' := [(0, .ref c), (1, .int x1), (2, .int z2)]) (st' := [.ref c]) hr rfl rfl rfl (fun hr => ?_) (fun hr => ?_)
  · skip
    refine ev_seg 1 (k' := 121) (L' := [(0, .ref c), (1, .int x1), (2, .int z2)]) (st' := [.ref 1070, .ref c]) rfl ?_
    exact hr
  · skip
    refine ev_seg 2 (k' := 121) (L' := [(0, .ref c), (1, .int x1), (2, .int z2)]) (st' := [.ref 1069, .ref c]) rfl ?_
    exact hr
set_option maxRecDepth 20000 in
theorem eMt_writeNamed_121 (d : Nat) (c : Nat) (x1 : Int32) (z2 : Int32) (q0 : Nat) (s : aT) (hc : isT c) : ∀ r, (cG (fMt_put d c q0 s) (kV fun s1 => ldI 2200 s1 (c + 18) z2 (fun v2 => fMt_writeNamed_77 (d + 1) c x1 v2 s1))) = some r → fMt_writeNamed_121 (d + 1) c x1 z2 q0 s = some r := by
  intro r hr
  show ev (d + 1) q_229 121 [(0, .ref c), (1, .int x1), (2, .int z2)] [.ref q0, .ref c] s = some r
  refine ev_callV (q' := q_228) (x := 228) (y := 12) (c := c) (As := [.ref q0]) (rest := []) hr rfl rfl rfl rfl rfl rfl (isT_sh hc) rfl rfl rfl rfl rfl (fun rv s1 hq => ev_kV hq (fun e9 hr => ?_))
  subst e9
  refine ev_st (st' := []) rfl ?_
  refine ev_seg 1 (k' := 123) (L' := [(0, .ref c), (1, .int x1), (2, .int z2)]) (st' := [.ref c]) rfl ?_
  refine ev_getR (c := c) (v := c + 18) rfl (isT_sh hc) rfl (isT_r18 hc) ?_
  refine ev_seg 1 (k' := 125) (L' := [(0, .ref c), (1, .int x1), (2, .int z2)]) (st' := [.int z2, .ref (c + 18)]) rfl ?_
  refine ev_ldI hr rfl (isT_a18 hc) (fun v2 hr => ?_)
  refine ev_seg 2 (k' := 77) (L' := [(2, .int v2), (0, .ref c), (1, .int x1)]) (st' := []) rfl ?_
  refine ev_join (L' := [(0, .ref c), (1, .int x1), (2, .int v2)]) [1, 2, 0] [2, 0, 1] [0, 1, 2] rfl rfl (by decide) (by decide) rfl ?_
  exact hr
set_option maxRecDepth 20000 in
theorem eMt_putName (d : Nat) (c : Nat) (x1 : Int32) (s : aT) (hc : isT c) : ∀ r, (cG (fMt_put d c 1072 s) (kV fun s1 => fMt_putName_5 (d + 1) c x1 0 s1)) = some r → fMt_putName (d + 1) c x1 s = some r := by
  intro r hr
  show ev (d + 1) q_230 0 [(0, .ref c), (1, .int x1)] [] s = some r
  refine ev_seg 2 (k' := 2) (L' := [(0, .ref c), (1, .int x1)]) (st' := [.ref 1072, .ref c]) rfl ?_
  refine ev_callV (q' := q_228) (x := 228) (y := 12) (c := c) (As := [.ref 1072]) (rest := []) hr rfl rfl rfl rfl rfl rfl (isT_sh hc) rfl rfl rfl rfl rfl (fun rv s1 hq => ev_kV hq (fun e9 hr => ?_))
  subst e9
  refine ev_st (st' := []) rfl ?_
  refine ev_seg 2 (k' := 5) (L' := [(2, .int 0), (0, .ref c), (1, .int x1)]) (st' := []) rfl ?_
  refine ev_join (L' := [(0, .ref c), (1, .int x1), (2, .int 0)]) [1, 2, 0] [2, 0, 1] [0, 1, 2] rfl rfl (by decide) (by decide) rfl ?_
  exact hr
set_option maxRecDepth 20000 in
theorem eMt_putName_5 (d : Nat) (c : Nat) (x1 : Int32) (z2 : Int32) (s : aT) (hc : isT c) : ∀ r, (ldI 4200 s (c + 5) x1 (fun v1 => if v1 ≤ z2 then cG (fMt_put d c 1072 s) (kV fun s2 => rV s2) else ldL 4200 s (c + 4) x1 (fun v3 => ldI 4200 s (c + 8) (v3.toInt32 + z2) (fun v4 => stI 4200 s (c + 20) (gI s c 33) (vp_nar .byte v4) (fun s5 => wI s5 c 33 ((gI s5 c 33) + 1) (fun s6 => fMt_putName_5 (d + 1) c x1 (z2 + 1) s6)))))) = some r → fMt_putName_5 (d + 1) c x1 z2 s = some r := by
  intro r hr
  show ev (d + 1) q_230 5 [(0, .ref c), (1, .int x1), (2, .int z2)] [] s = some r
  refine ev_seg 2 (k' := 7) (L' := [(0, .ref c), (1, .int x1), (2, .int z2)]) (st' := [.ref c, .int z2]) rfl ?_
  refine ev_getR (c := c) (v := c + 5) rfl (isT_sh hc) rfl (isT_r5 hc) ?_
  refine ev_seg 1 (k' := 9) (L' := [(0, .ref c), (1, .int x1), (2, .int z2)]) (st' := [.int x1, .ref (c + 5), .int z2]) rfl ?_
  refine ev_ldI hr rfl (isT_a5 hc) (fun v1 hr => ?_)
  refine ev_br (P := v1 ≤ z2) (L' := [(0, .ref c), (1, .int x1), (2, .int z2)]) (st' := []) hr rfl rfl rfl (fun hr => ?_) (fun hr => ?_)
  · skip
    refine ev_seg 2 (k' := 36) (L' := [(0, .ref c), (1, .int x1), (2, .int z2)]) (st' := [.ref 1072, .ref c]) rfl ?_
    refine ev_callV (q' := q_228) (x := 228) (y := 12) (c := c) (As := [.ref 1072]) (rest := []) hr rfl rfl rfl rfl rfl rfl (isT_sh hc) rfl rfl rfl rfl rfl (fun rv s2 hq => ev_kV hq (fun e9 hr => ?_))
    subst e9
    refine ev_st (st' := []) rfl ?_
    exact ev_vret hr rfl rfl
  · skip
    refine ev_seg 1 (k' := 12) (L' := [(0, .ref c), (1, .int x1), (2, .int z2)]) (st' := [.ref c]) rfl ?_
    refine ev_getR (c := c) (v := c + 20) rfl (isT_sh hc) rfl (isT_r20 hc) ?_
    refine ev_seg 1 (k' := 14) (L' := [(0, .ref c), (1, .int x1), (2, .int z2)]) (st' := [.ref c, .ref (c + 20)]) rfl ?_
    refine ev_getI (c := c) rfl (isT_sh hc) rfl (Or.inl rfl) ?_
    refine ev_seg 1 (k' := 16) (L' := [(0, .ref c), (1, .int x1), (2, .int z2)]) (st' := [.ref c, .int (gI s c 33), .ref (c + 20)]) rfl ?_
    refine ev_getR (c := c) (v := c + 8) rfl (isT_sh hc) rfl (isT_r8 hc) ?_
    refine ev_seg 1 (k' := 18) (L' := [(0, .ref c), (1, .int x1), (2, .int z2)]) (st' := [.ref c, .ref (c + 8), .int (gI s c 33), .ref (c + 20)]) rfl ?_
    refine ev_getR (c := c) (v := c + 4) rfl (isT_sh hc) rfl (isT_r4 hc) ?_
    refine ev_seg 1 (k' := 20) (L' := [(0, .ref c), (1, .int x1), (2, .int z2)]) (st' := [.int x1, .ref (c + 4), .ref (c + 8), .int (gI s c 33), .ref (c + 20)]) rfl ?_
    refine ev_ldL hr rfl (isT_a4 hc) (fun v3 hr => ?_)
    refine ev_seg 3 (k' := 24) (L' := [(0, .ref c), (1, .int x1), (2, .int z2)]) (st' := [.int (v3.toInt32 + z2), .ref (c + 8), .int (gI s c 33), .ref (c + 20)]) rfl ?_
    refine ev_ldB hr rfl (isT_a8 hc) (fun v4 hr => ?_)
    refine ev_stB hr rfl (isT_a20 hc) (fun s5 hr => ?_)
    refine ev_seg 2 (k' := 28) (L' := [(0, .ref c), (1, .int x1), (2, .int z2)]) (st' := [.ref c, .ref c]) rfl ?_
    refine ev_getI (c := c) rfl (isT_sh hc) rfl (Or.inl rfl) ?_
    refine ev_seg 2 (k' := 31) (L' := [(0, .ref c), (1, .int x1), (2, .int z2)]) (st' := [.int ((gI s5 c 33) + 1), .ref c]) rfl ?_
    refine ev_putI (c := c) hr rfl (isT_sh hc) rfl (fun s6 hr => ?_)
    refine ev_seg 2 (k' := 5) (L' := [(2, .int (z2 + 1)), (0, .ref c), (1, .int x1)]) (st' := []) rfl ?_
    refine ev_join (L' := [(0, .ref c), (1, .int x1), (2, .int (z2 + 1))]) [1, 2, 0] [2, 0, 1] [0, 1, 2] rfl rfl (by decide) (by decide) rfl ?_
    exact hr
set_option maxRecDepth 20000 in
theorem eMt_figure (d : Nat) (c : Nat) (x1 : Int32) (s : aT) (hc : isT c) : ∀ r, (stI 4200 s (c + 20) (gI s c 33) (vp_nar .byte ((48 + x1).toInt8.toInt32)) (fun s1 => wI s1 c 33 ((gI s1 c 33) + 1) (fun s2 => rV s2))) = some r → fMt_figure d c x1 s = some r := by
  intro r hr
  show ev d q_231 0 [(0, .ref c), (1, .int x1)] [] s = some r
  refine ev_seg 1 (k' := 1) (L' := [(0, .ref c), (1, .int x1)]) (st' := [.ref c]) rfl ?_
  refine ev_getR (c := c) (v := c + 20) rfl (isT_sh hc) rfl (isT_r20 hc) ?_
  refine ev_seg 1 (k' := 3) (L' := [(0, .ref c), (1, .int x1)]) (st' := [.ref c, .ref (c + 20)]) rfl ?_
  refine ev_getI (c := c) rfl (isT_sh hc) rfl (Or.inl rfl) ?_
  refine ev_seg 4 (k' := 8) (L' := [(0, .ref c), (1, .int x1)]) (st' := [.int ((48 + x1).toInt8.toInt32), .int (gI s c 33), .ref (c + 20)]) rfl ?_
  refine ev_stB hr rfl (isT_a20 hc) (fun s1 hr => ?_)
  refine ev_seg 2 (k' := 11) (L' := [(0, .ref c), (1, .int x1)]) (st' := [.ref c, .ref c]) rfl ?_
  refine ev_getI (c := c) rfl (isT_sh hc) rfl (Or.inl rfl) ?_
  refine ev_seg 2 (k' := 14) (L' := [(0, .ref c), (1, .int x1)]) (st' := [.int ((gI s1 c 33) + 1), .ref c]) rfl ?_
  refine ev_putI (c := c) hr rfl (isT_sh hc) rfl (fun s2 hr => ?_)
  exact ev_vret hr rfl rfl
set_option maxRecDepth 20000 in
theorem eMt_kid (d : Nat) (c : Nat) (x1 : Int32) (x2 : Int32) (s : aT) (hc : isT c) : ∀ r, (ldI 140 s (c + 12) x1 (fun v1 => fMt_kid_7 d c x2 v1 0 s)) = some r → fMt_kid d c x1 x2 s = some r := by
  intro r hr
  show ev d q_261 0 [(0, .ref c), (1, .int x1), (2, .int x2)] [] s = some r
  refine ev_seg 1 (k' := 1) (L' := [(0, .ref c), (1, .int x1), (2, .int x2)]) (st' := [.ref c]) rfl ?_
  refine ev_getR (c := c) (v := c + 12) rfl (isT_sh hc) rfl (isT_r12 hc) ?_
  refine ev_seg 1 (k' := 3) (L' := [(0, .ref c), (1, .int x1), (2, .int x2)]) (st' := [.int x1, .ref (c + 12)]) rfl ?_
  refine ev_ldI hr rfl (isT_a12 hc) (fun v1 hr => ?_)
  refine ev_seg 3 (k' := 7) (L' := [(4, .int 0), (3, .int v1), (0, .ref c), (1, .int x1), (2, .int x2)]) (st' := []) rfl ?_
  refine ev_join (L' := [(0, .ref c), (2, .int x2), (3, .int v1), (4, .int 0)]) [2, 4, 1, 0] [4, 3, 0, 1, 2] [0, 2, 3, 4] rfl rfl (by decide) (by decide) rfl ?_
  exact hr
set_option maxRecDepth 20000 in
theorem eMt_kid_7 (d : Nat) (c : Nat) (x2 : Int32) (z3 : Int32) (z4 : Int32) (s : aT) (hc : isT c) : ∀ r, (if x2 ≤ z4 then rI z3 s else ldI 2200 s (c + 18) z3 (fun v1 => fMt_kid_7 d c x2 v1 (z4 + 1) s)) = some r → fMt_kid_7 d c x2 z3 z4 s = some r := by
  intro r hr
  show ev d q_261 7 [(0, .ref c), (2, .int x2), (3, .int z3), (4, .int z4)] [] s = some r
  refine ev_seg 2 (k' := 9) (L' := [(0, .ref c), (2, .int x2), (3, .int z3), (4, .int z4)]) (st' := [.int x2, .int z4]) rfl ?_
  refine ev_br (P := x2 ≤ z4) (L' := [(0, .ref c), (2, .int x2), (3, .int z3), (4, .int z4)]) (st' := []) hr rfl rfl rfl (fun hr => ?_) (fun hr => ?_)
  · skip
    refine ev_seg 1 (k' := 18) (L' := [(0, .ref c), (2, .int x2), (3, .int z3), (4, .int z4)]) (st' := [.int z3]) rfl ?_
    exact ev_iret hr rfl rfl rfl
  · skip
    refine ev_seg 1 (k' := 11) (L' := [(0, .ref c), (2, .int x2), (3, .int z3), (4, .int z4)]) (st' := [.ref c]) rfl ?_
    refine ev_getR (c := c) (v := c + 18) rfl (isT_sh hc) rfl (isT_r18 hc) ?_
    refine ev_seg 1 (k' := 13) (L' := [(0, .ref c), (2, .int x2), (3, .int z3), (4, .int z4)]) (st' := [.int z3, .ref (c + 18)]) rfl ?_
    refine ev_ldI hr rfl (isT_a18 hc) (fun v1 hr => ?_)
    refine ev_seg 3 (k' := 7) (L' := [(4, .int (z4 + 1)), (3, .int v1), (0, .ref c), (2, .int x2)]) (st' := []) rfl ?_
    refine ev_join (L' := [(0, .ref c), (2, .int x2), (3, .int v1), (4, .int (z4 + 1))]) [2, 3, 1, 0] [4, 3, 0, 2] [0, 2, 3, 4] rfl rfl (by decide) (by decide) rfl ?_
    exact hr
set_option maxRecDepth 20000 in
theorem eMt_print (d : Nat) (c : Nat) (s : aT) (hc : isT c) : ∀ r, (fMt_print_4 d c (-4513414715797952619) 0 s) = some r → fMt_print d c s = some r := by
  intro r hr
  show ev d q_294 0 [(0, .ref c)] [] s = some r
  refine ev_seg 4 (k' := 4) (L' := [(3, .int 0), (1, .long (-4513414715797952619)), (0, .ref c)]) (st' := []) rfl ?_
  refine ev_join (L' := [(0, .ref c), (1, .long (-4513414715797952619)), (3, .int 0)]) [2, 1, 0] [3, 1, 0] [0, 1, 3] rfl rfl (by decide) (by decide) rfl ?_
  exact hr
set_option maxRecDepth 20000 in
theorem eMt_print_4 (d : Nat) (c : Nat) (l1 : Int64) (z3 : Int32) (s : aT) (hc : isT c) : ∀ r, (if gI s c 33 ≤ z3 then rL l1 s else ldI 4200 s (c + 20) z3 (fun v1 => fMt_print_20 d c l1 z3 ((l1 ^^^ v1.toInt64) &&& 255) 0 s)) = some r → fMt_print_4 d c l1 z3 s = some r := by
  intro r hr
  show ev d q_294 4 [(0, .ref c), (1, .long l1), (3, .int z3)] [] s = some r
  refine ev_seg 2 (k' := 6) (L' := [(0, .ref c), (1, .long l1), (3, .int z3)]) (st' := [.ref c, .int z3]) rfl ?_
  refine ev_getI (c := c) rfl (isT_sh hc) rfl (Or.inl rfl) ?_
  refine ev_br (P := gI s c 33 ≤ z3) (L' := [(0, .ref c), (1, .long l1), (3, .int z3)]) (st' := []) hr rfl rfl rfl (fun hr => ?_) (fun hr => ?_)
  · skip
    refine ev_seg 1 (k' := 48) (L' := [(0, .ref c), (1, .long l1), (3, .int z3)]) (st' := [.long l1]) rfl ?_
    exact ev_lret hr rfl rfl
  · skip
    refine ev_seg 2 (k' := 10) (L' := [(0, .ref c), (1, .long l1), (3, .int z3)]) (st' := [.ref c, .long l1]) rfl ?_
    refine ev_getR (c := c) (v := c + 20) rfl (isT_sh hc) rfl (isT_r20 hc) ?_
    refine ev_seg 1 (k' := 12) (L' := [(0, .ref c), (1, .long l1), (3, .int z3)]) (st' := [.int z3, .ref (c + 20), .long l1]) rfl ?_
    refine ev_ldB hr rfl (isT_a20 hc) (fun v1 hr => ?_)
    refine ev_seg 7 (k' := 20) (L' := [(6, .int 0), (4, .long ((l1 ^^^ v1.toInt64) &&& 255)), (0, .ref c), (1, .long l1), (3, .int z3)]) (st' := []) rfl ?_
    refine ev_join (L' := [(0, .ref c), (1, .long l1), (3, .int z3), (4, .long ((l1 ^^^ v1.toInt64) &&& 255)), (6, .int 0)]) [2, 3, 4, 1, 0] [6, 4, 0, 1, 3] [0, 1, 3, 4, 6] rfl rfl (by decide) (by decide) rfl ?_
    exact hr
set_option maxRecDepth 20000 in
theorem eMt_print_20 (d : Nat) (c : Nat) (l1 : Int64) (z3 : Int32) (l4 : Int64) (z6 : Int32) (s : aT) (hc : isT c) : ∀ r, (if 8 ≤ z6 then fMt_print_4 d c (((l1.toUInt64 >>> ((8 : Int32).toInt64.toUInt64 &&& Int64.toUInt64 63)).toInt64) ^^^ l4) (z3 + 1) s else if ¬ aLcmp (l4 &&& 1) 1 = 0 then fMt_print_35 d c l1 z3 z6 0 ((l4.toUInt64 >>> ((1 : Int32).toInt64.toUInt64 &&& Int64.toUInt64 63)).toInt64) s else fMt_print_35 d c l1 z3 z6 (-4513414715797952619) ((l4.toUInt64 >>> ((1 : Int32).toInt64.toUInt64 &&& Int64.toUInt64 63)).toInt64) s) = some r → fMt_print_20 d c l1 z3 l4 z6 s = some r := by
  intro r hr
  show ev d q_294 20 [(0, .ref c), (1, .long l1), (3, .int z3), (4, .long l4), (6, .int z6)] [] s = some r
  refine ev_seg 2 (k' := 22) (L' := [(0, .ref c), (1, .long l1), (3, .int z3), (4, .long l4), (6, .int z6)]) (st' := [.int 8, .int z6]) rfl ?_
  refine ev_br (P := 8 ≤ z6) (L' := [(0, .ref c), (1, .long l1), (3, .int z3), (4, .long l4), (6, .int z6)]) (st' := []) hr rfl rfl rfl (fun hr => ?_) (fun hr => ?_)
  · skip
    refine ev_seg 8 (k' := 4) (L' := [(3, .int (z3 + 1)), (1, .long (((l1.toUInt64 >>> ((8 : Int32).toInt64.toUInt64 &&& Int64.toUInt64 63)).toInt64) ^^^ l4)), (0, .ref c), (4, .long l4), (6, .int z6)]) (st' := []) rfl ?_
    refine ev_join (L' := [(0, .ref c), (1, .long (((l1.toUInt64 >>> ((8 : Int32).toInt64.toUInt64 &&& Int64.toUInt64 63)).toInt64) ^^^ l4)), (3, .int (z3 + 1))]) [2, 1, 0] [3, 1, 0, 4, 6] [0, 1, 3] rfl rfl (by decide) (by decide) rfl ?_
    exact hr
  · skip
    refine ev_seg 8 (k' := 31) (L' := [(0, .ref c), (1, .long l1), (3, .int z3), (4, .long l4), (6, .int z6)]) (st' := [.int (aLcmp (l4 &&& 1) 1), .long ((l4.toUInt64 >>> ((1 : Int32).toInt64.toUInt64 &&& Int64.toUInt64 63)).toInt64)]) rfl ?_
    refine ev_br (P := ¬ aLcmp (l4 &&& 1) 1 = 0) (L' := [(0, .ref c), (1, .long l1), (3, .int z3), (4, .long l4), (6, .int z6)]) (st' := [.long ((l4.toUInt64 >>> ((1 : Int32).toInt64.toUInt64 &&& Int64.toUInt64 63)).toInt64)]) hr rfl rfl rfl (fun hr => ?_) (fun hr => ?_)
    · skip
      refine ev_seg 1 (k' := 35) (L' := [(0, .ref c), (1, .long l1), (3, .int z3), (4, .long l4), (6, .int z6)]) (st' := [.long 0, .long ((l4.toUInt64 >>> ((1 : Int32).toInt64.toUInt64 &&& Int64.toUInt64 63)).toInt64)]) rfl ?_
      refine ev_join (L' := [(0, .ref c), (1, .long l1), (3, .int z3), (6, .int z6)]) [0, 1, 2, 4] [0, 1, 3, 4, 6] [0, 1, 3, 6] rfl rfl (by decide) (by decide) rfl ?_
      exact hr
    · skip
      refine ev_seg 2 (k' := 35) (L' := [(0, .ref c), (1, .long l1), (3, .int z3), (4, .long l4), (6, .int z6)]) (st' := [.long (-4513414715797952619), .long ((l4.toUInt64 >>> ((1 : Int32).toInt64.toUInt64 &&& Int64.toUInt64 63)).toInt64)]) rfl ?_
      refine ev_join (L' := [(0, .ref c), (1, .long l1), (3, .int z3), (6, .int z6)]) [0, 1, 2, 4] [0, 1, 3, 4, 6] [0, 1, 3, 6] rfl rfl (by decide) (by decide) rfl ?_
      exact hr
set_option maxRecDepth 20000 in
theorem eMt_print_35 (d : Nat) (c : Nat) (l1 : Int64) (z3 : Int32) (z6 : Int32) (n0 : Int64) (n1 : Int64) (s : aT) (hc : isT c) : ∀ r, (fMt_print_20 d c l1 z3 (n1 ^^^ n0) (z6 + 1) s) = some r → fMt_print_35 d c l1 z3 z6 n0 n1 s = some r := by
  intro r hr
  show ev d q_294 35 [(0, .ref c), (1, .long l1), (3, .int z3), (6, .int z6)] [.long n0, .long n1] s = some r
  refine ev_seg 4 (k' := 20) (L' := [(6, .int (z6 + 1)), (4, .long (n1 ^^^ n0)), (0, .ref c), (1, .long l1), (3, .int z3)]) (st' := []) rfl ?_
  refine ev_join (L' := [(0, .ref c), (1, .long l1), (3, .int z3), (4, .long (n1 ^^^ n0)), (6, .int (z6 + 1))]) [2, 3, 4, 1, 0] [6, 4, 0, 1, 3] [0, 1, 3, 4, 6] rfl rfl (by decide) (by decide) rfl ?_
  exact hr
