/-! RecordLakeModel: what its pieces do -/
set_option maxRecDepth 20000 in
theorem eMo_tellRecord (d : Nat) (t1 : Nat) (x2 : Int32) (t3 : Nat) (x4 : Int32) (s : aT) (ht1 : isT t1) (ht3 : isT t3) : ∀ r, (ldI 140 s (t3 + 12) x4 (fun v1 => fMo_tellRecord_8 (d + 1) t1 x2 t3 (gI s 67 31) v1 s)) = some r → fMo_tellRecord (d + 1) t1 x2 t3 x4 s = some r := by
  intro r hr
  show ev (d + 1) q_281 0 [(0, .ref 67), (1, .ref t1), (2, .int x2), (3, .ref t3), (4, .int x4)] [] s = some r
  refine ev_seg 4 (k' := 4) (L' := [(5, .int (gI s 67 31)), (0, .ref 67), (1, .ref t1), (2, .int x2), (3, .ref t3), (4, .int x4)]) (st' := [.ref t3]) rfl ?_
  refine ev_getR (c := t3) (v := t3 + 12) rfl (isT_sh ht3) rfl (isT_r12 ht3) ?_
  refine ev_seg 1 (k' := 6) (L' := [(5, .int (gI s 67 31)), (0, .ref 67), (1, .ref t1), (2, .int x2), (3, .ref t3), (4, .int x4)]) (st' := [.int x4, .ref (t3 + 12)]) rfl ?_
  refine ev_ldI hr rfl (isT_a12 ht3) (fun v1 hr => ?_)
  refine ev_seg 1 (k' := 8) (L' := [(6, .int v1), (5, .int (gI s 67 31)), (0, .ref 67), (1, .ref t1), (2, .int x2), (3, .ref t3), (4, .int x4)]) (st' := []) rfl ?_
  refine ev_join (L' := [(0, .ref 67), (1, .ref t1), (2, .int x2), (3, .ref t3), (5, .int (gI s 67 31)), (6, .int v1)]) [2, 3, 4, 5, 1, 0] [6, 5, 0, 1, 2, 3, 4] [0, 1, 2, 3, 5, 6] rfl rfl (by decide) (by decide) rfl ?_
  exact hr
set_option maxRecDepth 20000 in
theorem eMo_tellRecord_8 (d : Nat) (t1 : Nat) (x2 : Int32) (t3 : Nat) (z5 : Int32) (z6 : Int32) (s : aT) (ht1 : isT t1) (ht3 : isT t3) : ∀ r, (if z6 < 0 then wI s 67 31 z5 (fun s1 => cG (fMo_skip d t1 x2 s1) (kV fun s2 => rV s2)) else cG (fMo_fieldLike d t1 x2 t3 z6 s) (kI fun v4 s3 => if v4 < 0 then ldI 2200 s3 (t3 + 17) z6 (fun v5 => if v5 < 0 then cG (fMo_unresolved d s3) (kV fun s6 => fMo_tellRecord_74 (d + 1) t1 x2 t3 z5 z6 s6) else ldI 2200 s3 (t3 + 17) z6 (fun v7 => ldI 2200 s3 (t3 + 15) z6 (fun v8 => cG (fMo_tellDefault d t3 v7 v8 s3) (kV fun s9 => fMo_tellRecord_74 (d + 1) t1 x2 t3 z5 z6 s9)))) else wI s3 67 31 z5 (fun s10 => ldI 140 s10 (t1 + 12) x2 (fun v11 => fMo_tellRecord_26 (d + 1) t1 x2 t3 z5 z6 v4 v11 s10)))) = some r → fMo_tellRecord_8 (d + 1) t1 x2 t3 z5 z6 s = some r := by
  intro r hr
  show ev (d + 1) q_281 8 [(0, .ref 67), (1, .ref t1), (2, .int x2), (3, .ref t3), (5, .int z5), (6, .int z6)] [] s = some r
  refine ev_seg 1 (k' := 9) (L' := [(0, .ref 67), (1, .ref t1), (2, .int x2), (3, .ref t3), (5, .int z5), (6, .int z6)]) (st' := [.int z6]) rfl ?_
  refine ev_br (P := z6 < 0) (L' := [(0, .ref 67), (1, .ref t1), (2, .int x2), (3, .ref t3), (5, .int z5), (6, .int z6)]) (st' := []) hr rfl rfl rfl (fun hr => ?_) (fun hr => ?_)
  · skip
    refine ev_seg 2 (k' := 82) (L' := [(0, .ref 67), (1, .ref t1), (2, .int x2), (3, .ref t3), (5, .int z5), (6, .int z6)]) (st' := [.int z5, .ref 67]) rfl ?_
    refine ev_putI (c := 67) hr rfl rfl rfl (fun s1 hr => ?_)
    refine ev_seg 3 (k' := 86) (L' := [(0, .ref 67), (1, .ref t1), (2, .int x2), (3, .ref t3), (5, .int z5), (6, .int z6)]) (st' := [.int x2, .ref t1, .ref 67]) rfl ?_
    refine ev_callV (q' := q_272) (x := 272) (y := 13) (c := 67) (As := [.ref t1, .int x2]) (rest := []) hr rfl rfl rfl rfl rfl rfl rfl rfl rfl rfl rfl rfl (fun rv s2 hq => ev_kV hq (fun e9 hr => ?_))
    subst e9
    refine ev_st (st' := []) rfl ?_
    exact ev_vret hr rfl rfl
  · skip
    refine ev_seg 4 (k' := 14) (L' := [(0, .ref 67), (1, .ref t1), (2, .int x2), (3, .ref t3), (5, .int z5), (6, .int z6)]) (st' := [.int z6, .ref t3, .int x2, .ref t1]) rfl ?_
    refine ev_callS (q' := q_244) (x := 244) (vs := [.ref t1, .int x2, .ref t3, .int z6]) (rest := []) hr rfl rfl rfl rfl rfl rfl rfl rfl rfl rfl (fun rv s3 hq => ev_kI hq (fun v4 e9 hr => ?_))
    subst e9
    refine ev_st (st' := [.int v4]) rfl ?_
    refine ev_seg 2 (k' := 17) (L' := [(7, .int v4), (0, .ref 67), (1, .ref t1), (2, .int x2), (3, .ref t3), (5, .int z5), (6, .int z6)]) (st' := [.int v4]) rfl ?_
    refine ev_br (P := v4 < 0) (L' := [(7, .int v4), (0, .ref 67), (1, .ref t1), (2, .int x2), (3, .ref t3), (5, .int z5), (6, .int z6)]) (st' := []) hr rfl rfl rfl (fun hr => ?_) (fun hr => ?_)
    · skip
      refine ev_seg 1 (k' := 56) (L' := [(7, .int v4), (0, .ref 67), (1, .ref t1), (2, .int x2), (3, .ref t3), (5, .int z5), (6, .int z6)]) (st' := [.ref t3]) rfl ?_
      refine ev_getR (c := t3) (v := t3 + 17) rfl (isT_sh ht3) rfl (isT_r17 ht3) ?_
      refine ev_seg 1 (k' := 58) (L' := [(7, .int v4), (0, .ref 67), (1, .ref t1), (2, .int x2), (3, .ref t3), (5, .int z5), (6, .int z6)]) (st' := [.int z6, .ref (t3 + 17)]) rfl ?_
      refine ev_ldI hr rfl (isT_a17 ht3) (fun v5 hr => ?_)
      refine ev_br (P := v5 < 0) (L' := [(7, .int v4), (0, .ref 67), (1, .ref t1), (2, .int x2), (3, .ref t3), (5, .int z5), (6, .int z6)]) (st' := []) hr rfl rfl rfl (fun hr => ?_) (fun hr => ?_)
      · skip
        refine ev_seg 1 (k' := 73) (L' := [(7, .int v4), (0, .ref 67), (1, .ref t1), (2, .int x2), (3, .ref t3), (5, .int z5), (6, .int z6)]) (st' := [.ref 67]) rfl ?_
        refine ev_callV (q' := q_278) (x := 278) (y := 13) (c := 67) (As := []) (rest := []) hr rfl rfl rfl rfl rfl rfl rfl rfl rfl rfl rfl rfl (fun rv s6 hq => ev_kV hq (fun e9 hr => ?_))
        subst e9
        refine ev_st (st' := []) rfl ?_
        refine ev_join (L' := [(0, .ref 67), (1, .ref t1), (2, .int x2), (3, .ref t3), (5, .int z5), (6, .int z6)]) [1, 2, 3, 4, 5, 6] [7, 0, 1, 2, 3, 5, 6] [0, 1, 2, 3, 5, 6] rfl rfl (by decide) (by decide) rfl ?_
        exact hr
      · skip
        refine ev_seg 3 (k' := 63) (L' := [(7, .int v4), (0, .ref 67), (1, .ref t1), (2, .int x2), (3, .ref t3), (5, .int z5), (6, .int z6)]) (st' := [.ref t3, .ref t3, .ref 67]) rfl ?_
        refine ev_getR (c := t3) (v := t3 + 17) rfl (isT_sh ht3) rfl (isT_r17 ht3) ?_
        refine ev_seg 1 (k' := 65) (L' := [(7, .int v4), (0, .ref 67), (1, .ref t1), (2, .int x2), (3, .ref t3), (5, .int z5), (6, .int z6)]) (st' := [.int z6, .ref (t3 + 17), .ref t3, .ref 67]) rfl ?_
        refine ev_ldI hr rfl (isT_a17 ht3) (fun v7 hr => ?_)
        refine ev_seg 1 (k' := 67) (L' := [(7, .int v4), (0, .ref 67), (1, .ref t1), (2, .int x2), (3, .ref t3), (5, .int z5), (6, .int z6)]) (st' := [.ref t3, .int v7, .ref t3, .ref 67]) rfl ?_
        refine ev_getR (c := t3) (v := t3 + 15) rfl (isT_sh ht3) rfl (isT_r15 ht3) ?_
        refine ev_seg 1 (k' := 69) (L' := [(7, .int v4), (0, .ref 67), (1, .ref t1), (2, .int x2), (3, .ref t3), (5, .int z5), (6, .int z6)]) (st' := [.int z6, .ref (t3 + 15), .int v7, .ref t3, .ref 67]) rfl ?_
        refine ev_ldI hr rfl (isT_a15 ht3) (fun v8 hr => ?_)
        refine ev_callV (q' := q_282) (x := 282) (y := 13) (c := 67) (As := [.ref t3, .int v7, .int v8]) (rest := []) hr rfl rfl rfl rfl rfl rfl rfl rfl rfl rfl rfl rfl (fun rv s9 hq => ev_kV hq (fun e9 hr => ?_))
        subst e9
        refine ev_st (st' := []) rfl ?_
        refine ev_seg 1 (k' := 74) (L' := [(7, .int v4), (0, .ref 67), (1, .ref t1), (2, .int x2), (3, .ref t3), (5, .int z5), (6, .int z6)]) (st' := []) rfl ?_
        refine ev_join (L' := [(0, .ref 67), (1, .ref t1), (2, .int x2), (3, .ref t3), (5, .int z5), (6, .int z6)]) [1, 2, 3, 4, 5, 6] [7, 0, 1, 2, 3, 5, 6] [0, 1, 2, 3, 5, 6] rfl rfl (by decide) (by decide) rfl ?_
        exact hr
    · skip
      refine ev_seg 2 (k' := 20) (L' := [(7, .int v4), (0, .ref 67), (1, .ref t1), (2, .int x2), (3, .ref t3), (5, .int z5), (6, .int z6)]) (st' := [.int z5, .ref 67]) rfl ?_
      refine ev_putI (c := 67) hr rfl rfl rfl (fun s10 hr => ?_)
      refine ev_seg 1 (k' := 22) (L' := [(7, .int v4), (0, .ref 67), (1, .ref t1), (2, .int x2), (3, .ref t3), (5, .int z5), (6, .int z6)]) (st' := [.ref t1]) rfl ?_
      refine ev_getR (c := t1) (v := t1 + 12) rfl (isT_sh ht1) rfl (isT_r12 ht1) ?_
      refine ev_seg 1 (k' := 24) (L' := [(7, .int v4), (0, .ref 67), (1, .ref t1), (2, .int x2), (3, .ref t3), (5, .int z5), (6, .int z6)]) (st' := [.int x2, .ref (t1 + 12)]) rfl ?_
      refine ev_ldI hr rfl (isT_a12 ht1) (fun v11 hr => ?_)
      refine ev_seg 1 (k' := 26) (L' := [(8, .int v11), (7, .int v4), (0, .ref 67), (1, .ref t1), (2, .int x2), (3, .ref t3), (5, .int z5), (6, .int z6)]) (st' := []) rfl ?_
      refine ev_join (L' := [(0, .ref 67), (1, .ref t1), (2, .int x2), (3, .ref t3), (5, .int z5), (6, .int z6), (7, .int v4), (8, .int v11)]) [2, 3, 4, 5, 6, 7, 1, 0] [8, 7, 0, 1, 2, 3, 5, 6] [0, 1, 2, 3, 5, 6, 7, 8] rfl rfl (by decide) (by decide) rfl ?_
      exact hr
set_option maxRecDepth 20000 in
theorem eMo_tellRecord_74 (d : Nat) (t1 : Nat) (x2 : Int32) (t3 : Nat) (z5 : Int32) (z6 : Int32) (s : aT) (ht1 : isT t1) (ht3 : isT t3) : ∀ r, (ldI 2200 s (t3 + 18) z6 (fun v1 => fMo_tellRecord_8 (d + 1) t1 x2 t3 z5 v1 s)) = some r → fMo_tellRecord_74 (d + 1) t1 x2 t3 z5 z6 s = some r := by
  intro r hr
  show ev (d + 1) q_281 74 [(0, .ref 67), (1, .ref t1), (2, .int x2), (3, .ref t3), (5, .int z5), (6, .int z6)] [] s = some r
  refine ev_seg 1 (k' := 75) (L' := [(0, .ref 67), (1, .ref t1), (2, .int x2), (3, .ref t3), (5, .int z5), (6, .int z6)]) (st' := [.ref t3]) rfl ?_
  refine ev_getR (c := t3) (v := t3 + 18) rfl (isT_sh ht3) rfl (isT_r18 ht3) ?_
  refine ev_seg 1 (k' := 77) (L' := [(0, .ref 67), (1, .ref t1), (2, .int x2), (3, .ref t3), (5, .int z5), (6, .int z6)]) (st' := [.int z6, .ref (t3 + 18)]) rfl ?_
  refine ev_ldI hr rfl (isT_a18 ht3) (fun v1 hr => ?_)
  refine ev_seg 2 (k' := 8) (L' := [(6, .int v1), (0, .ref 67), (1, .ref t1), (2, .int x2), (3, .ref t3), (5, .int z5)]) (st' := []) rfl ?_
  refine ev_join (L' := [(0, .ref 67), (1, .ref t1), (2, .int x2), (3, .ref t3), (5, .int z5), (6, .int v1)]) [1, 2, 3, 4, 5, 0] [6, 0, 1, 2, 3, 5] [0, 1, 2, 3, 5, 6] rfl rfl (by decide) (by decide) rfl ?_
  exact hr
set_option maxRecDepth 20000 in
theorem eMo_tellRecord_26 (d : Nat) (t1 : Nat) (x2 : Int32) (t3 : Nat) (z5 : Int32) (z6 : Int32) (z7 : Int32) (z8 : Int32) (s : aT) (ht1 : isT t1) (ht3 : isT t3) : ∀ r, (if z8 = z7 then ldI 2200 s (t1 + 15) z7 (fun v1 => ldI 2200 s (t3 + 15) z6 (fun v2 => cG (fMo_tell d t1 v1 t3 v2 s) (kV fun s3 => fMo_tellRecord_74 (d + 1) t1 x2 t3 z5 z6 s3))) else ldI 2200 s (t1 + 15) z8 (fun v4 => cG (fMo_skip d t1 v4 s) (kV fun s5 => ldI 2200 s5 (t1 + 18) z8 (fun v6 => fMo_tellRecord_26 (d + 1) t1 x2 t3 z5 z6 z7 v6 s5)))) = some r → fMo_tellRecord_26 (d + 1) t1 x2 t3 z5 z6 z7 z8 s = some r := by
  intro r hr
  show ev (d + 1) q_281 26 [(0, .ref 67), (1, .ref t1), (2, .int x2), (3, .ref t3), (5, .int z5), (6, .int z6), (7, .int z7), (8, .int z8)] [] s = some r
  refine ev_seg 2 (k' := 28) (L' := [(0, .ref 67), (1, .ref t1), (2, .int x2), (3, .ref t3), (5, .int z5), (6, .int z6), (7, .int z7), (8, .int z8)]) (st' := [.int z7, .int z8]) rfl ?_
  refine ev_br (P := z8 = z7) (L' := [(0, .ref 67), (1, .ref t1), (2, .int x2), (3, .ref t3), (5, .int z5), (6, .int z6), (7, .int z7), (8, .int z8)]) (st' := []) hr rfl rfl rfl (fun hr => ?_) (fun hr => ?_)
  · skip
    refine ev_seg 3 (k' := 45) (L' := [(0, .ref 67), (1, .ref t1), (2, .int x2), (3, .ref t3), (5, .int z5), (6, .int z6), (7, .int z7), (8, .int z8)]) (st' := [.ref t1, .ref t1, .ref 67]) rfl ?_
    refine ev_getR (c := t1) (v := t1 + 15) rfl (isT_sh ht1) rfl (isT_r15 ht1) ?_
    refine ev_seg 1 (k' := 47) (L' := [(0, .ref 67), (1, .ref t1), (2, .int x2), (3, .ref t3), (5, .int z5), (6, .int z6), (7, .int z7), (8, .int z8)]) (st' := [.int z7, .ref (t1 + 15), .ref t1, .ref 67]) rfl ?_
    refine ev_ldI hr rfl (isT_a15 ht1) (fun v1 hr => ?_)
    refine ev_seg 2 (k' := 50) (L' := [(0, .ref 67), (1, .ref t1), (2, .int x2), (3, .ref t3), (5, .int z5), (6, .int z6), (7, .int z7), (8, .int z8)]) (st' := [.ref t3, .ref t3, .int v1, .ref t1, .ref 67]) rfl ?_
    refine ev_getR (c := t3) (v := t3 + 15) rfl (isT_sh ht3) rfl (isT_r15 ht3) ?_
    refine ev_seg 1 (k' := 52) (L' := [(0, .ref 67), (1, .ref t1), (2, .int x2), (3, .ref t3), (5, .int z5), (6, .int z6), (7, .int z7), (8, .int z8)]) (st' := [.int z6, .ref (t3 + 15), .ref t3, .int v1, .ref t1, .ref 67]) rfl ?_
    refine ev_ldI hr rfl (isT_a15 ht3) (fun v2 hr => ?_)
    refine ev_callV (q' := q_277) (x := 277) (y := 13) (c := 67) (As := [.ref t1, .int v1, .ref t3, .int v2]) (rest := []) hr rfl rfl rfl rfl rfl rfl rfl rfl rfl rfl rfl rfl (fun rv s3 hq => ev_kV hq (fun e9 hr => ?_))
    subst e9
    refine ev_st (st' := []) rfl ?_
    refine ev_seg 1 (k' := 74) (L' := [(0, .ref 67), (1, .ref t1), (2, .int x2), (3, .ref t3), (5, .int z5), (6, .int z6), (7, .int z7), (8, .int z8)]) (st' := []) rfl ?_
    refine ev_join (L' := [(0, .ref 67), (1, .ref t1), (2, .int x2), (3, .ref t3), (5, .int z5), (6, .int z6)]) [0, 1, 2, 3, 4, 5] [0, 1, 2, 3, 5, 6, 7, 8] [0, 1, 2, 3, 5, 6] rfl rfl (by decide) (by decide) rfl ?_
    exact hr
  · skip
    refine ev_seg 3 (k' := 32) (L' := [(0, .ref 67), (1, .ref t1), (2, .int x2), (3, .ref t3), (5, .int z5), (6, .int z6), (7, .int z7), (8, .int z8)]) (st' := [.ref t1, .ref t1, .ref 67]) rfl ?_
    refine ev_getR (c := t1) (v := t1 + 15) rfl (isT_sh ht1) rfl (isT_r15 ht1) ?_
    refine ev_seg 1 (k' := 34) (L' := [(0, .ref 67), (1, .ref t1), (2, .int x2), (3, .ref t3), (5, .int z5), (6, .int z6), (7, .int z7), (8, .int z8)]) (st' := [.int z8, .ref (t1 + 15), .ref t1, .ref 67]) rfl ?_
    refine ev_ldI hr rfl (isT_a15 ht1) (fun v4 hr => ?_)
    refine ev_callV (q' := q_272) (x := 272) (y := 13) (c := 67) (As := [.ref t1, .int v4]) (rest := []) hr rfl rfl rfl rfl rfl rfl rfl rfl rfl rfl rfl rfl (fun rv s5 hq => ev_kV hq (fun e9 hr => ?_))
    subst e9
    refine ev_st (st' := []) rfl ?_
    refine ev_seg 1 (k' := 37) (L' := [(0, .ref 67), (1, .ref t1), (2, .int x2), (3, .ref t3), (5, .int z5), (6, .int z6), (7, .int z7), (8, .int z8)]) (st' := [.ref t1]) rfl ?_
    refine ev_getR (c := t1) (v := t1 + 18) rfl (isT_sh ht1) rfl (isT_r18 ht1) ?_
    refine ev_seg 1 (k' := 39) (L' := [(0, .ref 67), (1, .ref t1), (2, .int x2), (3, .ref t3), (5, .int z5), (6, .int z6), (7, .int z7), (8, .int z8)]) (st' := [.int z8, .ref (t1 + 18)]) rfl ?_
    refine ev_ldI hr rfl (isT_a18 ht1) (fun v6 hr => ?_)
    refine ev_seg 2 (k' := 26) (L' := [(8, .int v6), (0, .ref 67), (1, .ref t1), (2, .int x2), (3, .ref t3), (5, .int z5), (6, .int z6), (7, .int z7)]) (st' := []) rfl ?_
    refine ev_join (L' := [(0, .ref 67), (1, .ref t1), (2, .int x2), (3, .ref t3), (5, .int z5), (6, .int z6), (7, .int z7), (8, .int v6)]) [1, 2, 3, 4, 5, 6, 7, 0] [8, 0, 1, 2, 3, 5, 6, 7] [0, 1, 2, 3, 5, 6, 7, 8] rfl rfl (by decide) (by decide) rfl ?_
    exact hr
set_option maxRecDepth 20000 in
theorem eMo_tellDefault (d : Nat) (t1 : Nat) (x2 : Int32) (x3 : Int32) (s : aT) (ht1 : isT t1) : ∀ r, (ldI 140 s (t1 + 9) x3 (fun v1 => if v1 = 0 then rV s else if v1 = 1 then ldI 4200 s (t1 + 2) x2 (fun v4 => if ¬ v4 = 4 then fMo_tellDefault_16 (d + 1) 0 s else fMo_tellDefault_16 (d + 1) 1 s) else if v1 = 2 then ldL 4200 s (t1 + 4) x2 (fun v6 => cG (fMo_tellVarint d v6 s) (kV fun s7 => rV s7)) else if v1 = 3 then ldL 4200 s (t1 + 4) x2 (fun v9 => cG (fMo_tellVarint d v9 s) (kV fun s10 => rV s10)) else if v1 = 4 then ldI 4200 s (t1 + 5) x2 (fun v12 => cG (fMo_tellVarint d v12.toInt64 s) (kV fun s13 => cG (fMo_tellString d t1 x2 s13) (kV fun s14 => rV s14))) else if v1 = 5 then ldI 4200 s (t1 + 5) x2 (fun v16 => cG (fMo_tellVarint d v16.toInt64 s) (kV fun s17 => cG (fMo_tellString d t1 x2 s17) (kV fun s18 => rV s18))) else if v1 = 6 then ldI 4200 s (t1 + 6) x2 (fun v20 => if v20 < 0 then fMo_tellDefault_106 (d + 1) t1 x2 x3 s else ldI 4200 s (t1 + 5) x2 (fun v21 => cG (fMo_tellVarint d v21.toInt64 s) (kV fun s22 => fMo_tellDefault_106 (d + 1) t1 x2 x3 s22))) else if v1 = 7 then ldI 4200 s (t1 + 6) x2 (fun v24 => fMo_tellDefault_141 (d + 1) t1 x2 x3 0 v24 s) else if v1 = 8 then cG (fMo_tellVarint d 0 s) (kV fun s26 => ldI 140 s26 (t1 + 12) x3 (fun v27 => ldI 2200 s26 (t1 + 15) v27 (fun v28 => cG (fMo_tellDefault d t1 x2 v28 s26) (kV fun s29 => rV s29)))) else if v1 = 9 then cG (fMo_tellString d t1 x2 s) (kV fun s31 => rV s31) else if v1 = 10 then cN (fMt_symbol d t1 x3 t1 x2 s) (kI fun v34 s33 => cG (fMo_tellVarint d v34.toInt64 s33) (kV fun s35 => rV s35)) else if v1 = 11 then ldI 140 s (t1 + 12) x3 (fun v37 => fMo_tellDefault_71 (d + 1) t1 x2 v37 s) else ldI 4200 s (t1 + 6) x2 (fun v38 => fMo_tellDefault_141 (d + 1) t1 x2 x3 0 v38 s))) = some r → fMo_tellDefault (d + 1) t1 x2 x3 s = some r := by
  intro r hr
  show ev (d + 1) q_282 0 [(0, .ref 67), (1, .ref t1), (2, .int x2), (3, .int x3)] [] s = some r
  refine ev_seg 1 (k' := 1) (L' := [(0, .ref 67), (1, .ref t1), (2, .int x2), (3, .int x3)]) (st' := [.ref t1]) rfl ?_
  refine ev_getR (c := t1) (v := t1 + 9) rfl (isT_sh ht1) rfl (isT_r9 ht1) ?_
  refine ev_seg 1 (k' := 3) (L' := [(0, .ref 67), (1, .ref t1), (2, .int x2), (3, .int x3)]) (st' := [.int x3, .ref (t1 + 9)]) rfl ?_
  refine ev_ldI hr rfl (isT_a9 ht1) (fun v1 hr => ?_)
  refine ev_if hr (fun h2 hr => ?_) (fun h2 hr => ?_)
  · skip
    refine ev_tab (o := 62) (t := 5) rfl (by rw [h2]; rfl) rfl ?_
    refine ev_seg 1 (k' := 203) (L' := [(0, .ref 67), (1, .ref t1), (2, .int x2), (3, .int x3)]) (st' := []) rfl ?_
    exact ev_vret hr rfl rfl
  refine ev_if hr (fun h3 hr => ?_) (fun h3 hr => ?_)
  · skip
    refine ev_tab (o := 65) (t := 6) rfl (by rw [h3]; rfl) rfl ?_
    refine ev_seg 2 (k' := 8) (L' := [(0, .ref 67), (1, .ref t1), (2, .int x2), (3, .int x3)]) (st' := [.ref t1, .ref 67]) rfl ?_
    refine ev_getR (c := t1) (v := t1 + 2) rfl (isT_sh ht1) rfl (isT_r2 ht1) ?_
    refine ev_seg 1 (k' := 10) (L' := [(0, .ref 67), (1, .ref t1), (2, .int x2), (3, .int x3)]) (st' := [.int x2, .ref (t1 + 2), .ref 67]) rfl ?_
    refine ev_ldI hr rfl (isT_a2 ht1) (fun v4 hr => ?_)
    refine ev_seg 1 (k' := 12) (L' := [(0, .ref 67), (1, .ref t1), (2, .int x2), (3, .int x3)]) (st' := [.int 4, .int v4, .ref 67]) rfl ?_
    refine ev_br (P := ¬ v4 = 4) (L' := [(0, .ref 67), (1, .ref t1), (2, .int x2), (3, .int x3)]) (st' := [.ref 67]) hr rfl rfl rfl (fun hr => ?_) (fun hr => ?_)
    · skip
      refine ev_seg 1 (k' := 16) (L' := [(0, .ref 67), (1, .ref t1), (2, .int x2), (3, .int x3)]) (st' := [.int 0, .ref 67]) rfl ?_
      refine ev_join (L' := []) [] [0, 1, 2, 3] [] rfl rfl (by decide) (by decide) rfl ?_
      exact hr
    · skip
      refine ev_seg 2 (k' := 16) (L' := [(0, .ref 67), (1, .ref t1), (2, .int x2), (3, .int x3)]) (st' := [.int 1, .ref 67]) rfl ?_
      refine ev_join (L' := []) [] [0, 1, 2, 3] [] rfl rfl (by decide) (by decide) rfl ?_
      exact hr
  refine ev_if hr (fun h5 hr => ?_) (fun h5 hr => ?_)
  · skip
    refine ev_tab (o := 87) (t := 18) rfl (by rw [h5]; rfl) rfl ?_
    refine ev_seg 2 (k' := 20) (L' := [(0, .ref 67), (1, .ref t1), (2, .int x2), (3, .int x3)]) (st' := [.ref t1, .ref 67]) rfl ?_
    refine ev_getR (c := t1) (v := t1 + 4) rfl (isT_sh ht1) rfl (isT_r4 ht1) ?_
    refine ev_seg 1 (k' := 22) (L' := [(0, .ref 67), (1, .ref t1), (2, .int x2), (3, .int x3)]) (st' := [.int x2, .ref (t1 + 4), .ref 67]) rfl ?_
    refine ev_ldL hr rfl (isT_a4 ht1) (fun v6 hr => ?_)
    refine ev_callV (q' := q_279) (x := 279) (y := 13) (c := 67) (As := [.long v6]) (rest := []) hr rfl rfl rfl rfl rfl rfl rfl rfl rfl rfl rfl rfl (fun rv s7 hq => ev_kV hq (fun e9 hr => ?_))
    subst e9
    refine ev_st (st' := []) rfl ?_
    refine ev_seg 1 (k' := 203) (L' := [(0, .ref 67), (1, .ref t1), (2, .int x2), (3, .int x3)]) (st' := []) rfl ?_
    exact ev_vret hr rfl rfl
  refine ev_if hr (fun h8 hr => ?_) (fun h8 hr => ?_)
  · skip
    refine ev_tab (o := 87) (t := 18) rfl (by rw [h8]; rfl) rfl ?_
    refine ev_seg 2 (k' := 20) (L' := [(0, .ref 67), (1, .ref t1), (2, .int x2), (3, .int x3)]) (st' := [.ref t1, .ref 67]) rfl ?_
    refine ev_getR (c := t1) (v := t1 + 4) rfl (isT_sh ht1) rfl (isT_r4 ht1) ?_
    refine ev_seg 1 (k' := 22) (L' := [(0, .ref 67), (1, .ref t1), (2, .int x2), (3, .int x3)]) (st' := [.int x2, .ref (t1 + 4), .ref 67]) rfl ?_
    refine ev_ldL hr rfl (isT_a4 ht1) (fun v9 hr => ?_)
    refine ev_callV (q' := q_279) (x := 279) (y := 13) (c := 67) (As := [.long v9]) (rest := []) hr rfl rfl rfl rfl rfl rfl rfl rfl rfl rfl rfl rfl (fun rv s10 hq => ev_kV hq (fun e9 hr => ?_))
    subst e9
    refine ev_st (st' := []) rfl ?_
    refine ev_seg 1 (k' := 203) (L' := [(0, .ref 67), (1, .ref t1), (2, .int x2), (3, .int x3)]) (st' := []) rfl ?_
    exact ev_vret hr rfl rfl
  refine ev_if hr (fun h11 hr => ?_) (fun h11 hr => ?_)
  · skip
    refine ev_tab (o := 100) (t := 25) rfl (by rw [h11]; rfl) rfl ?_
    refine ev_seg 2 (k' := 27) (L' := [(0, .ref 67), (1, .ref t1), (2, .int x2), (3, .int x3)]) (st' := [.ref t1, .ref 67]) rfl ?_
    refine ev_getR (c := t1) (v := t1 + 5) rfl (isT_sh ht1) rfl (isT_r5 ht1) ?_
    refine ev_seg 1 (k' := 29) (L' := [(0, .ref 67), (1, .ref t1), (2, .int x2), (3, .int x3)]) (st' := [.int x2, .ref (t1 + 5), .ref 67]) rfl ?_
    refine ev_ldI hr rfl (isT_a5 ht1) (fun v12 hr => ?_)
    refine ev_seg 1 (k' := 31) (L' := [(0, .ref 67), (1, .ref t1), (2, .int x2), (3, .int x3)]) (st' := [.long v12.toInt64, .ref 67]) rfl ?_
    refine ev_callV (q' := q_279) (x := 279) (y := 13) (c := 67) (As := [.long v12.toInt64]) (rest := []) hr rfl rfl rfl rfl rfl rfl rfl rfl rfl rfl rfl rfl (fun rv s13 hq => ev_kV hq (fun e9 hr => ?_))
    subst e9
    refine ev_st (st' := []) rfl ?_
    refine ev_seg 3 (k' := 35) (L' := [(0, .ref 67), (1, .ref t1), (2, .int x2), (3, .int x3)]) (st' := [.int x2, .ref t1, .ref 67]) rfl ?_
    refine ev_callV (q' := q_283) (x := 283) (y := 13) (c := 67) (As := [.ref t1, .int x2]) (rest := []) hr rfl rfl rfl rfl rfl rfl rfl rfl rfl rfl rfl rfl (fun rv s14 hq => ev_kV hq (fun e9 hr => ?_))
    subst e9
    refine ev_st (st' := []) rfl ?_
    refine ev_seg 1 (k' := 203) (L' := [(0, .ref 67), (1, .ref t1), (2, .int x2), (3, .int x3)]) (st' := []) rfl ?_
    exact ev_vret hr rfl rfl
  refine ev_if hr (fun h15 hr => ?_) (fun h15 hr => ?_)
  · skip
    refine ev_tab (o := 100) (t := 25) rfl (by rw [h15]; rfl) rfl ?_
    refine ev_seg 2 (k' := 27) (L' := [(0, .ref 67), (1, .ref t1), (2, .int x2), (3, .int x3)]) (st' := [.ref t1, .ref 67]) rfl ?_
    refine ev_getR (c := t1) (v := t1 + 5) rfl (isT_sh ht1) rfl (isT_r5 ht1) ?_
    refine ev_seg 1 (k' := 29) (L' := [(0, .ref 67), (1, .ref t1), (2, .int x2), (3, .int x3)]) (st' := [.int x2, .ref (t1 + 5), .ref 67]) rfl ?_
    refine ev_ldI hr rfl (isT_a5 ht1) (fun v16 hr => ?_)
    refine ev_seg 1 (k' := 31) (L' := [(0, .ref 67), (1, .ref t1), (2, .int x2), (3, .int x3)]) (st' := [.long v16.toInt64, .ref 67]) rfl ?_
    refine ev_callV (q' := q_279) (x := 279) (y := 13) (c := 67) (As := [.long v16.toInt64]) (rest := []) hr rfl rfl rfl rfl rfl rfl rfl rfl rfl rfl rfl rfl (fun rv s17 hq => ev_kV hq (fun e9 hr => ?_))
    subst e9
    refine ev_st (st' := []) rfl ?_
    refine ev_seg 3 (k' := 35) (L' := [(0, .ref 67), (1, .ref t1), (2, .int x2), (3, .int x3)]) (st' := [.int x2, .ref t1, .ref 67]) rfl ?_
    refine ev_callV (q' := q_283) (x := 283) (y := 13) (c := 67) (As := [.ref t1, .int x2]) (rest := []) hr rfl rfl rfl rfl rfl rfl rfl rfl rfl rfl rfl rfl (fun rv s18 hq => ev_kV hq (fun e9 hr => ?_))
    subst e9
    refine ev_st (st' := []) rfl ?_
    refine ev_seg 1 (k' := 203) (L' := [(0, .ref 67), (1, .ref t1), (2, .int x2), (3, .int x3)]) (st' := []) rfl ?_
    exact ev_vret hr rfl rfl
  refine ev_if hr (fun h19 hr => ?_) (fun h19 hr => ?_)
  · skip
    refine ev_tab (o := 221) (t := 94) rfl (by rw [h19]; rfl) rfl ?_
    refine ev_seg 1 (k' := 95) (L' := [(0, .ref 67), (1, .ref t1), (2, .int x2), (3, .int x3)]) (st' := [.ref t1]) rfl ?_
    refine ev_getR (c := t1) (v := t1 + 6) rfl (isT_sh ht1) rfl (isT_r6 ht1) ?_
    refine ev_seg 1 (k' := 97) (L' := [(0, .ref 67), (1, .ref t1), (2, .int x2), (3, .int x3)]) (st' := [.int x2, .ref (t1 + 6)]) rfl ?_
    refine ev_ldI hr rfl (isT_a6 ht1) (fun v20 hr => ?_)
    refine ev_br (P := v20 < 0) (L' := [(0, .ref 67), (1, .ref t1), (2, .int x2), (3, .int x3)]) (st' := []) hr rfl rfl rfl (fun hr => ?_) (fun hr => ?_)
    · skip
      exact hr
    · skip
      refine ev_seg 2 (k' := 101) (L' := [(0, .ref 67), (1, .ref t1), (2, .int x2), (3, .int x3)]) (st' := [.ref t1, .ref 67]) rfl ?_
      refine ev_getR (c := t1) (v := t1 + 5) rfl (isT_sh ht1) rfl (isT_r5 ht1) ?_
      refine ev_seg 1 (k' := 103) (L' := [(0, .ref 67), (1, .ref t1), (2, .int x2), (3, .int x3)]) (st' := [.int x2, .ref (t1 + 5), .ref 67]) rfl ?_
      refine ev_ldI hr rfl (isT_a5 ht1) (fun v21 hr => ?_)
      refine ev_seg 1 (k' := 105) (L' := [(0, .ref 67), (1, .ref t1), (2, .int x2), (3, .int x3)]) (st' := [.long v21.toInt64, .ref 67]) rfl ?_
      refine ev_callV (q' := q_279) (x := 279) (y := 13) (c := 67) (As := [.long v21.toInt64]) (rest := []) hr rfl rfl rfl rfl rfl rfl rfl rfl rfl rfl rfl rfl (fun rv s22 hq => ev_kV hq (fun e9 hr => ?_))
      subst e9
      refine ev_st (st' := []) rfl ?_
      exact hr
  refine ev_if hr (fun h23 hr => ?_) (fun h23 hr => ?_)
  · skip
    refine ev_tab (o := 292) (t := 134) rfl (by rw [h23]; rfl) rfl ?_
    refine ev_seg 3 (k' := 137) (L' := [(4, .int 0), (0, .ref 67), (1, .ref t1), (2, .int x2), (3, .int x3)]) (st' := [.ref t1]) rfl ?_
    refine ev_getR (c := t1) (v := t1 + 6) rfl (isT_sh ht1) rfl (isT_r6 ht1) ?_
    refine ev_seg 1 (k' := 139) (L' := [(4, .int 0), (0, .ref 67), (1, .ref t1), (2, .int x2), (3, .int x3)]) (st' := [.int x2, .ref (t1 + 6)]) rfl ?_
    refine ev_ldI hr rfl (isT_a6 ht1) (fun v24 hr => ?_)
    refine ev_seg 1 (k' := 141) (L' := [(5, .int v24), (4, .int 0), (0, .ref 67), (1, .ref t1), (2, .int x2), (3, .int x3)]) (st' := []) rfl ?_
    refine ev_join (L' := [(0, .ref 67), (1, .ref t1), (2, .int x2), (3, .int x3), (4, .int 0), (5, .int v24)]) [2, 3, 4, 5, 1, 0] [5, 4, 0, 1, 2, 3] [0, 1, 2, 3, 4, 5] rfl rfl (by decide) (by decide) rfl ?_
    exact hr
  refine ev_if hr (fun h25 hr => ?_) (fun h25 hr => ?_)
  · skip
    refine ev_tab (o := 144) (t := 51) rfl (by rw [h25]; rfl) rfl ?_
    refine ev_seg 2 (k' := 53) (L' := [(0, .ref 67), (1, .ref t1), (2, .int x2), (3, .int x3)]) (st' := [.long 0, .ref 67]) rfl ?_
    refine ev_callV (q' := q_279) (x := 279) (y := 13) (c := 67) (As := [.long 0]) (rest := []) hr rfl rfl rfl rfl rfl rfl rfl rfl rfl rfl rfl rfl (fun rv s26 hq => ev_kV hq (fun e9 hr => ?_))
    subst e9
    refine ev_st (st' := []) rfl ?_
    refine ev_seg 4 (k' := 58) (L' := [(0, .ref 67), (1, .ref t1), (2, .int x2), (3, .int x3)]) (st' := [.ref t1, .int x2, .ref t1, .ref 67]) rfl ?_
    refine ev_getR (c := t1) (v := t1 + 15) rfl (isT_sh ht1) rfl (isT_r15 ht1) ?_
    refine ev_seg 1 (k' := 60) (L' := [(0, .ref 67), (1, .ref t1), (2, .int x2), (3, .int x3)]) (st' := [.ref t1, .ref (t1 + 15), .int x2, .ref t1, .ref 67]) rfl ?_
    refine ev_getR (c := t1) (v := t1 + 12) rfl (isT_sh ht1) rfl (isT_r12 ht1) ?_
    refine ev_seg 1 (k' := 62) (L' := [(0, .ref 67), (1, .ref t1), (2, .int x2), (3, .int x3)]) (st' := [.int x3, .ref (t1 + 12), .ref (t1 + 15), .int x2, .ref t1, .ref 67]) rfl ?_
    refine ev_ldI hr rfl (isT_a12 ht1) (fun v27 hr => ?_)
    refine ev_ldI hr rfl (isT_a15 ht1) (fun v28 hr => ?_)
    refine ev_callV (q' := q_282) (x := 282) (y := 13) (c := 67) (As := [.ref t1, .int x2, .int v28]) (rest := []) hr rfl rfl rfl rfl rfl rfl rfl rfl rfl rfl rfl rfl (fun rv s29 hq => ev_kV hq (fun e9 hr => ?_))
    subst e9
    refine ev_st (st' := []) rfl ?_
    refine ev_seg 1 (k' := 203) (L' := [(0, .ref 67), (1, .ref t1), (2, .int x2), (3, .int x3)]) (st' := []) rfl ?_
    exact ev_vret hr rfl rfl
  refine ev_if hr (fun h30 hr => ?_) (fun h30 hr => ?_)
  · skip
    refine ev_tab (o := 120) (t := 37) rfl (by rw [h30]; rfl) rfl ?_
    refine ev_seg 3 (k' := 40) (L' := [(0, .ref 67), (1, .ref t1), (2, .int x2), (3, .int x3)]) (st' := [.int x2, .ref t1, .ref 67]) rfl ?_
    refine ev_callV (q' := q_283) (x := 283) (y := 13) (c := 67) (As := [.ref t1, .int x2]) (rest := []) hr rfl rfl rfl rfl rfl rfl rfl rfl rfl rfl rfl rfl (fun rv s31 hq => ev_kV hq (fun e9 hr => ?_))
    subst e9
    refine ev_st (st' := []) rfl ?_
    refine ev_seg 1 (k' := 203) (L' := [(0, .ref 67), (1, .ref t1), (2, .int x2), (3, .int x3)]) (st' := []) rfl ?_
    exact ev_vret hr rfl rfl
  refine ev_if hr (fun h32 hr => ?_) (fun h32 hr => ?_)
  · skip
    refine ev_tab (o := 129) (t := 42) rfl (by rw [h32]; rfl) rfl ?_
    refine ev_seg 5 (k' := 47) (L' := [(0, .ref 67), (1, .ref t1), (2, .int x2), (3, .int x3)]) (st' := [.int x2, .ref t1, .int x3, .ref t1, .ref 67]) rfl ?_
    refine ev_callN (q' := q_223) (x := 223) (y := 112) (c := t1) (As := [.int x3, .ref t1, .int x2]) (rest := [.ref 67]) hr rfl rfl rfl rfl rfl rfl (isT_sh ht1) rfl rfl (fun rv s33 hq => ev_kI hq (fun v34 e9 hr => ?_))
    subst e9
    refine ev_st (st' := [.int v34, .ref 67]) rfl ?_
    refine ev_seg 1 (k' := 49) (L' := [(0, .ref 67), (1, .ref t1), (2, .int x2), (3, .int x3)]) (st' := [.long v34.toInt64, .ref 67]) rfl ?_
    refine ev_callV (q' := q_279) (x := 279) (y := 13) (c := 67) (As := [.long v34.toInt64]) (rest := []) hr rfl rfl rfl rfl rfl rfl rfl rfl rfl rfl rfl rfl (fun rv s35 hq => ev_kV hq (fun e9 hr => ?_))
    subst e9
    refine ev_st (st' := []) rfl ?_
    refine ev_seg 1 (k' := 203) (L' := [(0, .ref 67), (1, .ref t1), (2, .int x2), (3, .int x3)]) (st' := []) rfl ?_
    exact ev_vret hr rfl rfl
  refine ev_if hr (fun h36 hr => ?_) (fun h36 hr => ?_)
  · skip
    refine ev_tab (o := 169) (t := 66) rfl (by rw [h36]; rfl) rfl ?_
    refine ev_seg 1 (k' := 67) (L' := [(0, .ref 67), (1, .ref t1), (2, .int x2), (3, .int x3)]) (st' := [.ref t1]) rfl ?_
    refine ev_getR (c := t1) (v := t1 + 12) rfl (isT_sh ht1) rfl (isT_r12 ht1) ?_
    refine ev_seg 1 (k' := 69) (L' := [(0, .ref 67), (1, .ref t1), (2, .int x2), (3, .int x3)]) (st' := [.int x3, .ref (t1 + 12)]) rfl ?_
    refine ev_ldI hr rfl (isT_a12 ht1) (fun v37 hr => ?_)
    refine ev_seg 1 (k' := 71) (L' := [(4, .int v37), (0, .ref 67), (1, .ref t1), (2, .int x2), (3, .int x3)]) (st' := []) rfl ?_
    refine ev_join (L' := [(0, .ref 67), (1, .ref t1), (2, .int x2), (4, .int v37)]) [1, 2, 3, 0] [4, 0, 1, 2, 3] [0, 1, 2, 4] rfl rfl (by decide) (by decide) rfl ?_
    exact hr
  refine ev_tab (o := 292) (t := 134) rfl (tab_in (by have e0 := i_neL (z := 0) (w := 0) rfl h2; have e1 := i_neL (z := 1) (w := 1) rfl h3; have e2 := i_neL (z := 2) (w := 2) rfl h5; have e3 := i_neL (z := 3) (w := 3) rfl h8; have e4 := i_neL (z := 4) (w := 4) rfl h11; have e5 := i_neL (z := 5) (w := 5) rfl h15; have e6 := i_neL (z := 6) (w := 6) rfl h19; have e7 := i_neL (z := 7) (w := 7) rfl h23; have e8 := i_neL (z := 8) (w := 8) rfl h25; have e9 := i_neL (z := 9) (w := 9) rfl h30; have e10 := i_neL (z := 10) (w := 10) rfl h32; have e11 := i_neL (z := 11) (w := 11) rfl h36; omega)) rfl ?_
  refine ev_seg 3 (k' := 137) (L' := [(4, .int 0), (0, .ref 67), (1, .ref t1), (2, .int x2), (3, .int x3)]) (st' := [.ref t1]) rfl ?_
  refine ev_getR (c := t1) (v := t1 + 6) rfl (isT_sh ht1) rfl (isT_r6 ht1) ?_
  refine ev_seg 1 (k' := 139) (L' := [(4, .int 0), (0, .ref 67), (1, .ref t1), (2, .int x2), (3, .int x3)]) (st' := [.int x2, .ref (t1 + 6)]) rfl ?_
  refine ev_ldI hr rfl (isT_a6 ht1) (fun v38 hr => ?_)
  refine ev_seg 1 (k' := 141) (L' := [(5, .int v38), (4, .int 0), (0, .ref 67), (1, .ref t1), (2, .int x2), (3, .int x3)]) (st' := []) rfl ?_
  refine ev_join (L' := [(0, .ref 67), (1, .ref t1), (2, .int x2), (3, .int x3), (4, .int 0), (5, .int v38)]) [2, 3, 4, 5, 1, 0] [5, 4, 0, 1, 2, 3] [0, 1, 2, 3, 4, 5] rfl rfl (by decide) (by decide) rfl ?_
  exact hr
set_option maxRecDepth 20000 in
theorem eMo_tellDefault_16 (d : Nat) (u0 : Int32) (s : aT) : ∀ r, (cG (fMo_tellByte d u0 s) (kV fun s1 => rV s1)) = some r → fMo_tellDefault_16 (d + 1) u0 s = some r := by
  intro r hr
  show ev (d + 1) q_282 16 [] [.int u0, .ref 67] s = some r
  refine ev_callV (q' := q_275) (x := 275) (y := 13) (c := 67) (As := [.int u0]) (rest := []) hr rfl rfl rfl rfl rfl rfl rfl rfl rfl rfl rfl rfl (fun rv s1 hq => ev_kV hq (fun e9 hr => ?_))
  subst e9
  refine ev_st (st' := []) rfl ?_
  refine ev_seg 1 (k' := 203) (L' := []) (st' := []) rfl ?_
  exact ev_vret hr rfl rfl
set_option maxRecDepth 20000 in
theorem eMo_tellDefault_106 (d : Nat) (t1 : Nat) (x2 : Int32) (x3 : Int32) (s : aT) (ht1 : isT t1) : ∀ r, (ldI 4200 s (t1 + 6) x2 (fun v1 => fMo_tellDefault_111 (d + 1) t1 x3 v1 s)) = some r → fMo_tellDefault_106 (d + 1) t1 x2 x3 s = some r := by
  intro r hr
  show ev (d + 1) q_282 106 [(0, .ref 67), (1, .ref t1), (2, .int x2), (3, .int x3)] [] s = some r
  refine ev_seg 1 (k' := 107) (L' := [(0, .ref 67), (1, .ref t1), (2, .int x2), (3, .int x3)]) (st' := [.ref t1]) rfl ?_
  refine ev_getR (c := t1) (v := t1 + 6) rfl (isT_sh ht1) rfl (isT_r6 ht1) ?_
  refine ev_seg 1 (k' := 109) (L' := [(0, .ref 67), (1, .ref t1), (2, .int x2), (3, .int x3)]) (st' := [.int x2, .ref (t1 + 6)]) rfl ?_
  refine ev_ldI hr rfl (isT_a6 ht1) (fun v1 hr => ?_)
  refine ev_seg 1 (k' := 111) (L' := [(4, .int v1), (0, .ref 67), (1, .ref t1), (2, .int x2), (3, .int x3)]) (st' := []) rfl ?_
  refine ev_join (L' := [(0, .ref 67), (1, .ref t1), (3, .int x3), (4, .int v1)]) [1, 2, 4, 0] [4, 0, 1, 2, 3] [0, 1, 3, 4] rfl rfl (by decide) (by decide) rfl ?_
  exact hr
set_option maxRecDepth 20000 in
theorem eMo_tellDefault_141 (d : Nat) (t1 : Nat) (x2 : Int32) (x3 : Int32) (z4 : Int32) (z5 : Int32) (s : aT) (ht1 : isT t1) : ∀ r, (if z5 < 0 then if z4 ≤ 0 then fMo_tellDefault_159 (d + 1) t1 x2 x3 s else cG (fMo_tellVarint d z4.toInt64 s) (kV fun s1 => fMo_tellDefault_159 (d + 1) t1 x2 x3 s1) else ldI 4200 s (t1 + 7) z5 (fun v2 => ldI 4200 s (t1 + 7) v2 (fun v3 => fMo_tellDefault_141 (d + 1) t1 x2 x3 (z4 + 1) v3 s))) = some r → fMo_tellDefault_141 (d + 1) t1 x2 x3 z4 z5 s = some r := by
  intro r hr
  show ev (d + 1) q_282 141 [(0, .ref 67), (1, .ref t1), (2, .int x2), (3, .int x3), (4, .int z4), (5, .int z5)] [] s = some r
  refine ev_seg 1 (k' := 142) (L' := [(0, .ref 67), (1, .ref t1), (2, .int x2), (3, .int x3), (4, .int z4), (5, .int z5)]) (st' := [.int z5]) rfl ?_
  refine ev_br (P := z5 < 0) (L' := [(0, .ref 67), (1, .ref t1), (2, .int x2), (3, .int x3), (4, .int z4), (5, .int z5)]) (st' := []) hr rfl rfl rfl (fun hr => ?_) (fun hr => ?_)
  · skip
    refine ev_seg 1 (k' := 154) (L' := [(0, .ref 67), (1, .ref t1), (2, .int x2), (3, .int x3), (4, .int z4), (5, .int z5)]) (st' := [.int z4]) rfl ?_
    refine ev_br (P := z4 ≤ 0) (L' := [(0, .ref 67), (1, .ref t1), (2, .int x2), (3, .int x3), (4, .int z4), (5, .int z5)]) (st' := []) hr rfl rfl rfl (fun hr => ?_) (fun hr => ?_)
    · skip
      refine ev_join (L' := [(0, .ref 67), (1, .ref t1), (2, .int x2), (3, .int x3)]) [0, 1, 2, 3] [0, 1, 2, 3, 4, 5] [0, 1, 2, 3] rfl rfl (by decide) (by decide) rfl ?_
      exact hr
    · skip
      refine ev_seg 3 (k' := 158) (L' := [(0, .ref 67), (1, .ref t1), (2, .int x2), (3, .int x3), (4, .int z4), (5, .int z5)]) (st' := [.long z4.toInt64, .ref 67]) rfl ?_
      refine ev_callV (q' := q_279) (x := 279) (y := 13) (c := 67) (As := [.long z4.toInt64]) (rest := []) hr rfl rfl rfl rfl rfl rfl rfl rfl rfl rfl rfl rfl (fun rv s1 hq => ev_kV hq (fun e9 hr => ?_))
      subst e9
      refine ev_st (st' := []) rfl ?_
      refine ev_join (L' := [(0, .ref 67), (1, .ref t1), (2, .int x2), (3, .int x3)]) [0, 1, 2, 3] [0, 1, 2, 3, 4, 5] [0, 1, 2, 3] rfl rfl (by decide) (by decide) rfl ?_
      exact hr
  · skip
    refine ev_seg 2 (k' := 145) (L' := [(4, .int (z4 + 1)), (0, .ref 67), (1, .ref t1), (2, .int x2), (3, .int x3), (5, .int z5)]) (st' := [.ref t1]) rfl ?_
    refine ev_getR (c := t1) (v := t1 + 7) rfl (isT_sh ht1) rfl (isT_r7 ht1) ?_
    refine ev_seg 1 (k' := 147) (L' := [(4, .int (z4 + 1)), (0, .ref 67), (1, .ref t1), (2, .int x2), (3, .int x3), (5, .int z5)]) (st' := [.ref t1, .ref (t1 + 7)]) rfl ?_
    refine ev_getR (c := t1) (v := t1 + 7) rfl (isT_sh ht1) rfl (isT_r7 ht1) ?_
    refine ev_seg 1 (k' := 149) (L' := [(4, .int (z4 + 1)), (0, .ref 67), (1, .ref t1), (2, .int x2), (3, .int x3), (5, .int z5)]) (st' := [.int z5, .ref (t1 + 7), .ref (t1 + 7)]) rfl ?_
    refine ev_ldI hr rfl (isT_a7 ht1) (fun v2 hr => ?_)
    refine ev_ldI hr rfl (isT_a7 ht1) (fun v3 hr => ?_)
    refine ev_seg 2 (k' := 141) (L' := [(5, .int v3), (4, .int (z4 + 1)), (0, .ref 67), (1, .ref t1), (2, .int x2), (3, .int x3)]) (st' := []) rfl ?_
    refine ev_join (L' := [(0, .ref 67), (1, .ref t1), (2, .int x2), (3, .int x3), (4, .int (z4 + 1)), (5, .int v3)]) [2, 3, 4, 5, 1, 0] [5, 4, 0, 1, 2, 3] [0, 1, 2, 3, 4, 5] rfl rfl (by decide) (by decide) rfl ?_
    exact hr
set_option maxRecDepth 20000 in
theorem eMo_tellDefault_71 (d : Nat) (t1 : Nat) (x2 : Int32) (z4 : Int32) (s : aT) (ht1 : isT t1) : ∀ r, (if z4 < 0 then rV s else ldI 2200 s (t1 + 16) z4 (fun v1 => cN (fMt_memberLike d t1 x2 v1 s) (kI fun v3 s2 => ldI 2200 s2 (t1 + 15) z4 (fun v4 => cG (fMo_tellDefault d t1 v3 v4 s2) (kV fun s5 => ldI 2200 s5 (t1 + 18) z4 (fun v6 => fMo_tellDefault_71 (d + 1) t1 x2 v6 s5)))))) = some r → fMo_tellDefault_71 (d + 1) t1 x2 z4 s = some r := by
  intro r hr
  show ev (d + 1) q_282 71 [(0, .ref 67), (1, .ref t1), (2, .int x2), (4, .int z4)] [] s = some r
  refine ev_seg 1 (k' := 72) (L' := [(0, .ref 67), (1, .ref t1), (2, .int x2), (4, .int z4)]) (st' := [.int z4]) rfl ?_
  refine ev_br (P := z4 < 0) (L' := [(0, .ref 67), (1, .ref t1), (2, .int x2), (4, .int z4)]) (st' := []) hr rfl rfl rfl (fun hr => ?_) (fun hr => ?_)
  · skip
    refine ev_seg 1 (k' := 203) (L' := [(0, .ref 67), (1, .ref t1), (2, .int x2), (4, .int z4)]) (st' := []) rfl ?_
    exact ev_vret hr rfl rfl
  · skip
    refine ev_seg 5 (k' := 78) (L' := [(0, .ref 67), (1, .ref t1), (2, .int x2), (4, .int z4)]) (st' := [.ref t1, .int x2, .ref t1, .ref t1, .ref 67]) rfl ?_
    refine ev_getR (c := t1) (v := t1 + 16) rfl (isT_sh ht1) rfl (isT_r16 ht1) ?_
    refine ev_seg 1 (k' := 80) (L' := [(0, .ref 67), (1, .ref t1), (2, .int x2), (4, .int z4)]) (st' := [.int z4, .ref (t1 + 16), .int x2, .ref t1, .ref t1, .ref 67]) rfl ?_
    refine ev_ldI hr rfl (isT_a16 ht1) (fun v1 hr => ?_)
    refine ev_callN (q' := q_226) (x := 226) (y := 112) (c := t1) (As := [.int x2, .int v1]) (rest := [.ref t1, .ref 67]) hr rfl rfl rfl rfl rfl rfl (isT_sh ht1) rfl rfl (fun rv s2 hq => ev_kI hq (fun v3 e9 hr => ?_))
    subst e9
    refine ev_st (st' := [.int v3, .ref t1, .ref 67]) rfl ?_
    refine ev_seg 1 (k' := 83) (L' := [(0, .ref 67), (1, .ref t1), (2, .int x2), (4, .int z4)]) (st' := [.ref t1, .int v3, .ref t1, .ref 67]) rfl ?_
    refine ev_getR (c := t1) (v := t1 + 15) rfl (isT_sh ht1) rfl (isT_r15 ht1) ?_
    refine ev_seg 1 (k' := 85) (L' := [(0, .ref 67), (1, .ref t1), (2, .int x2), (4, .int z4)]) (st' := [.int z4, .ref (t1 + 15), .int v3, .ref t1, .ref 67]) rfl ?_
    refine ev_ldI hr rfl (isT_a15 ht1) (fun v4 hr => ?_)
    refine ev_callV (q' := q_282) (x := 282) (y := 13) (c := 67) (As := [.ref t1, .int v3, .int v4]) (rest := []) hr rfl rfl rfl rfl rfl rfl rfl rfl rfl rfl rfl rfl (fun rv s5 hq => ev_kV hq (fun e9 hr => ?_))
    subst e9
    refine ev_st (st' := []) rfl ?_
    refine ev_seg 1 (k' := 88) (L' := [(0, .ref 67), (1, .ref t1), (2, .int x2), (4, .int z4)]) (st' := [.ref t1]) rfl ?_
    refine ev_getR (c := t1) (v := t1 + 18) rfl (isT_sh ht1) rfl (isT_r18 ht1) ?_
    refine ev_seg 1 (k' := 90) (L' := [(0, .ref 67), (1, .ref t1), (2, .int x2), (4, .int z4)]) (st' := [.int z4, .ref (t1 + 18)]) rfl ?_
    refine ev_ldI hr rfl (isT_a18 ht1) (fun v6 hr => ?_)
    refine ev_seg 2 (k' := 71) (L' := [(4, .int v6), (0, .ref 67), (1, .ref t1), (2, .int x2)]) (st' := []) rfl ?_
    refine ev_join (L' := [(0, .ref 67), (1, .ref t1), (2, .int x2), (4, .int v6)]) [1, 2, 3, 0] [4, 0, 1, 2] [0, 1, 2, 4] rfl rfl (by decide) (by decide) rfl ?_
    exact hr
set_option maxRecDepth 20000 in
theorem eMo_tellDefault_111 (d : Nat) (t1 : Nat) (x3 : Int32) (z4 : Int32) (s : aT) (ht1 : isT t1) : ∀ r, (if z4 < 0 then cG (fMo_tellVarint d 0 s) (kV fun s1 => rV s1) else ldI 140 s (t1 + 12) x3 (fun v2 => ldI 2200 s (t1 + 15) v2 (fun v3 => cG (fMo_tellDefault d t1 z4 v3 s) (kV fun s4 => ldI 4200 s4 (t1 + 7) z4 (fun v5 => fMo_tellDefault_111 (d + 1) t1 x3 v5 s4))))) = some r → fMo_tellDefault_111 (d + 1) t1 x3 z4 s = some r := by
  intro r hr
  show ev (d + 1) q_282 111 [(0, .ref 67), (1, .ref t1), (3, .int x3), (4, .int z4)] [] s = some r
  refine ev_seg 1 (k' := 112) (L' := [(0, .ref 67), (1, .ref t1), (3, .int x3), (4, .int z4)]) (st' := [.int z4]) rfl ?_
  refine ev_br (P := z4 < 0) (L' := [(0, .ref 67), (1, .ref t1), (3, .int x3), (4, .int z4)]) (st' := []) hr rfl rfl rfl (fun hr => ?_) (fun hr => ?_)
  · skip
    refine ev_seg 2 (k' := 132) (L' := [(0, .ref 67), (1, .ref t1), (3, .int x3), (4, .int z4)]) (st' := [.long 0, .ref 67]) rfl ?_
    refine ev_callV (q' := q_279) (x := 279) (y := 13) (c := 67) (As := [.long 0]) (rest := []) hr rfl rfl rfl rfl rfl rfl rfl rfl rfl rfl rfl rfl (fun rv s1 hq => ev_kV hq (fun e9 hr => ?_))
    subst e9
    refine ev_st (st' := []) rfl ?_
    refine ev_seg 1 (k' := 203) (L' := [(0, .ref 67), (1, .ref t1), (3, .int x3), (4, .int z4)]) (st' := []) rfl ?_
    exact ev_vret hr rfl rfl
  · skip
    refine ev_seg 4 (k' := 117) (L' := [(0, .ref 67), (1, .ref t1), (3, .int x3), (4, .int z4)]) (st' := [.ref t1, .int z4, .ref t1, .ref 67]) rfl ?_
    refine ev_getR (c := t1) (v := t1 + 15) rfl (isT_sh ht1) rfl (isT_r15 ht1) ?_
    refine ev_seg 1 (k' := 119) (L' := [(0, .ref 67), (1, .ref t1), (3, .int x3), (4, .int z4)]) (st' := [.ref t1, .ref (t1 + 15), .int z4, .ref t1, .ref 67]) rfl ?_
    refine ev_getR (c := t1) (v := t1 + 12) rfl (isT_sh ht1) rfl (isT_r12 ht1) ?_
    refine ev_seg 1 (k' := 121) (L' := [(0, .ref 67), (1, .ref t1), (3, .int x3), (4, .int z4)]) (st' := [.int x3, .ref (t1 + 12), .ref (t1 + 15), .int z4, .ref t1, .ref 67]) rfl ?_
    refine ev_ldI hr rfl (isT_a12 ht1) (fun v2 hr => ?_)
    refine ev_ldI hr rfl (isT_a15 ht1) (fun v3 hr => ?_)
    refine ev_callV (q' := q_282) (x := 282) (y := 13) (c := 67) (As := [.ref t1, .int z4, .int v3]) (rest := []) hr rfl rfl rfl rfl rfl rfl rfl rfl rfl rfl rfl rfl (fun rv s4 hq => ev_kV hq (fun e9 hr => ?_))
    subst e9
    refine ev_st (st' := []) rfl ?_
    refine ev_seg 1 (k' := 125) (L' := [(0, .ref 67), (1, .ref t1), (3, .int x3), (4, .int z4)]) (st' := [.ref t1]) rfl ?_
    refine ev_getR (c := t1) (v := t1 + 7) rfl (isT_sh ht1) rfl (isT_r7 ht1) ?_
    refine ev_seg 1 (k' := 127) (L' := [(0, .ref 67), (1, .ref t1), (3, .int x3), (4, .int z4)]) (st' := [.int z4, .ref (t1 + 7)]) rfl ?_
    refine ev_ldI hr rfl (isT_a7 ht1) (fun v5 hr => ?_)
    refine ev_seg 2 (k' := 111) (L' := [(4, .int v5), (0, .ref 67), (1, .ref t1), (3, .int x3)]) (st' := []) rfl ?_
    refine ev_join (L' := [(0, .ref 67), (1, .ref t1), (3, .int x3), (4, .int v5)]) [1, 2, 3, 0] [4, 0, 1, 3] [0, 1, 3, 4] rfl rfl (by decide) (by decide) rfl ?_
    exact hr
set_option maxRecDepth 20000 in
theorem eMo_tellDefault_159 (d : Nat) (t1 : Nat) (x2 : Int32) (x3 : Int32) (s : aT) (ht1 : isT t1) : ∀ r, (ldI 4200 s (t1 + 6) x2 (fun v1 => fMo_tellDefault_164 (d + 1) t1 x3 v1 s)) = some r → fMo_tellDefault_159 (d + 1) t1 x2 x3 s = some r := by
  intro r hr
  show ev (d + 1) q_282 159 [(0, .ref 67), (1, .ref t1), (2, .int x2), (3, .int x3)] [] s = some r
  refine ev_seg 1 (k' := 160) (L' := [(0, .ref 67), (1, .ref t1), (2, .int x2), (3, .int x3)]) (st' := [.ref t1]) rfl ?_
  refine ev_getR (c := t1) (v := t1 + 6) rfl (isT_sh ht1) rfl (isT_r6 ht1) ?_
  refine ev_seg 1 (k' := 162) (L' := [(0, .ref 67), (1, .ref t1), (2, .int x2), (3, .int x3)]) (st' := [.int x2, .ref (t1 + 6)]) rfl ?_
  refine ev_ldI hr rfl (isT_a6 ht1) (fun v1 hr => ?_)
  refine ev_seg 1 (k' := 164) (L' := [(5, .int v1), (0, .ref 67), (1, .ref t1), (2, .int x2), (3, .int x3)]) (st' := []) rfl ?_
  refine ev_join (L' := [(0, .ref 67), (1, .ref t1), (3, .int x3), (5, .int v1)]) [1, 2, 4, 0] [5, 0, 1, 2, 3] [0, 1, 3, 5] rfl rfl (by decide) (by decide) rfl ?_
  exact hr
set_option maxRecDepth 20000 in
theorem eMo_tellDefault_164 (d : Nat) (t1 : Nat) (x3 : Int32) (z5 : Int32) (s : aT) (ht1 : isT t1) : ∀ r, (if z5 < 0 then cG (fMo_tellVarint d 0 s) (kV fun s1 => rV s1) else ldI 4200 s (t1 + 5) z5 (fun v2 => cG (fMo_tellVarint d v2.toInt64 s) (kV fun s3 => cG (fMo_tellString d t1 z5 s3) (kV fun s4 => ldI 4200 s4 (t1 + 7) z5 (fun v5 => ldI 140 s4 (t1 + 12) x3 (fun v6 => ldI 2200 s4 (t1 + 15) v6 (fun v7 => cG (fMo_tellDefault d t1 v5 v7 s4) (kV fun s8 => ldI 4200 s8 (t1 + 7) z5 (fun v9 => ldI 4200 s8 (t1 + 7) v9 (fun v10 => fMo_tellDefault_164 (d + 1) t1 x3 v10 s8)))))))))) = some r → fMo_tellDefault_164 (d + 1) t1 x3 z5 s = some r := by
  intro r hr
  show ev (d + 1) q_282 164 [(0, .ref 67), (1, .ref t1), (3, .int x3), (5, .int z5)] [] s = some r
  refine ev_seg 1 (k' := 165) (L' := [(0, .ref 67), (1, .ref t1), (3, .int x3), (5, .int z5)]) (st' := [.int z5]) rfl ?_
  refine ev_br (P := z5 < 0) (L' := [(0, .ref 67), (1, .ref t1), (3, .int x3), (5, .int z5)]) (st' := []) hr rfl rfl rfl (fun hr => ?_) (fun hr => ?_)
  · skip
    refine ev_seg 2 (k' := 202) (L' := [(0, .ref 67), (1, .ref t1), (3, .int x3), (5, .int z5)]) (st' := [.long 0, .ref 67]) rfl ?_
    refine ev_callV (q' := q_279) (x := 279) (y := 13) (c := 67) (As := [.long 0]) (rest := []) hr rfl rfl rfl rfl rfl rfl rfl rfl rfl rfl rfl rfl (fun rv s1 hq => ev_kV hq (fun e9 hr => ?_))
    subst e9
    refine ev_st (st' := []) rfl ?_
    exact ev_vret hr rfl rfl
  · skip
    refine ev_seg 2 (k' := 168) (L' := [(0, .ref 67), (1, .ref t1), (3, .int x3), (5, .int z5)]) (st' := [.ref t1, .ref 67]) rfl ?_
    refine ev_getR (c := t1) (v := t1 + 5) rfl (isT_sh ht1) rfl (isT_r5 ht1) ?_
    refine ev_seg 1 (k' := 170) (L' := [(0, .ref 67), (1, .ref t1), (3, .int x3), (5, .int z5)]) (st' := [.int z5, .ref (t1 + 5), .ref 67]) rfl ?_
    refine ev_ldI hr rfl (isT_a5 ht1) (fun v2 hr => ?_)
    refine ev_seg 1 (k' := 172) (L' := [(0, .ref 67), (1, .ref t1), (3, .int x3), (5, .int z5)]) (st' := [.long v2.toInt64, .ref 67]) rfl ?_
    refine ev_callV (q' := q_279) (x := 279) (y := 13) (c := 67) (As := [.long v2.toInt64]) (rest := []) hr rfl rfl rfl rfl rfl rfl rfl rfl rfl rfl rfl rfl (fun rv s3 hq => ev_kV hq (fun e9 hr => ?_))
    subst e9
    refine ev_st (st' := []) rfl ?_
    refine ev_seg 3 (k' := 176) (L' := [(0, .ref 67), (1, .ref t1), (3, .int x3), (5, .int z5)]) (st' := [.int z5, .ref t1, .ref 67]) rfl ?_
    refine ev_callV (q' := q_283) (x := 283) (y := 13) (c := 67) (As := [.ref t1, .int z5]) (rest := []) hr rfl rfl rfl rfl rfl rfl rfl rfl rfl rfl rfl rfl (fun rv s4 hq => ev_kV hq (fun e9 hr => ?_))
    subst e9
    refine ev_st (st' := []) rfl ?_
    refine ev_seg 3 (k' := 180) (L' := [(0, .ref 67), (1, .ref t1), (3, .int x3), (5, .int z5)]) (st' := [.ref t1, .ref t1, .ref 67]) rfl ?_
    refine ev_getR (c := t1) (v := t1 + 7) rfl (isT_sh ht1) rfl (isT_r7 ht1) ?_
    refine ev_seg 1 (k' := 182) (L' := [(0, .ref 67), (1, .ref t1), (3, .int x3), (5, .int z5)]) (st' := [.int z5, .ref (t1 + 7), .ref t1, .ref 67]) rfl ?_
    refine ev_ldI hr rfl (isT_a7 ht1) (fun v5 hr => ?_)
    refine ev_seg 1 (k' := 184) (L' := [(0, .ref 67), (1, .ref t1), (3, .int x3), (5, .int z5)]) (st' := [.ref t1, .int v5, .ref t1, .ref 67]) rfl ?_
    refine ev_getR (c := t1) (v := t1 + 15) rfl (isT_sh ht1) rfl (isT_r15 ht1) ?_
    refine ev_seg 1 (k' := 186) (L' := [(0, .ref 67), (1, .ref t1), (3, .int x3), (5, .int z5)]) (st' := [.ref t1, .ref (t1 + 15), .int v5, .ref t1, .ref 67]) rfl ?_
    refine ev_getR (c := t1) (v := t1 + 12) rfl (isT_sh ht1) rfl (isT_r12 ht1) ?_
    refine ev_seg 1 (k' := 188) (L' := [(0, .ref 67), (1, .ref t1), (3, .int x3), (5, .int z5)]) (st' := [.int x3, .ref (t1 + 12), .ref (t1 + 15), .int v5, .ref t1, .ref 67]) rfl ?_
    refine ev_ldI hr rfl (isT_a12 ht1) (fun v6 hr => ?_)
    refine ev_ldI hr rfl (isT_a15 ht1) (fun v7 hr => ?_)
    refine ev_callV (q' := q_282) (x := 282) (y := 13) (c := 67) (As := [.ref t1, .int v5, .int v7]) (rest := []) hr rfl rfl rfl rfl rfl rfl rfl rfl rfl rfl rfl rfl (fun rv s8 hq => ev_kV hq (fun e9 hr => ?_))
    subst e9
    refine ev_st (st' := []) rfl ?_
    refine ev_seg 1 (k' := 192) (L' := [(0, .ref 67), (1, .ref t1), (3, .int x3), (5, .int z5)]) (st' := [.ref t1]) rfl ?_
    refine ev_getR (c := t1) (v := t1 + 7) rfl (isT_sh ht1) rfl (isT_r7 ht1) ?_
    refine ev_seg 1 (k' := 194) (L' := [(0, .ref 67), (1, .ref t1), (3, .int x3), (5, .int z5)]) (st' := [.ref t1, .ref (t1 + 7)]) rfl ?_
    refine ev_getR (c := t1) (v := t1 + 7) rfl (isT_sh ht1) rfl (isT_r7 ht1) ?_
    refine ev_seg 1 (k' := 196) (L' := [(0, .ref 67), (1, .ref t1), (3, .int x3), (5, .int z5)]) (st' := [.int z5, .ref (t1 + 7), .ref (t1 + 7)]) rfl ?_
    refine ev_ldI hr rfl (isT_a7 ht1) (fun v9 hr => ?_)
    refine ev_ldI hr rfl (isT_a7 ht1) (fun v10 hr => ?_)
    refine ev_seg 2 (k' := 164) (L' := [(5, .int v10), (0, .ref 67), (1, .ref t1), (3, .int x3)]) (st' := []) rfl ?_
    refine ev_join (L' := [(0, .ref 67), (1, .ref t1), (3, .int x3), (5, .int v10)]) [1, 2, 3, 0] [5, 0, 1, 3] [0, 1, 3, 5] rfl rfl (by decide) (by decide) rfl ?_
    exact hr
set_option maxRecDepth 20000 in
theorem eMo_tellString (d : Nat) (t1 : Nat) (x2 : Int32) (s : aT) (ht1 : isT t1) : ∀ r, (fMo_tellString_2 (d + 1) t1 x2 0 s) = some r → fMo_tellString (d + 1) t1 x2 s = some r := by
  intro r hr
  show ev (d + 1) q_283 0 [(0, .ref 67), (1, .ref t1), (2, .int x2)] [] s = some r
  refine ev_seg 2 (k' := 2) (L' := [(3, .int 0), (0, .ref 67), (1, .ref t1), (2, .int x2)]) (st' := []) rfl ?_
  refine ev_join (L' := [(0, .ref 67), (1, .ref t1), (2, .int x2), (3, .int 0)]) [1, 2, 3, 0] [3, 0, 1, 2] [0, 1, 2, 3] rfl rfl (by decide) (by decide) rfl ?_
  exact hr
set_option maxRecDepth 20000 in
theorem eMo_tellString_2 (d : Nat) (t1 : Nat) (x2 : Int32) (z3 : Int32) (s : aT) (ht1 : isT t1) : ∀ r, (ldI 4200 s (t1 + 5) x2 (fun v1 => if v1 ≤ z3 then rV s else ldL 4200 s (t1 + 4) x2 (fun v2 => ldI 4200 s (t1 + 8) (v2.toInt32 + z3) (fun v3 => cG (fMo_tellByte d v3 s) (kV fun s4 => fMo_tellString_2 (d + 1) t1 x2 (z3 + 1) s4))))) = some r → fMo_tellString_2 (d + 1) t1 x2 z3 s = some r := by
  intro r hr
  show ev (d + 1) q_283 2 [(0, .ref 67), (1, .ref t1), (2, .int x2), (3, .int z3)] [] s = some r
  refine ev_seg 2 (k' := 4) (L' := [(0, .ref 67), (1, .ref t1), (2, .int x2), (3, .int z3)]) (st' := [.ref t1, .int z3]) rfl ?_
  refine ev_getR (c := t1) (v := t1 + 5) rfl (isT_sh ht1) rfl (isT_r5 ht1) ?_
  refine ev_seg 1 (k' := 6) (L' := [(0, .ref 67), (1, .ref t1), (2, .int x2), (3, .int z3)]) (st' := [.int x2, .ref (t1 + 5), .int z3]) rfl ?_
  refine ev_ldI hr rfl (isT_a5 ht1) (fun v1 hr => ?_)
  refine ev_br (P := v1 ≤ z3) (L' := [(0, .ref 67), (1, .ref t1), (2, .int x2), (3, .int z3)]) (st' := []) hr rfl rfl rfl (fun hr => ?_) (fun hr => ?_)
  · skip
    exact ev_vret hr rfl rfl
  · skip
    refine ev_seg 2 (k' := 10) (L' := [(0, .ref 67), (1, .ref t1), (2, .int x2), (3, .int z3)]) (st' := [.ref t1, .ref 67]) rfl ?_
    refine ev_getR (c := t1) (v := t1 + 8) rfl (isT_sh ht1) rfl (isT_r8 ht1) ?_
    refine ev_seg 1 (k' := 12) (L' := [(0, .ref 67), (1, .ref t1), (2, .int x2), (3, .int z3)]) (st' := [.ref t1, .ref (t1 + 8), .ref 67]) rfl ?_
    refine ev_getR (c := t1) (v := t1 + 4) rfl (isT_sh ht1) rfl (isT_r4 ht1) ?_
    refine ev_seg 1 (k' := 14) (L' := [(0, .ref 67), (1, .ref t1), (2, .int x2), (3, .int z3)]) (st' := [.int x2, .ref (t1 + 4), .ref (t1 + 8), .ref 67]) rfl ?_
    refine ev_ldL hr rfl (isT_a4 ht1) (fun v2 hr => ?_)
    refine ev_seg 3 (k' := 18) (L' := [(0, .ref 67), (1, .ref t1), (2, .int x2), (3, .int z3)]) (st' := [.int (v2.toInt32 + z3), .ref (t1 + 8), .ref 67]) rfl ?_
    refine ev_ldB hr rfl (isT_a8 ht1) (fun v3 hr => ?_)
    refine ev_callV (q' := q_275) (x := 275) (y := 13) (c := 67) (As := [.int v3]) (rest := []) hr rfl rfl rfl rfl rfl rfl rfl rfl rfl rfl rfl rfl (fun rv s4 hq => ev_kV hq (fun e9 hr => ?_))
    subst e9
    refine ev_st (st' := []) rfl ?_
    refine ev_seg 2 (k' := 2) (L' := [(3, .int (z3 + 1)), (0, .ref 67), (1, .ref t1), (2, .int x2)]) (st' := []) rfl ?_
    refine ev_join (L' := [(0, .ref 67), (1, .ref t1), (2, .int x2), (3, .int (z3 + 1))]) [1, 2, 3, 0] [3, 0, 1, 2] [0, 1, 2, 3] rfl rfl (by decide) (by decide) rfl ?_
    exact hr
set_option maxRecDepth 20000 in
theorem eMo_copy (d : Nat) (x1 : Int32) (x2 : Int32) (x3 : Int32) (s : aT) : ∀ r, (cG (fMo_isSubject d x1 s) (kI fun v2 s1 => if v2 = 0 then fMo_copy_14 (d + 1) x1 x2 x3 s1 else cG (fMo_isSubject d x2 s1) (kI fun v4 s3 => if v4 = 0 then fMo_copy_14 (d + 1) x1 x2 x3 s3 else if ¬ gI s3 67 11 = 0 then fMo_copy_16 (d + 1) x1 x2 x3 s3 else cG (fMo_isVersion d x2 x3 s3) (kI fun v6 s5 => if ¬ v6 = 0 then fMo_copy_16 (d + 1) x1 x2 x3 s5 else fMo_copy_14 (d + 1) x1 x2 x3 s5)))) = some r → fMo_copy (d + 1) x1 x2 x3 s = some r := by
  intro r hr
  show ev (d + 1) q_284 0 [(0, .ref 67), (1, .int x1), (2, .int x2), (3, .int x3)] [] s = some r
  refine ev_seg 1 (k' := 1) (L' := [(0, .ref 67), (1, .int x1), (2, .int x2), (3, .int x3)]) (st' := [.int x1]) rfl ?_
  refine ev_callS (q' := q_233) (x := 233) (vs := [.int x1]) (rest := []) hr rfl rfl rfl rfl rfl rfl rfl rfl rfl rfl (fun rv s1 hq => ev_kI hq (fun v2 e9 hr => ?_))
  subst e9
  refine ev_st (st' := [.int v2]) rfl ?_
  refine ev_br (P := v2 = 0) (L' := [(0, .ref 67), (1, .int x1), (2, .int x2), (3, .int x3)]) (st' := []) hr rfl rfl rfl (fun hr => ?_) (fun hr => ?_)
  · skip
    exact hr
  · skip
    refine ev_seg 1 (k' := 4) (L' := [(0, .ref 67), (1, .int x1), (2, .int x2), (3, .int x3)]) (st' := [.int x2]) rfl ?_
    refine ev_callS (q' := q_233) (x := 233) (vs := [.int x2]) (rest := []) hr rfl rfl rfl rfl rfl rfl rfl rfl rfl rfl (fun rv s3 hq => ev_kI hq (fun v4 e9 hr => ?_))
    subst e9
    refine ev_st (st' := [.int v4]) rfl ?_
    refine ev_br (P := v4 = 0) (L' := [(0, .ref 67), (1, .int x1), (2, .int x2), (3, .int x3)]) (st' := []) hr rfl rfl rfl (fun hr => ?_) (fun hr => ?_)
    · skip
      exact hr
    · skip
      refine ev_seg 2 (k' := 8) (L' := [(0, .ref 67), (1, .int x1), (2, .int x2), (3, .int x3)]) (st' := [.int (gI s3 67 11)]) rfl ?_
      refine ev_br (P := ¬ gI s3 67 11 = 0) (L' := [(0, .ref 67), (1, .int x1), (2, .int x2), (3, .int x3)]) (st' := []) hr rfl rfl rfl (fun hr => ?_) (fun hr => ?_)
      · skip
        exact hr
      · skip
        refine ev_seg 3 (k' := 12) (L' := [(0, .ref 67), (1, .int x1), (2, .int x2), (3, .int x3)]) (st' := [.int x3, .int x2, .ref 67]) rfl ?_
        refine ev_callV (q' := q_250) (x := 250) (y := 13) (c := 67) (As := [.int x2, .int x3]) (rest := []) hr rfl rfl rfl rfl rfl rfl rfl rfl rfl rfl rfl rfl (fun rv s5 hq => ev_kI hq (fun v6 e9 hr => ?_))
        subst e9
        refine ev_st (st' := [.int v6]) rfl ?_
        refine ev_br (P := ¬ v6 = 0) (L' := [(0, .ref 67), (1, .int x1), (2, .int x2), (3, .int x3)]) (st' := []) hr rfl rfl rfl (fun hr => ?_) (fun hr => ?_)
        · skip
          exact hr
        · skip
          exact hr
set_option maxRecDepth 20000 in
theorem eMo_copy_14 (d : Nat) (x1 : Int32) (x2 : Int32) (x3 : Int32) (s : aT) : ∀ r, (fMo_copy_17 (d + 1) x1 x2 x3 1 s) = some r → fMo_copy_14 (d + 1) x1 x2 x3 s = some r := by
  intro r hr
  show ev (d + 1) q_284 14 [(0, .ref 67), (1, .int x1), (2, .int x2), (3, .int x3)] [] s = some r
  refine ev_seg 2 (k' := 17) (L' := [(0, .ref 67), (1, .int x1), (2, .int x2), (3, .int x3)]) (st' := [.int 1]) rfl ?_
  exact hr
set_option maxRecDepth 20000 in
theorem eMo_copy_16 (d : Nat) (x1 : Int32) (x2 : Int32) (x3 : Int32) (s : aT) : ∀ r, (fMo_copy_17 (d + 1) x1 x2 x3 0 s) = some r → fMo_copy_16 (d + 1) x1 x2 x3 s = some r := by
  intro r hr
  show ev (d + 1) q_284 16 [(0, .ref 67), (1, .int x1), (2, .int x2), (3, .int x3)] [] s = some r
  refine ev_seg 1 (k' := 17) (L' := [(0, .ref 67), (1, .int x1), (2, .int x2), (3, .int x3)]) (st' := [.int 0]) rfl ?_
  exact hr
set_option maxRecDepth 20000 in
theorem eMo_copy_17 (d : Nat) (x1 : Int32) (x2 : Int32) (x3 : Int32) (u0 : Int32) (s : aT) : ∀ r, (cG (fMo_refused d u0 0 s) (kI fun v2 s1 => if v2 = 0 then if gI s1 67 11 = 0 then cG (fMo_rows d x1 s1) (kI fun v4 s3 => if ¬ v4 = 0 then cG (fMo_readVersion d 113 x2 x3 s3) (kV fun s5 => fMo_copy_48 (d + 1) x1 x2 x3 v4 0 0 s5) else rI (-34) s3) else rI (-33) s1 else rI 0 s1)) = some r → fMo_copy_17 (d + 1) x1 x2 x3 u0 s = some r := by
  intro r hr
  show ev (d + 1) q_284 17 [(0, .ref 67), (1, .int x1), (2, .int x2), (3, .int x3)] [.int u0] s = some r
  refine ev_seg 4 (k' := 21) (L' := [(4, .int u0), (0, .ref 67), (1, .int x1), (2, .int x2), (3, .int x3)]) (st' := [.int 0, .int u0, .ref 67]) rfl ?_
  refine ev_callV (q' := q_189) (x := 189) (y := 13) (c := 67) (As := [.int u0, .int 0]) (rest := []) hr rfl rfl rfl rfl rfl rfl rfl rfl rfl rfl rfl rfl (fun rv s1 hq => ev_kI hq (fun v2 e9 hr => ?_))
  subst e9
  refine ev_st (st' := [.int v2]) rfl ?_
  refine ev_br (P := v2 = 0) (L' := [(4, .int u0), (0, .ref 67), (1, .int x1), (2, .int x2), (3, .int x3)]) (st' := []) hr rfl rfl rfl (fun hr => ?_) (fun hr => ?_)
  · skip
    refine ev_seg 2 (k' := 27) (L' := [(4, .int u0), (0, .ref 67), (1, .int x1), (2, .int x2), (3, .int x3)]) (st' := [.int (gI s1 67 11)]) rfl ?_
    refine ev_br (P := gI s1 67 11 = 0) (L' := [(4, .int u0), (0, .ref 67), (1, .int x1), (2, .int x2), (3, .int x3)]) (st' := []) hr rfl rfl rfl (fun hr => ?_) (fun hr => ?_)
    · skip
      refine ev_seg 2 (k' := 32) (L' := [(4, .int u0), (0, .ref 67), (1, .int x1), (2, .int x2), (3, .int x3)]) (st' := [.int x1, .ref 67]) rfl ?_
      refine ev_callV (q' := q_271) (x := 271) (y := 13) (c := 67) (As := [.int x1]) (rest := []) hr rfl rfl rfl rfl rfl rfl rfl rfl rfl rfl rfl rfl (fun rv s3 hq => ev_kI hq (fun v4 e9 hr => ?_))
      subst e9
      refine ev_st (st' := [.int v4]) rfl ?_
      refine ev_seg 2 (k' := 35) (L' := [(5, .int v4), (4, .int u0), (0, .ref 67), (1, .int x1), (2, .int x2), (3, .int x3)]) (st' := [.int v4]) rfl ?_
      refine ev_br (P := ¬ v4 = 0) (L' := [(5, .int v4), (4, .int u0), (0, .ref 67), (1, .int x1), (2, .int x2), (3, .int x3)]) (st' := []) hr rfl rfl rfl (fun hr => ?_) (fun hr => ?_)
      · skip
        refine ev_seg 5 (k' := 43) (L' := [(5, .int v4), (4, .int u0), (0, .ref 67), (1, .int x1), (2, .int x2), (3, .int x3)]) (st' := [.int x3, .int x2, .ref 113, .ref 67]) rfl ?_
        refine ev_callV (q' := q_235) (x := 235) (y := 13) (c := 67) (As := [.ref 113, .int x2, .int x3]) (rest := []) hr rfl rfl rfl rfl rfl rfl rfl rfl rfl rfl rfl rfl (fun rv s5 hq => ev_kV hq (fun e9 hr => ?_))
        subst e9
        refine ev_st (st' := []) rfl ?_
        refine ev_seg 4 (k' := 48) (L' := [(7, .int 0), (6, .int 0), (5, .int v4), (4, .int u0), (0, .ref 67), (1, .int x1), (2, .int x2), (3, .int x3)]) (st' := []) rfl ?_
        refine ev_join (L' := [(0, .ref 67), (1, .int x1), (2, .int x2), (3, .int x3), (5, .int v4), (6, .int 0), (7, .int 0)]) [4, 5, 6, 7, 2, 1, 0] [7, 6, 5, 4, 0, 1, 2, 3] [0, 1, 2, 3, 5, 6, 7] rfl rfl (by decide) (by decide) rfl ?_
        exact hr
      · skip
        refine ev_seg 1 (k' := 37) (L' := [(5, .int v4), (4, .int u0), (0, .ref 67), (1, .int x1), (2, .int x2), (3, .int x3)]) (st' := [.int (-34)]) rfl ?_
        exact ev_iret hr rfl rfl rfl
    · skip
      refine ev_seg 1 (k' := 29) (L' := [(4, .int u0), (0, .ref 67), (1, .int x1), (2, .int x2), (3, .int x3)]) (st' := [.int (-33)]) rfl ?_
      exact ev_iret hr rfl rfl rfl
  · skip
    refine ev_seg 1 (k' := 24) (L' := [(4, .int u0), (0, .ref 67), (1, .int x1), (2, .int x2), (3, .int x3)]) (st' := [.int 0]) rfl ?_
    exact ev_iret hr rfl rfl rfl
set_option maxRecDepth 20000 in
theorem eMo_copy_48 (d : Nat) (x1 : Int32) (x2 : Int32) (x3 : Int32) (z5 : Int32) (z6 : Int32) (z7 : Int32) (s : aT) : ∀ r, (if gI s 67 13 ≤ z7 then if ¬ z6 = 0 then if 4096 < z6 then fMo_copy_144 (d + 1) x2 x3 z5 z6 s else cG (fMo_isFaulty d z6 s) (kI fun v2 s1 => if v2 = 0 then fMo_copy_144 (d + 1) x2 x3 z5 z6 s1 else rI (-31) s1) else rI (-34) s else ldI 41 s 137 z7 (fun v3 => if ¬ v3 = x1 then fMo_copy_129 (d + 1) x1 x2 x3 z5 z6 z7 s else ldI 41 s 141 z7 (fun v4 => if v4 < 0 then fMo_copy_129 (d + 1) x1 x2 x3 z5 z6 z7 s else ldI 41 s 138 z7 (fun v5 => cG (fMo_readVersion d 91 x1 v5 s) (kV fun s6 => ldI 41 s6 139 z7 (fun v7 => wI s6 67 31 (256 * v7) (fun s8 => fMo_copy_82 (d + 1) x1 x2 x3 z5 z6 z7 0 s8))))))) = some r → fMo_copy_48 (d + 1) x1 x2 x3 z5 z6 z7 s = some r := by
  intro r hr
  show ev (d + 1) q_284 48 [(0, .ref 67), (1, .int x1), (2, .int x2), (3, .int x3), (5, .int z5), (6, .int z6), (7, .int z7)] [] s = some r
  refine ev_seg 3 (k' := 51) (L' := [(0, .ref 67), (1, .int x1), (2, .int x2), (3, .int x3), (5, .int z5), (6, .int z6), (7, .int z7)]) (st' := [.int (gI s 67 13), .int z7]) rfl ?_
  refine ev_br (P := gI s 67 13 ≤ z7) (L' := [(0, .ref 67), (1, .int x1), (2, .int x2), (3, .int x3), (5, .int z5), (6, .int z6), (7, .int z7)]) (st' := []) hr rfl rfl rfl (fun hr => ?_) (fun hr => ?_)
  · skip
    refine ev_seg 1 (k' := 132) (L' := [(0, .ref 67), (1, .int x1), (2, .int x2), (3, .int x3), (5, .int z5), (6, .int z6), (7, .int z7)]) (st' := [.int z6]) rfl ?_
    refine ev_br (P := ¬ z6 = 0) (L' := [(0, .ref 67), (1, .int x1), (2, .int x2), (3, .int x3), (5, .int z5), (6, .int z6), (7, .int z7)]) (st' := []) hr rfl rfl rfl (fun hr => ?_) (fun hr => ?_)
    · skip
      refine ev_seg 2 (k' := 137) (L' := [(0, .ref 67), (1, .int x1), (2, .int x2), (3, .int x3), (5, .int z5), (6, .int z6), (7, .int z7)]) (st' := [.int 4096, .int z6]) rfl ?_
      refine ev_br (P := 4096 < z6) (L' := [(0, .ref 67), (1, .int x1), (2, .int x2), (3, .int x3), (5, .int z5), (6, .int z6), (7, .int z7)]) (st' := []) hr rfl rfl rfl (fun hr => ?_) (fun hr => ?_)
      · skip
        refine ev_join (L' := [(0, .ref 67), (2, .int x2), (3, .int x3), (5, .int z5), (6, .int z6)]) [0, 2, 3, 4, 5] [0, 1, 2, 3, 5, 6, 7] [0, 2, 3, 5, 6] rfl rfl (by decide) (by decide) rfl ?_
        exact hr
      · skip
        refine ev_seg 2 (k' := 140) (L' := [(0, .ref 67), (1, .int x1), (2, .int x2), (3, .int x3), (5, .int z5), (6, .int z6), (7, .int z7)]) (st' := [.int z6, .ref 67]) rfl ?_
        refine ev_callV (q' := q_285) (x := 285) (y := 13) (c := 67) (As := [.int z6]) (rest := []) hr rfl rfl rfl rfl rfl rfl rfl rfl rfl rfl rfl rfl (fun rv s1 hq => ev_kI hq (fun v2 e9 hr => ?_))
        subst e9
        refine ev_st (st' := [.int v2]) rfl ?_
        refine ev_br (P := v2 = 0) (L' := [(0, .ref 67), (1, .int x1), (2, .int x2), (3, .int x3), (5, .int z5), (6, .int z6), (7, .int z7)]) (st' := []) hr rfl rfl rfl (fun hr => ?_) (fun hr => ?_)
        · skip
          refine ev_join (L' := [(0, .ref 67), (2, .int x2), (3, .int x3), (5, .int z5), (6, .int z6)]) [0, 2, 3, 4, 5] [0, 1, 2, 3, 5, 6, 7] [0, 2, 3, 5, 6] rfl rfl (by decide) (by decide) rfl ?_
          exact hr
        · skip
          refine ev_seg 1 (k' := 143) (L' := [(0, .ref 67), (1, .int x1), (2, .int x2), (3, .int x3), (5, .int z5), (6, .int z6), (7, .int z7)]) (st' := [.int (-31)]) rfl ?_
          exact ev_iret hr rfl rfl rfl
    · skip
      refine ev_seg 1 (k' := 134) (L' := [(0, .ref 67), (1, .int x1), (2, .int x2), (3, .int x3), (5, .int z5), (6, .int z6), (7, .int z7)]) (st' := [.int (-34)]) rfl ?_
      exact ev_iret hr rfl rfl rfl
  · skip
    refine ev_seg 3 (k' := 55) (L' := [(0, .ref 67), (1, .int x1), (2, .int x2), (3, .int x3), (5, .int z5), (6, .int z6), (7, .int z7)]) (st' := [.int z7, .ref 137]) rfl ?_
    refine ev_ldI hr rfl rfl (fun v3 hr => ?_)
    refine ev_seg 1 (k' := 57) (L' := [(0, .ref 67), (1, .int x1), (2, .int x2), (3, .int x3), (5, .int z5), (6, .int z6), (7, .int z7)]) (st' := [.int x1, .int v3]) rfl ?_
    refine ev_br (P := ¬ v3 = x1) (L' := [(0, .ref 67), (1, .int x1), (2, .int x2), (3, .int x3), (5, .int z5), (6, .int z6), (7, .int z7)]) (st' := []) hr rfl rfl rfl (fun hr => ?_) (fun hr => ?_)
    · skip
      exact hr
    · skip
      refine ev_seg 3 (k' := 61) (L' := [(0, .ref 67), (1, .int x1), (2, .int x2), (3, .int x3), (5, .int z5), (6, .int z6), (7, .int z7)]) (st' := [.int z7, .ref 141]) rfl ?_
      refine ev_ldI hr rfl rfl (fun v4 hr => ?_)
      refine ev_br (P := v4 < 0) (L' := [(0, .ref 67), (1, .int x1), (2, .int x2), (3, .int x3), (5, .int z5), (6, .int z6), (7, .int z7)]) (st' := []) hr rfl rfl rfl (fun hr => ?_) (fun hr => ?_)
      · skip
        exact hr
      · skip
        refine ev_seg 7 (k' := 70) (L' := [(0, .ref 67), (1, .int x1), (2, .int x2), (3, .int x3), (5, .int z5), (6, .int z6), (7, .int z7)]) (st' := [.int z7, .ref 138, .int x1, .ref 91, .ref 67]) rfl ?_
        refine ev_ldI hr rfl rfl (fun v5 hr => ?_)
        refine ev_callV (q' := q_235) (x := 235) (y := 13) (c := 67) (As := [.ref 91, .int x1, .int v5]) (rest := []) hr rfl rfl rfl rfl rfl rfl rfl rfl rfl rfl rfl rfl (fun rv s6 hq => ev_kV hq (fun e9 hr => ?_))
        subst e9
        refine ev_st (st' := []) rfl ?_
        refine ev_seg 5 (k' := 77) (L' := [(0, .ref 67), (1, .int x1), (2, .int x2), (3, .int x3), (5, .int z5), (6, .int z6), (7, .int z7)]) (st' := [.int z7, .ref 139, .int 256, .ref 67]) rfl ?_
        refine ev_ldI hr rfl rfl (fun v7 hr => ?_)
        refine ev_seg 1 (k' := 79) (L' := [(0, .ref 67), (1, .int x1), (2, .int x2), (3, .int x3), (5, .int z5), (6, .int z6), (7, .int z7)]) (st' := [.int (256 * v7), .ref 67]) rfl ?_
        refine ev_putI (c := 67) hr rfl rfl rfl (fun s8 hr => ?_)
        refine ev_seg 2 (k' := 82) (L' := [(8, .int 0), (0, .ref 67), (1, .int x1), (2, .int x2), (3, .int x3), (5, .int z5), (6, .int z6), (7, .int z7)]) (st' := []) rfl ?_
        refine ev_join (L' := [(0, .ref 67), (1, .int x1), (2, .int x2), (3, .int x3), (5, .int z5), (6, .int z6), (7, .int z7), (8, .int 0)]) [1, 2, 3, 4, 5, 6, 7, 0] [8, 0, 1, 2, 3, 5, 6, 7] [0, 1, 2, 3, 5, 6, 7, 8] rfl rfl (by decide) (by decide) rfl ?_
        exact hr
set_option maxRecDepth 20000 in
theorem eMo_copy_144 (d : Nat) (x2 : Int32) (x3 : Int32) (z5 : Int32) (z6 : Int32) (s : aT) : ∀ r, (if z6 ≤ 4096 then cG (fMo_wanted d z5 z6 s) (kI fun v2 s1 => fMo_copy_155 (d + 1) z5 z6 v2 x3 x2 s1) else fMo_copy_155 (d + 1) z5 z6 4097 x3 x2 s) = some r → fMo_copy_144 (d + 1) x2 x3 z5 z6 s = some r := by
  intro r hr
  show ev (d + 1) q_284 144 [(0, .ref 67), (2, .int x2), (3, .int x3), (5, .int z5), (6, .int z6)] [] s = some r
  refine ev_seg 5 (k' := 149) (L' := [(0, .ref 67), (2, .int x2), (3, .int x3), (5, .int z5), (6, .int z6)]) (st' := [.int 4096, .int z6, .int x3, .int x2, .ref 67]) rfl ?_
  refine ev_br (P := z6 ≤ 4096) (L' := [(0, .ref 67), (2, .int x2), (3, .int x3), (5, .int z5), (6, .int z6)]) (st' := [.int x3, .int x2, .ref 67]) hr rfl rfl rfl (fun hr => ?_) (fun hr => ?_)
  · skip
    refine ev_seg 2 (k' := 154) (L' := [(0, .ref 67), (2, .int x2), (3, .int x3), (5, .int z5), (6, .int z6)]) (st' := [.int z6, .int z5, .int x3, .int x2, .ref 67]) rfl ?_
    refine ev_callS (q' := q_268) (x := 268) (vs := [.int z5, .int z6]) (rest := [.int x3, .int x2, .ref 67]) hr rfl rfl rfl rfl rfl rfl rfl rfl rfl rfl (fun rv s1 hq => ev_kI hq (fun v2 e9 hr => ?_))
    subst e9
    refine ev_st (st' := [.int v2, .int x3, .int x2, .ref 67]) rfl ?_
    refine ev_join (L' := [(0, .ref 67), (5, .int z5), (6, .int z6)]) [0, 3, 4] [0, 2, 3, 5, 6] [0, 5, 6] rfl rfl (by decide) (by decide) rfl ?_
    exact hr
  · skip
    refine ev_seg 2 (k' := 155) (L' := [(0, .ref 67), (2, .int x2), (3, .int x3), (5, .int z5), (6, .int z6)]) (st' := [.int 4097, .int x3, .int x2, .ref 67]) rfl ?_
    refine ev_join (L' := [(0, .ref 67), (5, .int z5), (6, .int z6)]) [0, 3, 4] [0, 2, 3, 5, 6] [0, 5, 6] rfl rfl (by decide) (by decide) rfl ?_
    exact hr
set_option maxRecDepth 20000 in
theorem eMo_copy_129 (d : Nat) (x1 : Int32) (x2 : Int32) (x3 : Int32) (z5 : Int32) (z6 : Int32) (z7 : Int32) (s : aT) : ∀ r, (fMo_copy_48 (d + 1) x1 x2 x3 z5 z6 (z7 + 1) s) = some r → fMo_copy_129 (d + 1) x1 x2 x3 z5 z6 z7 s = some r := by
  intro r hr
  show ev (d + 1) q_284 129 [(0, .ref 67), (1, .int x1), (2, .int x2), (3, .int x3), (5, .int z5), (6, .int z6), (7, .int z7)] [] s = some r
  refine ev_seg 2 (k' := 48) (L' := [(7, .int (z7 + 1)), (0, .ref 67), (1, .int x1), (2, .int x2), (3, .int x3), (5, .int z5), (6, .int z6)]) (st' := []) rfl ?_
  refine ev_join (L' := [(0, .ref 67), (1, .int x1), (2, .int x2), (3, .int x3), (5, .int z5), (6, .int z6), (7, .int (z7 + 1))]) [1, 2, 3, 4, 5, 6, 0] [7, 0, 1, 2, 3, 5, 6] [0, 1, 2, 3, 5, 6, 7] rfl rfl (by decide) (by decide) rfl ?_
  exact hr
set_option maxRecDepth 20000 in
theorem eMo_copy_82 (d : Nat) (x1 : Int32) (x2 : Int32) (x3 : Int32) (z5 : Int32) (z6 : Int32) (z7 : Int32) (z8 : Int32) (s : aT) : ∀ r, (ldI 41 s 141 z7 (fun v1 => if v1 ≤ z8 then fMo_copy_129 (d + 1) x1 x2 x3 z5 z6 z7 s else wI s 67 22 0 (fun s2 => cN (fMo_tellRow d 4096 s2) (kI fun v4 s3 => if 0 ≤ v4 then fMo_copy_101 (d + 1) x1 x2 x3 z5 z6 z7 z8 0 s3 else rI v4 s3)))) = some r → fMo_copy_82 (d + 1) x1 x2 x3 z5 z6 z7 z8 s = some r := by
  intro r hr
  show ev (d + 1) q_284 82 [(0, .ref 67), (1, .int x1), (2, .int x2), (3, .int x3), (5, .int z5), (6, .int z6), (7, .int z7), (8, .int z8)] [] s = some r
  refine ev_seg 4 (k' := 86) (L' := [(0, .ref 67), (1, .int x1), (2, .int x2), (3, .int x3), (5, .int z5), (6, .int z6), (7, .int z7), (8, .int z8)]) (st' := [.int z7, .ref 141, .int z8]) rfl ?_
  refine ev_ldI hr rfl rfl (fun v1 hr => ?_)
  refine ev_br (P := v1 ≤ z8) (L' := [(0, .ref 67), (1, .int x1), (2, .int x2), (3, .int x3), (5, .int z5), (6, .int z6), (7, .int z7), (8, .int z8)]) (st' := []) hr rfl rfl rfl (fun hr => ?_) (fun hr => ?_)
  · skip
    refine ev_join (L' := [(0, .ref 67), (1, .int x1), (2, .int x2), (3, .int x3), (5, .int z5), (6, .int z6), (7, .int z7)]) [0, 1, 2, 3, 4, 5, 6] [0, 1, 2, 3, 5, 6, 7, 8] [0, 1, 2, 3, 5, 6, 7] rfl rfl (by decide) (by decide) rfl ?_
    exact hr
  · skip
    refine ev_seg 2 (k' := 90) (L' := [(0, .ref 67), (1, .int x1), (2, .int x2), (3, .int x3), (5, .int z5), (6, .int z6), (7, .int z7), (8, .int z8)]) (st' := [.int 0, .ref 67]) rfl ?_
    refine ev_putI (c := 67) hr rfl rfl rfl (fun s2 hr => ?_)
    refine ev_seg 2 (k' := 93) (L' := [(0, .ref 67), (1, .int x1), (2, .int x2), (3, .int x3), (5, .int z5), (6, .int z6), (7, .int z7), (8, .int z8)]) (st' := [.int 4096, .ref 67]) rfl ?_
    refine ev_callN (q' := q_276) (x := 276) (y := 13) (c := 67) (As := [.int 4096]) (rest := []) hr rfl rfl rfl rfl rfl rfl rfl rfl rfl (fun rv s3 hq => ev_kI hq (fun v4 e9 hr => ?_))
    subst e9
    refine ev_st (st' := [.int v4]) rfl ?_
    refine ev_seg 2 (k' := 96) (L' := [(9, .int v4), (0, .ref 67), (1, .int x1), (2, .int x2), (3, .int x3), (5, .int z5), (6, .int z6), (7, .int z7), (8, .int z8)]) (st' := [.int v4]) rfl ?_
    refine ev_br (P := 0 ≤ v4) (L' := [(9, .int v4), (0, .ref 67), (1, .int x1), (2, .int x2), (3, .int x3), (5, .int z5), (6, .int z6), (7, .int z7), (8, .int z8)]) (st' := []) hr rfl rfl rfl (fun hr => ?_) (fun hr => ?_)
    · skip
      refine ev_seg 2 (k' := 101) (L' := [(10, .int 0), (9, .int v4), (0, .ref 67), (1, .int x1), (2, .int x2), (3, .int x3), (5, .int z5), (6, .int z6), (7, .int z7), (8, .int z8)]) (st' := []) rfl ?_
      refine ev_join (L' := [(0, .ref 67), (1, .int x1), (2, .int x2), (3, .int x3), (5, .int z5), (6, .int z6), (7, .int z7), (8, .int z8), (10, .int 0)]) [2, 3, 4, 5, 6, 7, 8, 9, 0] [10, 9, 0, 1, 2, 3, 5, 6, 7, 8] [0, 1, 2, 3, 5, 6, 7, 8, 10] rfl rfl (by decide) (by decide) rfl ?_
      exact hr
    · skip
      refine ev_seg 1 (k' := 98) (L' := [(9, .int v4), (0, .ref 67), (1, .int x1), (2, .int x2), (3, .int x3), (5, .int z5), (6, .int z6), (7, .int z7), (8, .int z8)]) (st' := [.int v4]) rfl ?_
      exact ev_iret hr rfl rfl rfl
set_option maxRecDepth 20000 in
theorem eMo_copy_155 (d : Nat) (z5 : Int32) (z6 : Int32) (u0 : Int32) (u1 : Int32) (u2 : Int32) (s : aT) : ∀ r, (if z6 ≤ 4096 then fMo_copy_162 (d + 1) z5 z6 z5 u0 u1 u2 s else fMo_copy_162 (d + 1) z5 0 z5 u0 u1 u2 s) = some r → fMo_copy_155 (d + 1) z5 z6 u0 u1 u2 s = some r := by
  intro r hr
  show ev (d + 1) q_284 155 [(0, .ref 67), (5, .int z5), (6, .int z6)] [.int u0, .int u1, .int u2, .ref 67] s = some r
  refine ev_seg 3 (k' := 158) (L' := [(0, .ref 67), (5, .int z5), (6, .int z6)]) (st' := [.int 4096, .int z6, .int z5, .int u0, .int u1, .int u2, .ref 67]) rfl ?_
  refine ev_br (P := z6 ≤ 4096) (L' := [(0, .ref 67), (5, .int z5), (6, .int z6)]) (st' := [.int z5, .int u0, .int u1, .int u2, .ref 67]) hr rfl rfl rfl (fun hr => ?_) (fun hr => ?_)
  · skip
    refine ev_seg 1 (k' := 162) (L' := [(0, .ref 67), (5, .int z5), (6, .int z6)]) (st' := [.int z6, .int z5, .int u0, .int u1, .int u2, .ref 67]) rfl ?_
    refine ev_join (L' := [(0, .ref 67), (5, .int z5)]) [0, 1] [0, 5, 6] [0, 5] rfl rfl (by decide) (by decide) rfl ?_
    exact hr
  · skip
    refine ev_seg 2 (k' := 162) (L' := [(0, .ref 67), (5, .int z5), (6, .int z6)]) (st' := [.int 0, .int z5, .int u0, .int u1, .int u2, .ref 67]) rfl ?_
    refine ev_join (L' := [(0, .ref 67), (5, .int z5)]) [0, 1] [0, 5, 6] [0, 5] rfl rfl (by decide) (by decide) rfl ?_
    exact hr
set_option maxRecDepth 20000 in
theorem eMo_copy_101 (d : Nat) (x1 : Int32) (x2 : Int32) (x3 : Int32) (z5 : Int32) (z6 : Int32) (z7 : Int32) (z8 : Int32) (z10 : Int32) (s : aT) : ∀ r, (if gI s 67 22 ≤ z10 then fMo_copy_122 (d + 1) x1 x2 x3 z5 z6 z7 z8 s else if 4200 ≤ z6 + z10 then fMo_copy_122 (d + 1) x1 x2 x3 z5 z6 z7 z8 s else ldI 4200 s 144 z10 (fun v1 => stI 4200 s 147 (z6 + z10) (vp_nar .byte v1) (fun s2 => fMo_copy_101 (d + 1) x1 x2 x3 z5 z6 z7 z8 (z10 + 1) s2))) = some r → fMo_copy_101 (d + 1) x1 x2 x3 z5 z6 z7 z8 z10 s = some r := by
  intro r hr
  show ev (d + 1) q_284 101 [(0, .ref 67), (1, .int x1), (2, .int x2), (3, .int x3), (5, .int z5), (6, .int z6), (7, .int z7), (8, .int z8), (10, .int z10)] [] s = some r
  refine ev_seg 3 (k' := 104) (L' := [(0, .ref 67), (1, .int x1), (2, .int x2), (3, .int x3), (5, .int z5), (6, .int z6), (7, .int z7), (8, .int z8), (10, .int z10)]) (st' := [.int (gI s 67 22), .int z10]) rfl ?_
  refine ev_br (P := gI s 67 22 ≤ z10) (L' := [(0, .ref 67), (1, .int x1), (2, .int x2), (3, .int x3), (5, .int z5), (6, .int z6), (7, .int z7), (8, .int z8), (10, .int z10)]) (st' := []) hr rfl rfl rfl (fun hr => ?_) (fun hr => ?_)
  · skip
    refine ev_join (L' := [(0, .ref 67), (1, .int x1), (2, .int x2), (3, .int x3), (5, .int z5), (6, .int z6), (7, .int z7), (8, .int z8)]) [0, 1, 2, 3, 4, 5, 6, 7] [0, 1, 2, 3, 5, 6, 7, 8, 10] [0, 1, 2, 3, 5, 6, 7, 8] rfl rfl (by decide) (by decide) rfl ?_
    exact hr
  · skip
    refine ev_seg 4 (k' := 109) (L' := [(0, .ref 67), (1, .int x1), (2, .int x2), (3, .int x3), (5, .int z5), (6, .int z6), (7, .int z7), (8, .int z8), (10, .int z10)]) (st' := [.int 4200, .int (z6 + z10)]) rfl ?_
    refine ev_br (P := 4200 ≤ z6 + z10) (L' := [(0, .ref 67), (1, .int x1), (2, .int x2), (3, .int x3), (5, .int z5), (6, .int z6), (7, .int z7), (8, .int z8), (10, .int z10)]) (st' := []) hr rfl rfl rfl (fun hr => ?_) (fun hr => ?_)
    · skip
      refine ev_join (L' := [(0, .ref 67), (1, .int x1), (2, .int x2), (3, .int x3), (5, .int z5), (6, .int z6), (7, .int z7), (8, .int z8)]) [0, 1, 2, 3, 4, 5, 6, 7] [0, 1, 2, 3, 5, 6, 7, 8, 10] [0, 1, 2, 3, 5, 6, 7, 8] rfl rfl (by decide) (by decide) rfl ?_
      exact hr
    · skip
      refine ev_seg 8 (k' := 118) (L' := [(0, .ref 67), (1, .int x1), (2, .int x2), (3, .int x3), (5, .int z5), (6, .int z6), (7, .int z7), (8, .int z8), (10, .int z10)]) (st' := [.int z10, .ref 144, .int (z6 + z10), .ref 147]) rfl ?_
      refine ev_ldB hr rfl rfl (fun v1 hr => ?_)
      refine ev_stB hr rfl rfl (fun s2 hr => ?_)
      refine ev_seg 2 (k' := 101) (L' := [(10, .int (z10 + 1)), (0, .ref 67), (1, .int x1), (2, .int x2), (3, .int x3), (5, .int z5), (6, .int z6), (7, .int z7), (8, .int z8)]) (st' := []) rfl ?_
      refine ev_join (L' := [(0, .ref 67), (1, .int x1), (2, .int x2), (3, .int x3), (5, .int z5), (6, .int z6), (7, .int z7), (8, .int z8), (10, .int (z10 + 1))]) [1, 2, 3, 4, 5, 6, 7, 8, 0] [10, 0, 1, 2, 3, 5, 6, 7, 8] [0, 1, 2, 3, 5, 6, 7, 8, 10] rfl rfl (by decide) (by decide) rfl ?_
      exact hr
set_option maxRecDepth 20000 in
theorem eMo_copy_162 (d : Nat) (z5 : Int32) (u0 : Int32) (u1 : Int32) (u2 : Int32) (u3 : Int32) (u4 : Int32) (s : aT) : ∀ r, (cG (fMo_write d u4 u3 u2 u1 u0 147 (gI s 67 13) 0 s) (kI fun v2 s1 => if 0 ≤ v2 then rI z5 s1 else rI v2 s1)) = some r → fMo_copy_162 (d + 1) z5 u0 u1 u2 u3 u4 s = some r := by
  intro r hr
  show ev (d + 1) q_284 162 [(0, .ref 67), (5, .int z5)] [.int u0, .int u1, .int u2, .int u3, .int u4, .ref 67] s = some r
  refine ev_seg 5 (k' := 167) (L' := [(0, .ref 67), (5, .int z5)]) (st' := [.int 0, .int (gI s 67 13), .ref 147, .int u0, .int u1, .int u2, .int u3, .int u4, .ref 67]) rfl ?_
  refine ev_callV (q' := q_245) (x := 245) (y := 13) (c := 67) (As := [.int u4, .int u3, .int u2, .int u1, .int u0, .ref 147, .int (gI s 67 13), .int 0]) (rest := []) hr rfl rfl rfl rfl rfl rfl rfl rfl rfl rfl rfl rfl (fun rv s1 hq => ev_kI hq (fun v2 e9 hr => ?_))
  subst e9
  refine ev_st (st' := [.int v2]) rfl ?_
  refine ev_seg 2 (k' := 170) (L' := [(7, .int v2), (0, .ref 67), (5, .int z5)]) (st' := [.int v2]) rfl ?_
  refine ev_br (P := 0 ≤ v2) (L' := [(7, .int v2), (0, .ref 67), (5, .int z5)]) (st' := []) hr rfl rfl rfl (fun hr => ?_) (fun hr => ?_)
  · skip
    refine ev_seg 1 (k' := 174) (L' := [(7, .int v2), (0, .ref 67), (5, .int z5)]) (st' := [.int z5]) rfl ?_
    exact ev_iret hr rfl rfl rfl
  · skip
    refine ev_seg 2 (k' := 174) (L' := [(7, .int v2), (0, .ref 67), (5, .int z5)]) (st' := [.int v2]) rfl ?_
    exact ev_iret hr rfl rfl rfl
set_option maxRecDepth 20000 in
theorem eMo_copy_122 (d : Nat) (x1 : Int32) (x2 : Int32) (x3 : Int32) (z5 : Int32) (z6 : Int32) (z7 : Int32) (z8 : Int32) (s : aT) : ∀ r, (fMo_copy_82 (d + 1) x1 x2 x3 z5 (z6 + (gI s 67 22)) z7 (z8 + 1) s) = some r → fMo_copy_122 (d + 1) x1 x2 x3 z5 z6 z7 z8 s = some r := by
  intro r hr
  show ev (d + 1) q_284 122 [(0, .ref 67), (1, .int x1), (2, .int x2), (3, .int x3), (5, .int z5), (6, .int z6), (7, .int z7), (8, .int z8)] [] s = some r
  refine ev_seg 7 (k' := 82) (L' := [(8, .int (z8 + 1)), (6, .int (z6 + (gI s 67 22))), (0, .ref 67), (1, .int x1), (2, .int x2), (3, .int x3), (5, .int z5), (7, .int z7)]) (st' := []) rfl ?_
  refine ev_join (L' := [(0, .ref 67), (1, .int x1), (2, .int x2), (3, .int x3), (5, .int z5), (6, .int (z6 + (gI s 67 22))), (7, .int z7), (8, .int (z8 + 1))]) [2, 3, 4, 5, 6, 1, 7, 0] [8, 6, 0, 1, 2, 3, 5, 7] [0, 1, 2, 3, 5, 6, 7, 8] rfl rfl (by decide) (by decide) rfl ?_
  exact hr
set_option maxRecDepth 20000 in
theorem eMo_isFaulty (d : Nat) (x1 : Int32) (s : aT) : ∀ r, (fMo_isFaulty_8 (d + 1) x1 (gI s 67 2) (gI s 67 3) 0 s) = some r → fMo_isFaulty (d + 1) x1 s = some r := by
  intro r hr
  show ev (d + 1) q_285 0 [(0, .ref 67), (1, .int x1)] [] s = some r
  refine ev_seg 8 (k' := 8) (L' := [(4, .int 0), (3, .int (gI s 67 3)), (2, .int (gI s 67 2)), (0, .ref 67), (1, .int x1)]) (st' := []) rfl ?_
  refine ev_join (L' := [(0, .ref 67), (1, .int x1), (2, .int (gI s 67 2)), (3, .int (gI s 67 3)), (4, .int 0)]) [3, 4, 2, 1, 0] [4, 3, 2, 0, 1] [0, 1, 2, 3, 4] rfl rfl (by decide) (by decide) rfl ?_
  exact hr
set_option maxRecDepth 20000 in
theorem eMo_isFaulty_8 (d : Nat) (x1 : Int32) (z2 : Int32) (z3 : Int32) (z4 : Int32) (s : aT) : ∀ r, (if z2 ≤ z4 then fMo_isFaulty_23 (d + 1) x1 z2 z3 0 s else ldI 4096 s 68 z4 (fun v1 => stI 4200 s 148 z4 (vp_nar .byte v1) (fun s2 => fMo_isFaulty_8 (d + 1) x1 z2 z3 (z4 + 1) s2))) = some r → fMo_isFaulty_8 (d + 1) x1 z2 z3 z4 s = some r := by
  intro r hr
  show ev (d + 1) q_285 8 [(0, .ref 67), (1, .int x1), (2, .int z2), (3, .int z3), (4, .int z4)] [] s = some r
  refine ev_seg 2 (k' := 10) (L' := [(0, .ref 67), (1, .int x1), (2, .int z2), (3, .int z3), (4, .int z4)]) (st' := [.int z2, .int z4]) rfl ?_
  refine ev_br (P := z2 ≤ z4) (L' := [(0, .ref 67), (1, .int x1), (2, .int z2), (3, .int z3), (4, .int z4)]) (st' := []) hr rfl rfl rfl (fun hr => ?_) (fun hr => ?_)
  · skip
    refine ev_seg 2 (k' := 23) (L' := [(4, .int 0), (0, .ref 67), (1, .int x1), (2, .int z2), (3, .int z3)]) (st' := []) rfl ?_
    refine ev_join (L' := [(0, .ref 67), (1, .int x1), (2, .int z2), (3, .int z3), (4, .int 0)]) [1, 2, 3, 4, 0] [4, 0, 1, 2, 3] [0, 1, 2, 3, 4] rfl rfl (by decide) (by decide) rfl ?_
    exact hr
  · skip
    refine ev_seg 6 (k' := 17) (L' := [(0, .ref 67), (1, .int x1), (2, .int z2), (3, .int z3), (4, .int z4)]) (st' := [.int z4, .ref 68, .int z4, .ref 148]) rfl ?_
    refine ev_ldB hr rfl rfl (fun v1 hr => ?_)
    refine ev_stB hr rfl rfl (fun s2 hr => ?_)
    refine ev_seg 2 (k' := 8) (L' := [(4, .int (z4 + 1)), (0, .ref 67), (1, .int x1), (2, .int z2), (3, .int z3)]) (st' := []) rfl ?_
    refine ev_join (L' := [(0, .ref 67), (1, .int x1), (2, .int z2), (3, .int z3), (4, .int (z4 + 1))]) [1, 2, 3, 4, 0] [4, 0, 1, 2, 3] [0, 1, 2, 3, 4] rfl rfl (by decide) (by decide) rfl ?_
    exact hr
set_option maxRecDepth 20000 in
theorem eMo_isFaulty_23 (d : Nat) (x1 : Int32) (z2 : Int32) (z3 : Int32) (z4 : Int32) (s : aT) : ∀ r, (if x1 ≤ z4 then wI s 67 2 x1 (fun s1 => cN (fMo_lookAtRows d 113 0 s1) (kI fun v3 s2 => if 0 ≤ v3 then fMo_isFaulty_48 (d + 1) z2 z3 0 s2 else fMo_isFaulty_48 (d + 1) z2 z3 1 s2)) else ldI 4200 s 147 z4 (fun v4 => stI 4096 s 68 z4 (vp_nar .byte v4) (fun s5 => fMo_isFaulty_23 (d + 1) x1 z2 z3 (z4 + 1) s5))) = some r → fMo_isFaulty_23 (d + 1) x1 z2 z3 z4 s = some r := by
  intro r hr
  show ev (d + 1) q_285 23 [(0, .ref 67), (1, .int x1), (2, .int z2), (3, .int z3), (4, .int z4)] [] s = some r
  refine ev_seg 2 (k' := 25) (L' := [(0, .ref 67), (1, .int x1), (2, .int z2), (3, .int z3), (4, .int z4)]) (st' := [.int x1, .int z4]) rfl ?_
  refine ev_br (P := x1 ≤ z4) (L' := [(0, .ref 67), (1, .int x1), (2, .int z2), (3, .int z3), (4, .int z4)]) (st' := []) hr rfl rfl rfl (fun hr => ?_) (fun hr => ?_)
  · skip
    refine ev_seg 2 (k' := 38) (L' := [(0, .ref 67), (1, .int x1), (2, .int z2), (3, .int z3), (4, .int z4)]) (st' := [.int x1, .ref 67]) rfl ?_
    refine ev_putI (c := 67) hr rfl rfl rfl (fun s1 hr => ?_)
    refine ev_seg 4 (k' := 43) (L' := [(0, .ref 67), (1, .int x1), (2, .int z2), (3, .int z3), (4, .int z4)]) (st' := [.int 0, .ref 113, .ref 67]) rfl ?_
    refine ev_callN (q' := q_251) (x := 251) (y := 13) (c := 67) (As := [.ref 113, .int 0]) (rest := []) hr rfl rfl rfl rfl rfl rfl rfl rfl rfl (fun rv s2 hq => ev_kI hq (fun v3 e9 hr => ?_))
    subst e9
    refine ev_st (st' := [.int v3]) rfl ?_
    refine ev_br (P := 0 ≤ v3) (L' := [(0, .ref 67), (1, .int x1), (2, .int z2), (3, .int z3), (4, .int z4)]) (st' := []) hr rfl rfl rfl (fun hr => ?_) (fun hr => ?_)
    · skip
      refine ev_seg 1 (k' := 48) (L' := [(0, .ref 67), (1, .int x1), (2, .int z2), (3, .int z3), (4, .int z4)]) (st' := [.int 0]) rfl ?_
      refine ev_join (L' := [(0, .ref 67), (2, .int z2), (3, .int z3)]) [0, 2, 3] [0, 1, 2, 3, 4] [0, 2, 3] rfl rfl (by decide) (by decide) rfl ?_
      exact hr
    · skip
      refine ev_seg 2 (k' := 48) (L' := [(0, .ref 67), (1, .int x1), (2, .int z2), (3, .int z3), (4, .int z4)]) (st' := [.int 1]) rfl ?_
      refine ev_join (L' := [(0, .ref 67), (2, .int z2), (3, .int z3)]) [0, 2, 3] [0, 1, 2, 3, 4] [0, 2, 3] rfl rfl (by decide) (by decide) rfl ?_
      exact hr
  · skip
    refine ev_seg 6 (k' := 32) (L' := [(0, .ref 67), (1, .int x1), (2, .int z2), (3, .int z3), (4, .int z4)]) (st' := [.int z4, .ref 147, .int z4, .ref 68]) rfl ?_
    refine ev_ldB hr rfl rfl (fun v4 hr => ?_)
    refine ev_stB hr rfl rfl (fun s5 hr => ?_)
    refine ev_seg 2 (k' := 23) (L' := [(4, .int (z4 + 1)), (0, .ref 67), (1, .int x1), (2, .int z2), (3, .int z3)]) (st' := []) rfl ?_
    refine ev_join (L' := [(0, .ref 67), (1, .int x1), (2, .int z2), (3, .int z3), (4, .int (z4 + 1))]) [1, 2, 3, 4, 0] [4, 0, 1, 2, 3] [0, 1, 2, 3, 4] rfl rfl (by decide) (by decide) rfl ?_
    exact hr
set_option maxRecDepth 20000 in
theorem eMo_isFaulty_48 (d : Nat) (z2 : Int32) (z3 : Int32) (u0 : Int32) (s : aT) : ∀ r, (wI s 67 2 z2 (fun s1 => wI s1 67 3 z3 (fun s2 => fMo_isFaulty_57 (d + 1) z2 u0 0 s2))) = some r → fMo_isFaulty_48 (d + 1) z2 z3 u0 s = some r := by
  intro r hr
  show ev (d + 1) q_285 48 [(0, .ref 67), (2, .int z2), (3, .int z3)] [.int u0] s = some r
  refine ev_seg 3 (k' := 51) (L' := [(4, .int u0), (0, .ref 67), (2, .int z2), (3, .int z3)]) (st' := [.int z2, .ref 67]) rfl ?_
  refine ev_putI (c := 67) hr rfl rfl rfl (fun s1 hr => ?_)
  refine ev_seg 2 (k' := 54) (L' := [(4, .int u0), (0, .ref 67), (2, .int z2), (3, .int z3)]) (st' := [.int z3, .ref 67]) rfl ?_
  refine ev_putI (c := 67) hr rfl rfl rfl (fun s2 hr => ?_)
  refine ev_seg 2 (k' := 57) (L' := [(5, .int 0), (4, .int u0), (0, .ref 67), (2, .int z2), (3, .int z3)]) (st' := []) rfl ?_
  refine ev_join (L' := [(0, .ref 67), (2, .int z2), (4, .int u0), (5, .int 0)]) [2, 3, 1, 0] [5, 4, 0, 2, 3] [0, 2, 4, 5] rfl rfl (by decide) (by decide) rfl ?_
  exact hr
set_option maxRecDepth 20000 in
theorem eMo_isFaulty_57 (d : Nat) (z2 : Int32) (z4 : Int32) (z5 : Int32) (s : aT) : ∀ r, (if z2 ≤ z5 then rZ z4 s else ldI 4200 s 148 z5 (fun v1 => stI 4096 s 68 z5 (vp_nar .byte v1) (fun s2 => fMo_isFaulty_57 (d + 1) z2 z4 (z5 + 1) s2))) = some r → fMo_isFaulty_57 (d + 1) z2 z4 z5 s = some r := by
  intro r hr
  show ev (d + 1) q_285 57 [(0, .ref 67), (2, .int z2), (4, .int z4), (5, .int z5)] [] s = some r
  refine ev_seg 2 (k' := 59) (L' := [(0, .ref 67), (2, .int z2), (4, .int z4), (5, .int z5)]) (st' := [.int z2, .int z5]) rfl ?_
  refine ev_br (P := z2 ≤ z5) (L' := [(0, .ref 67), (2, .int z2), (4, .int z4), (5, .int z5)]) (st' := []) hr rfl rfl rfl (fun hr => ?_) (fun hr => ?_)
  · skip
    refine ev_seg 1 (k' := 71) (L' := [(0, .ref 67), (2, .int z2), (4, .int z4), (5, .int z5)]) (st' := [.int z4]) rfl ?_
    exact ev_zret hr rfl rfl
  · skip
    refine ev_seg 6 (k' := 66) (L' := [(0, .ref 67), (2, .int z2), (4, .int z4), (5, .int z5)]) (st' := [.int z5, .ref 148, .int z5, .ref 68]) rfl ?_
    refine ev_ldB hr rfl rfl (fun v1 hr => ?_)
    refine ev_stB hr rfl rfl (fun s2 hr => ?_)
    refine ev_seg 2 (k' := 57) (L' := [(5, .int (z5 + 1)), (0, .ref 67), (2, .int z2), (4, .int z4)]) (st' := []) rfl ?_
    refine ev_join (L' := [(0, .ref 67), (2, .int z2), (4, .int z4), (5, .int (z5 + 1))]) [1, 2, 3, 0] [5, 0, 2, 4] [0, 2, 4, 5] rfl rfl (by decide) (by decide) rfl ?_
    exact hr
set_option maxRecDepth 20000 in
theorem eMo_compact (d : Nat) (x1 : Int32) (s : aT) : ∀ r, (cG (fMo_isSubject d x1 s) (kI fun v2 s1 => if ¬ v2 = 0 then fMo_compact_7 (d + 1) x1 0 s1 else fMo_compact_7 (d + 1) x1 1 s1)) = some r → fMo_compact (d + 1) x1 s = some r := by
  intro r hr
  show ev (d + 1) q_286 0 [(0, .ref 67), (1, .int x1)] [] s = some r
  refine ev_seg 2 (k' := 2) (L' := [(0, .ref 67), (1, .int x1)]) (st' := [.int x1, .ref 67]) rfl ?_
  refine ev_callS (q' := q_233) (x := 233) (vs := [.int x1]) (rest := [.ref 67]) hr rfl rfl rfl rfl rfl rfl rfl rfl rfl rfl (fun rv s1 hq => ev_kI hq (fun v2 e9 hr => ?_))
  subst e9
  refine ev_st (st' := [.int v2, .ref 67]) rfl ?_
  refine ev_br (P := ¬ v2 = 0) (L' := [(0, .ref 67), (1, .int x1)]) (st' := [.ref 67]) hr rfl rfl rfl (fun hr => ?_) (fun hr => ?_)
  · skip
    refine ev_seg 1 (k' := 7) (L' := [(0, .ref 67), (1, .int x1)]) (st' := [.int 0, .ref 67]) rfl ?_
    exact hr
  · skip
    refine ev_seg 2 (k' := 7) (L' := [(0, .ref 67), (1, .int x1)]) (st' := [.int 1, .ref 67]) rfl ?_
    exact hr
set_option maxRecDepth 20000 in
theorem eMo_compact_7 (d : Nat) (x1 : Int32) (u0 : Int32) (s : aT) : ∀ r, (cG (fMo_refused d u0 0 s) (kI fun v2 s1 => if v2 = 0 then if gI s1 67 11 = 0 then fMo_compact_21 (d + 1) x1 (-1) 0 s1 else rI (-33) s1 else rI 0 s1)) = some r → fMo_compact_7 (d + 1) x1 u0 s = some r := by
  intro r hr
  show ev (d + 1) q_286 7 [(0, .ref 67), (1, .int x1)] [.int u0, .ref 67] s = some r
  refine ev_seg 1 (k' := 8) (L' := [(0, .ref 67), (1, .int x1)]) (st' := [.int 0, .int u0, .ref 67]) rfl ?_
  refine ev_callV (q' := q_189) (x := 189) (y := 13) (c := 67) (As := [.int u0, .int 0]) (rest := []) hr rfl rfl rfl rfl rfl rfl rfl rfl rfl rfl rfl rfl (fun rv s1 hq => ev_kI hq (fun v2 e9 hr => ?_))
  subst e9
  refine ev_st (st' := [.int v2]) rfl ?_
  refine ev_br (P := v2 = 0) (L' := [(0, .ref 67), (1, .int x1)]) (st' := []) hr rfl rfl rfl (fun hr => ?_) (fun hr => ?_)
  · skip
    refine ev_seg 2 (k' := 14) (L' := [(0, .ref 67), (1, .int x1)]) (st' := [.int (gI s1 67 11)]) rfl ?_
    refine ev_br (P := gI s1 67 11 = 0) (L' := [(0, .ref 67), (1, .int x1)]) (st' := []) hr rfl rfl rfl (fun hr => ?_) (fun hr => ?_)
    · skip
      refine ev_seg 4 (k' := 21) (L' := [(3, .int 0), (2, .int (-1)), (0, .ref 67), (1, .int x1)]) (st' := []) rfl ?_
      refine ev_join (L' := [(0, .ref 67), (1, .int x1), (2, .int (-1)), (3, .int 0)]) [2, 3, 1, 0] [3, 2, 0, 1] [0, 1, 2, 3] rfl rfl (by decide) (by decide) rfl ?_
      exact hr
    · skip
      refine ev_seg 1 (k' := 16) (L' := [(0, .ref 67), (1, .int x1)]) (st' := [.int (-33)]) rfl ?_
      exact ev_iret hr rfl rfl rfl
  · skip
    refine ev_seg 1 (k' := 11) (L' := [(0, .ref 67), (1, .int x1)]) (st' := [.int 0]) rfl ?_
    exact ev_iret hr rfl rfl rfl
set_option maxRecDepth 20000 in
theorem eMo_compact_21 (d : Nat) (x1 : Int32) (z2 : Int32) (z3 : Int32) (s : aT) : ∀ r, (if gI s 67 13 ≤ z3 then rI 0 s else ldI 41 s 137 z3 (fun v1 => if ¬ v1 = x1 then fMo_compact_84 (d + 1) x1 z2 z3 s else ldI 41 s 141 z3 (fun v2 => if v2 < 0 then fMo_compact_84 (d + 1) x1 z2 z3 s else if z2 < 0 then fMo_compact_82 (d + 1) x1 z3 s else ldI 41 s 138 z2 (fun v3 => ldI 41 s 138 z3 (fun v4 => cG (fMo_areSame d x1 v3 v4 s) (kI fun v6 s5 => if v6 = 0 then fMo_compact_82 (d + 1) x1 z3 s5 else ldI 41 s5 142 z2 (fun v7 => ldI 41 s5 142 z3 (fun v8 => ldI 41 s5 141 z2 (fun v9 => ldI 41 s5 141 z3 (fun v10 => cG (fMo_wanted d (v9 + v10) (v7 + v8) s5) (kI fun v12 s11 => if 4096 < v12 then fMo_compact_82 (d + 1) x1 z3 s11 else cG (fMo_join d z2 z3 (v7 + v8) v12 s11) (kI fun v14 s13 => rI v14 s13)))))))))))) = some r → fMo_compact_21 (d + 1) x1 z2 z3 s = some r := by
  intro r hr
  show ev (d + 1) q_286 21 [(0, .ref 67), (1, .int x1), (2, .int z2), (3, .int z3)] [] s = some r
  refine ev_seg 3 (k' := 24) (L' := [(0, .ref 67), (1, .int x1), (2, .int z2), (3, .int z3)]) (st' := [.int (gI s 67 13), .int z3]) rfl ?_
  refine ev_br (P := gI s 67 13 ≤ z3) (L' := [(0, .ref 67), (1, .int x1), (2, .int z2), (3, .int z3)]) (st' := []) hr rfl rfl rfl (fun hr => ?_) (fun hr => ?_)
  · skip
    refine ev_seg 1 (k' := 87) (L' := [(0, .ref 67), (1, .int x1), (2, .int z2), (3, .int z3)]) (st' := [.int 0]) rfl ?_
    exact ev_iret hr rfl rfl rfl
  · skip
    refine ev_seg 3 (k' := 28) (L' := [(0, .ref 67), (1, .int x1), (2, .int z2), (3, .int z3)]) (st' := [.int z3, .ref 137]) rfl ?_
    refine ev_ldI hr rfl rfl (fun v1 hr => ?_)
    refine ev_seg 1 (k' := 30) (L' := [(0, .ref 67), (1, .int x1), (2, .int z2), (3, .int z3)]) (st' := [.int x1, .int v1]) rfl ?_
    refine ev_br (P := ¬ v1 = x1) (L' := [(0, .ref 67), (1, .int x1), (2, .int z2), (3, .int z3)]) (st' := []) hr rfl rfl rfl (fun hr => ?_) (fun hr => ?_)
    · skip
      exact hr
    · skip
      refine ev_seg 3 (k' := 34) (L' := [(0, .ref 67), (1, .int x1), (2, .int z2), (3, .int z3)]) (st' := [.int z3, .ref 141]) rfl ?_
      refine ev_ldI hr rfl rfl (fun v2 hr => ?_)
      refine ev_br (P := v2 < 0) (L' := [(0, .ref 67), (1, .int x1), (2, .int z2), (3, .int z3)]) (st' := []) hr rfl rfl rfl (fun hr => ?_) (fun hr => ?_)
      · skip
        exact hr
      · skip
        refine ev_seg 1 (k' := 37) (L' := [(0, .ref 67), (1, .int x1), (2, .int z2), (3, .int z3)]) (st' := [.int z2]) rfl ?_
        refine ev_br (P := z2 < 0) (L' := [(0, .ref 67), (1, .int x1), (2, .int z2), (3, .int z3)]) (st' := []) hr rfl rfl rfl (fun hr => ?_) (fun hr => ?_)
        · skip
          refine ev_join (L' := [(0, .ref 67), (1, .int x1), (3, .int z3)]) [0, 1, 3] [0, 1, 2, 3] [0, 1, 3] rfl rfl (by decide) (by decide) rfl ?_
          exact hr
        · skip
          refine ev_seg 5 (k' := 43) (L' := [(0, .ref 67), (1, .int x1), (2, .int z2), (3, .int z3)]) (st' := [.int z2, .ref 138, .int x1, .ref 67]) rfl ?_
          refine ev_ldI hr rfl rfl (fun v3 hr => ?_)
          refine ev_seg 3 (k' := 47) (L' := [(0, .ref 67), (1, .int x1), (2, .int z2), (3, .int z3)]) (st' := [.int z3, .ref 138, .int v3, .int x1, .ref 67]) rfl ?_
          refine ev_ldI hr rfl rfl (fun v4 hr => ?_)
          refine ev_callV (q' := q_287) (x := 287) (y := 13) (c := 67) (As := [.int x1, .int v3, .int v4]) (rest := []) hr rfl rfl rfl rfl rfl rfl rfl rfl rfl rfl rfl rfl (fun rv s5 hq => ev_kI hq (fun v6 e9 hr => ?_))
          subst e9
          refine ev_st (st' := [.int v6]) rfl ?_
          refine ev_br (P := v6 = 0) (L' := [(0, .ref 67), (1, .int x1), (2, .int z2), (3, .int z3)]) (st' := []) hr rfl rfl rfl (fun hr => ?_) (fun hr => ?_)
          · skip
            refine ev_join (L' := [(0, .ref 67), (1, .int x1), (3, .int z3)]) [0, 1, 3] [0, 1, 2, 3] [0, 1, 3] rfl rfl (by decide) (by decide) rfl ?_
            exact hr
          · skip
            refine ev_seg 3 (k' := 53) (L' := [(0, .ref 67), (1, .int x1), (2, .int z2), (3, .int z3)]) (st' := [.int z2, .ref 142]) rfl ?_
            refine ev_ldI hr rfl rfl (fun v7 hr => ?_)
            refine ev_seg 3 (k' := 57) (L' := [(0, .ref 67), (1, .int x1), (2, .int z2), (3, .int z3)]) (st' := [.int z3, .ref 142, .int v7]) rfl ?_
            refine ev_ldI hr rfl rfl (fun v8 hr => ?_)
            refine ev_seg 5 (k' := 63) (L' := [(4, .int (v7 + v8)), (0, .ref 67), (1, .int x1), (2, .int z2), (3, .int z3)]) (st' := [.int z2, .ref 141]) rfl ?_
            refine ev_ldI hr rfl rfl (fun v9 hr => ?_)
            refine ev_seg 3 (k' := 67) (L' := [(4, .int (v7 + v8)), (0, .ref 67), (1, .int x1), (2, .int z2), (3, .int z3)]) (st' := [.int z3, .ref 141, .int v9]) rfl ?_
            refine ev_ldI hr rfl rfl (fun v10 hr => ?_)
            refine ev_seg 2 (k' := 70) (L' := [(4, .int (v7 + v8)), (0, .ref 67), (1, .int x1), (2, .int z2), (3, .int z3)]) (st' := [.int (v7 + v8), .int (v9 + v10)]) rfl ?_
            refine ev_callS (q' := q_268) (x := 268) (vs := [.int (v9 + v10), .int (v7 + v8)]) (rest := []) hr rfl rfl rfl rfl rfl rfl rfl rfl rfl rfl (fun rv s11 hq => ev_kI hq (fun v12 e9 hr => ?_))
            subst e9
            refine ev_st (st' := [.int v12]) rfl ?_
            refine ev_seg 3 (k' := 74) (L' := [(5, .int v12), (4, .int (v7 + v8)), (0, .ref 67), (1, .int x1), (2, .int z2), (3, .int z3)]) (st' := [.int 4096, .int v12]) rfl ?_
            refine ev_br (P := 4096 < v12) (L' := [(5, .int v12), (4, .int (v7 + v8)), (0, .ref 67), (1, .int x1), (2, .int z2), (3, .int z3)]) (st' := []) hr rfl rfl rfl (fun hr => ?_) (fun hr => ?_)
            · skip
              refine ev_join (L' := [(0, .ref 67), (1, .int x1), (3, .int z3)]) [2, 3, 5] [5, 4, 0, 1, 2, 3] [0, 1, 3] rfl rfl (by decide) (by decide) rfl ?_
              exact hr
            · skip
              refine ev_seg 5 (k' := 80) (L' := [(5, .int v12), (4, .int (v7 + v8)), (0, .ref 67), (1, .int x1), (2, .int z2), (3, .int z3)]) (st' := [.int v12, .int (v7 + v8), .int z3, .int z2, .ref 67]) rfl ?_
              refine ev_callV (q' := q_288) (x := 288) (y := 13) (c := 67) (As := [.int z2, .int z3, .int (v7 + v8), .int v12]) (rest := []) hr rfl rfl rfl rfl rfl rfl rfl rfl rfl rfl rfl rfl (fun rv s13 hq => ev_kI hq (fun v14 e9 hr => ?_))
              subst e9
              refine ev_st (st' := [.int v14]) rfl ?_
              exact ev_iret hr rfl rfl rfl
set_option maxRecDepth 20000 in
theorem eMo_compact_84 (d : Nat) (x1 : Int32) (z2 : Int32) (z3 : Int32) (s : aT) : ∀ r, (fMo_compact_21 (d + 1) x1 z2 (z3 + 1) s) = some r → fMo_compact_84 (d + 1) x1 z2 z3 s = some r := by
  intro r hr
  show ev (d + 1) q_286 84 [(0, .ref 67), (1, .int x1), (2, .int z2), (3, .int z3)] [] s = some r
  refine ev_seg 2 (k' := 21) (L' := [(3, .int (z3 + 1)), (0, .ref 67), (1, .int x1), (2, .int z2)]) (st' := []) rfl ?_
  refine ev_join (L' := [(0, .ref 67), (1, .int x1), (2, .int z2), (3, .int (z3 + 1))]) [1, 2, 3, 0] [3, 0, 1, 2] [0, 1, 2, 3] rfl rfl (by decide) (by decide) rfl ?_
  exact hr
set_option maxRecDepth 20000 in
theorem eMo_compact_82 (d : Nat) (x1 : Int32) (z3 : Int32) (s : aT) : ∀ r, (fMo_compact_84 (d + 1) x1 z3 z3 s) = some r → fMo_compact_82 (d + 1) x1 z3 s = some r := by
  intro r hr
  show ev (d + 1) q_286 82 [(0, .ref 67), (1, .int x1), (3, .int z3)] [] s = some r
  refine ev_seg 2 (k' := 84) (L' := [(2, .int z3), (0, .ref 67), (1, .int x1), (3, .int z3)]) (st' := []) rfl ?_
  refine ev_join (L' := [(0, .ref 67), (1, .int x1), (2, .int z3), (3, .int z3)]) [1, 2, 0, 3] [2, 0, 1, 3] [0, 1, 2, 3] rfl rfl (by decide) (by decide) rfl ?_
  exact hr
set_option maxRecDepth 20000 in
theorem eMo_areSame (d : Nat) (x1 : Int32) (x2 : Int32) (x3 : Int32) (s : aT) : ∀ r, (cG (fMo_readVersion d 91 x1 x2 s) (kV fun s1 => cG (fMo_readVersion d 113 x1 x3 s1) (kV fun s2 => if ¬ gI s2 91 33 = gI s2 113 33 then fMo_areSame_22 (d + 1) 0 s2 else fMo_areSame_22 (d + 1) 1 s2))) = some r → fMo_areSame (d + 1) x1 x2 x3 s = some r := by
  intro r hr
  show ev (d + 1) q_287 0 [(0, .ref 67), (1, .int x1), (2, .int x2), (3, .int x3)] [] s = some r
  refine ev_seg 5 (k' := 5) (L' := [(0, .ref 67), (1, .int x1), (2, .int x2), (3, .int x3)]) (st' := [.int x2, .int x1, .ref 91, .ref 67]) rfl ?_
  refine ev_callV (q' := q_235) (x := 235) (y := 13) (c := 67) (As := [.ref 91, .int x1, .int x2]) (rest := []) hr rfl rfl rfl rfl rfl rfl rfl rfl rfl rfl rfl rfl (fun rv s1 hq => ev_kV hq (fun e9 hr => ?_))
  subst e9
  refine ev_st (st' := []) rfl ?_
  refine ev_seg 5 (k' := 11) (L' := [(0, .ref 67), (1, .int x1), (2, .int x2), (3, .int x3)]) (st' := [.int x3, .int x1, .ref 113, .ref 67]) rfl ?_
  refine ev_callV (q' := q_235) (x := 235) (y := 13) (c := 67) (As := [.ref 113, .int x1, .int x3]) (rest := []) hr rfl rfl rfl rfl rfl rfl rfl rfl rfl rfl rfl rfl (fun rv s2 hq => ev_kV hq (fun e9 hr => ?_))
  subst e9
  refine ev_st (st' := []) rfl ?_
  refine ev_seg 6 (k' := 18) (L' := [(0, .ref 67), (1, .int x1), (2, .int x2), (3, .int x3)]) (st' := [.int (gI s2 113 33), .int (gI s2 91 33)]) rfl ?_
  refine ev_br (P := ¬ gI s2 91 33 = gI s2 113 33) (L' := [(0, .ref 67), (1, .int x1), (2, .int x2), (3, .int x3)]) (st' := []) hr rfl rfl rfl (fun hr => ?_) (fun hr => ?_)
  · skip
    refine ev_seg 1 (k' := 22) (L' := [(0, .ref 67), (1, .int x1), (2, .int x2), (3, .int x3)]) (st' := [.int 0]) rfl ?_
    refine ev_join (L' := [(0, .ref 67)]) [0] [0, 1, 2, 3] [0] rfl rfl (by decide) (by decide) rfl ?_
    exact hr
  · skip
    refine ev_seg 2 (k' := 22) (L' := [(0, .ref 67), (1, .int x1), (2, .int x2), (3, .int x3)]) (st' := [.int 1]) rfl ?_
    refine ev_join (L' := [(0, .ref 67)]) [0] [0, 1, 2, 3] [0] rfl rfl (by decide) (by decide) rfl ?_
    exact hr
set_option maxRecDepth 20000 in
theorem eMo_areSame_22 (d : Nat) (u0 : Int32) (s : aT) : ∀ r, (fMo_areSame_25 (d + 1) u0 0 s) = some r → fMo_areSame_22 (d + 1) u0 s = some r := by
  intro r hr
  show ev (d + 1) q_287 22 [(0, .ref 67)] [.int u0] s = some r
  refine ev_seg 3 (k' := 25) (L' := [(5, .int 0), (4, .int u0), (0, .ref 67)]) (st' := []) rfl ?_
  refine ev_join (L' := [(0, .ref 67), (4, .int u0), (5, .int 0)]) [2, 1, 0] [5, 4, 0] [0, 4, 5] rfl rfl (by decide) (by decide) rfl ?_
  exact hr
set_option maxRecDepth 20000 in
theorem eMo_areSame_25 (d : Nat) (z4 : Int32) (z5 : Int32) (s : aT) : ∀ r, (if gI s 91 33 ≤ z5 then rZ z4 s else if z4 = 0 then rZ z4 s else ldI 4200 s 111 z5 (fun v1 => ldI 4200 s 133 z5 (fun v2 => if ¬ v1 = v2 then fMo_areSame_46 (d + 1) z5 0 s else fMo_areSame_46 (d + 1) z5 1 s))) = some r → fMo_areSame_25 (d + 1) z4 z5 s = some r := by
  intro r hr
  show ev (d + 1) q_287 25 [(0, .ref 67), (4, .int z4), (5, .int z5)] [] s = some r
  refine ev_seg 4 (k' := 29) (L' := [(0, .ref 67), (4, .int z4), (5, .int z5)]) (st' := [.int (gI s 91 33), .int z5]) rfl ?_
  refine ev_br (P := gI s 91 33 ≤ z5) (L' := [(0, .ref 67), (4, .int z4), (5, .int z5)]) (st' := []) hr rfl rfl rfl (fun hr => ?_) (fun hr => ?_)
  · skip
    refine ev_seg 1 (k' := 50) (L' := [(0, .ref 67), (4, .int z4), (5, .int z5)]) (st' := [.int z4]) rfl ?_
    exact ev_zret hr rfl rfl
  · skip
    refine ev_seg 1 (k' := 31) (L' := [(0, .ref 67), (4, .int z4), (5, .int z5)]) (st' := [.int z4]) rfl ?_
    refine ev_br (P := z4 = 0) (L' := [(0, .ref 67), (4, .int z4), (5, .int z5)]) (st' := []) hr rfl rfl rfl (fun hr => ?_) (fun hr => ?_)
    · skip
      refine ev_seg 1 (k' := 50) (L' := [(0, .ref 67), (4, .int z4), (5, .int z5)]) (st' := [.int z4]) rfl ?_
      exact ev_zret hr rfl rfl
    · skip
      refine ev_seg 4 (k' := 36) (L' := [(0, .ref 67), (4, .int z4), (5, .int z5)]) (st' := [.int z5, .ref 111]) rfl ?_
      refine ev_ldB hr rfl rfl (fun v1 hr => ?_)
      refine ev_seg 4 (k' := 41) (L' := [(0, .ref 67), (4, .int z4), (5, .int z5)]) (st' := [.int z5, .ref 133, .int v1]) rfl ?_
      refine ev_ldB hr rfl rfl (fun v2 hr => ?_)
      refine ev_br (P := ¬ v1 = v2) (L' := [(0, .ref 67), (4, .int z4), (5, .int z5)]) (st' := []) hr rfl rfl rfl (fun hr => ?_) (fun hr => ?_)
      · skip
        refine ev_seg 1 (k' := 46) (L' := [(0, .ref 67), (4, .int z4), (5, .int z5)]) (st' := [.int 0]) rfl ?_
        refine ev_join (L' := [(0, .ref 67), (5, .int z5)]) [0, 2] [0, 4, 5] [0, 5] rfl rfl (by decide) (by decide) rfl ?_
        exact hr
      · skip
        refine ev_seg 2 (k' := 46) (L' := [(0, .ref 67), (4, .int z4), (5, .int z5)]) (st' := [.int 1]) rfl ?_
        refine ev_join (L' := [(0, .ref 67), (5, .int z5)]) [0, 2] [0, 4, 5] [0, 5] rfl rfl (by decide) (by decide) rfl ?_
        exact hr
set_option maxRecDepth 20000 in
theorem eMo_areSame_46 (d : Nat) (z5 : Int32) (u0 : Int32) (s : aT) : ∀ r, (fMo_areSame_25 (d + 1) u0 (z5 + 1) s) = some r → fMo_areSame_46 (d + 1) z5 u0 s = some r := by
  intro r hr
  show ev (d + 1) q_287 46 [(0, .ref 67), (5, .int z5)] [.int u0] s = some r
  refine ev_seg 3 (k' := 25) (L' := [(5, .int (z5 + 1)), (4, .int u0), (0, .ref 67)]) (st' := []) rfl ?_
  refine ev_join (L' := [(0, .ref 67), (4, .int u0), (5, .int (z5 + 1))]) [2, 1, 0] [5, 4, 0] [0, 4, 5] rfl rfl (by decide) (by decide) rfl ?_
  exact hr
set_option maxRecDepth 20000 in
theorem eMo_join (d : Nat) (x1 : Int32) (x2 : Int32) (x3 : Int32) (x4 : Int32) (s : aT) : ∀ r, (fMo_join_2 (d + 1) x1 x2 x3 x4 0 s) = some r → fMo_join (d + 1) x1 x2 x3 x4 s = some r := by
  intro r hr
  show ev (d + 1) q_288 0 [(0, .ref 67), (1, .int x1), (2, .int x2), (3, .int x3), (4, .int x4)] [] s = some r
  refine ev_seg 2 (k' := 2) (L' := [(5, .int 0), (0, .ref 67), (1, .int x1), (2, .int x2), (3, .int x3), (4, .int x4)]) (st' := []) rfl ?_
  refine ev_join (L' := [(0, .ref 67), (1, .int x1), (2, .int x2), (3, .int x3), (4, .int x4), (5, .int 0)]) [1, 2, 3, 4, 5, 0] [5, 0, 1, 2, 3, 4] [0, 1, 2, 3, 4, 5] rfl rfl (by decide) (by decide) rfl ?_
  exact hr
set_option maxRecDepth 20000 in
theorem eMo_join_2 (d : Nat) (x1 : Int32) (x2 : Int32) (x3 : Int32) (x4 : Int32) (z5 : Int32) (s : aT) : ∀ r, (if x3 ≤ z5 then ldI 41 s 137 x1 (fun v1 => ldI 41 s 138 x1 (fun v2 => ldI 41 s 141 x1 (fun v3 => ldI 41 s 141 x2 (fun v4 => cG (fMo_write d v1 v2 x4 (v3 + v4) x3 147 x1 1 s) (kI fun v6 s5 => if 0 ≤ v6 then cG (fMo_takeOut d x2 s5) (kV fun s7 => rI 1 s7) else rI v6 s5))))) else ldI 41 s 142 x1 (fun v8 => if v8 ≤ z5 then ldI 41 s 139 x2 (fun v9 => ldI 41 s 142 x1 (fun v10 => ldI 32768 s 143 (((256 * v9) + z5) - v10) (fun v11 => fMo_join_42 (d + 1) x1 x2 x3 x4 z5 v11 z5 s))) else ldI 41 s 139 x1 (fun v12 => ldI 32768 s 143 ((256 * v12) + z5) (fun v13 => fMo_join_42 (d + 1) x1 x2 x3 x4 z5 v13 z5 s)))) = some r → fMo_join_2 (d + 1) x1 x2 x3 x4 z5 s = some r := by
  intro r hr
  show ev (d + 1) q_288 2 [(0, .ref 67), (1, .int x1), (2, .int x2), (3, .int x3), (4, .int x4), (5, .int z5)] [] s = some r
  refine ev_seg 2 (k' := 4) (L' := [(0, .ref 67), (1, .int x1), (2, .int x2), (3, .int x3), (4, .int x4), (5, .int z5)]) (st' := [.int x3, .int z5]) rfl ?_
  refine ev_br (P := x3 ≤ z5) (L' := [(0, .ref 67), (1, .int x1), (2, .int x2), (3, .int x3), (4, .int x4), (5, .int z5)]) (st' := []) hr rfl rfl rfl (fun hr => ?_) (fun hr => ?_)
  · skip
    refine ev_seg 4 (k' := 49) (L' := [(0, .ref 67), (1, .int x1), (2, .int x2), (3, .int x3), (4, .int x4), (5, .int z5)]) (st' := [.int x1, .ref 137, .ref 67]) rfl ?_
    refine ev_ldI hr rfl rfl (fun v1 hr => ?_)
    refine ev_seg 3 (k' := 53) (L' := [(0, .ref 67), (1, .int x1), (2, .int x2), (3, .int x3), (4, .int x4), (5, .int z5)]) (st' := [.int x1, .ref 138, .int v1, .ref 67]) rfl ?_
    refine ev_ldI hr rfl rfl (fun v2 hr => ?_)
    refine ev_seg 4 (k' := 58) (L' := [(0, .ref 67), (1, .int x1), (2, .int x2), (3, .int x3), (4, .int x4), (5, .int z5)]) (st' := [.int x1, .ref 141, .int x4, .int v2, .int v1, .ref 67]) rfl ?_
    refine ev_ldI hr rfl rfl (fun v3 hr => ?_)
    refine ev_seg 3 (k' := 62) (L' := [(0, .ref 67), (1, .int x1), (2, .int x2), (3, .int x3), (4, .int x4), (5, .int z5)]) (st' := [.int x2, .ref 141, .int v3, .int x4, .int v2, .int v1, .ref 67]) rfl ?_
    refine ev_ldI hr rfl rfl (fun v4 hr => ?_)
    refine ev_seg 6 (k' := 69) (L' := [(0, .ref 67), (1, .int x1), (2, .int x2), (3, .int x3), (4, .int x4), (5, .int z5)]) (st' := [.int 1, .int x1, .ref 147, .int x3, .int (v3 + v4), .int x4, .int v2, .int v1, .ref 67]) rfl ?_
    refine ev_callV (q' := q_245) (x := 245) (y := 13) (c := 67) (As := [.int v1, .int v2, .int x4, .int (v3 + v4), .int x3, .ref 147, .int x1, .int 1]) (rest := []) hr rfl rfl rfl rfl rfl rfl rfl rfl rfl rfl rfl rfl (fun rv s5 hq => ev_kI hq (fun v6 e9 hr => ?_))
    subst e9
    refine ev_st (st' := [.int v6]) rfl ?_
    refine ev_seg 2 (k' := 72) (L' := [(5, .int v6), (0, .ref 67), (1, .int x1), (2, .int x2), (3, .int x3), (4, .int x4)]) (st' := [.int v6]) rfl ?_
    refine ev_br (P := 0 ≤ v6) (L' := [(5, .int v6), (0, .ref 67), (1, .int x1), (2, .int x2), (3, .int x3), (4, .int x4)]) (st' := []) hr rfl rfl rfl (fun hr => ?_) (fun hr => ?_)
    · skip
      refine ev_seg 2 (k' := 77) (L' := [(5, .int v6), (0, .ref 67), (1, .int x1), (2, .int x2), (3, .int x3), (4, .int x4)]) (st' := [.int x2, .ref 67]) rfl ?_
      refine ev_callV (q' := q_289) (x := 289) (y := 13) (c := 67) (As := [.int x2]) (rest := []) hr rfl rfl rfl rfl rfl rfl rfl rfl rfl rfl rfl rfl (fun rv s7 hq => ev_kV hq (fun e9 hr => ?_))
      subst e9
      refine ev_st (st' := []) rfl ?_
      refine ev_seg 1 (k' := 79) (L' := [(5, .int v6), (0, .ref 67), (1, .int x1), (2, .int x2), (3, .int x3), (4, .int x4)]) (st' := [.int 1]) rfl ?_
      exact ev_iret hr rfl rfl rfl
    · skip
      refine ev_seg 1 (k' := 74) (L' := [(5, .int v6), (0, .ref 67), (1, .int x1), (2, .int x2), (3, .int x3), (4, .int x4)]) (st' := [.int v6]) rfl ?_
      exact ev_iret hr rfl rfl rfl
  · skip
    refine ev_seg 7 (k' := 12) (L' := [(0, .ref 67), (1, .int x1), (2, .int x2), (3, .int x3), (4, .int x4), (5, .int z5)]) (st' := [.int x1, .ref 142, .int z5, .int z5, .ref 147]) rfl ?_
    refine ev_ldI hr rfl rfl (fun v8 hr => ?_)
    refine ev_br (P := v8 ≤ z5) (L' := [(0, .ref 67), (1, .int x1), (2, .int x2), (3, .int x3), (4, .int x4), (5, .int z5)]) (st' := [.int z5, .ref 147]) hr rfl rfl rfl (fun hr => ?_) (fun hr => ?_)
    · skip
      refine ev_seg 6 (k' := 32) (L' := [(0, .ref 67), (1, .int x1), (2, .int x2), (3, .int x3), (4, .int x4), (5, .int z5)]) (st' := [.int x2, .ref 139, .int 256, .ref 143, .int z5, .ref 147]) rfl ?_
      refine ev_ldI hr rfl rfl (fun v9 hr => ?_)
      refine ev_seg 6 (k' := 39) (L' := [(0, .ref 67), (1, .int x1), (2, .int x2), (3, .int x3), (4, .int x4), (5, .int z5)]) (st' := [.int x1, .ref 142, .int ((256 * v9) + z5), .ref 143, .int z5, .ref 147]) rfl ?_
      refine ev_ldI hr rfl rfl (fun v10 hr => ?_)
      refine ev_seg 1 (k' := 41) (L' := [(0, .ref 67), (1, .int x1), (2, .int x2), (3, .int x3), (4, .int x4), (5, .int z5)]) (st' := [.int (((256 * v9) + z5) - v10), .ref 143, .int z5, .ref 147]) rfl ?_
      refine ev_ldB hr rfl rfl (fun v11 hr => ?_)
      exact hr
    · skip
      refine ev_seg 6 (k' := 20) (L' := [(0, .ref 67), (1, .int x1), (2, .int x2), (3, .int x3), (4, .int x4), (5, .int z5)]) (st' := [.int x1, .ref 139, .int 256, .ref 143, .int z5, .ref 147]) rfl ?_
      refine ev_ldI hr rfl rfl (fun v12 hr => ?_)
      refine ev_seg 3 (k' := 24) (L' := [(0, .ref 67), (1, .int x1), (2, .int x2), (3, .int x3), (4, .int x4), (5, .int z5)]) (st' := [.int ((256 * v12) + z5), .ref 143, .int z5, .ref 147]) rfl ?_
      refine ev_ldB hr rfl rfl (fun v13 hr => ?_)
      refine ev_seg 1 (k' := 42) (L' := [(0, .ref 67), (1, .int x1), (2, .int x2), (3, .int x3), (4, .int x4), (5, .int z5)]) (st' := [.int v13, .int z5, .ref 147]) rfl ?_
      exact hr
set_option maxRecDepth 20000 in
theorem eMo_join_42 (d : Nat) (x1 : Int32) (x2 : Int32) (x3 : Int32) (x4 : Int32) (z5 : Int32) (u0 : Int32) (u1 : Int32) (s : aT) : ∀ r, (stI 4200 s 147 u1 (vp_nar .byte u0) (fun s1 => fMo_join_2 (d + 1) x1 x2 x3 x4 (z5 + 1) s1)) = some r → fMo_join_42 (d + 1) x1 x2 x3 x4 z5 u0 u1 s = some r := by
  intro r hr
  show ev (d + 1) q_288 42 [(0, .ref 67), (1, .int x1), (2, .int x2), (3, .int x3), (4, .int x4), (5, .int z5)] [.int u0, .int u1, .ref 147] s = some r
  refine ev_stB hr rfl rfl (fun s1 hr => ?_)
  refine ev_seg 2 (k' := 2) (L' := [(5, .int (z5 + 1)), (0, .ref 67), (1, .int x1), (2, .int x2), (3, .int x3), (4, .int x4)]) (st' := []) rfl ?_
  refine ev_join (L' := [(0, .ref 67), (1, .int x1), (2, .int x2), (3, .int x3), (4, .int x4), (5, .int (z5 + 1))]) [1, 2, 3, 4, 5, 0] [5, 0, 1, 2, 3, 4] [0, 1, 2, 3, 4, 5] rfl rfl (by decide) (by decide) rfl ?_
  exact hr
set_option maxRecDepth 20000 in
theorem eMo_takeOut (d : Nat) (x1 : Int32) (s : aT) : ∀ r, (fMo_takeOut_2 d x1 s) = some r → fMo_takeOut d x1 s = some r := by
  intro r hr
  show ev d q_289 0 [(0, .ref 67), (1, .int x1)] [] s = some r
  refine ev_seg 2 (k' := 2) (L' := [(2, .int x1), (0, .ref 67), (1, .int x1)]) (st' := []) rfl ?_
  refine ev_join (L' := [(0, .ref 67), (2, .int x1)]) [1, 0] [2, 0, 1] [0, 2] rfl rfl (by decide) (by decide) rfl ?_
  exact hr
set_option maxRecDepth 20000 in
theorem eMo_takeOut_2 (d : Nat) (z2 : Int32) (s : aT) : ∀ r, (if gI s 67 13 ≤ z2 + 1 then wI s 67 13 ((gI s 67 13) - 1) (fun s1 => rV s1) else ldI 41 s 137 (z2 + 1) (fun v2 => stI 41 s 137 z2 v2 (fun s3 => ldI 41 s3 138 (z2 + 1) (fun v4 => stI 41 s3 138 z2 v4 (fun s5 => ldI 41 s5 139 (z2 + 1) (fun v6 => stI 41 s5 139 z2 v6 (fun s7 => ldI 41 s7 140 (z2 + 1) (fun v8 => stI 41 s7 140 z2 v8 (fun s9 => ldI 41 s9 141 (z2 + 1) (fun v10 => stI 41 s9 141 z2 v10 (fun s11 => ldI 41 s11 142 (z2 + 1) (fun v12 => stI 41 s11 142 z2 v12 (fun s13 => fMo_takeOut_2 d (z2 + 1) s13))))))))))))) = some r → fMo_takeOut_2 d z2 s = some r := by
  intro r hr
  show ev d q_289 2 [(0, .ref 67), (2, .int z2)] [] s = some r
  refine ev_seg 5 (k' := 7) (L' := [(0, .ref 67), (2, .int z2)]) (st' := [.int (gI s 67 13), .int (z2 + 1)]) rfl ?_
  refine ev_br (P := gI s 67 13 ≤ z2 + 1) (L' := [(0, .ref 67), (2, .int z2)]) (st' := []) hr rfl rfl rfl (fun hr => ?_) (fun hr => ?_)
  · skip
    refine ev_seg 5 (k' := 75) (L' := [(0, .ref 67), (2, .int z2)]) (st' := [.int ((gI s 67 13) - 1), .ref 67]) rfl ?_
    refine ev_putI (c := 67) hr rfl rfl rfl (fun s1 hr => ?_)
    exact ev_vret hr rfl rfl
  · skip
    refine ev_seg 8 (k' := 16) (L' := [(0, .ref 67), (2, .int z2)]) (st' := [.int (z2 + 1), .ref 137, .int z2, .ref 137]) rfl ?_
    refine ev_ldI hr rfl rfl (fun v2 hr => ?_)
    refine ev_stI hr rfl rfl (fun s3 hr => ?_)
    refine ev_seg 8 (k' := 26) (L' := [(0, .ref 67), (2, .int z2)]) (st' := [.int (z2 + 1), .ref 138, .int z2, .ref 138]) rfl ?_
    refine ev_ldI hr rfl rfl (fun v4 hr => ?_)
    refine ev_stI hr rfl rfl (fun s5 hr => ?_)
    refine ev_seg 8 (k' := 36) (L' := [(0, .ref 67), (2, .int z2)]) (st' := [.int (z2 + 1), .ref 139, .int z2, .ref 139]) rfl ?_
    refine ev_ldI hr rfl rfl (fun v6 hr => ?_)
    refine ev_stI hr rfl rfl (fun s7 hr => ?_)
    refine ev_seg 8 (k' := 46) (L' := [(0, .ref 67), (2, .int z2)]) (st' := [.int (z2 + 1), .ref 140, .int z2, .ref 140]) rfl ?_
    refine ev_ldI hr rfl rfl (fun v8 hr => ?_)
    refine ev_stI hr rfl rfl (fun s9 hr => ?_)
    refine ev_seg 8 (k' := 56) (L' := [(0, .ref 67), (2, .int z2)]) (st' := [.int (z2 + 1), .ref 141, .int z2, .ref 141]) rfl ?_
    refine ev_ldI hr rfl rfl (fun v10 hr => ?_)
    refine ev_stI hr rfl rfl (fun s11 hr => ?_)
    refine ev_seg 8 (k' := 66) (L' := [(0, .ref 67), (2, .int z2)]) (st' := [.int (z2 + 1), .ref 142, .int z2, .ref 142]) rfl ?_
    refine ev_ldI hr rfl rfl (fun v12 hr => ?_)
    refine ev_stI hr rfl rfl (fun s13 hr => ?_)
    refine ev_seg 2 (k' := 2) (L' := [(2, .int (z2 + 1)), (0, .ref 67)]) (st' := []) rfl ?_
    refine ev_join (L' := [(0, .ref 67), (2, .int (z2 + 1))]) [1, 0] [2, 0] [0, 2] rfl rfl (by decide) (by decide) rfl ?_
    exact hr
set_option maxRecDepth 20000 in
theorem eMo_clear (d : Nat) (x1 : Int32) (s : aT) : ∀ r, (cG (fMo_isSubject d x1 s) (kI fun v2 s1 => if ¬ v2 = 0 then fMo_clear_7 (d + 1) x1 0 s1 else fMo_clear_7 (d + 1) x1 1 s1)) = some r → fMo_clear (d + 1) x1 s = some r := by
  intro r hr
  show ev (d + 1) q_290 0 [(0, .ref 67), (1, .int x1)] [] s = some r
  refine ev_seg 2 (k' := 2) (L' := [(0, .ref 67), (1, .int x1)]) (st' := [.int x1, .ref 67]) rfl ?_
  refine ev_callS (q' := q_233) (x := 233) (vs := [.int x1]) (rest := [.ref 67]) hr rfl rfl rfl rfl rfl rfl rfl rfl rfl rfl (fun rv s1 hq => ev_kI hq (fun v2 e9 hr => ?_))
  subst e9
  refine ev_st (st' := [.int v2, .ref 67]) rfl ?_
  refine ev_br (P := ¬ v2 = 0) (L' := [(0, .ref 67), (1, .int x1)]) (st' := [.ref 67]) hr rfl rfl rfl (fun hr => ?_) (fun hr => ?_)
  · skip
    refine ev_seg 1 (k' := 7) (L' := [(0, .ref 67), (1, .int x1)]) (st' := [.int 0, .ref 67]) rfl ?_
    exact hr
  · skip
    refine ev_seg 2 (k' := 7) (L' := [(0, .ref 67), (1, .int x1)]) (st' := [.int 1, .ref 67]) rfl ?_
    exact hr
set_option maxRecDepth 20000 in
theorem eMo_clear_7 (d : Nat) (x1 : Int32) (u0 : Int32) (s : aT) : ∀ r, (cG (fMo_refused d u0 0 s) (kI fun v2 s1 => if v2 = 0 then if gI s1 67 11 = 0 then cG (fMo_rows d x1 s1) (kI fun v4 s3 => if ¬ v4 = 0 then cG (fMo_writes d 1 s3) (kI fun v6 s5 => if ¬ v6 = 0 then fMo_clear_36 (d + 1) x1 v4 ((gI s5 67 13) - 1) s5 else rI (-32) s5) else rI 0 s3) else rI (-33) s1 else rI 0 s1)) = some r → fMo_clear_7 (d + 1) x1 u0 s = some r := by
  intro r hr
  show ev (d + 1) q_290 7 [(0, .ref 67), (1, .int x1)] [.int u0, .ref 67] s = some r
  refine ev_seg 1 (k' := 8) (L' := [(0, .ref 67), (1, .int x1)]) (st' := [.int 0, .int u0, .ref 67]) rfl ?_
  refine ev_callV (q' := q_189) (x := 189) (y := 13) (c := 67) (As := [.int u0, .int 0]) (rest := []) hr rfl rfl rfl rfl rfl rfl rfl rfl rfl rfl rfl rfl (fun rv s1 hq => ev_kI hq (fun v2 e9 hr => ?_))
  subst e9
  refine ev_st (st' := [.int v2]) rfl ?_
  refine ev_br (P := v2 = 0) (L' := [(0, .ref 67), (1, .int x1)]) (st' := []) hr rfl rfl rfl (fun hr => ?_) (fun hr => ?_)
  · skip
    refine ev_seg 2 (k' := 14) (L' := [(0, .ref 67), (1, .int x1)]) (st' := [.int (gI s1 67 11)]) rfl ?_
    refine ev_br (P := gI s1 67 11 = 0) (L' := [(0, .ref 67), (1, .int x1)]) (st' := []) hr rfl rfl rfl (fun hr => ?_) (fun hr => ?_)
    · skip
      refine ev_seg 2 (k' := 19) (L' := [(0, .ref 67), (1, .int x1)]) (st' := [.int x1, .ref 67]) rfl ?_
      refine ev_callV (q' := q_271) (x := 271) (y := 13) (c := 67) (As := [.int x1]) (rest := []) hr rfl rfl rfl rfl rfl rfl rfl rfl rfl rfl rfl rfl (fun rv s3 hq => ev_kI hq (fun v4 e9 hr => ?_))
      subst e9
      refine ev_st (st' := [.int v4]) rfl ?_
      refine ev_seg 2 (k' := 22) (L' := [(2, .int v4), (0, .ref 67), (1, .int x1)]) (st' := [.int v4]) rfl ?_
      refine ev_br (P := ¬ v4 = 0) (L' := [(2, .int v4), (0, .ref 67), (1, .int x1)]) (st' := []) hr rfl rfl rfl (fun hr => ?_) (fun hr => ?_)
      · skip
        refine ev_seg 2 (k' := 27) (L' := [(2, .int v4), (0, .ref 67), (1, .int x1)]) (st' := [.int 1, .ref 67]) rfl ?_
        refine ev_callV (q' := q_248) (x := 248) (y := 13) (c := 67) (As := [.int 1]) (rest := []) hr rfl rfl rfl rfl rfl rfl rfl rfl rfl rfl rfl rfl (fun rv s5 hq => ev_kI hq (fun v6 e9 hr => ?_))
        subst e9
        refine ev_st (st' := [.int v6]) rfl ?_
        refine ev_br (P := ¬ v6 = 0) (L' := [(2, .int v4), (0, .ref 67), (1, .int x1)]) (st' := []) hr rfl rfl rfl (fun hr => ?_) (fun hr => ?_)
        · skip
          refine ev_seg 5 (k' := 36) (L' := [(3, .int ((gI s5 67 13) - 1)), (2, .int v4), (0, .ref 67), (1, .int x1)]) (st' := []) rfl ?_
          refine ev_join (L' := [(0, .ref 67), (1, .int x1), (2, .int v4), (3, .int ((gI s5 67 13) - 1))]) [2, 3, 1, 0] [3, 2, 0, 1] [0, 1, 2, 3] rfl rfl (by decide) (by decide) rfl ?_
          exact hr
        · skip
          refine ev_seg 1 (k' := 30) (L' := [(2, .int v4), (0, .ref 67), (1, .int x1)]) (st' := [.int (-32)]) rfl ?_
          exact ev_iret hr rfl rfl rfl
      · skip
        refine ev_seg 1 (k' := 24) (L' := [(2, .int v4), (0, .ref 67), (1, .int x1)]) (st' := [.int 0]) rfl ?_
        exact ev_iret hr rfl rfl rfl
    · skip
      refine ev_seg 1 (k' := 16) (L' := [(0, .ref 67), (1, .int x1)]) (st' := [.int (-33)]) rfl ?_
      exact ev_iret hr rfl rfl rfl
  · skip
    refine ev_seg 1 (k' := 11) (L' := [(0, .ref 67), (1, .int x1)]) (st' := [.int 0]) rfl ?_
    exact ev_iret hr rfl rfl rfl
set_option maxRecDepth 20000 in
theorem eMo_clear_36 (d : Nat) (x1 : Int32) (z2 : Int32) (z3 : Int32) (s : aT) : ∀ r, (if z3 < 0 then rI z2 s else ldI 41 s 137 z3 (fun v1 => if ¬ v1 = x1 then fMo_clear_52 (d + 1) x1 z2 z3 s else ldI 41 s 141 z3 (fun v2 => if v2 < 0 then fMo_clear_52 (d + 1) x1 z2 z3 s else cG (fMo_takeOut d z3 s) (kV fun s3 => fMo_clear_52 (d + 1) x1 z2 z3 s3)))) = some r → fMo_clear_36 (d + 1) x1 z2 z3 s = some r := by
  intro r hr
  show ev (d + 1) q_290 36 [(0, .ref 67), (1, .int x1), (2, .int z2), (3, .int z3)] [] s = some r
  refine ev_seg 1 (k' := 37) (L' := [(0, .ref 67), (1, .int x1), (2, .int z2), (3, .int z3)]) (st' := [.int z3]) rfl ?_
  refine ev_br (P := z3 < 0) (L' := [(0, .ref 67), (1, .int x1), (2, .int z2), (3, .int z3)]) (st' := []) hr rfl rfl rfl (fun hr => ?_) (fun hr => ?_)
  · skip
    refine ev_seg 1 (k' := 55) (L' := [(0, .ref 67), (1, .int x1), (2, .int z2), (3, .int z3)]) (st' := [.int z2]) rfl ?_
    exact ev_iret hr rfl rfl rfl
  · skip
    refine ev_seg 3 (k' := 41) (L' := [(0, .ref 67), (1, .int x1), (2, .int z2), (3, .int z3)]) (st' := [.int z3, .ref 137]) rfl ?_
    refine ev_ldI hr rfl rfl (fun v1 hr => ?_)
    refine ev_seg 1 (k' := 43) (L' := [(0, .ref 67), (1, .int x1), (2, .int z2), (3, .int z3)]) (st' := [.int x1, .int v1]) rfl ?_
    refine ev_br (P := ¬ v1 = x1) (L' := [(0, .ref 67), (1, .int x1), (2, .int z2), (3, .int z3)]) (st' := []) hr rfl rfl rfl (fun hr => ?_) (fun hr => ?_)
    · skip
      exact hr
    · skip
      refine ev_seg 3 (k' := 47) (L' := [(0, .ref 67), (1, .int x1), (2, .int z2), (3, .int z3)]) (st' := [.int z3, .ref 141]) rfl ?_
      refine ev_ldI hr rfl rfl (fun v2 hr => ?_)
      refine ev_br (P := v2 < 0) (L' := [(0, .ref 67), (1, .int x1), (2, .int z2), (3, .int z3)]) (st' := []) hr rfl rfl rfl (fun hr => ?_) (fun hr => ?_)
      · skip
        exact hr
      · skip
        refine ev_seg 2 (k' := 51) (L' := [(0, .ref 67), (1, .int x1), (2, .int z2), (3, .int z3)]) (st' := [.int z3, .ref 67]) rfl ?_
        refine ev_callV (q' := q_289) (x := 289) (y := 13) (c := 67) (As := [.int z3]) (rest := []) hr rfl rfl rfl rfl rfl rfl rfl rfl rfl rfl rfl rfl (fun rv s3 hq => ev_kV hq (fun e9 hr => ?_))
        subst e9
        refine ev_st (st' := []) rfl ?_
        exact hr
set_option maxRecDepth 20000 in
theorem eMo_clear_52 (d : Nat) (x1 : Int32) (z2 : Int32) (z3 : Int32) (s : aT) : ∀ r, (fMo_clear_36 (d + 1) x1 z2 (z3 + (-1)) s) = some r → fMo_clear_52 (d + 1) x1 z2 z3 s = some r := by
  intro r hr
  show ev (d + 1) q_290 52 [(0, .ref 67), (1, .int x1), (2, .int z2), (3, .int z3)] [] s = some r
  refine ev_seg 2 (k' := 36) (L' := [(3, .int (z3 + (-1))), (0, .ref 67), (1, .int x1), (2, .int z2)]) (st' := []) rfl ?_
  refine ev_join (L' := [(0, .ref 67), (1, .int x1), (2, .int z2), (3, .int (z3 + (-1)))]) [1, 2, 3, 0] [3, 0, 1, 2] [0, 1, 2, 3] rfl rfl (by decide) (by decide) rfl ?_
  exact hr
set_option maxRecDepth 20000 in
theorem eMo_count (d : Nat) (x1 : Int32) (x2 : Int32) (s : aT) : ∀ r, (cG (fMo_isSubject d x1 s) (kI fun v2 s1 => if ¬ v2 = 0 then fMo_count_7 (d + 1) x1 x2 0 s1 else fMo_count_7 (d + 1) x1 x2 1 s1)) = some r → fMo_count (d + 1) x1 x2 s = some r := by
  intro r hr
  show ev (d + 1) q_291 0 [(0, .ref 67), (1, .int x1), (2, .int x2)] [] s = some r
  refine ev_seg 2 (k' := 2) (L' := [(0, .ref 67), (1, .int x1), (2, .int x2)]) (st' := [.int x1, .ref 67]) rfl ?_
  refine ev_callS (q' := q_233) (x := 233) (vs := [.int x1]) (rest := [.ref 67]) hr rfl rfl rfl rfl rfl rfl rfl rfl rfl rfl (fun rv s1 hq => ev_kI hq (fun v2 e9 hr => ?_))
  subst e9
  refine ev_st (st' := [.int v2, .ref 67]) rfl ?_
  refine ev_br (P := ¬ v2 = 0) (L' := [(0, .ref 67), (1, .int x1), (2, .int x2)]) (st' := [.ref 67]) hr rfl rfl rfl (fun hr => ?_) (fun hr => ?_)
  · skip
    refine ev_seg 1 (k' := 7) (L' := [(0, .ref 67), (1, .int x1), (2, .int x2)]) (st' := [.int 0, .ref 67]) rfl ?_
    exact hr
  · skip
    refine ev_seg 2 (k' := 7) (L' := [(0, .ref 67), (1, .int x1), (2, .int x2)]) (st' := [.int 1, .ref 67]) rfl ?_
    exact hr
set_option maxRecDepth 20000 in
theorem eMo_count_7 (d : Nat) (x1 : Int32) (x2 : Int32) (u0 : Int32) (s : aT) : ∀ r, (cG (fMo_within d x2 0 2 s) (kI fun v2 s1 => if ¬ v2 = 0 then fMo_count_15 (d + 1) x1 x2 0 u0 s1 else fMo_count_15 (d + 1) x1 x2 1 u0 s1)) = some r → fMo_count_7 (d + 1) x1 x2 u0 s = some r := by
  intro r hr
  show ev (d + 1) q_291 7 [(0, .ref 67), (1, .int x1), (2, .int x2)] [.int u0, .ref 67] s = some r
  refine ev_seg 3 (k' := 10) (L' := [(0, .ref 67), (1, .int x1), (2, .int x2)]) (st' := [.int 2, .int 0, .int x2, .int u0, .ref 67]) rfl ?_
  refine ev_callS (q' := q_192) (x := 192) (vs := [.int x2, .int 0, .int 2]) (rest := [.int u0, .ref 67]) hr rfl rfl rfl rfl rfl rfl rfl rfl rfl rfl (fun rv s1 hq => ev_kI hq (fun v2 e9 hr => ?_))
  subst e9
  refine ev_st (st' := [.int v2, .int u0, .ref 67]) rfl ?_
  refine ev_br (P := ¬ v2 = 0) (L' := [(0, .ref 67), (1, .int x1), (2, .int x2)]) (st' := [.int u0, .ref 67]) hr rfl rfl rfl (fun hr => ?_) (fun hr => ?_)
  · skip
    refine ev_seg 1 (k' := 15) (L' := [(0, .ref 67), (1, .int x1), (2, .int x2)]) (st' := [.int 0, .int u0, .ref 67]) rfl ?_
    exact hr
  · skip
    refine ev_seg 2 (k' := 15) (L' := [(0, .ref 67), (1, .int x1), (2, .int x2)]) (st' := [.int 1, .int u0, .ref 67]) rfl ?_
    exact hr
set_option maxRecDepth 20000 in
theorem eMo_count_15 (d : Nat) (x1 : Int32) (x2 : Int32) (u0 : Int32) (u1 : Int32) (s : aT) : ∀ r, (cG (fMo_refused d u1 u0 s) (kI fun v2 s1 => if v2 = 0 then if gI s1 67 11 = 0 then fMo_count_28 (d + 1) x1 x2 0 0 s1 else rI (-33) s1 else rI 0 s1)) = some r → fMo_count_15 (d + 1) x1 x2 u0 u1 s = some r := by
  intro r hr
  show ev (d + 1) q_291 15 [(0, .ref 67), (1, .int x1), (2, .int x2)] [.int u0, .int u1, .ref 67] s = some r
  refine ev_callV (q' := q_189) (x := 189) (y := 13) (c := 67) (As := [.int u1, .int u0]) (rest := []) hr rfl rfl rfl rfl rfl rfl rfl rfl rfl rfl rfl rfl (fun rv s1 hq => ev_kI hq (fun v2 e9 hr => ?_))
  subst e9
  refine ev_st (st' := [.int v2]) rfl ?_
  refine ev_br (P := v2 = 0) (L' := [(0, .ref 67), (1, .int x1), (2, .int x2)]) (st' := []) hr rfl rfl rfl (fun hr => ?_) (fun hr => ?_)
  · skip
    refine ev_seg 2 (k' := 21) (L' := [(0, .ref 67), (1, .int x1), (2, .int x2)]) (st' := [.int (gI s1 67 11)]) rfl ?_
    refine ev_br (P := gI s1 67 11 = 0) (L' := [(0, .ref 67), (1, .int x1), (2, .int x2)]) (st' := []) hr rfl rfl rfl (fun hr => ?_) (fun hr => ?_)
    · skip
      refine ev_seg 4 (k' := 28) (L' := [(4, .int 0), (3, .int 0), (0, .ref 67), (1, .int x1), (2, .int x2)]) (st' := []) rfl ?_
      refine ev_join (L' := [(0, .ref 67), (1, .int x1), (2, .int x2), (3, .int 0), (4, .int 0)]) [2, 3, 4, 1, 0] [4, 3, 0, 1, 2] [0, 1, 2, 3, 4] rfl rfl (by decide) (by decide) rfl ?_
      exact hr
    · skip
      refine ev_seg 1 (k' := 23) (L' := [(0, .ref 67), (1, .int x1), (2, .int x2)]) (st' := [.int (-33)]) rfl ?_
      exact ev_iret hr rfl rfl rfl
  · skip
    refine ev_seg 1 (k' := 18) (L' := [(0, .ref 67), (1, .int x1), (2, .int x2)]) (st' := [.int 0]) rfl ?_
    exact ev_iret hr rfl rfl rfl
set_option maxRecDepth 20000 in
theorem eMo_count_28 (d : Nat) (x1 : Int32) (x2 : Int32) (z3 : Int32) (z4 : Int32) (s : aT) : ∀ r, (if gI s 67 13 ≤ z4 then if ¬ x2 = 0 then if ¬ x2 = 1 then cG (fMo_rows d x1 s) (kI fun v2 s1 => rI v2 s1) else rI z3 s else cG (fMo_versions d x1 s) (kI fun v4 s3 => rI v4 s3) else ldI 41 s 137 z4 (fun v5 => if ¬ v5 = x1 then fMo_count_47 (d + 1) x1 x2 z3 z4 s else ldI 41 s 141 z4 (fun v6 => if v6 < 0 then fMo_count_47 (d + 1) x1 x2 z3 z4 s else fMo_count_48 (d + 1) x1 x2 z4 (z3 + 1) s))) = some r → fMo_count_28 (d + 1) x1 x2 z3 z4 s = some r := by
  intro r hr
  show ev (d + 1) q_291 28 [(0, .ref 67), (1, .int x1), (2, .int x2), (3, .int z3), (4, .int z4)] [] s = some r
  refine ev_seg 3 (k' := 31) (L' := [(0, .ref 67), (1, .int x1), (2, .int x2), (3, .int z3), (4, .int z4)]) (st' := [.int (gI s 67 13), .int z4]) rfl ?_
  refine ev_br (P := gI s 67 13 ≤ z4) (L' := [(0, .ref 67), (1, .int x1), (2, .int x2), (3, .int z3), (4, .int z4)]) (st' := []) hr rfl rfl rfl (fun hr => ?_) (fun hr => ?_)
  · skip
    refine ev_seg 1 (k' := 52) (L' := [(0, .ref 67), (1, .int x1), (2, .int x2), (3, .int z3), (4, .int z4)]) (st' := [.int x2]) rfl ?_
    refine ev_br (P := ¬ x2 = 0) (L' := [(0, .ref 67), (1, .int x1), (2, .int x2), (3, .int z3), (4, .int z4)]) (st' := []) hr rfl rfl rfl (fun hr => ?_) (fun hr => ?_)
    · skip
      refine ev_seg 2 (k' := 59) (L' := [(0, .ref 67), (1, .int x1), (2, .int x2), (3, .int z3), (4, .int z4)]) (st' := [.int 1, .int x2]) rfl ?_
      refine ev_br (P := ¬ x2 = 1) (L' := [(0, .ref 67), (1, .int x1), (2, .int x2), (3, .int z3), (4, .int z4)]) (st' := []) hr rfl rfl rfl (fun hr => ?_) (fun hr => ?_)
      · skip
        refine ev_seg 2 (k' := 64) (L' := [(0, .ref 67), (1, .int x1), (2, .int x2), (3, .int z3), (4, .int z4)]) (st' := [.int x1, .ref 67]) rfl ?_
        refine ev_callV (q' := q_271) (x := 271) (y := 13) (c := 67) (As := [.int x1]) (rest := []) hr rfl rfl rfl rfl rfl rfl rfl rfl rfl rfl rfl rfl (fun rv s1 hq => ev_kI hq (fun v2 e9 hr => ?_))
        subst e9
        refine ev_st (st' := [.int v2]) rfl ?_
        exact ev_iret hr rfl rfl rfl
      · skip
        refine ev_seg 2 (k' := 65) (L' := [(0, .ref 67), (1, .int x1), (2, .int x2), (3, .int z3), (4, .int z4)]) (st' := [.int z3]) rfl ?_
        exact ev_iret hr rfl rfl rfl
    · skip
      refine ev_seg 2 (k' := 55) (L' := [(0, .ref 67), (1, .int x1), (2, .int x2), (3, .int z3), (4, .int z4)]) (st' := [.int x1, .ref 67]) rfl ?_
      refine ev_callV (q' := q_234) (x := 234) (y := 13) (c := 67) (As := [.int x1]) (rest := []) hr rfl rfl rfl rfl rfl rfl rfl rfl rfl rfl rfl rfl (fun rv s3 hq => ev_kI hq (fun v4 e9 hr => ?_))
      subst e9
      refine ev_st (st' := [.int v4]) rfl ?_
      refine ev_seg 1 (k' := 65) (L' := [(0, .ref 67), (1, .int x1), (2, .int x2), (3, .int z3), (4, .int z4)]) (st' := [.int v4]) rfl ?_
      exact ev_iret hr rfl rfl rfl
  · skip
    refine ev_seg 3 (k' := 35) (L' := [(0, .ref 67), (1, .int x1), (2, .int x2), (3, .int z3), (4, .int z4)]) (st' := [.int z4, .ref 137]) rfl ?_
    refine ev_ldI hr rfl rfl (fun v5 hr => ?_)
    refine ev_seg 1 (k' := 37) (L' := [(0, .ref 67), (1, .int x1), (2, .int x2), (3, .int z3), (4, .int z4)]) (st' := [.int x1, .int v5]) rfl ?_
    refine ev_br (P := ¬ v5 = x1) (L' := [(0, .ref 67), (1, .int x1), (2, .int x2), (3, .int z3), (4, .int z4)]) (st' := []) hr rfl rfl rfl (fun hr => ?_) (fun hr => ?_)
    · skip
      exact hr
    · skip
      refine ev_seg 3 (k' := 41) (L' := [(0, .ref 67), (1, .int x1), (2, .int x2), (3, .int z3), (4, .int z4)]) (st' := [.int z4, .ref 141]) rfl ?_
      refine ev_ldI hr rfl rfl (fun v6 hr => ?_)
      refine ev_br (P := v6 < 0) (L' := [(0, .ref 67), (1, .int x1), (2, .int x2), (3, .int z3), (4, .int z4)]) (st' := []) hr rfl rfl rfl (fun hr => ?_) (fun hr => ?_)
      · skip
        exact hr
      · skip
        refine ev_seg 4 (k' := 48) (L' := [(0, .ref 67), (1, .int x1), (2, .int x2), (3, .int z3), (4, .int z4)]) (st' := [.int (z3 + 1)]) rfl ?_
        refine ev_join (L' := [(0, .ref 67), (1, .int x1), (2, .int x2), (4, .int z4)]) [0, 1, 2, 4] [0, 1, 2, 3, 4] [0, 1, 2, 4] rfl rfl (by decide) (by decide) rfl ?_
        exact hr
set_option maxRecDepth 20000 in
theorem eMo_count_47 (d : Nat) (x1 : Int32) (x2 : Int32) (z3 : Int32) (z4 : Int32) (s : aT) : ∀ r, (fMo_count_48 (d + 1) x1 x2 z4 z3 s) = some r → fMo_count_47 (d + 1) x1 x2 z3 z4 s = some r := by
  intro r hr
  show ev (d + 1) q_291 47 [(0, .ref 67), (1, .int x1), (2, .int x2), (3, .int z3), (4, .int z4)] [] s = some r
  refine ev_seg 1 (k' := 48) (L' := [(0, .ref 67), (1, .int x1), (2, .int x2), (3, .int z3), (4, .int z4)]) (st' := [.int z3]) rfl ?_
  refine ev_join (L' := [(0, .ref 67), (1, .int x1), (2, .int x2), (4, .int z4)]) [0, 1, 2, 4] [0, 1, 2, 3, 4] [0, 1, 2, 4] rfl rfl (by decide) (by decide) rfl ?_
  exact hr
set_option maxRecDepth 20000 in
theorem eMo_count_48 (d : Nat) (x1 : Int32) (x2 : Int32) (z4 : Int32) (u0 : Int32) (s : aT) : ∀ r, (fMo_count_28 (d + 1) x1 x2 u0 (z4 + 1) s) = some r → fMo_count_48 (d + 1) x1 x2 z4 u0 s = some r := by
  intro r hr
  show ev (d + 1) q_291 48 [(0, .ref 67), (1, .int x1), (2, .int x2), (4, .int z4)] [.int u0] s = some r
  refine ev_seg 3 (k' := 28) (L' := [(4, .int (z4 + 1)), (3, .int u0), (0, .ref 67), (1, .int x1), (2, .int x2)]) (st' := []) rfl ?_
  refine ev_join (L' := [(0, .ref 67), (1, .int x1), (2, .int x2), (3, .int u0), (4, .int (z4 + 1))]) [2, 3, 4, 1, 0] [4, 3, 0, 1, 2] [0, 1, 2, 3, 4] rfl rfl (by decide) (by decide) rfl ?_
  exact hr
set_option maxRecDepth 20000 in
theorem eMo_print (d : Nat) (x1 : Int32) (x2 : Int32) (s : aT) : ∀ r, (cG (fMo_isSubject d x1 s) (kI fun v2 s1 => if v2 = 0 then fMo_print_12 (d + 1) x1 x2 s1 else if ¬ gI s1 67 11 = 0 then fMo_print_14 (d + 1) x1 x2 s1 else cG (fMo_isVersion d x1 x2 s1) (kI fun v4 s3 => if ¬ v4 = 0 then fMo_print_14 (d + 1) x1 x2 s3 else fMo_print_12 (d + 1) x1 x2 s3))) = some r → fMo_print (d + 1) x1 x2 s = some r := by
  intro r hr
  show ev (d + 1) q_292 0 [(0, .ref 67), (1, .int x1), (2, .int x2)] [] s = some r
  refine ev_seg 2 (k' := 2) (L' := [(0, .ref 67), (1, .int x1), (2, .int x2)]) (st' := [.int x1, .ref 67]) rfl ?_
  refine ev_callS (q' := q_233) (x := 233) (vs := [.int x1]) (rest := [.ref 67]) hr rfl rfl rfl rfl rfl rfl rfl rfl rfl rfl (fun rv s1 hq => ev_kI hq (fun v2 e9 hr => ?_))
  subst e9
  refine ev_st (st' := [.int v2, .ref 67]) rfl ?_
  refine ev_br (P := v2 = 0) (L' := [(0, .ref 67), (1, .int x1), (2, .int x2)]) (st' := [.ref 67]) hr rfl rfl rfl (fun hr => ?_) (fun hr => ?_)
  · skip
    exact hr
  · skip
    refine ev_seg 2 (k' := 6) (L' := [(0, .ref 67), (1, .int x1), (2, .int x2)]) (st' := [.int (gI s1 67 11), .ref 67]) rfl ?_
    refine ev_br (P := ¬ gI s1 67 11 = 0) (L' := [(0, .ref 67), (1, .int x1), (2, .int x2)]) (st' := [.ref 67]) hr rfl rfl rfl (fun hr => ?_) (fun hr => ?_)
    · skip
      exact hr
    · skip
      refine ev_seg 3 (k' := 10) (L' := [(0, .ref 67), (1, .int x1), (2, .int x2)]) (st' := [.int x2, .int x1, .ref 67, .ref 67]) rfl ?_
      refine ev_callV (q' := q_250) (x := 250) (y := 13) (c := 67) (As := [.int x1, .int x2]) (rest := [.ref 67]) hr rfl rfl rfl rfl rfl rfl rfl rfl rfl rfl rfl rfl (fun rv s3 hq => ev_kI hq (fun v4 e9 hr => ?_))
      subst e9
      refine ev_st (st' := [.int v4, .ref 67]) rfl ?_
      refine ev_br (P := ¬ v4 = 0) (L' := [(0, .ref 67), (1, .int x1), (2, .int x2)]) (st' := [.ref 67]) hr rfl rfl rfl (fun hr => ?_) (fun hr => ?_)
      · skip
        exact hr
      · skip
        exact hr
set_option maxRecDepth 20000 in
theorem eMo_print_12 (d : Nat) (x1 : Int32) (x2 : Int32) (s : aT) : ∀ r, (fMo_print_15 (d + 1) x1 x2 1 s) = some r → fMo_print_12 (d + 1) x1 x2 s = some r := by
  intro r hr
  show ev (d + 1) q_292 12 [(0, .ref 67), (1, .int x1), (2, .int x2)] [.ref 67] s = some r
  refine ev_seg 2 (k' := 15) (L' := [(0, .ref 67), (1, .int x1), (2, .int x2)]) (st' := [.int 1, .ref 67]) rfl ?_
  exact hr
set_option maxRecDepth 20000 in
theorem eMo_print_14 (d : Nat) (x1 : Int32) (x2 : Int32) (s : aT) : ∀ r, (fMo_print_15 (d + 1) x1 x2 0 s) = some r → fMo_print_14 (d + 1) x1 x2 s = some r := by
  intro r hr
  show ev (d + 1) q_292 14 [(0, .ref 67), (1, .int x1), (2, .int x2)] [.ref 67] s = some r
  refine ev_seg 1 (k' := 15) (L' := [(0, .ref 67), (1, .int x1), (2, .int x2)]) (st' := [.int 0, .ref 67]) rfl ?_
  exact hr
set_option maxRecDepth 20000 in
theorem eMo_print_15 (d : Nat) (x1 : Int32) (x2 : Int32) (u0 : Int32) (s : aT) : ∀ r, (cG (fMo_refused d u0 0 s) (kI fun v2 s1 => if ¬ v2 = 0 then rL 0 s1 else if gI s1 67 11 = 0 then cG (fMo_printOf d x1 x2 s1) (kL fun v4 s3 => rL v4 s3) else rL 0 s1)) = some r → fMo_print_15 (d + 1) x1 x2 u0 s = some r := by
  intro r hr
  show ev (d + 1) q_292 15 [(0, .ref 67), (1, .int x1), (2, .int x2)] [.int u0, .ref 67] s = some r
  refine ev_seg 1 (k' := 16) (L' := [(0, .ref 67), (1, .int x1), (2, .int x2)]) (st' := [.int 0, .int u0, .ref 67]) rfl ?_
  refine ev_callV (q' := q_189) (x := 189) (y := 13) (c := 67) (As := [.int u0, .int 0]) (rest := []) hr rfl rfl rfl rfl rfl rfl rfl rfl rfl rfl rfl rfl (fun rv s1 hq => ev_kI hq (fun v2 e9 hr => ?_))
  subst e9
  refine ev_st (st' := [.int v2]) rfl ?_
  refine ev_br (P := ¬ v2 = 0) (L' := [(0, .ref 67), (1, .int x1), (2, .int x2)]) (st' := []) hr rfl rfl rfl (fun hr => ?_) (fun hr => ?_)
  · skip
    refine ev_seg 1 (k' := 22) (L' := [(0, .ref 67), (1, .int x1), (2, .int x2)]) (st' := [.long 0]) rfl ?_
    exact ev_lret hr rfl rfl
  · skip
    refine ev_seg 2 (k' := 20) (L' := [(0, .ref 67), (1, .int x1), (2, .int x2)]) (st' := [.int (gI s1 67 11)]) rfl ?_
    refine ev_br (P := gI s1 67 11 = 0) (L' := [(0, .ref 67), (1, .int x1), (2, .int x2)]) (st' := []) hr rfl rfl rfl (fun hr => ?_) (fun hr => ?_)
    · skip
      refine ev_seg 3 (k' := 26) (L' := [(0, .ref 67), (1, .int x1), (2, .int x2)]) (st' := [.int x2, .int x1, .ref 67]) rfl ?_
      refine ev_callV (q' := q_293) (x := 293) (y := 13) (c := 67) (As := [.int x1, .int x2]) (rest := []) hr rfl rfl rfl rfl rfl rfl rfl rfl rfl rfl rfl rfl (fun rv s3 hq => ev_kL hq (fun v4 e9 hr => ?_))
      subst e9
      refine ev_st (st' := [.long v4]) rfl ?_
      exact ev_lret hr rfl rfl
    · skip
      refine ev_seg 1 (k' := 22) (L' := [(0, .ref 67), (1, .int x1), (2, .int x2)]) (st' := [.long 0]) rfl ?_
      exact ev_lret hr rfl rfl
set_option maxRecDepth 20000 in
theorem eMo_printOf (d : Nat) (x1 : Int32) (x2 : Int32) (s : aT) : ∀ r, (cG (fMo_readVersion d 113 x1 x2 s) (kV fun s1 => cG (fMt_print d 113 s1) (kL fun v3 s2 => rL v3 s2))) = some r → fMo_printOf (d + 1) x1 x2 s = some r := by
  intro r hr
  show ev (d + 1) q_293 0 [(0, .ref 67), (1, .int x1), (2, .int x2)] [] s = some r
  refine ev_seg 5 (k' := 5) (L' := [(0, .ref 67), (1, .int x1), (2, .int x2)]) (st' := [.int x2, .int x1, .ref 113, .ref 67]) rfl ?_
  refine ev_callV (q' := q_235) (x := 235) (y := 13) (c := 67) (As := [.ref 113, .int x1, .int x2]) (rest := []) hr rfl rfl rfl rfl rfl rfl rfl rfl rfl rfl rfl rfl (fun rv s1 hq => ev_kV hq (fun e9 hr => ?_))
  subst e9
  refine ev_st (st' := []) rfl ?_
  refine ev_seg 2 (k' := 8) (L' := [(0, .ref 67), (1, .int x1), (2, .int x2)]) (st' := [.ref 113]) rfl ?_
  refine ev_callV (q' := q_294) (x := 294) (y := 12) (c := 113) (As := []) (rest := []) hr rfl rfl rfl rfl rfl rfl rfl rfl rfl rfl rfl rfl (fun rv s2 hq => ev_kL hq (fun v3 e9 hr => ?_))
  subst e9
  refine ev_st (st' := [.long v3]) rfl ?_
  exact ev_lret hr rfl rfl
