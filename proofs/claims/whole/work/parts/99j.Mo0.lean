/-! RecordLakeModel: what its pieces do -/
set_option maxRecDepth 20000 in
theorem eMo_thrown (d : Nat) (s : aT) : ∀ r, (rI (gI s 67 0) s) = some r → fMo_thrown d s = some r := by
  intro r hr
  show ev d q_187 0 [(0, .ref 67)] [] s = some r
  refine ev_seg 2 (k' := 2) (L' := [(0, .ref 67)]) (st' := [.int (gI s 67 0)]) rfl ?_
  exact ev_iret hr rfl rfl rfl
set_option maxRecDepth 20000 in
theorem eMo_feed (d : Nat) (x1 : Int32) (x2 : Int32) (x3 : Int32) (x4 : Int32) (x5 : Int32) (s : aT) : ∀ r, (if (gI s 67 2) + 20 ≤ 4096 then fMo_feed_10 (d + 1) x1 x2 x3 x4 x5 0 s else fMo_feed_10 (d + 1) x1 x2 x3 x4 x5 1 s) = some r → fMo_feed (d + 1) x1 x2 x3 x4 x5 s = some r := by
  intro r hr
  show ev (d + 1) q_188 0 [(0, .ref 67), (1, .int x1), (2, .int x2), (3, .int x3), (4, .int x4), (5, .int x5)] [] s = some r
  refine ev_seg 6 (k' := 6) (L' := [(0, .ref 67), (1, .int x1), (2, .int x2), (3, .int x3), (4, .int x4), (5, .int x5)]) (st' := [.int 4096, .int ((gI s 67 2) + 20), .ref 67]) rfl ?_
  refine ev_br (P := (gI s 67 2) + 20 ≤ 4096) (L' := [(0, .ref 67), (1, .int x1), (2, .int x2), (3, .int x3), (4, .int x4), (5, .int x5)]) (st' := [.ref 67]) hr rfl rfl rfl (fun hr => ?_) (fun hr => ?_)
  · skip
    refine ev_seg 1 (k' := 10) (L' := [(0, .ref 67), (1, .int x1), (2, .int x2), (3, .int x3), (4, .int x4), (5, .int x5)]) (st' := [.int 0, .ref 67]) rfl ?_
    exact hr
  · skip
    refine ev_seg 2 (k' := 10) (L' := [(0, .ref 67), (1, .int x1), (2, .int x2), (3, .int x3), (4, .int x4), (5, .int x5)]) (st' := [.int 1, .ref 67]) rfl ?_
    exact hr
set_option maxRecDepth 20000 in
theorem eMo_feed_10 (d : Nat) (x1 : Int32) (x2 : Int32) (x3 : Int32) (x4 : Int32) (x5 : Int32) (u0 : Int32) (s : aT) : ∀ r, (cG (fMo_refused d u0 0 s) (kI fun v2 s1 => if v2 = 0 then cG (fMo_addInt d x1 s1) (kV fun s3 => cG (fMo_addInt d x2 s3) (kV fun s4 => cG (fMo_addInt d x3 s4) (kV fun s5 => cG (fMo_addInt d x4 s5) (kV fun s6 => cG (fMo_addInt d x5 s6) (kV fun s7 => rI (gI s7 67 2) s7))))) else rI 0 s1)) = some r → fMo_feed_10 (d + 1) x1 x2 x3 x4 x5 u0 s = some r := by
  intro r hr
  show ev (d + 1) q_188 10 [(0, .ref 67), (1, .int x1), (2, .int x2), (3, .int x3), (4, .int x4), (5, .int x5)] [.int u0, .ref 67] s = some r
  refine ev_seg 1 (k' := 11) (L' := [(0, .ref 67), (1, .int x1), (2, .int x2), (3, .int x3), (4, .int x4), (5, .int x5)]) (st' := [.int 0, .int u0, .ref 67]) rfl ?_
  refine ev_callV (q' := q_189) (x := 189) (y := 13) (c := 67) (As := [.int u0, .int 0]) (rest := []) hr rfl rfl rfl rfl rfl rfl rfl rfl rfl rfl rfl rfl (fun rv s1 hq => ev_kI hq (fun v2 e9 hr => ?_))
  subst e9
  refine ev_st (st' := [.int v2]) rfl ?_
  refine ev_br (P := v2 = 0) (L' := [(0, .ref 67), (1, .int x1), (2, .int x2), (3, .int x3), (4, .int x4), (5, .int x5)]) (st' := []) hr rfl rfl rfl (fun hr => ?_) (fun hr => ?_)
  · skip
    refine ev_seg 2 (k' := 17) (L' := [(0, .ref 67), (1, .int x1), (2, .int x2), (3, .int x3), (4, .int x4), (5, .int x5)]) (st' := [.int x1, .ref 67]) rfl ?_
    refine ev_callV (q' := q_190) (x := 190) (y := 13) (c := 67) (As := [.int x1]) (rest := []) hr rfl rfl rfl rfl rfl rfl rfl rfl rfl rfl rfl rfl (fun rv s3 hq => ev_kV hq (fun e9 hr => ?_))
    subst e9
    refine ev_st (st' := []) rfl ?_
    refine ev_seg 2 (k' := 20) (L' := [(0, .ref 67), (1, .int x1), (2, .int x2), (3, .int x3), (4, .int x4), (5, .int x5)]) (st' := [.int x2, .ref 67]) rfl ?_
    refine ev_callV (q' := q_190) (x := 190) (y := 13) (c := 67) (As := [.int x2]) (rest := []) hr rfl rfl rfl rfl rfl rfl rfl rfl rfl rfl rfl rfl (fun rv s4 hq => ev_kV hq (fun e9 hr => ?_))
    subst e9
    refine ev_st (st' := []) rfl ?_
    refine ev_seg 2 (k' := 23) (L' := [(0, .ref 67), (1, .int x1), (2, .int x2), (3, .int x3), (4, .int x4), (5, .int x5)]) (st' := [.int x3, .ref 67]) rfl ?_
    refine ev_callV (q' := q_190) (x := 190) (y := 13) (c := 67) (As := [.int x3]) (rest := []) hr rfl rfl rfl rfl rfl rfl rfl rfl rfl rfl rfl rfl (fun rv s5 hq => ev_kV hq (fun e9 hr => ?_))
    subst e9
    refine ev_st (st' := []) rfl ?_
    refine ev_seg 2 (k' := 26) (L' := [(0, .ref 67), (1, .int x1), (2, .int x2), (3, .int x3), (4, .int x4), (5, .int x5)]) (st' := [.int x4, .ref 67]) rfl ?_
    refine ev_callV (q' := q_190) (x := 190) (y := 13) (c := 67) (As := [.int x4]) (rest := []) hr rfl rfl rfl rfl rfl rfl rfl rfl rfl rfl rfl rfl (fun rv s6 hq => ev_kV hq (fun e9 hr => ?_))
    subst e9
    refine ev_st (st' := []) rfl ?_
    refine ev_seg 2 (k' := 29) (L' := [(0, .ref 67), (1, .int x1), (2, .int x2), (3, .int x3), (4, .int x4), (5, .int x5)]) (st' := [.int x5, .ref 67]) rfl ?_
    refine ev_callV (q' := q_190) (x := 190) (y := 13) (c := 67) (As := [.int x5]) (rest := []) hr rfl rfl rfl rfl rfl rfl rfl rfl rfl rfl rfl rfl (fun rv s7 hq => ev_kV hq (fun e9 hr => ?_))
    subst e9
    refine ev_st (st' := []) rfl ?_
    refine ev_seg 2 (k' := 32) (L' := [(0, .ref 67), (1, .int x1), (2, .int x2), (3, .int x3), (4, .int x4), (5, .int x5)]) (st' := [.int (gI s7 67 2)]) rfl ?_
    exact ev_iret hr rfl rfl rfl
  · skip
    refine ev_seg 1 (k' := 14) (L' := [(0, .ref 67), (1, .int x1), (2, .int x2), (3, .int x3), (4, .int x4), (5, .int x5)]) (st' := [.int 0]) rfl ?_
    exact ev_iret hr rfl rfl rfl
set_option maxRecDepth 20000 in
theorem eMo_refused (d : Nat) (x1 : Int32) (x2 : Int32) (s : aT) : ∀ r, (if x1 = 0 then if x2 = 0 then fMo_refused_10 d 0 s else fMo_refused_10 d 2 s else fMo_refused_10 d 1 s) = some r → fMo_refused d x1 x2 s = some r := by
  intro r hr
  show ev d q_189 0 [(0, .ref 67), (1, .int x1), (2, .int x2)] [] s = some r
  refine ev_seg 2 (k' := 2) (L' := [(0, .ref 67), (1, .int x1), (2, .int x2)]) (st' := [.int x1, .ref 67]) rfl ?_
  refine ev_br (P := x1 = 0) (L' := [(0, .ref 67), (1, .int x1), (2, .int x2)]) (st' := [.ref 67]) hr rfl rfl rfl (fun hr => ?_) (fun hr => ?_)
  · skip
    refine ev_seg 1 (k' := 6) (L' := [(0, .ref 67), (1, .int x1), (2, .int x2)]) (st' := [.int x2, .ref 67]) rfl ?_
    refine ev_br (P := x2 = 0) (L' := [(0, .ref 67), (1, .int x1), (2, .int x2)]) (st' := [.ref 67]) hr rfl rfl rfl (fun hr => ?_) (fun hr => ?_)
    · skip
      refine ev_seg 1 (k' := 10) (L' := [(0, .ref 67), (1, .int x1), (2, .int x2)]) (st' := [.int 0, .ref 67]) rfl ?_
      refine ev_join (L' := [(0, .ref 67)]) [0] [0, 1, 2] [0] rfl rfl (by decide) (by decide) rfl ?_
      exact hr
    · skip
      refine ev_seg 2 (k' := 10) (L' := [(0, .ref 67), (1, .int x1), (2, .int x2)]) (st' := [.int 2, .ref 67]) rfl ?_
      refine ev_join (L' := [(0, .ref 67)]) [0] [0, 1, 2] [0] rfl rfl (by decide) (by decide) rfl ?_
      exact hr
  · skip
    refine ev_seg 2 (k' := 10) (L' := [(0, .ref 67), (1, .int x1), (2, .int x2)]) (st' := [.int 1, .ref 67]) rfl ?_
    refine ev_join (L' := [(0, .ref 67)]) [0] [0, 1, 2] [0] rfl rfl (by decide) (by decide) rfl ?_
    exact hr
set_option maxRecDepth 20000 in
theorem eMo_refused_10 (d : Nat) (u0 : Int32) (s : aT) : ∀ r, (wI s 67 0 u0 (fun s1 => if gI s1 67 0 ≤ 0 then rI 0 s1 else rI 1 s1)) = some r → fMo_refused_10 d u0 s = some r := by
  intro r hr
  show ev d q_189 10 [(0, .ref 67)] [.int u0, .ref 67] s = some r
  refine ev_putI (c := 67) hr rfl rfl rfl (fun s1 hr => ?_)
  refine ev_seg 2 (k' := 13) (L' := [(0, .ref 67)]) (st' := [.int (gI s1 67 0)]) rfl ?_
  refine ev_br (P := gI s1 67 0 ≤ 0) (L' := [(0, .ref 67)]) (st' := []) hr rfl rfl rfl (fun hr => ?_) (fun hr => ?_)
  · skip
    refine ev_seg 1 (k' := 17) (L' := [(0, .ref 67)]) (st' := [.int 0]) rfl ?_
    exact ev_iret hr rfl rfl rfl
  · skip
    refine ev_seg 2 (k' := 17) (L' := [(0, .ref 67)]) (st' := [.int 1]) rfl ?_
    exact ev_iret hr rfl rfl rfl
set_option maxRecDepth 20000 in
theorem eMo_addInt (d : Nat) (x1 : Int32) (s : aT) : ∀ r, (fMo_addInt_2 d x1 24 s) = some r → fMo_addInt d x1 s = some r := by
  intro r hr
  show ev d q_190 0 [(0, .ref 67), (1, .int x1)] [] s = some r
  refine ev_seg 2 (k' := 2) (L' := [(2, .int 24), (0, .ref 67), (1, .int x1)]) (st' := []) rfl ?_
  refine ev_join (L' := [(0, .ref 67), (1, .int x1), (2, .int 24)]) [1, 2, 0] [2, 0, 1] [0, 1, 2] rfl rfl (by decide) (by decide) rfl ?_
  exact hr
set_option maxRecDepth 20000 in
theorem eMo_addInt_2 (d : Nat) (x1 : Int32) (z2 : Int32) (s : aT) : ∀ r, (if z2 < 0 then rV s else stI 4096 s 68 (gI s 67 2) (vp_nar .byte ((x1 >>> (z2 &&& 31)).toInt8.toInt32)) (fun s1 => wI s1 67 2 ((gI s1 67 2) + 1) (fun s2 => fMo_addInt_2 d x1 (z2 + (-8)) s2))) = some r → fMo_addInt_2 d x1 z2 s = some r := by
  intro r hr
  show ev d q_190 2 [(0, .ref 67), (1, .int x1), (2, .int z2)] [] s = some r
  refine ev_seg 1 (k' := 3) (L' := [(0, .ref 67), (1, .int x1), (2, .int z2)]) (st' := [.int z2]) rfl ?_
  refine ev_br (P := z2 < 0) (L' := [(0, .ref 67), (1, .int x1), (2, .int z2)]) (st' := []) hr rfl rfl rfl (fun hr => ?_) (fun hr => ?_)
  · skip
    exact ev_vret hr rfl rfl
  · skip
    refine ev_seg 8 (k' := 12) (L' := [(0, .ref 67), (1, .int x1), (2, .int z2)]) (st' := [.int ((x1 >>> (z2 &&& 31)).toInt8.toInt32), .int (gI s 67 2), .ref 68]) rfl ?_
    refine ev_stB hr rfl rfl (fun s1 hr => ?_)
    refine ev_seg 5 (k' := 18) (L' := [(0, .ref 67), (1, .int x1), (2, .int z2)]) (st' := [.int ((gI s1 67 2) + 1), .ref 67]) rfl ?_
    refine ev_putI (c := 67) hr rfl rfl rfl (fun s2 hr => ?_)
    refine ev_seg 2 (k' := 2) (L' := [(2, .int (z2 + (-8))), (0, .ref 67), (1, .int x1)]) (st' := []) rfl ?_
    refine ev_join (L' := [(0, .ref 67), (1, .int x1), (2, .int (z2 + (-8)))]) [1, 2, 0] [2, 0, 1] [0, 1, 2] rfl rfl (by decide) (by decide) rfl ?_
    exact hr
set_option maxRecDepth 20000 in
theorem eMo_end (d : Nat) (x1 : Int32) (s : aT) : ∀ r, (cG (fMo_within d x1 0 (gI s 67 2) s) (kI fun v2 s1 => if ¬ v2 = 0 then fMo_end_10 (d + 1) x1 0 s1 else fMo_end_10 (d + 1) x1 1 s1)) = some r → fMo_end (d + 1) x1 s = some r := by
  intro r hr
  show ev (d + 1) q_191 0 [(0, .ref 67), (1, .int x1)] [] s = some r
  refine ev_seg 5 (k' := 5) (L' := [(0, .ref 67), (1, .int x1)]) (st' := [.int (gI s 67 2), .int 0, .int x1, .ref 67]) rfl ?_
  refine ev_callS (q' := q_192) (x := 192) (vs := [.int x1, .int 0, .int (gI s 67 2)]) (rest := [.ref 67]) hr rfl rfl rfl rfl rfl rfl rfl rfl rfl rfl (fun rv s1 hq => ev_kI hq (fun v2 e9 hr => ?_))
  subst e9
  refine ev_st (st' := [.int v2, .ref 67]) rfl ?_
  refine ev_br (P := ¬ v2 = 0) (L' := [(0, .ref 67), (1, .int x1)]) (st' := [.ref 67]) hr rfl rfl rfl (fun hr => ?_) (fun hr => ?_)
  · skip
    refine ev_seg 1 (k' := 10) (L' := [(0, .ref 67), (1, .int x1)]) (st' := [.int 0, .ref 67]) rfl ?_
    exact hr
  · skip
    refine ev_seg 2 (k' := 10) (L' := [(0, .ref 67), (1, .int x1)]) (st' := [.int 1, .ref 67]) rfl ?_
    exact hr
set_option maxRecDepth 20000 in
theorem eMo_end_10 (d : Nat) (x1 : Int32) (u0 : Int32) (s : aT) : ∀ r, (cG (fMo_refused d u0 0 s) (kI fun v2 s1 => if ¬ v2 = 0 then rV s1 else wI s1 67 2 x1 (fun s3 => rV s3))) = some r → fMo_end_10 (d + 1) x1 u0 s = some r := by
  intro r hr
  show ev (d + 1) q_191 10 [(0, .ref 67), (1, .int x1)] [.int u0, .ref 67] s = some r
  refine ev_seg 1 (k' := 11) (L' := [(0, .ref 67), (1, .int x1)]) (st' := [.int 0, .int u0, .ref 67]) rfl ?_
  refine ev_callV (q' := q_189) (x := 189) (y := 13) (c := 67) (As := [.int u0, .int 0]) (rest := []) hr rfl rfl rfl rfl rfl rfl rfl rfl rfl rfl rfl rfl (fun rv s1 hq => ev_kI hq (fun v2 e9 hr => ?_))
  subst e9
  refine ev_st (st' := [.int v2]) rfl ?_
  refine ev_br (P := ¬ v2 = 0) (L' := [(0, .ref 67), (1, .int x1)]) (st' := []) hr rfl rfl rfl (fun hr => ?_) (fun hr => ?_)
  · skip
    exact ev_vret hr rfl rfl
  · skip
    refine ev_seg 2 (k' := 15) (L' := [(0, .ref 67), (1, .int x1)]) (st' := [.int x1, .ref 67]) rfl ?_
    refine ev_putI (c := 67) hr rfl rfl rfl (fun s3 hr => ?_)
    exact ev_vret hr rfl rfl
set_option maxRecDepth 20000 in
theorem eMo_within (d : Nat) (x0 : Int32) (x1 : Int32) (x2 : Int32) (s : aT) : ∀ r, (if x0 < x1 then rI 0 s else if x2 < x0 then rI 0 s else rI 1 s) = some r → fMo_within d x0 x1 x2 s = some r := by
  intro r hr
  show ev d q_192 0 [(0, .int x0), (1, .int x1), (2, .int x2)] [] s = some r
  refine ev_seg 2 (k' := 2) (L' := [(0, .int x0), (1, .int x1), (2, .int x2)]) (st' := [.int x1, .int x0]) rfl ?_
  refine ev_br (P := x0 < x1) (L' := [(0, .int x0), (1, .int x1), (2, .int x2)]) (st' := []) hr rfl rfl rfl (fun hr => ?_) (fun hr => ?_)
  · skip
    refine ev_seg 1 (k' := 9) (L' := [(0, .int x0), (1, .int x1), (2, .int x2)]) (st' := [.int 0]) rfl ?_
    exact ev_iret hr rfl rfl rfl
  · skip
    refine ev_seg 2 (k' := 5) (L' := [(0, .int x0), (1, .int x1), (2, .int x2)]) (st' := [.int x2, .int x0]) rfl ?_
    refine ev_br (P := x2 < x0) (L' := [(0, .int x0), (1, .int x1), (2, .int x2)]) (st' := []) hr rfl rfl rfl (fun hr => ?_) (fun hr => ?_)
    · skip
      refine ev_seg 1 (k' := 9) (L' := [(0, .int x0), (1, .int x1), (2, .int x2)]) (st' := [.int 0]) rfl ?_
      exact ev_iret hr rfl rfl rfl
    · skip
      refine ev_seg 2 (k' := 9) (L' := [(0, .int x0), (1, .int x1), (2, .int x2)]) (st' := [.int 1]) rfl ?_
      exact ev_iret hr rfl rfl rfl
set_option maxRecDepth 20000 in
theorem eMo_schema (d : Nat) (s : aT) : ∀ r, (wI s 67 0 0 (fun s1 => cG (fMo_readTyped d s1) (kI fun v3 s2 => rI v3 s2))) = some r → fMo_schema (d + 1) s = some r := by
  intro r hr
  show ev (d + 1) q_193 0 [(0, .ref 67)] [] s = some r
  refine ev_seg 2 (k' := 2) (L' := [(0, .ref 67)]) (st' := [.int 0, .ref 67]) rfl ?_
  refine ev_putI (c := 67) hr rfl rfl rfl (fun s1 hr => ?_)
  refine ev_seg 1 (k' := 4) (L' := [(0, .ref 67)]) (st' := [.ref 67]) rfl ?_
  refine ev_callV (q' := q_194) (x := 194) (y := 13) (c := 67) (As := []) (rest := []) hr rfl rfl rfl rfl rfl rfl rfl rfl rfl rfl rfl rfl (fun rv s2 hq => ev_kI hq (fun v3 e9 hr => ?_))
  subst e9
  refine ev_st (st' := [.int v3]) rfl ?_
  exact ev_iret hr rfl rfl rfl
set_option maxRecDepth 20000 in
theorem eMo_readTyped (d : Nat) (s : aT) : ∀ r, (cN (fMt_read d 69 68 0 (gI s 67 2) s) (kI fun v2 s1 => if v2 ≤ 0 then fMo_readTyped_17 (d + 1) v2 (-1) s1 else fMo_readTyped_17 (d + 1) v2 (gI s1 69 5) s1)) = some r → fMo_readTyped (d + 1) s = some r := by
  intro r hr
  show ev (d + 1) q_194 0 [(0, .ref 67)] [] s = some r
  refine ev_seg 7 (k' := 7) (L' := [(0, .ref 67)]) (st' := [.int (gI s 67 2), .int 0, .ref 68, .ref 69]) rfl ?_
  refine ev_callN (q' := q_195) (x := 195) (y := 12) (c := 69) (As := [.ref 68, .int 0, .int (gI s 67 2)]) (rest := []) hr rfl rfl rfl rfl rfl rfl rfl rfl rfl (fun rv s1 hq => ev_kI hq (fun v2 e9 hr => ?_))
  subst e9
  refine ev_st (st' := [.int v2]) rfl ?_
  refine ev_seg 3 (k' := 11) (L' := [(1, .int v2), (0, .ref 67)]) (st' := [.int v2, .ref 67]) rfl ?_
  refine ev_br (P := v2 ≤ 0) (L' := [(1, .int v2), (0, .ref 67)]) (st' := [.ref 67]) hr rfl rfl rfl (fun hr => ?_) (fun hr => ?_)
  · skip
    refine ev_seg 1 (k' := 17) (L' := [(1, .int v2), (0, .ref 67)]) (st' := [.int (-1), .ref 67]) rfl ?_
    refine ev_join (L' := [(0, .ref 67), (1, .int v2)]) [1, 0] [1, 0] [0, 1] rfl rfl (by decide) (by decide) rfl ?_
    exact hr
  · skip
    refine ev_seg 4 (k' := 17) (L' := [(1, .int v2), (0, .ref 67)]) (st' := [.int (gI s1 69 5), .ref 67]) rfl ?_
    refine ev_join (L' := [(0, .ref 67), (1, .int v2)]) [1, 0] [1, 0] [0, 1] rfl rfl (by decide) (by decide) rfl ?_
    exact hr
set_option maxRecDepth 20000 in
theorem eMo_readTyped_17 (d : Nat) (z1 : Int32) (u0 : Int32) (s : aT) : ∀ r, (wI s 67 3 u0 (fun s1 => wI s1 67 8 (gI s1 69 33) (fun s2 => fMo_readTyped_25 (d + 1) z1 0 s2))) = some r → fMo_readTyped_17 (d + 1) z1 u0 s = some r := by
  intro r hr
  show ev (d + 1) q_194 17 [(0, .ref 67), (1, .int z1)] [.int u0, .ref 67] s = some r
  refine ev_putI (c := 67) hr rfl rfl rfl (fun s1 hr => ?_)
  refine ev_seg 4 (k' := 22) (L' := [(0, .ref 67), (1, .int z1)]) (st' := [.int (gI s1 69 33), .ref 67]) rfl ?_
  refine ev_putI (c := 67) hr rfl rfl rfl (fun s2 hr => ?_)
  refine ev_seg 2 (k' := 25) (L' := [(2, .int 0), (0, .ref 67), (1, .int z1)]) (st' := []) rfl ?_
  refine ev_join (L' := [(0, .ref 67), (1, .int z1), (2, .int 0)]) [1, 2, 0] [2, 0, 1] [0, 1, 2] rfl rfl (by decide) (by decide) rfl ?_
  exact hr
set_option maxRecDepth 20000 in
theorem eMo_readTyped_25 (d : Nat) (z1 : Int32) (z2 : Int32) (s : aT) : ∀ r, (if gI s 67 8 ≤ z2 then rI z1 s else ldI 4200 s 89 z2 (fun v1 => stI 4200 s 135 z2 (vp_nar .byte v1) (fun s2 => fMo_readTyped_25 (d + 1) z1 (z2 + 1) s2))) = some r → fMo_readTyped_25 (d + 1) z1 z2 s = some r := by
  intro r hr
  show ev (d + 1) q_194 25 [(0, .ref 67), (1, .int z1), (2, .int z2)] [] s = some r
  refine ev_seg 3 (k' := 28) (L' := [(0, .ref 67), (1, .int z1), (2, .int z2)]) (st' := [.int (gI s 67 8), .int z2]) rfl ?_
  refine ev_br (P := gI s 67 8 ≤ z2) (L' := [(0, .ref 67), (1, .int z1), (2, .int z2)]) (st' := []) hr rfl rfl rfl (fun hr => ?_) (fun hr => ?_)
  · skip
    refine ev_seg 1 (k' := 41) (L' := [(0, .ref 67), (1, .int z1), (2, .int z2)]) (st' := [.int z1]) rfl ?_
    exact ev_iret hr rfl rfl rfl
  · skip
    refine ev_seg 7 (k' := 36) (L' := [(0, .ref 67), (1, .int z1), (2, .int z2)]) (st' := [.int z2, .ref 89, .int z2, .ref 135]) rfl ?_
    refine ev_ldB hr rfl rfl (fun v1 hr => ?_)
    refine ev_stB hr rfl rfl (fun s2 hr => ?_)
    refine ev_seg 2 (k' := 25) (L' := [(2, .int (z2 + 1)), (0, .ref 67), (1, .int z1)]) (st' := []) rfl ?_
    refine ev_join (L' := [(0, .ref 67), (1, .int z1), (2, .int (z2 + 1))]) [1, 2, 0] [2, 0, 1] [0, 1, 2] rfl rfl (by decide) (by decide) rfl ?_
    exact hr
set_option maxRecDepth 20000 in
theorem eMo_register (d : Nat) (x1 : Int32) (s : aT) : ∀ r, (cG (fMo_isSubject d x1 s) (kI fun v2 s1 => if ¬ v2 = 0 then fMo_register_7 (d + 1) x1 0 s1 else fMo_register_7 (d + 1) x1 1 s1)) = some r → fMo_register (d + 1) x1 s = some r := by
  intro r hr
  show ev (d + 1) q_232 0 [(0, .ref 67), (1, .int x1)] [] s = some r
  refine ev_seg 2 (k' := 2) (L' := [(0, .ref 67), (1, .int x1)]) (st' := [.int x1, .ref 67]) rfl ?_
  refine ev_callS (q' := q_233) (x := 233) (vs := [.int x1]) (rest := [.ref 67]) hr rfl rfl rfl rfl rfl rfl rfl rfl rfl rfl (fun rv s1 hq => ev_kI hq (fun v2 e9 hr => ?_))
  subst e9
  refine ev_st (st' := [.int v2, .ref 67]) rfl ?_
  refine ev_br (P := ¬ v2 = 0) (L' := [(0, .ref 67), (1, .int x1)]) (st' := [.ref 67]) hr rfl rfl rfl (fun hr => ?_) (fun hr => ?_)
  · skip
    refine ev_seg 1 (k' := 7) (L' := [(0, .ref 67), (1, .int x1)]) (st' := [.int 0, .ref 67]) rfl ?_
    exact hr
  · skip
    refine ev_seg 2 (k' := 7) (L' := [(0, .ref 67), (1, .int x1)]) (st' := [.int 1, .ref 67]) rfl ?_
    exact hr
set_option maxRecDepth 20000 in
theorem eMo_register_7 (d : Nat) (x1 : Int32) (u0 : Int32) (s : aT) : ∀ r, (cG (fMo_refused d u0 0 s) (kI fun v2 s1 => if v2 = 0 then if gI s1 67 11 = 0 then cG (fMo_readTyped d s1) (kI fun v4 s3 => if v4 ≤ 0 then cG (fMo_versions d x1 s3) (kI fun v6 s5 => fMo_register_31 (d + 1) x1 v6 0 s5) else rI (-v4) s3) else rI (-33) s1 else rI 0 s1)) = some r → fMo_register_7 (d + 1) x1 u0 s = some r := by
  intro r hr
  show ev (d + 1) q_232 7 [(0, .ref 67), (1, .int x1)] [.int u0, .ref 67] s = some r
  refine ev_seg 1 (k' := 8) (L' := [(0, .ref 67), (1, .int x1)]) (st' := [.int 0, .int u0, .ref 67]) rfl ?_
  refine ev_callV (q' := q_189) (x := 189) (y := 13) (c := 67) (As := [.int u0, .int 0]) (rest := []) hr rfl rfl rfl rfl rfl rfl rfl rfl rfl rfl rfl rfl (fun rv s1 hq => ev_kI hq (fun v2 e9 hr => ?_))
  subst e9
  refine ev_st (st' := [.int v2]) rfl ?_
  refine ev_br (P := v2 = 0) (L' := [(0, .ref 67), (1, .int x1)]) (st' := []) hr rfl rfl rfl (fun hr => ?_) (fun hr => ?_)
  · skip
    refine ev_seg 2 (k' := 14) (L' := [(0, .ref 67), (1, .int x1)]) (st' := [.int (gI s1 67 11)]) rfl ?_
    refine ev_br (P := gI s1 67 11 = 0) (L' := [(0, .ref 67), (1, .int x1)]) (st' := []) hr rfl rfl rfl (fun hr => ?_) (fun hr => ?_)
    · skip
      refine ev_seg 1 (k' := 18) (L' := [(0, .ref 67), (1, .int x1)]) (st' := [.ref 67]) rfl ?_
      refine ev_callV (q' := q_194) (x := 194) (y := 13) (c := 67) (As := []) (rest := []) hr rfl rfl rfl rfl rfl rfl rfl rfl rfl rfl rfl rfl (fun rv s3 hq => ev_kI hq (fun v4 e9 hr => ?_))
      subst e9
      refine ev_st (st' := [.int v4]) rfl ?_
      refine ev_seg 2 (k' := 21) (L' := [(2, .int v4), (0, .ref 67), (1, .int x1)]) (st' := [.int v4]) rfl ?_
      refine ev_br (P := v4 ≤ 0) (L' := [(2, .int v4), (0, .ref 67), (1, .int x1)]) (st' := []) hr rfl rfl rfl (fun hr => ?_) (fun hr => ?_)
      · skip
        refine ev_seg 2 (k' := 27) (L' := [(2, .int v4), (0, .ref 67), (1, .int x1)]) (st' := [.int x1, .ref 67]) rfl ?_
        refine ev_callV (q' := q_234) (x := 234) (y := 13) (c := 67) (As := [.int x1]) (rest := []) hr rfl rfl rfl rfl rfl rfl rfl rfl rfl rfl rfl rfl (fun rv s5 hq => ev_kI hq (fun v6 e9 hr => ?_))
        subst e9
        refine ev_st (st' := [.int v6]) rfl ?_
        refine ev_seg 3 (k' := 31) (L' := [(4, .int 0), (3, .int v6), (2, .int v4), (0, .ref 67), (1, .int x1)]) (st' := []) rfl ?_
        refine ev_join (L' := [(0, .ref 67), (1, .int x1), (3, .int v6), (4, .int 0)]) [3, 4, 1, 0] [4, 3, 2, 0, 1] [0, 1, 3, 4] rfl rfl (by decide) (by decide) rfl ?_
        exact hr
      · skip
        refine ev_seg 2 (k' := 24) (L' := [(2, .int v4), (0, .ref 67), (1, .int x1)]) (st' := [.int (-v4)]) rfl ?_
        exact ev_iret hr rfl rfl rfl
    · skip
      refine ev_seg 1 (k' := 16) (L' := [(0, .ref 67), (1, .int x1)]) (st' := [.int (-33)]) rfl ?_
      exact ev_iret hr rfl rfl rfl
  · skip
    refine ev_seg 1 (k' := 11) (L' := [(0, .ref 67), (1, .int x1)]) (st' := [.int 0]) rfl ?_
    exact ev_iret hr rfl rfl rfl
set_option maxRecDepth 20000 in
theorem eMo_register_31 (d : Nat) (x1 : Int32) (z3 : Int32) (z4 : Int32) (s : aT) : ∀ r, (if z3 ≤ z4 then if ¬ z3 = 16 then cG (fMo_write d x1 z3 (gI s 69 6) (-1) (gI s 69 6) 68 (gI s 67 13) 0 s) (kI fun v2 s1 => if ¬ v2 = (-31) then wI s1 67 2 0 (fun s3 => if 0 ≤ v2 then rI z3 s3 else rI v2 s3) else rI (-31) s1) else rI (-31) s else cG (fMo_readVersion d 91 x1 z4 s) (kV fun s4 => cG (fMo_fitsAll d 91 69 s4) (kI fun v6 s5 => if ¬ v6 = 0 then fMo_register_31 (d + 1) x1 z3 (z4 + 1) s5 else rI (-30) s5))) = some r → fMo_register_31 (d + 1) x1 z3 z4 s = some r := by
  intro r hr
  show ev (d + 1) q_232 31 [(0, .ref 67), (1, .int x1), (3, .int z3), (4, .int z4)] [] s = some r
  refine ev_seg 2 (k' := 33) (L' := [(0, .ref 67), (1, .int x1), (3, .int z3), (4, .int z4)]) (st' := [.int z3, .int z4]) rfl ?_
  refine ev_br (P := z3 ≤ z4) (L' := [(0, .ref 67), (1, .int x1), (3, .int z3), (4, .int z4)]) (st' := []) hr rfl rfl rfl (fun hr => ?_) (fun hr => ?_)
  · skip
    refine ev_seg 2 (k' := 53) (L' := [(0, .ref 67), (1, .int x1), (3, .int z3), (4, .int z4)]) (st' := [.int 16, .int z3]) rfl ?_
    refine ev_br (P := ¬ z3 = 16) (L' := [(0, .ref 67), (1, .int x1), (3, .int z3), (4, .int z4)]) (st' := []) hr rfl rfl rfl (fun hr => ?_) (fun hr => ?_)
    · skip
      refine ev_seg 15 (k' := 71) (L' := [(0, .ref 67), (1, .int x1), (3, .int z3), (4, .int z4)]) (st' := [.int 0, .int (gI s 67 13), .ref 68, .int (gI s 69 6), .int (-1), .int (gI s 69 6), .int z3, .int x1, .ref 67]) rfl ?_
      refine ev_callV (q' := q_245) (x := 245) (y := 13) (c := 67) (As := [.int x1, .int z3, .int (gI s 69 6), .int (-1), .int (gI s 69 6), .ref 68, .int (gI s 67 13), .int 0]) (rest := []) hr rfl rfl rfl rfl rfl rfl rfl rfl rfl rfl rfl rfl (fun rv s1 hq => ev_kI hq (fun v2 e9 hr => ?_))
      subst e9
      refine ev_st (st' := [.int v2]) rfl ?_
      refine ev_seg 3 (k' := 75) (L' := [(4, .int v2), (0, .ref 67), (1, .int x1), (3, .int z3)]) (st' := [.int (-31), .int v2]) rfl ?_
      refine ev_br (P := ¬ v2 = (-31)) (L' := [(4, .int v2), (0, .ref 67), (1, .int x1), (3, .int z3)]) (st' := []) hr rfl rfl rfl (fun hr => ?_) (fun hr => ?_)
      · skip
        refine ev_seg 2 (k' := 80) (L' := [(4, .int v2), (0, .ref 67), (1, .int x1), (3, .int z3)]) (st' := [.int 0, .ref 67]) rfl ?_
        refine ev_putI (c := 67) hr rfl rfl rfl (fun s3 hr => ?_)
        refine ev_seg 1 (k' := 82) (L' := [(4, .int v2), (0, .ref 67), (1, .int x1), (3, .int z3)]) (st' := [.int v2]) rfl ?_
        refine ev_br (P := 0 ≤ v2) (L' := [(4, .int v2), (0, .ref 67), (1, .int x1), (3, .int z3)]) (st' := []) hr rfl rfl rfl (fun hr => ?_) (fun hr => ?_)
        · skip
          refine ev_seg 1 (k' := 86) (L' := [(4, .int v2), (0, .ref 67), (1, .int x1), (3, .int z3)]) (st' := [.int z3]) rfl ?_
          exact ev_iret hr rfl rfl rfl
        · skip
          refine ev_seg 2 (k' := 86) (L' := [(4, .int v2), (0, .ref 67), (1, .int x1), (3, .int z3)]) (st' := [.int v2]) rfl ?_
          exact ev_iret hr rfl rfl rfl
      · skip
        refine ev_seg 1 (k' := 77) (L' := [(4, .int v2), (0, .ref 67), (1, .int x1), (3, .int z3)]) (st' := [.int (-31)]) rfl ?_
        exact ev_iret hr rfl rfl rfl
    · skip
      refine ev_seg 1 (k' := 55) (L' := [(0, .ref 67), (1, .int x1), (3, .int z3), (4, .int z4)]) (st' := [.int (-31)]) rfl ?_
      exact ev_iret hr rfl rfl rfl
  · skip
    refine ev_seg 5 (k' := 39) (L' := [(0, .ref 67), (1, .int x1), (3, .int z3), (4, .int z4)]) (st' := [.int z4, .int x1, .ref 91, .ref 67]) rfl ?_
    refine ev_callV (q' := q_235) (x := 235) (y := 13) (c := 67) (As := [.ref 91, .int x1, .int z4]) (rest := []) hr rfl rfl rfl rfl rfl rfl rfl rfl rfl rfl rfl rfl (fun rv s4 hq => ev_kV hq (fun e9 hr => ?_))
    subst e9
    refine ev_st (st' := []) rfl ?_
    refine ev_seg 5 (k' := 45) (L' := [(0, .ref 67), (1, .int x1), (3, .int z3), (4, .int z4)]) (st' := [.ref 69, .ref 91, .ref 67]) rfl ?_
    refine ev_callV (q' := q_237) (x := 237) (y := 13) (c := 67) (As := [.ref 91, .ref 69]) (rest := []) hr rfl rfl rfl rfl rfl rfl rfl rfl rfl rfl rfl rfl (fun rv s5 hq => ev_kI hq (fun v6 e9 hr => ?_))
    subst e9
    refine ev_st (st' := [.int v6]) rfl ?_
    refine ev_br (P := ¬ v6 = 0) (L' := [(0, .ref 67), (1, .int x1), (3, .int z3), (4, .int z4)]) (st' := []) hr rfl rfl rfl (fun hr => ?_) (fun hr => ?_)
    · skip
      refine ev_seg 2 (k' := 31) (L' := [(4, .int (z4 + 1)), (0, .ref 67), (1, .int x1), (3, .int z3)]) (st' := []) rfl ?_
      refine ev_join (L' := [(0, .ref 67), (1, .int x1), (3, .int z3), (4, .int (z4 + 1))]) [1, 2, 3, 0] [4, 0, 1, 3] [0, 1, 3, 4] rfl rfl (by decide) (by decide) rfl ?_
      exact hr
    · skip
      refine ev_seg 1 (k' := 48) (L' := [(0, .ref 67), (1, .int x1), (3, .int z3), (4, .int z4)]) (st' := [.int (-30)]) rfl ?_
      exact ev_iret hr rfl rfl rfl
set_option maxRecDepth 20000 in
theorem eMo_isSubject (d : Nat) (x0 : Int32) (s : aT) : ∀ r, (cG (fMo_within d x0 0 3 s) (kI fun v2 s1 => rZ v2 s1)) = some r → fMo_isSubject (d + 1) x0 s = some r := by
  intro r hr
  show ev (d + 1) q_233 0 [(0, .int x0)] [] s = some r
  refine ev_seg 3 (k' := 3) (L' := [(0, .int x0)]) (st' := [.int 3, .int 0, .int x0]) rfl ?_
  refine ev_callS (q' := q_192) (x := 192) (vs := [.int x0, .int 0, .int 3]) (rest := []) hr rfl rfl rfl rfl rfl rfl rfl rfl rfl rfl (fun rv s1 hq => ev_kI hq (fun v2 e9 hr => ?_))
  subst e9
  refine ev_st (st' := [.int v2]) rfl ?_
  exact ev_zret hr rfl rfl
set_option maxRecDepth 20000 in
theorem eMo_versions (d : Nat) (x1 : Int32) (s : aT) : ∀ r, (fMo_versions_4 d x1 0 0 s) = some r → fMo_versions d x1 s = some r := by
  intro r hr
  show ev d q_234 0 [(0, .ref 67), (1, .int x1)] [] s = some r
  refine ev_seg 4 (k' := 4) (L' := [(3, .int 0), (2, .int 0), (0, .ref 67), (1, .int x1)]) (st' := []) rfl ?_
  refine ev_join (L' := [(0, .ref 67), (1, .int x1), (2, .int 0), (3, .int 0)]) [2, 3, 1, 0] [3, 2, 0, 1] [0, 1, 2, 3] rfl rfl (by decide) (by decide) rfl ?_
  exact hr
set_option maxRecDepth 20000 in
theorem eMo_versions_4 (d : Nat) (x1 : Int32) (z2 : Int32) (z3 : Int32) (s : aT) : ∀ r, (if gI s 67 13 ≤ z3 then rI z2 s else ldI 41 s 137 z3 (fun v1 => if ¬ v1 = x1 then fMo_versions_24 d x1 z2 z3 s else ldI 41 s 141 z3 (fun v2 => if ¬ v2 = (-1) then fMo_versions_24 d x1 z2 z3 s else fMo_versions_25 d x1 z3 (z2 + 1) s))) = some r → fMo_versions_4 d x1 z2 z3 s = some r := by
  intro r hr
  show ev d q_234 4 [(0, .ref 67), (1, .int x1), (2, .int z2), (3, .int z3)] [] s = some r
  refine ev_seg 3 (k' := 7) (L' := [(0, .ref 67), (1, .int x1), (2, .int z2), (3, .int z3)]) (st' := [.int (gI s 67 13), .int z3]) rfl ?_
  refine ev_br (P := gI s 67 13 ≤ z3) (L' := [(0, .ref 67), (1, .int x1), (2, .int z2), (3, .int z3)]) (st' := []) hr rfl rfl rfl (fun hr => ?_) (fun hr => ?_)
  · skip
    refine ev_seg 1 (k' := 29) (L' := [(0, .ref 67), (1, .int x1), (2, .int z2), (3, .int z3)]) (st' := [.int z2]) rfl ?_
    exact ev_iret hr rfl rfl rfl
  · skip
    refine ev_seg 3 (k' := 11) (L' := [(0, .ref 67), (1, .int x1), (2, .int z2), (3, .int z3)]) (st' := [.int z3, .ref 137]) rfl ?_
    refine ev_ldI hr rfl rfl (fun v1 hr => ?_)
    refine ev_seg 1 (k' := 13) (L' := [(0, .ref 67), (1, .int x1), (2, .int z2), (3, .int z3)]) (st' := [.int x1, .int v1]) rfl ?_
    refine ev_br (P := ¬ v1 = x1) (L' := [(0, .ref 67), (1, .int x1), (2, .int z2), (3, .int z3)]) (st' := []) hr rfl rfl rfl (fun hr => ?_) (fun hr => ?_)
    · skip
      exact hr
    · skip
      refine ev_seg 3 (k' := 17) (L' := [(0, .ref 67), (1, .int x1), (2, .int z2), (3, .int z3)]) (st' := [.int z3, .ref 141]) rfl ?_
      refine ev_ldI hr rfl rfl (fun v2 hr => ?_)
      refine ev_seg 1 (k' := 19) (L' := [(0, .ref 67), (1, .int x1), (2, .int z2), (3, .int z3)]) (st' := [.int (-1), .int v2]) rfl ?_
      refine ev_br (P := ¬ v2 = (-1)) (L' := [(0, .ref 67), (1, .int x1), (2, .int z2), (3, .int z3)]) (st' := []) hr rfl rfl rfl (fun hr => ?_) (fun hr => ?_)
      · skip
        exact hr
      · skip
        refine ev_seg 4 (k' := 25) (L' := [(0, .ref 67), (1, .int x1), (2, .int z2), (3, .int z3)]) (st' := [.int (z2 + 1)]) rfl ?_
        refine ev_join (L' := [(0, .ref 67), (1, .int x1), (3, .int z3)]) [0, 1, 3] [0, 1, 2, 3] [0, 1, 3] rfl rfl (by decide) (by decide) rfl ?_
        exact hr
set_option maxRecDepth 20000 in
theorem eMo_versions_24 (d : Nat) (x1 : Int32) (z2 : Int32) (z3 : Int32) (s : aT) : ∀ r, (fMo_versions_25 d x1 z3 z2 s) = some r → fMo_versions_24 d x1 z2 z3 s = some r := by
  intro r hr
  show ev d q_234 24 [(0, .ref 67), (1, .int x1), (2, .int z2), (3, .int z3)] [] s = some r
  refine ev_seg 1 (k' := 25) (L' := [(0, .ref 67), (1, .int x1), (2, .int z2), (3, .int z3)]) (st' := [.int z2]) rfl ?_
  refine ev_join (L' := [(0, .ref 67), (1, .int x1), (3, .int z3)]) [0, 1, 3] [0, 1, 2, 3] [0, 1, 3] rfl rfl (by decide) (by decide) rfl ?_
  exact hr
set_option maxRecDepth 20000 in
theorem eMo_versions_25 (d : Nat) (x1 : Int32) (z3 : Int32) (u0 : Int32) (s : aT) : ∀ r, (fMo_versions_4 d x1 u0 (z3 + 1) s) = some r → fMo_versions_25 d x1 z3 u0 s = some r := by
  intro r hr
  show ev d q_234 25 [(0, .ref 67), (1, .int x1), (3, .int z3)] [.int u0] s = some r
  refine ev_seg 3 (k' := 4) (L' := [(3, .int (z3 + 1)), (2, .int u0), (0, .ref 67), (1, .int x1)]) (st' := []) rfl ?_
  refine ev_join (L' := [(0, .ref 67), (1, .int x1), (2, .int u0), (3, .int (z3 + 1))]) [2, 3, 1, 0] [3, 2, 0, 1] [0, 1, 2, 3] rfl rfl (by decide) (by decide) rfl ?_
  exact hr
set_option maxRecDepth 20000 in
theorem eMo_readVersion (d : Nat) (t1 : Nat) (x2 : Int32) (x3 : Int32) (s : aT) (ht1 : isT t1) : ∀ r, (cG (fMo_versionFile d x2 x3 s) (kI fun v2 s1 => ldI 41 s1 139 v2 (fun v3 => ldI 41 s1 140 v2 (fun v4 => cN (fMt_read d t1 143 (256 * v3) v4 s1) (kI fun v6 s5 => rV s5))))) = some r → fMo_readVersion (d + 1) t1 x2 x3 s = some r := by
  intro r hr
  show ev (d + 1) q_235 0 [(0, .ref 67), (1, .ref t1), (2, .int x2), (3, .int x3)] [] s = some r
  refine ev_seg 3 (k' := 3) (L' := [(0, .ref 67), (1, .ref t1), (2, .int x2), (3, .int x3)]) (st' := [.int x3, .int x2, .ref 67]) rfl ?_
  refine ev_callV (q' := q_236) (x := 236) (y := 13) (c := 67) (As := [.int x2, .int x3]) (rest := []) hr rfl rfl rfl rfl rfl rfl rfl rfl rfl rfl rfl rfl (fun rv s1 hq => ev_kI hq (fun v2 e9 hr => ?_))
  subst e9
  refine ev_st (st' := [.int v2]) rfl ?_
  refine ev_seg 8 (k' := 12) (L' := [(4, .int v2), (0, .ref 67), (1, .ref t1), (2, .int x2), (3, .int x3)]) (st' := [.int v2, .ref 139, .int 256, .ref 143, .ref t1]) rfl ?_
  refine ev_ldI hr rfl rfl (fun v3 hr => ?_)
  refine ev_seg 4 (k' := 17) (L' := [(4, .int v2), (0, .ref 67), (1, .ref t1), (2, .int x2), (3, .int x3)]) (st' := [.int v2, .ref 140, .int (256 * v3), .ref 143, .ref t1]) rfl ?_
  refine ev_ldI hr rfl rfl (fun v4 hr => ?_)
  refine ev_callN (q' := q_195) (x := 195) (y := 12) (c := t1) (As := [.ref 143, .int (256 * v3), .int v4]) (rest := []) hr rfl rfl rfl rfl rfl rfl (isT_sh ht1) rfl rfl (fun rv s5 hq => ev_kI hq (fun v6 e9 hr => ?_))
  subst e9
  refine ev_st (st' := [.int v6]) rfl ?_
  refine ev_seg 1 (k' := 20) (L' := [(4, .int v2), (0, .ref 67), (1, .ref t1), (2, .int x2), (3, .int x3)]) (st' := []) rfl ?_
  exact ev_vret hr rfl rfl
set_option maxRecDepth 20000 in
theorem eMo_versionFile (d : Nat) (x1 : Int32) (x2 : Int32) (s : aT) : ∀ r, (fMo_versionFile_2 d x1 x2 0 s) = some r → fMo_versionFile d x1 x2 s = some r := by
  intro r hr
  show ev d q_236 0 [(0, .ref 67), (1, .int x1), (2, .int x2)] [] s = some r
  refine ev_seg 2 (k' := 2) (L' := [(3, .int 0), (0, .ref 67), (1, .int x1), (2, .int x2)]) (st' := []) rfl ?_
  refine ev_join (L' := [(0, .ref 67), (1, .int x1), (2, .int x2), (3, .int 0)]) [1, 2, 3, 0] [3, 0, 1, 2] [0, 1, 2, 3] rfl rfl (by decide) (by decide) rfl ?_
  exact hr
set_option maxRecDepth 20000 in
theorem eMo_versionFile_2 (d : Nat) (x1 : Int32) (x2 : Int32) (z3 : Int32) (s : aT) : ∀ r, (if gI s 67 13 ≤ z3 then rI (-1) s else ldI 41 s 137 z3 (fun v1 => if ¬ v1 = x1 then fMo_versionFile_26 d x1 x2 z3 s else ldI 41 s 141 z3 (fun v2 => if ¬ v2 = (-1) then fMo_versionFile_26 d x1 x2 z3 s else ldI 41 s 138 z3 (fun v3 => if ¬ v3 = x2 then fMo_versionFile_26 d x1 x2 z3 s else rI z3 s)))) = some r → fMo_versionFile_2 d x1 x2 z3 s = some r := by
  intro r hr
  show ev d q_236 2 [(0, .ref 67), (1, .int x1), (2, .int x2), (3, .int z3)] [] s = some r
  refine ev_seg 3 (k' := 5) (L' := [(0, .ref 67), (1, .int x1), (2, .int x2), (3, .int z3)]) (st' := [.int (gI s 67 13), .int z3]) rfl ?_
  refine ev_br (P := gI s 67 13 ≤ z3) (L' := [(0, .ref 67), (1, .int x1), (2, .int x2), (3, .int z3)]) (st' := []) hr rfl rfl rfl (fun hr => ?_) (fun hr => ?_)
  · skip
    refine ev_seg 1 (k' := 29) (L' := [(0, .ref 67), (1, .int x1), (2, .int x2), (3, .int z3)]) (st' := [.int (-1)]) rfl ?_
    exact ev_iret hr rfl rfl rfl
  · skip
    refine ev_seg 3 (k' := 9) (L' := [(0, .ref 67), (1, .int x1), (2, .int x2), (3, .int z3)]) (st' := [.int z3, .ref 137]) rfl ?_
    refine ev_ldI hr rfl rfl (fun v1 hr => ?_)
    refine ev_seg 1 (k' := 11) (L' := [(0, .ref 67), (1, .int x1), (2, .int x2), (3, .int z3)]) (st' := [.int x1, .int v1]) rfl ?_
    refine ev_br (P := ¬ v1 = x1) (L' := [(0, .ref 67), (1, .int x1), (2, .int x2), (3, .int z3)]) (st' := []) hr rfl rfl rfl (fun hr => ?_) (fun hr => ?_)
    · skip
      exact hr
    · skip
      refine ev_seg 3 (k' := 15) (L' := [(0, .ref 67), (1, .int x1), (2, .int x2), (3, .int z3)]) (st' := [.int z3, .ref 141]) rfl ?_
      refine ev_ldI hr rfl rfl (fun v2 hr => ?_)
      refine ev_seg 1 (k' := 17) (L' := [(0, .ref 67), (1, .int x1), (2, .int x2), (3, .int z3)]) (st' := [.int (-1), .int v2]) rfl ?_
      refine ev_br (P := ¬ v2 = (-1)) (L' := [(0, .ref 67), (1, .int x1), (2, .int x2), (3, .int z3)]) (st' := []) hr rfl rfl rfl (fun hr => ?_) (fun hr => ?_)
      · skip
        exact hr
      · skip
        refine ev_seg 3 (k' := 21) (L' := [(0, .ref 67), (1, .int x1), (2, .int x2), (3, .int z3)]) (st' := [.int z3, .ref 138]) rfl ?_
        refine ev_ldI hr rfl rfl (fun v3 hr => ?_)
        refine ev_seg 1 (k' := 23) (L' := [(0, .ref 67), (1, .int x1), (2, .int x2), (3, .int z3)]) (st' := [.int x2, .int v3]) rfl ?_
        refine ev_br (P := ¬ v3 = x2) (L' := [(0, .ref 67), (1, .int x1), (2, .int x2), (3, .int z3)]) (st' := []) hr rfl rfl rfl (fun hr => ?_) (fun hr => ?_)
        · skip
          exact hr
        · skip
          refine ev_seg 1 (k' := 25) (L' := [(0, .ref 67), (1, .int x1), (2, .int x2), (3, .int z3)]) (st' := [.int z3]) rfl ?_
          exact ev_iret hr rfl rfl rfl
set_option maxRecDepth 20000 in
theorem eMo_versionFile_26 (d : Nat) (x1 : Int32) (x2 : Int32) (z3 : Int32) (s : aT) : ∀ r, (fMo_versionFile_2 d x1 x2 (z3 + 1) s) = some r → fMo_versionFile_26 d x1 x2 z3 s = some r := by
  intro r hr
  show ev d q_236 26 [(0, .ref 67), (1, .int x1), (2, .int x2), (3, .int z3)] [] s = some r
  refine ev_seg 2 (k' := 2) (L' := [(3, .int (z3 + 1)), (0, .ref 67), (1, .int x1), (2, .int x2)]) (st' := []) rfl ?_
  refine ev_join (L' := [(0, .ref 67), (1, .int x1), (2, .int x2), (3, .int (z3 + 1))]) [1, 2, 3, 0] [3, 0, 1, 2] [0, 1, 2, 3] rfl rfl (by decide) (by decide) rfl ?_
  exact hr
set_option maxRecDepth 20000 in
theorem eMo_fitsAll (d : Nat) (t1 : Nat) (t2 : Nat) (s : aT) (ht1 : isT t1) (ht2 : isT t2) : ∀ r, (fMo_fitsAll_2 (d + 1) t1 t2 0 s) = some r → fMo_fitsAll (d + 1) t1 t2 s = some r := by
  intro r hr
  show ev (d + 1) q_237 0 [(0, .ref 67), (1, .ref t1), (2, .ref t2)] [] s = some r
  refine ev_seg 2 (k' := 2) (L' := [(3, .int 0), (0, .ref 67), (1, .ref t1), (2, .ref t2)]) (st' := []) rfl ?_
  refine ev_join (L' := [(0, .ref 67), (1, .ref t1), (2, .ref t2), (3, .int 0)]) [1, 2, 3, 0] [3, 0, 1, 2] [0, 1, 2, 3] rfl rfl (by decide) (by decide) rfl ?_
  exact hr
set_option maxRecDepth 20000 in
theorem eMo_fitsAll_2 (d : Nat) (t1 : Nat) (t2 : Nat) (z3 : Int32) (s : aT) (ht1 : isT t1) (ht2 : isT t2) : ∀ r, (if 19600 ≤ z3 then wI s 67 30 0 (fun s1 => cG (fMo_ask d (gI s1 t1 31) (gI s1 t2 31) s1) (kV fun s2 => fMo_fitsAll_25 (d + 1) t1 t2 1 0 s2)) else stI 19600 s 145 z3 (vp_nar .boolean 0) (fun s3 => fMo_fitsAll_2 (d + 1) t1 t2 (z3 + 1) s3)) = some r → fMo_fitsAll_2 (d + 1) t1 t2 z3 s = some r := by
  intro r hr
  show ev (d + 1) q_237 2 [(0, .ref 67), (1, .ref t1), (2, .ref t2), (3, .int z3)] [] s = some r
  refine ev_seg 2 (k' := 4) (L' := [(0, .ref 67), (1, .ref t1), (2, .ref t2), (3, .int z3)]) (st' := [.int 19600, .int z3]) rfl ?_
  refine ev_br (P := 19600 ≤ z3) (L' := [(0, .ref 67), (1, .ref t1), (2, .ref t2), (3, .int z3)]) (st' := []) hr rfl rfl rfl (fun hr => ?_) (fun hr => ?_)
  · skip
    refine ev_seg 2 (k' := 14) (L' := [(0, .ref 67), (1, .ref t1), (2, .ref t2), (3, .int z3)]) (st' := [.int 0, .ref 67]) rfl ?_
    refine ev_putI (c := 67) hr rfl rfl rfl (fun s1 hr => ?_)
    refine ev_seg 2 (k' := 17) (L' := [(0, .ref 67), (1, .ref t1), (2, .ref t2), (3, .int z3)]) (st' := [.ref t1, .ref 67]) rfl ?_
    refine ev_getI (c := t1) rfl (isT_sh ht1) rfl (Or.inl rfl) ?_
    refine ev_seg 1 (k' := 19) (L' := [(0, .ref 67), (1, .ref t1), (2, .ref t2), (3, .int z3)]) (st' := [.ref t2, .int (gI s1 t1 31), .ref 67]) rfl ?_
    refine ev_getI (c := t2) rfl (isT_sh ht2) rfl (Or.inl rfl) ?_
    refine ev_callV (q' := q_238) (x := 238) (y := 13) (c := 67) (As := [.int (gI s1 t1 31), .int (gI s1 t2 31)]) (rest := []) hr rfl rfl rfl rfl rfl rfl rfl rfl rfl rfl rfl rfl (fun rv s2 hq => ev_kV hq (fun e9 hr => ?_))
    subst e9
    refine ev_st (st' := []) rfl ?_
    refine ev_seg 4 (k' := 25) (L' := [(4, .int 0), (3, .int 1), (0, .ref 67), (1, .ref t1), (2, .ref t2)]) (st' := []) rfl ?_
    refine ev_join (L' := [(0, .ref 67), (1, .ref t1), (2, .ref t2), (3, .int 1), (4, .int 0)]) [2, 3, 4, 1, 0] [4, 3, 0, 1, 2] [0, 1, 2, 3, 4] rfl rfl (by decide) (by decide) rfl ?_
    exact hr
  · skip
    refine ev_seg 4 (k' := 9) (L' := [(0, .ref 67), (1, .ref t1), (2, .ref t2), (3, .int z3)]) (st' := [.int 0, .int z3, .ref 145]) rfl ?_
    refine ev_stZ hr rfl rfl (fun s3 hr => ?_)
    refine ev_seg 2 (k' := 2) (L' := [(3, .int (z3 + 1)), (0, .ref 67), (1, .ref t1), (2, .ref t2)]) (st' := []) rfl ?_
    refine ev_join (L' := [(0, .ref 67), (1, .ref t1), (2, .ref t2), (3, .int (z3 + 1))]) [1, 2, 3, 0] [3, 0, 1, 2] [0, 1, 2, 3] rfl rfl (by decide) (by decide) rfl ?_
    exact hr
set_option maxRecDepth 20000 in
theorem eMo_fitsAll_25 (d : Nat) (t1 : Nat) (t2 : Nat) (z3 : Int32) (z4 : Int32) (s : aT) (ht1 : isT t1) (ht2 : isT t2) : ∀ r, (if gI s 67 30 ≤ z4 then rZ z3 s else if z3 = 0 then rZ z3 s else ldI 19600 s 146 z4 (fun v1 => ldI 19600 s 146 z4 (fun v2 => cG (fMo_may d t1 (v1 / 140) t2 (v2 - v2 / 140 * 140) s) (kI fun v4 s3 => fMo_fitsAll_25 (d + 1) t1 t2 v4 (z4 + 1) s3)))) = some r → fMo_fitsAll_25 (d + 1) t1 t2 z3 z4 s = some r := by
  intro r hr
  show ev (d + 1) q_237 25 [(0, .ref 67), (1, .ref t1), (2, .ref t2), (3, .int z3), (4, .int z4)] [] s = some r
  refine ev_seg 3 (k' := 28) (L' := [(0, .ref 67), (1, .ref t1), (2, .ref t2), (3, .int z3), (4, .int z4)]) (st' := [.int (gI s 67 30), .int z4]) rfl ?_
  refine ev_br (P := gI s 67 30 ≤ z4) (L' := [(0, .ref 67), (1, .ref t1), (2, .ref t2), (3, .int z3), (4, .int z4)]) (st' := []) hr rfl rfl rfl (fun hr => ?_) (fun hr => ?_)
  · skip
    refine ev_seg 1 (k' := 51) (L' := [(0, .ref 67), (1, .ref t1), (2, .ref t2), (3, .int z3), (4, .int z4)]) (st' := [.int z3]) rfl ?_
    exact ev_zret hr rfl rfl
  · skip
    refine ev_seg 1 (k' := 30) (L' := [(0, .ref 67), (1, .ref t1), (2, .ref t2), (3, .int z3), (4, .int z4)]) (st' := [.int z3]) rfl ?_
    refine ev_br (P := z3 = 0) (L' := [(0, .ref 67), (1, .ref t1), (2, .ref t2), (3, .int z3), (4, .int z4)]) (st' := []) hr rfl rfl rfl (fun hr => ?_) (fun hr => ?_)
    · skip
      refine ev_seg 1 (k' := 51) (L' := [(0, .ref 67), (1, .ref t1), (2, .ref t2), (3, .int z3), (4, .int z4)]) (st' := [.int z3]) rfl ?_
      exact ev_zret hr rfl rfl
    · skip
      refine ev_seg 5 (k' := 36) (L' := [(0, .ref 67), (1, .ref t1), (2, .ref t2), (3, .int z3), (4, .int z4)]) (st' := [.int z4, .ref 146, .ref t1, .ref 67]) rfl ?_
      refine ev_ldI hr rfl rfl (fun v1 hr => ?_)
      refine ev_seg 6 (k' := 43) (L' := [(0, .ref 67), (1, .ref t1), (2, .ref t2), (3, .int z3), (4, .int z4)]) (st' := [.int z4, .ref 146, .ref t2, .int (v1 / 140), .ref t1, .ref 67]) rfl ?_
      refine ev_ldI hr rfl rfl (fun v2 hr => ?_)
      refine ev_seg 2 (k' := 46) (L' := [(0, .ref 67), (1, .ref t1), (2, .ref t2), (3, .int z3), (4, .int z4)]) (st' := [.int (v2 - v2 / 140 * 140), .ref t2, .int (v1 / 140), .ref t1, .ref 67]) rfl ?_
      refine ev_callV (q' := q_239) (x := 239) (y := 13) (c := 67) (As := [.ref t1, .int (v1 / 140), .ref t2, .int (v2 - v2 / 140 * 140)]) (rest := []) hr rfl rfl rfl rfl rfl rfl rfl rfl rfl rfl rfl rfl (fun rv s3 hq => ev_kI hq (fun v4 e9 hr => ?_))
      subst e9
      refine ev_st (st' := [.int v4]) rfl ?_
      refine ev_seg 3 (k' := 25) (L' := [(4, .int (z4 + 1)), (3, .int v4), (0, .ref 67), (1, .ref t1), (2, .ref t2)]) (st' := []) rfl ?_
      refine ev_join (L' := [(0, .ref 67), (1, .ref t1), (2, .ref t2), (3, .int v4), (4, .int (z4 + 1))]) [2, 3, 4, 1, 0] [4, 3, 0, 1, 2] [0, 1, 2, 3, 4] rfl rfl (by decide) (by decide) rfl ?_
      exact hr
set_option maxRecDepth 20000 in
theorem eMo_ask (d : Nat) (x1 : Int32) (x2 : Int32) (s : aT) : ∀ r, (ldI 19600 s 145 ((140 * x1) + x2) (fun v1 => if ¬ v1 = 0 then rV s else stI 19600 s 145 ((140 * x1) + x2) (vp_nar .boolean 1) (fun s2 => stI 19600 s2 146 (gI s2 67 30) ((140 * x1) + x2) (fun s3 => wI s3 67 30 ((gI s3 67 30) + 1) (fun s4 => rV s4))))) = some r → fMo_ask d x1 x2 s = some r := by
  intro r hr
  show ev d q_238 0 [(0, .ref 67), (1, .int x1), (2, .int x2)] [] s = some r
  refine ev_seg 7 (k' := 7) (L' := [(0, .ref 67), (1, .int x1), (2, .int x2)]) (st' := [.int ((140 * x1) + x2), .ref 145]) rfl ?_
  refine ev_ldZ hr rfl rfl (fun v1 hr => ?_)
  refine ev_br (P := ¬ v1 = 0) (L' := [(0, .ref 67), (1, .int x1), (2, .int x2)]) (st' := []) hr rfl rfl rfl (fun hr => ?_) (fun hr => ?_)
  · skip
    exact ev_vret hr rfl rfl
  · skip
    refine ev_seg 8 (k' := 17) (L' := [(0, .ref 67), (1, .int x1), (2, .int x2)]) (st' := [.int 1, .int ((140 * x1) + x2), .ref 145]) rfl ?_
    refine ev_stZ hr rfl rfl (fun s2 hr => ?_)
    refine ev_seg 9 (k' := 27) (L' := [(0, .ref 67), (1, .int x1), (2, .int x2)]) (st' := [.int ((140 * x1) + x2), .int (gI s2 67 30), .ref 146]) rfl ?_
    refine ev_stI hr rfl rfl (fun s3 hr => ?_)
    refine ev_seg 5 (k' := 33) (L' := [(0, .ref 67), (1, .int x1), (2, .int x2)]) (st' := [.int ((gI s3 67 30) + 1), .ref 67]) rfl ?_
    refine ev_putI (c := 67) hr rfl rfl rfl (fun s4 hr => ?_)
    exact ev_vret hr rfl rfl
set_option maxRecDepth 20000 in
theorem eMo_may (d : Nat) (t1 : Nat) (x2 : Int32) (t3 : Nat) (x4 : Int32) (s : aT) (ht1 : isT t1) (ht3 : isT t3) : ∀ r, (ldI 140 s (t1 + 9) x2 (fun v1 => if ¬ v1 = 8 then ldI 140 s (t3 + 9) x4 (fun v2 => if ¬ v2 = 8 then cG (fMo_sixOf d v1 s) (kI fun v4 s3 => if ¬ v4 = 0 then fMo_may_66 (d + 1) t3 x4 v1 s3 else ldI 140 s3 (t3 + 9) x4 (fun v5 => cG (fMo_sixOf d v5 s3) (kI fun v7 s6 => if v7 = 0 then ldI 140 s6 (t3 + 9) x4 (fun v8 => if v1 = v8 then if v1 = 6 then fMo_may_100 (d + 1) t1 x2 t3 x4 s6 else if ¬ v1 = 7 then cG (fMo_matches d t1 x2 t3 x4 s6) (kI fun v10 s9 => if ¬ v10 = 0 then if ¬ v1 = 10 then ldI 140 s9 (t3 + 12) x4 (fun v11 => fMo_may_177 (d + 1) t1 x2 t3 v1 1 v11 s9) else ldI 140 s9 (t1 + 12) x2 (fun v12 => fMo_may_136 (d + 1) t1 t3 x4 1 v12 s9) else rI 0 s9) else fMo_may_100 (d + 1) t1 x2 t3 x4 s6 else rI 0 s6) else fMo_may_66 (d + 1) t3 x4 v1 s6))) else cG (fMo_branchFor d t1 x2 t3 x4 s) (kI fun v14 s13 => if v14 < 0 then fMo_may_51 (d + 1) v14 s13 else ldI 2200 s13 (t3 + 15) v14 (fun v15 => cG (fMo_ask d x2 v15 s13) (kV fun s16 => fMo_may_51 (d + 1) v14 s16)))) else ldI 140 s (t1 + 12) x2 (fun v17 => fMo_may_13 (d + 1) t1 x4 v17 s))) = some r → fMo_may (d + 1) t1 x2 t3 x4 s = some r := by
  intro r hr
  show ev (d + 1) q_239 0 [(0, .ref 67), (1, .ref t1), (2, .int x2), (3, .ref t3), (4, .int x4)] [] s = some r
  refine ev_seg 1 (k' := 1) (L' := [(0, .ref 67), (1, .ref t1), (2, .int x2), (3, .ref t3), (4, .int x4)]) (st' := [.ref t1]) rfl ?_
  refine ev_getR (c := t1) (v := t1 + 9) rfl (isT_sh ht1) rfl (isT_r9 ht1) ?_
  refine ev_seg 1 (k' := 3) (L' := [(0, .ref 67), (1, .ref t1), (2, .int x2), (3, .ref t3), (4, .int x4)]) (st' := [.int x2, .ref (t1 + 9)]) rfl ?_
  refine ev_ldI hr rfl (isT_a9 ht1) (fun v1 hr => ?_)
  refine ev_seg 3 (k' := 7) (L' := [(5, .int v1), (0, .ref 67), (1, .ref t1), (2, .int x2), (3, .ref t3), (4, .int x4)]) (st' := [.int 8, .int v1]) rfl ?_
  refine ev_br (P := ¬ v1 = 8) (L' := [(5, .int v1), (0, .ref 67), (1, .ref t1), (2, .int x2), (3, .ref t3), (4, .int x4)]) (st' := []) hr rfl rfl rfl (fun hr => ?_) (fun hr => ?_)
  · skip
    refine ev_seg 1 (k' := 31) (L' := [(5, .int v1), (0, .ref 67), (1, .ref t1), (2, .int x2), (3, .ref t3), (4, .int x4)]) (st' := [.ref t3]) rfl ?_
    refine ev_getR (c := t3) (v := t3 + 9) rfl (isT_sh ht3) rfl (isT_r9 ht3) ?_
    refine ev_seg 1 (k' := 33) (L' := [(5, .int v1), (0, .ref 67), (1, .ref t1), (2, .int x2), (3, .ref t3), (4, .int x4)]) (st' := [.int x4, .ref (t3 + 9)]) rfl ?_
    refine ev_ldI hr rfl (isT_a9 ht3) (fun v2 hr => ?_)
    refine ev_seg 1 (k' := 35) (L' := [(5, .int v1), (0, .ref 67), (1, .ref t1), (2, .int x2), (3, .ref t3), (4, .int x4)]) (st' := [.int 8, .int v2]) rfl ?_
    refine ev_br (P := ¬ v2 = 8) (L' := [(5, .int v1), (0, .ref 67), (1, .ref t1), (2, .int x2), (3, .ref t3), (4, .int x4)]) (st' := []) hr rfl rfl rfl (fun hr => ?_) (fun hr => ?_)
    · skip
      refine ev_seg 1 (k' := 58) (L' := [(5, .int v1), (0, .ref 67), (1, .ref t1), (2, .int x2), (3, .ref t3), (4, .int x4)]) (st' := [.int v1]) rfl ?_
      refine ev_callS (q' := q_242) (x := 242) (vs := [.int v1]) (rest := []) hr rfl rfl rfl rfl rfl rfl rfl rfl rfl rfl (fun rv s3 hq => ev_kI hq (fun v4 e9 hr => ?_))
      subst e9
      refine ev_st (st' := [.int v4]) rfl ?_
      refine ev_br (P := ¬ v4 = 0) (L' := [(5, .int v1), (0, .ref 67), (1, .ref t1), (2, .int x2), (3, .ref t3), (4, .int x4)]) (st' := []) hr rfl rfl rfl (fun hr => ?_) (fun hr => ?_)
      · skip
        refine ev_join (L' := [(3, .ref t3), (4, .int x4), (5, .int v1)]) [4, 5, 0] [5, 0, 1, 2, 3, 4] [3, 4, 5] rfl rfl (by decide) (by decide) rfl ?_
        exact hr
      · skip
        refine ev_seg 1 (k' := 61) (L' := [(5, .int v1), (0, .ref 67), (1, .ref t1), (2, .int x2), (3, .ref t3), (4, .int x4)]) (st' := [.ref t3]) rfl ?_
        refine ev_getR (c := t3) (v := t3 + 9) rfl (isT_sh ht3) rfl (isT_r9 ht3) ?_
        refine ev_seg 1 (k' := 63) (L' := [(5, .int v1), (0, .ref 67), (1, .ref t1), (2, .int x2), (3, .ref t3), (4, .int x4)]) (st' := [.int x4, .ref (t3 + 9)]) rfl ?_
        refine ev_ldI hr rfl (isT_a9 ht3) (fun v5 hr => ?_)
        refine ev_callS (q' := q_242) (x := 242) (vs := [.int v5]) (rest := []) hr rfl rfl rfl rfl rfl rfl rfl rfl rfl rfl (fun rv s6 hq => ev_kI hq (fun v7 e9 hr => ?_))
        subst e9
        refine ev_st (st' := [.int v7]) rfl ?_
        refine ev_br (P := v7 = 0) (L' := [(5, .int v1), (0, .ref 67), (1, .ref t1), (2, .int x2), (3, .ref t3), (4, .int x4)]) (st' := []) hr rfl rfl rfl (fun hr => ?_) (fun hr => ?_)
        · skip
          refine ev_seg 2 (k' := 88) (L' := [(5, .int v1), (0, .ref 67), (1, .ref t1), (2, .int x2), (3, .ref t3), (4, .int x4)]) (st' := [.ref t3, .int v1]) rfl ?_
          refine ev_getR (c := t3) (v := t3 + 9) rfl (isT_sh ht3) rfl (isT_r9 ht3) ?_
          refine ev_seg 1 (k' := 90) (L' := [(5, .int v1), (0, .ref 67), (1, .ref t1), (2, .int x2), (3, .ref t3), (4, .int x4)]) (st' := [.int x4, .ref (t3 + 9), .int v1]) rfl ?_
          refine ev_ldI hr rfl (isT_a9 ht3) (fun v8 hr => ?_)
          refine ev_br (P := v1 = v8) (L' := [(5, .int v1), (0, .ref 67), (1, .ref t1), (2, .int x2), (3, .ref t3), (4, .int x4)]) (st' := []) hr rfl rfl rfl (fun hr => ?_) (fun hr => ?_)
          · skip
            refine ev_seg 2 (k' := 96) (L' := [(5, .int v1), (0, .ref 67), (1, .ref t1), (2, .int x2), (3, .ref t3), (4, .int x4)]) (st' := [.int 6, .int v1]) rfl ?_
            refine ev_br (P := v1 = 6) (L' := [(5, .int v1), (0, .ref 67), (1, .ref t1), (2, .int x2), (3, .ref t3), (4, .int x4)]) (st' := []) hr rfl rfl rfl (fun hr => ?_) (fun hr => ?_)
            · skip
              refine ev_join (L' := [(0, .ref 67), (1, .ref t1), (2, .int x2), (3, .ref t3), (4, .int x4)]) [1, 2, 3, 4, 5] [5, 0, 1, 2, 3, 4] [0, 1, 2, 3, 4] rfl rfl (by decide) (by decide) rfl ?_
              exact hr
            · skip
              refine ev_seg 2 (k' := 99) (L' := [(5, .int v1), (0, .ref 67), (1, .ref t1), (2, .int x2), (3, .ref t3), (4, .int x4)]) (st' := [.int 7, .int v1]) rfl ?_
              refine ev_br (P := ¬ v1 = 7) (L' := [(5, .int v1), (0, .ref 67), (1, .ref t1), (2, .int x2), (3, .ref t3), (4, .int x4)]) (st' := []) hr rfl rfl rfl (fun hr => ?_) (fun hr => ?_)
              · skip
                refine ev_seg 4 (k' := 122) (L' := [(5, .int v1), (0, .ref 67), (1, .ref t1), (2, .int x2), (3, .ref t3), (4, .int x4)]) (st' := [.int x4, .ref t3, .int x2, .ref t1]) rfl ?_
                refine ev_callS (q' := q_241) (x := 241) (vs := [.ref t1, .int x2, .ref t3, .int x4]) (rest := []) hr rfl rfl rfl rfl rfl rfl rfl rfl rfl rfl (fun rv s9 hq => ev_kI hq (fun v10 e9 hr => ?_))
                subst e9
                refine ev_st (st' := [.int v10]) rfl ?_
                refine ev_br (P := ¬ v10 = 0) (L' := [(5, .int v1), (0, .ref 67), (1, .ref t1), (2, .int x2), (3, .ref t3), (4, .int x4)]) (st' := []) hr rfl rfl rfl (fun hr => ?_) (fun hr => ?_)
                · skip
                  refine ev_seg 2 (k' := 128) (L' := [(5, .int v1), (0, .ref 67), (1, .ref t1), (2, .int x2), (3, .ref t3), (4, .int x4)]) (st' := [.int 10, .int v1]) rfl ?_
                  refine ev_br (P := ¬ v1 = 10) (L' := [(5, .int v1), (0, .ref 67), (1, .ref t1), (2, .int x2), (3, .ref t3), (4, .int x4)]) (st' := []) hr rfl rfl rfl (fun hr => ?_) (fun hr => ?_)
                  · skip
                    refine ev_seg 3 (k' := 173) (L' := [(6, .int 1), (5, .int v1), (0, .ref 67), (1, .ref t1), (2, .int x2), (3, .ref t3), (4, .int x4)]) (st' := [.ref t3]) rfl ?_
                    refine ev_getR (c := t3) (v := t3 + 12) rfl (isT_sh ht3) rfl (isT_r12 ht3) ?_
                    refine ev_seg 1 (k' := 175) (L' := [(6, .int 1), (5, .int v1), (0, .ref 67), (1, .ref t1), (2, .int x2), (3, .ref t3), (4, .int x4)]) (st' := [.int x4, .ref (t3 + 12)]) rfl ?_
                    refine ev_ldI hr rfl (isT_a12 ht3) (fun v11 hr => ?_)
                    refine ev_seg 1 (k' := 177) (L' := [(7, .int v11), (6, .int 1), (5, .int v1), (0, .ref 67), (1, .ref t1), (2, .int x2), (3, .ref t3), (4, .int x4)]) (st' := []) rfl ?_
                    refine ev_join (L' := [(0, .ref 67), (1, .ref t1), (2, .int x2), (3, .ref t3), (5, .int v1), (6, .int 1), (7, .int v11)]) [3, 4, 5, 6, 2, 1, 0] [7, 6, 5, 0, 1, 2, 3, 4] [0, 1, 2, 3, 5, 6, 7] rfl rfl (by decide) (by decide) rfl ?_
                    exact hr
                  · skip
                    refine ev_seg 3 (k' := 132) (L' := [(6, .int 1), (5, .int v1), (0, .ref 67), (1, .ref t1), (2, .int x2), (3, .ref t3), (4, .int x4)]) (st' := [.ref t1]) rfl ?_
                    refine ev_getR (c := t1) (v := t1 + 12) rfl (isT_sh ht1) rfl (isT_r12 ht1) ?_
                    refine ev_seg 1 (k' := 134) (L' := [(6, .int 1), (5, .int v1), (0, .ref 67), (1, .ref t1), (2, .int x2), (3, .ref t3), (4, .int x4)]) (st' := [.int x2, .ref (t1 + 12)]) rfl ?_
                    refine ev_ldI hr rfl (isT_a12 ht1) (fun v12 hr => ?_)
                    refine ev_seg 1 (k' := 136) (L' := [(7, .int v12), (6, .int 1), (5, .int v1), (0, .ref 67), (1, .ref t1), (2, .int x2), (3, .ref t3), (4, .int x4)]) (st' := []) rfl ?_
                    refine ev_join (L' := [(1, .ref t1), (3, .ref t3), (4, .int x4), (6, .int 1), (7, .int v12)]) [4, 6, 7, 1, 0] [7, 6, 5, 0, 1, 2, 3, 4] [1, 3, 4, 6, 7] rfl rfl (by decide) (by decide) rfl ?_
                    exact hr
                · skip
                  refine ev_seg 1 (k' := 125) (L' := [(5, .int v1), (0, .ref 67), (1, .ref t1), (2, .int x2), (3, .ref t3), (4, .int x4)]) (st' := [.int 0]) rfl ?_
                  exact ev_iret hr rfl rfl rfl
              · skip
                refine ev_join (L' := [(0, .ref 67), (1, .ref t1), (2, .int x2), (3, .ref t3), (4, .int x4)]) [1, 2, 3, 4, 5] [5, 0, 1, 2, 3, 4] [0, 1, 2, 3, 4] rfl rfl (by decide) (by decide) rfl ?_
                exact hr
          · skip
            refine ev_seg 1 (k' := 93) (L' := [(5, .int v1), (0, .ref 67), (1, .ref t1), (2, .int x2), (3, .ref t3), (4, .int x4)]) (st' := [.int 0]) rfl ?_
            exact ev_iret hr rfl rfl rfl
        · skip
          refine ev_join (L' := [(3, .ref t3), (4, .int x4), (5, .int v1)]) [4, 5, 0] [5, 0, 1, 2, 3, 4] [3, 4, 5] rfl rfl (by decide) (by decide) rfl ?_
          exact hr
    · skip
      refine ev_seg 4 (k' := 40) (L' := [(5, .int v1), (0, .ref 67), (1, .ref t1), (2, .int x2), (3, .ref t3), (4, .int x4)]) (st' := [.int x4, .ref t3, .int x2, .ref t1]) rfl ?_
      refine ev_callS (q' := q_240) (x := 240) (vs := [.ref t1, .int x2, .ref t3, .int x4]) (rest := []) hr rfl rfl rfl rfl rfl rfl rfl rfl rfl rfl (fun rv s13 hq => ev_kI hq (fun v14 e9 hr => ?_))
      subst e9
      refine ev_st (st' := [.int v14]) rfl ?_
      refine ev_seg 2 (k' := 43) (L' := [(6, .int v14), (5, .int v1), (0, .ref 67), (1, .ref t1), (2, .int x2), (3, .ref t3), (4, .int x4)]) (st' := [.int v14]) rfl ?_
      refine ev_br (P := v14 < 0) (L' := [(6, .int v14), (5, .int v1), (0, .ref 67), (1, .ref t1), (2, .int x2), (3, .ref t3), (4, .int x4)]) (st' := []) hr rfl rfl rfl (fun hr => ?_) (fun hr => ?_)
      · skip
        refine ev_join (L' := [(6, .int v14)]) [0] [6, 5, 0, 1, 2, 3, 4] [6] rfl rfl (by decide) (by decide) rfl ?_
        exact hr
      · skip
        refine ev_seg 3 (k' := 47) (L' := [(6, .int v14), (5, .int v1), (0, .ref 67), (1, .ref t1), (2, .int x2), (3, .ref t3), (4, .int x4)]) (st' := [.ref t3, .int x2, .ref 67]) rfl ?_
        refine ev_getR (c := t3) (v := t3 + 15) rfl (isT_sh ht3) rfl (isT_r15 ht3) ?_
        refine ev_seg 1 (k' := 49) (L' := [(6, .int v14), (5, .int v1), (0, .ref 67), (1, .ref t1), (2, .int x2), (3, .ref t3), (4, .int x4)]) (st' := [.int v14, .ref (t3 + 15), .int x2, .ref 67]) rfl ?_
        refine ev_ldI hr rfl (isT_a15 ht3) (fun v15 hr => ?_)
        refine ev_callV (q' := q_238) (x := 238) (y := 13) (c := 67) (As := [.int x2, .int v15]) (rest := []) hr rfl rfl rfl rfl rfl rfl rfl rfl rfl rfl rfl rfl (fun rv s16 hq => ev_kV hq (fun e9 hr => ?_))
        subst e9
        refine ev_st (st' := []) rfl ?_
        refine ev_join (L' := [(6, .int v14)]) [0] [6, 5, 0, 1, 2, 3, 4] [6] rfl rfl (by decide) (by decide) rfl ?_
        exact hr
  · skip
    refine ev_seg 1 (k' := 9) (L' := [(5, .int v1), (0, .ref 67), (1, .ref t1), (2, .int x2), (3, .ref t3), (4, .int x4)]) (st' := [.ref t1]) rfl ?_
    refine ev_getR (c := t1) (v := t1 + 12) rfl (isT_sh ht1) rfl (isT_r12 ht1) ?_
    refine ev_seg 1 (k' := 11) (L' := [(5, .int v1), (0, .ref 67), (1, .ref t1), (2, .int x2), (3, .ref t3), (4, .int x4)]) (st' := [.int x2, .ref (t1 + 12)]) rfl ?_
    refine ev_ldI hr rfl (isT_a12 ht1) (fun v17 hr => ?_)
    refine ev_seg 1 (k' := 13) (L' := [(6, .int v17), (5, .int v1), (0, .ref 67), (1, .ref t1), (2, .int x2), (3, .ref t3), (4, .int x4)]) (st' := []) rfl ?_
    refine ev_join (L' := [(0, .ref 67), (1, .ref t1), (4, .int x4), (6, .int v17)]) [2, 3, 6, 0] [6, 5, 0, 1, 2, 3, 4] [0, 1, 4, 6] rfl rfl (by decide) (by decide) rfl ?_
    exact hr
set_option maxRecDepth 20000 in
theorem eMo_may_66 (d : Nat) (t3 : Nat) (x4 : Int32) (z5 : Int32) (s : aT) (ht3 : isT t3) : ∀ r, (cG (fMo_sixOf d z5 s) (kI fun v2 s1 => if v2 = 0 then rI 0 s1 else ldI 140 s1 (t3 + 9) x4 (fun v3 => cG (fMo_sixOf d v3 s1) (kI fun v5 s4 => if v5 = 0 then rI 0 s4 else ldI 140 s4 (t3 + 9) x4 (fun v6 => cG (fMo_matchesSix d z5 v6 s4) (kI fun v8 s7 => if v8 = 0 then rI 0 s7 else rI 1 s7)))))) = some r → fMo_may_66 (d + 1) t3 x4 z5 s = some r := by
  intro r hr
  show ev (d + 1) q_239 66 [(3, .ref t3), (4, .int x4), (5, .int z5)] [] s = some r
  refine ev_seg 1 (k' := 67) (L' := [(3, .ref t3), (4, .int x4), (5, .int z5)]) (st' := [.int z5]) rfl ?_
  refine ev_callS (q' := q_242) (x := 242) (vs := [.int z5]) (rest := []) hr rfl rfl rfl rfl rfl rfl rfl rfl rfl rfl (fun rv s1 hq => ev_kI hq (fun v2 e9 hr => ?_))
  subst e9
  refine ev_st (st' := [.int v2]) rfl ?_
  refine ev_br (P := v2 = 0) (L' := [(3, .ref t3), (4, .int x4), (5, .int z5)]) (st' := []) hr rfl rfl rfl (fun hr => ?_) (fun hr => ?_)
  · skip
    refine ev_seg 1 (k' := 85) (L' := [(3, .ref t3), (4, .int x4), (5, .int z5)]) (st' := [.int 0]) rfl ?_
    exact ev_iret hr rfl rfl rfl
  · skip
    refine ev_seg 1 (k' := 70) (L' := [(3, .ref t3), (4, .int x4), (5, .int z5)]) (st' := [.ref t3]) rfl ?_
    refine ev_getR (c := t3) (v := t3 + 9) rfl (isT_sh ht3) rfl (isT_r9 ht3) ?_
    refine ev_seg 1 (k' := 72) (L' := [(3, .ref t3), (4, .int x4), (5, .int z5)]) (st' := [.int x4, .ref (t3 + 9)]) rfl ?_
    refine ev_ldI hr rfl (isT_a9 ht3) (fun v3 hr => ?_)
    refine ev_callS (q' := q_242) (x := 242) (vs := [.int v3]) (rest := []) hr rfl rfl rfl rfl rfl rfl rfl rfl rfl rfl (fun rv s4 hq => ev_kI hq (fun v5 e9 hr => ?_))
    subst e9
    refine ev_st (st' := [.int v5]) rfl ?_
    refine ev_br (P := v5 = 0) (L' := [(3, .ref t3), (4, .int x4), (5, .int z5)]) (st' := []) hr rfl rfl rfl (fun hr => ?_) (fun hr => ?_)
    · skip
      refine ev_seg 1 (k' := 85) (L' := [(3, .ref t3), (4, .int x4), (5, .int z5)]) (st' := [.int 0]) rfl ?_
      exact ev_iret hr rfl rfl rfl
    · skip
      refine ev_seg 2 (k' := 77) (L' := [(3, .ref t3), (4, .int x4), (5, .int z5)]) (st' := [.ref t3, .int z5]) rfl ?_
      refine ev_getR (c := t3) (v := t3 + 9) rfl (isT_sh ht3) rfl (isT_r9 ht3) ?_
      refine ev_seg 1 (k' := 79) (L' := [(3, .ref t3), (4, .int x4), (5, .int z5)]) (st' := [.int x4, .ref (t3 + 9), .int z5]) rfl ?_
      refine ev_ldI hr rfl (isT_a9 ht3) (fun v6 hr => ?_)
      refine ev_callS (q' := q_243) (x := 243) (vs := [.int z5, .int v6]) (rest := []) hr rfl rfl rfl rfl rfl rfl rfl rfl rfl rfl (fun rv s7 hq => ev_kI hq (fun v8 e9 hr => ?_))
      subst e9
      refine ev_st (st' := [.int v8]) rfl ?_
      refine ev_br (P := v8 = 0) (L' := [(3, .ref t3), (4, .int x4), (5, .int z5)]) (st' := []) hr rfl rfl rfl (fun hr => ?_) (fun hr => ?_)
      · skip
        refine ev_seg 1 (k' := 85) (L' := [(3, .ref t3), (4, .int x4), (5, .int z5)]) (st' := [.int 0]) rfl ?_
        exact ev_iret hr rfl rfl rfl
      · skip
        refine ev_seg 2 (k' := 85) (L' := [(3, .ref t3), (4, .int x4), (5, .int z5)]) (st' := [.int 1]) rfl ?_
        exact ev_iret hr rfl rfl rfl
set_option maxRecDepth 20000 in
theorem eMo_may_100 (d : Nat) (t1 : Nat) (x2 : Int32) (t3 : Nat) (x4 : Int32) (s : aT) (ht1 : isT t1) (ht3 : isT t3) : ∀ r, (ldI 140 s (t1 + 12) x2 (fun v1 => ldI 2200 s (t1 + 15) v1 (fun v2 => ldI 140 s (t3 + 12) x4 (fun v3 => ldI 2200 s (t3 + 15) v3 (fun v4 => cG (fMo_ask d v2 v4 s) (kV fun s5 => rI 1 s5)))))) = some r → fMo_may_100 (d + 1) t1 x2 t3 x4 s = some r := by
  intro r hr
  show ev (d + 1) q_239 100 [(0, .ref 67), (1, .ref t1), (2, .int x2), (3, .ref t3), (4, .int x4)] [] s = some r
  refine ev_seg 2 (k' := 102) (L' := [(0, .ref 67), (1, .ref t1), (2, .int x2), (3, .ref t3), (4, .int x4)]) (st' := [.ref t1, .ref 67]) rfl ?_
  refine ev_getR (c := t1) (v := t1 + 15) rfl (isT_sh ht1) rfl (isT_r15 ht1) ?_
  refine ev_seg 1 (k' := 104) (L' := [(0, .ref 67), (1, .ref t1), (2, .int x2), (3, .ref t3), (4, .int x4)]) (st' := [.ref t1, .ref (t1 + 15), .ref 67]) rfl ?_
  refine ev_getR (c := t1) (v := t1 + 12) rfl (isT_sh ht1) rfl (isT_r12 ht1) ?_
  refine ev_seg 1 (k' := 106) (L' := [(0, .ref 67), (1, .ref t1), (2, .int x2), (3, .ref t3), (4, .int x4)]) (st' := [.int x2, .ref (t1 + 12), .ref (t1 + 15), .ref 67]) rfl ?_
  refine ev_ldI hr rfl (isT_a12 ht1) (fun v1 hr => ?_)
  refine ev_ldI hr rfl (isT_a15 ht1) (fun v2 hr => ?_)
  refine ev_seg 1 (k' := 109) (L' := [(0, .ref 67), (1, .ref t1), (2, .int x2), (3, .ref t3), (4, .int x4)]) (st' := [.ref t3, .int v2, .ref 67]) rfl ?_
  refine ev_getR (c := t3) (v := t3 + 15) rfl (isT_sh ht3) rfl (isT_r15 ht3) ?_
  refine ev_seg 1 (k' := 111) (L' := [(0, .ref 67), (1, .ref t1), (2, .int x2), (3, .ref t3), (4, .int x4)]) (st' := [.ref t3, .ref (t3 + 15), .int v2, .ref 67]) rfl ?_
  refine ev_getR (c := t3) (v := t3 + 12) rfl (isT_sh ht3) rfl (isT_r12 ht3) ?_
  refine ev_seg 1 (k' := 113) (L' := [(0, .ref 67), (1, .ref t1), (2, .int x2), (3, .ref t3), (4, .int x4)]) (st' := [.int x4, .ref (t3 + 12), .ref (t3 + 15), .int v2, .ref 67]) rfl ?_
  refine ev_ldI hr rfl (isT_a12 ht3) (fun v3 hr => ?_)
  refine ev_ldI hr rfl (isT_a15 ht3) (fun v4 hr => ?_)
  refine ev_callV (q' := q_238) (x := 238) (y := 13) (c := 67) (As := [.int v2, .int v4]) (rest := []) hr rfl rfl rfl rfl rfl rfl rfl rfl rfl rfl rfl rfl (fun rv s5 hq => ev_kV hq (fun e9 hr => ?_))
  subst e9
  refine ev_st (st' := []) rfl ?_
  refine ev_seg 1 (k' := 117) (L' := [(0, .ref 67), (1, .ref t1), (2, .int x2), (3, .ref t3), (4, .int x4)]) (st' := [.int 1]) rfl ?_
  exact ev_iret hr rfl rfl rfl
set_option maxRecDepth 20000 in
theorem eMo_may_177 (d : Nat) (t1 : Nat) (x2 : Int32) (t3 : Nat) (z5 : Int32) (z6 : Int32) (z7 : Int32) (s : aT) (ht1 : isT t1) (ht3 : isT t3) : ∀ r, (if z7 < 0 then rZ z6 s else if ¬ z5 = 11 then rZ z6 s else cG (fMo_fieldLike d t1 x2 t3 z7 s) (kI fun v2 s1 => if v2 < 0 then fMo_may_200 (d + 1) t1 x2 t3 z5 z6 z7 v2 s1 else ldI 2200 s1 (t1 + 15) v2 (fun v3 => ldI 2200 s1 (t3 + 15) z7 (fun v4 => cG (fMo_ask d v3 v4 s1) (kV fun s5 => fMo_may_200 (d + 1) t1 x2 t3 z5 z6 z7 v2 s5))))) = some r → fMo_may_177 (d + 1) t1 x2 t3 z5 z6 z7 s = some r := by
  intro r hr
  show ev (d + 1) q_239 177 [(0, .ref 67), (1, .ref t1), (2, .int x2), (3, .ref t3), (5, .int z5), (6, .int z6), (7, .int z7)] [] s = some r
  refine ev_seg 1 (k' := 178) (L' := [(0, .ref 67), (1, .ref t1), (2, .int x2), (3, .ref t3), (5, .int z5), (6, .int z6), (7, .int z7)]) (st' := [.int z7]) rfl ?_
  refine ev_br (P := z7 < 0) (L' := [(0, .ref 67), (1, .ref t1), (2, .int x2), (3, .ref t3), (5, .int z5), (6, .int z6), (7, .int z7)]) (st' := []) hr rfl rfl rfl (fun hr => ?_) (fun hr => ?_)
  · skip
    refine ev_seg 1 (k' := 220) (L' := [(0, .ref 67), (1, .ref t1), (2, .int x2), (3, .ref t3), (5, .int z5), (6, .int z6), (7, .int z7)]) (st' := [.int z6]) rfl ?_
    exact ev_zret hr rfl rfl
  · skip
    refine ev_seg 2 (k' := 181) (L' := [(0, .ref 67), (1, .ref t1), (2, .int x2), (3, .ref t3), (5, .int z5), (6, .int z6), (7, .int z7)]) (st' := [.int 11, .int z5]) rfl ?_
    refine ev_br (P := ¬ z5 = 11) (L' := [(0, .ref 67), (1, .ref t1), (2, .int x2), (3, .ref t3), (5, .int z5), (6, .int z6), (7, .int z7)]) (st' := []) hr rfl rfl rfl (fun hr => ?_) (fun hr => ?_)
    · skip
      refine ev_seg 1 (k' := 220) (L' := [(0, .ref 67), (1, .ref t1), (2, .int x2), (3, .ref t3), (5, .int z5), (6, .int z6), (7, .int z7)]) (st' := [.int z6]) rfl ?_
      exact ev_zret hr rfl rfl
    · skip
      refine ev_seg 4 (k' := 186) (L' := [(0, .ref 67), (1, .ref t1), (2, .int x2), (3, .ref t3), (5, .int z5), (6, .int z6), (7, .int z7)]) (st' := [.int z7, .ref t3, .int x2, .ref t1]) rfl ?_
      refine ev_callS (q' := q_244) (x := 244) (vs := [.ref t1, .int x2, .ref t3, .int z7]) (rest := []) hr rfl rfl rfl rfl rfl rfl rfl rfl rfl rfl (fun rv s1 hq => ev_kI hq (fun v2 e9 hr => ?_))
      subst e9
      refine ev_st (st' := [.int v2]) rfl ?_
      refine ev_seg 2 (k' := 189) (L' := [(8, .int v2), (0, .ref 67), (1, .ref t1), (2, .int x2), (3, .ref t3), (5, .int z5), (6, .int z6), (7, .int z7)]) (st' := [.int v2]) rfl ?_
      refine ev_br (P := v2 < 0) (L' := [(8, .int v2), (0, .ref 67), (1, .ref t1), (2, .int x2), (3, .ref t3), (5, .int z5), (6, .int z6), (7, .int z7)]) (st' := []) hr rfl rfl rfl (fun hr => ?_) (fun hr => ?_)
      · skip
        refine ev_join (L' := [(0, .ref 67), (1, .ref t1), (2, .int x2), (3, .ref t3), (5, .int z5), (6, .int z6), (7, .int z7), (8, .int v2)]) [1, 2, 3, 4, 5, 6, 7, 0] [8, 0, 1, 2, 3, 5, 6, 7] [0, 1, 2, 3, 5, 6, 7, 8] rfl rfl (by decide) (by decide) rfl ?_
        exact hr
      · skip
        refine ev_seg 2 (k' := 192) (L' := [(8, .int v2), (0, .ref 67), (1, .ref t1), (2, .int x2), (3, .ref t3), (5, .int z5), (6, .int z6), (7, .int z7)]) (st' := [.ref t1, .ref 67]) rfl ?_
        refine ev_getR (c := t1) (v := t1 + 15) rfl (isT_sh ht1) rfl (isT_r15 ht1) ?_
        refine ev_seg 1 (k' := 194) (L' := [(8, .int v2), (0, .ref 67), (1, .ref t1), (2, .int x2), (3, .ref t3), (5, .int z5), (6, .int z6), (7, .int z7)]) (st' := [.int v2, .ref (t1 + 15), .ref 67]) rfl ?_
        refine ev_ldI hr rfl (isT_a15 ht1) (fun v3 hr => ?_)
        refine ev_seg 1 (k' := 196) (L' := [(8, .int v2), (0, .ref 67), (1, .ref t1), (2, .int x2), (3, .ref t3), (5, .int z5), (6, .int z6), (7, .int z7)]) (st' := [.ref t3, .int v3, .ref 67]) rfl ?_
        refine ev_getR (c := t3) (v := t3 + 15) rfl (isT_sh ht3) rfl (isT_r15 ht3) ?_
        refine ev_seg 1 (k' := 198) (L' := [(8, .int v2), (0, .ref 67), (1, .ref t1), (2, .int x2), (3, .ref t3), (5, .int z5), (6, .int z6), (7, .int z7)]) (st' := [.int z7, .ref (t3 + 15), .int v3, .ref 67]) rfl ?_
        refine ev_ldI hr rfl (isT_a15 ht3) (fun v4 hr => ?_)
        refine ev_callV (q' := q_238) (x := 238) (y := 13) (c := 67) (As := [.int v3, .int v4]) (rest := []) hr rfl rfl rfl rfl rfl rfl rfl rfl rfl rfl rfl rfl (fun rv s5 hq => ev_kV hq (fun e9 hr => ?_))
        subst e9
        refine ev_st (st' := []) rfl ?_
        refine ev_join (L' := [(0, .ref 67), (1, .ref t1), (2, .int x2), (3, .ref t3), (5, .int z5), (6, .int z6), (7, .int z7), (8, .int v2)]) [1, 2, 3, 4, 5, 6, 7, 0] [8, 0, 1, 2, 3, 5, 6, 7] [0, 1, 2, 3, 5, 6, 7, 8] rfl rfl (by decide) (by decide) rfl ?_
        exact hr
set_option maxRecDepth 20000 in
theorem eMo_may_136 (d : Nat) (t1 : Nat) (t3 : Nat) (x4 : Int32) (z6 : Int32) (z7 : Int32) (s : aT) (ht1 : isT t1) (ht3 : isT t3) : ∀ r, (if z7 < 0 then ldI 140 s (t3 + 14) x4 (fun v1 => if 0 ≤ v1 then rI 1 s else if z6 = 0 then rI 0 s else rI 1 s) else if z6 = 0 then fMo_may_151 (d + 1) t1 t3 x4 z7 s else ldI 2200 s (t1 + 16) z7 (fun v2 => cN (fMt_symbol d t3 x4 t1 v2 s) (kI fun v4 s3 => if v4 < 0 then fMo_may_151 (d + 1) t1 t3 x4 z7 s3 else fMo_may_152 (d + 1) t1 t3 x4 z7 1 s3))) = some r → fMo_may_136 (d + 1) t1 t3 x4 z6 z7 s = some r := by
  intro r hr
  show ev (d + 1) q_239 136 [(1, .ref t1), (3, .ref t3), (4, .int x4), (6, .int z6), (7, .int z7)] [] s = some r
  refine ev_seg 1 (k' := 137) (L' := [(1, .ref t1), (3, .ref t3), (4, .int x4), (6, .int z6), (7, .int z7)]) (st' := [.int z7]) rfl ?_
  refine ev_br (P := z7 < 0) (L' := [(1, .ref t1), (3, .ref t3), (4, .int x4), (6, .int z6), (7, .int z7)]) (st' := []) hr rfl rfl rfl (fun hr => ?_) (fun hr => ?_)
  · skip
    refine ev_seg 1 (k' := 160) (L' := [(1, .ref t1), (3, .ref t3), (4, .int x4), (6, .int z6), (7, .int z7)]) (st' := [.ref t3]) rfl ?_
    refine ev_getR (c := t3) (v := t3 + 14) rfl (isT_sh ht3) rfl (isT_r14 ht3) ?_
    refine ev_seg 1 (k' := 162) (L' := [(1, .ref t1), (3, .ref t3), (4, .int x4), (6, .int z6), (7, .int z7)]) (st' := [.int x4, .ref (t3 + 14)]) rfl ?_
    refine ev_ldI hr rfl (isT_a14 ht3) (fun v1 hr => ?_)
    refine ev_br (P := 0 ≤ v1) (L' := [(1, .ref t1), (3, .ref t3), (4, .int x4), (6, .int z6), (7, .int z7)]) (st' := []) hr rfl rfl rfl (fun hr => ?_) (fun hr => ?_)
    · skip
      refine ev_seg 2 (k' := 169) (L' := [(1, .ref t1), (3, .ref t3), (4, .int x4), (6, .int z6), (7, .int z7)]) (st' := [.int 1]) rfl ?_
      exact ev_iret hr rfl rfl rfl
    · skip
      refine ev_seg 1 (k' := 165) (L' := [(1, .ref t1), (3, .ref t3), (4, .int x4), (6, .int z6), (7, .int z7)]) (st' := [.int z6]) rfl ?_
      refine ev_br (P := z6 = 0) (L' := [(1, .ref t1), (3, .ref t3), (4, .int x4), (6, .int z6), (7, .int z7)]) (st' := []) hr rfl rfl rfl (fun hr => ?_) (fun hr => ?_)
      · skip
        refine ev_seg 1 (k' := 169) (L' := [(1, .ref t1), (3, .ref t3), (4, .int x4), (6, .int z6), (7, .int z7)]) (st' := [.int 0]) rfl ?_
        exact ev_iret hr rfl rfl rfl
      · skip
        refine ev_seg 2 (k' := 169) (L' := [(1, .ref t1), (3, .ref t3), (4, .int x4), (6, .int z6), (7, .int z7)]) (st' := [.int 1]) rfl ?_
        exact ev_iret hr rfl rfl rfl
  · skip
    refine ev_seg 1 (k' := 139) (L' := [(1, .ref t1), (3, .ref t3), (4, .int x4), (6, .int z6), (7, .int z7)]) (st' := [.int z6]) rfl ?_
    refine ev_br (P := z6 = 0) (L' := [(1, .ref t1), (3, .ref t3), (4, .int x4), (6, .int z6), (7, .int z7)]) (st' := []) hr rfl rfl rfl (fun hr => ?_) (fun hr => ?_)
    · skip
      refine ev_join (L' := [(1, .ref t1), (3, .ref t3), (4, .int x4), (7, .int z7)]) [0, 1, 2, 4] [1, 3, 4, 6, 7] [1, 3, 4, 7] rfl rfl (by decide) (by decide) rfl ?_
      exact hr
    · skip
      refine ev_seg 4 (k' := 144) (L' := [(1, .ref t1), (3, .ref t3), (4, .int x4), (6, .int z6), (7, .int z7)]) (st' := [.ref t1, .ref t1, .int x4, .ref t3]) rfl ?_
      refine ev_getR (c := t1) (v := t1 + 16) rfl (isT_sh ht1) rfl (isT_r16 ht1) ?_
      refine ev_seg 1 (k' := 146) (L' := [(1, .ref t1), (3, .ref t3), (4, .int x4), (6, .int z6), (7, .int z7)]) (st' := [.int z7, .ref (t1 + 16), .ref t1, .int x4, .ref t3]) rfl ?_
      refine ev_ldI hr rfl (isT_a16 ht1) (fun v2 hr => ?_)
      refine ev_callN (q' := q_223) (x := 223) (y := 112) (c := t3) (As := [.int x4, .ref t1, .int v2]) (rest := []) hr rfl rfl rfl rfl rfl rfl (isT_sh ht3) rfl rfl (fun rv s3 hq => ev_kI hq (fun v4 e9 hr => ?_))
      subst e9
      refine ev_st (st' := [.int v4]) rfl ?_
      refine ev_br (P := v4 < 0) (L' := [(1, .ref t1), (3, .ref t3), (4, .int x4), (6, .int z6), (7, .int z7)]) (st' := []) hr rfl rfl rfl (fun hr => ?_) (fun hr => ?_)
      · skip
        refine ev_join (L' := [(1, .ref t1), (3, .ref t3), (4, .int x4), (7, .int z7)]) [0, 1, 2, 4] [1, 3, 4, 6, 7] [1, 3, 4, 7] rfl rfl (by decide) (by decide) rfl ?_
        exact hr
      · skip
        refine ev_seg 2 (k' := 152) (L' := [(1, .ref t1), (3, .ref t3), (4, .int x4), (6, .int z6), (7, .int z7)]) (st' := [.int 1]) rfl ?_
        refine ev_join (L' := [(1, .ref t1), (3, .ref t3), (4, .int x4), (7, .int z7)]) [0, 1, 2, 4] [1, 3, 4, 6, 7] [1, 3, 4, 7] rfl rfl (by decide) (by decide) rfl ?_
        exact hr
set_option maxRecDepth 20000 in
theorem eMo_may_51 (d : Nat) (z6 : Int32) (s : aT) : ∀ r, (if z6 < 0 then rI 0 s else rI 1 s) = some r → fMo_may_51 (d + 1) z6 s = some r := by
  intro r hr
  show ev (d + 1) q_239 51 [(6, .int z6)] [] s = some r
  refine ev_seg 1 (k' := 52) (L' := [(6, .int z6)]) (st' := [.int z6]) rfl ?_
  refine ev_br (P := z6 < 0) (L' := [(6, .int z6)]) (st' := []) hr rfl rfl rfl (fun hr => ?_) (fun hr => ?_)
  · skip
    refine ev_seg 1 (k' := 56) (L' := [(6, .int z6)]) (st' := [.int 0]) rfl ?_
    exact ev_iret hr rfl rfl rfl
  · skip
    refine ev_seg 2 (k' := 56) (L' := [(6, .int z6)]) (st' := [.int 1]) rfl ?_
    exact ev_iret hr rfl rfl rfl
set_option maxRecDepth 20000 in
theorem eMo_may_13 (d : Nat) (t1 : Nat) (x4 : Int32) (z6 : Int32) (s : aT) (ht1 : isT t1) : ∀ r, (if z6 < 0 then rI 1 s else ldI 2200 s (t1 + 15) z6 (fun v1 => cG (fMo_ask d v1 x4 s) (kV fun s2 => ldI 2200 s2 (t1 + 18) z6 (fun v3 => fMo_may_13 (d + 1) t1 x4 v3 s2)))) = some r → fMo_may_13 (d + 1) t1 x4 z6 s = some r := by
  intro r hr
  show ev (d + 1) q_239 13 [(0, .ref 67), (1, .ref t1), (4, .int x4), (6, .int z6)] [] s = some r
  refine ev_seg 1 (k' := 14) (L' := [(0, .ref 67), (1, .ref t1), (4, .int x4), (6, .int z6)]) (st' := [.int z6]) rfl ?_
  refine ev_br (P := z6 < 0) (L' := [(0, .ref 67), (1, .ref t1), (4, .int x4), (6, .int z6)]) (st' := []) hr rfl rfl rfl (fun hr => ?_) (fun hr => ?_)
  · skip
    refine ev_seg 1 (k' := 29) (L' := [(0, .ref 67), (1, .ref t1), (4, .int x4), (6, .int z6)]) (st' := [.int 1]) rfl ?_
    exact ev_iret hr rfl rfl rfl
  · skip
    refine ev_seg 2 (k' := 17) (L' := [(0, .ref 67), (1, .ref t1), (4, .int x4), (6, .int z6)]) (st' := [.ref t1, .ref 67]) rfl ?_
    refine ev_getR (c := t1) (v := t1 + 15) rfl (isT_sh ht1) rfl (isT_r15 ht1) ?_
    refine ev_seg 1 (k' := 19) (L' := [(0, .ref 67), (1, .ref t1), (4, .int x4), (6, .int z6)]) (st' := [.int z6, .ref (t1 + 15), .ref 67]) rfl ?_
    refine ev_ldI hr rfl (isT_a15 ht1) (fun v1 hr => ?_)
    refine ev_seg 1 (k' := 21) (L' := [(0, .ref 67), (1, .ref t1), (4, .int x4), (6, .int z6)]) (st' := [.int x4, .int v1, .ref 67]) rfl ?_
    refine ev_callV (q' := q_238) (x := 238) (y := 13) (c := 67) (As := [.int v1, .int x4]) (rest := []) hr rfl rfl rfl rfl rfl rfl rfl rfl rfl rfl rfl rfl (fun rv s2 hq => ev_kV hq (fun e9 hr => ?_))
    subst e9
    refine ev_st (st' := []) rfl ?_
    refine ev_seg 1 (k' := 23) (L' := [(0, .ref 67), (1, .ref t1), (4, .int x4), (6, .int z6)]) (st' := [.ref t1]) rfl ?_
    refine ev_getR (c := t1) (v := t1 + 18) rfl (isT_sh ht1) rfl (isT_r18 ht1) ?_
    refine ev_seg 1 (k' := 25) (L' := [(0, .ref 67), (1, .ref t1), (4, .int x4), (6, .int z6)]) (st' := [.int z6, .ref (t1 + 18)]) rfl ?_
    refine ev_ldI hr rfl (isT_a18 ht1) (fun v3 hr => ?_)
    refine ev_seg 2 (k' := 13) (L' := [(6, .int v3), (0, .ref 67), (1, .ref t1), (4, .int x4)]) (st' := []) rfl ?_
    refine ev_join (L' := [(0, .ref 67), (1, .ref t1), (4, .int x4), (6, .int v3)]) [1, 2, 3, 0] [6, 0, 1, 4] [0, 1, 4, 6] rfl rfl (by decide) (by decide) rfl ?_
    exact hr
set_option maxRecDepth 20000 in
theorem eMo_may_200 (d : Nat) (t1 : Nat) (x2 : Int32) (t3 : Nat) (z5 : Int32) (z6 : Int32) (z7 : Int32) (z8 : Int32) (s : aT) (ht1 : isT t1) (ht3 : isT t3) : ∀ r, (if z6 = 0 then fMo_may_211 (d + 1) t1 x2 t3 z5 z7 s else if 0 ≤ z8 then fMo_may_209 (d + 1) t1 x2 t3 z5 z7 s else ldI 2200 s (t3 + 17) z7 (fun v1 => if v1 < 0 then fMo_may_211 (d + 1) t1 x2 t3 z5 z7 s else fMo_may_209 (d + 1) t1 x2 t3 z5 z7 s)) = some r → fMo_may_200 (d + 1) t1 x2 t3 z5 z6 z7 z8 s = some r := by
  intro r hr
  show ev (d + 1) q_239 200 [(0, .ref 67), (1, .ref t1), (2, .int x2), (3, .ref t3), (5, .int z5), (6, .int z6), (7, .int z7), (8, .int z8)] [] s = some r
  refine ev_seg 1 (k' := 201) (L' := [(0, .ref 67), (1, .ref t1), (2, .int x2), (3, .ref t3), (5, .int z5), (6, .int z6), (7, .int z7), (8, .int z8)]) (st' := [.int z6]) rfl ?_
  refine ev_br (P := z6 = 0) (L' := [(0, .ref 67), (1, .ref t1), (2, .int x2), (3, .ref t3), (5, .int z5), (6, .int z6), (7, .int z7), (8, .int z8)]) (st' := []) hr rfl rfl rfl (fun hr => ?_) (fun hr => ?_)
  · skip
    refine ev_join (L' := [(0, .ref 67), (1, .ref t1), (2, .int x2), (3, .ref t3), (5, .int z5), (7, .int z7)]) [0, 1, 2, 3, 4, 6] [0, 1, 2, 3, 5, 6, 7, 8] [0, 1, 2, 3, 5, 7] rfl rfl (by decide) (by decide) rfl ?_
    exact hr
  · skip
    refine ev_seg 1 (k' := 203) (L' := [(0, .ref 67), (1, .ref t1), (2, .int x2), (3, .ref t3), (5, .int z5), (6, .int z6), (7, .int z7), (8, .int z8)]) (st' := [.int z8]) rfl ?_
    refine ev_br (P := 0 ≤ z8) (L' := [(0, .ref 67), (1, .ref t1), (2, .int x2), (3, .ref t3), (5, .int z5), (6, .int z6), (7, .int z7), (8, .int z8)]) (st' := []) hr rfl rfl rfl (fun hr => ?_) (fun hr => ?_)
    · skip
      refine ev_join (L' := [(0, .ref 67), (1, .ref t1), (2, .int x2), (3, .ref t3), (5, .int z5), (7, .int z7)]) [0, 1, 2, 3, 4, 6] [0, 1, 2, 3, 5, 6, 7, 8] [0, 1, 2, 3, 5, 7] rfl rfl (by decide) (by decide) rfl ?_
      exact hr
    · skip
      refine ev_seg 1 (k' := 205) (L' := [(0, .ref 67), (1, .ref t1), (2, .int x2), (3, .ref t3), (5, .int z5), (6, .int z6), (7, .int z7), (8, .int z8)]) (st' := [.ref t3]) rfl ?_
      refine ev_getR (c := t3) (v := t3 + 17) rfl (isT_sh ht3) rfl (isT_r17 ht3) ?_
      refine ev_seg 1 (k' := 207) (L' := [(0, .ref 67), (1, .ref t1), (2, .int x2), (3, .ref t3), (5, .int z5), (6, .int z6), (7, .int z7), (8, .int z8)]) (st' := [.int z7, .ref (t3 + 17)]) rfl ?_
      refine ev_ldI hr rfl (isT_a17 ht3) (fun v1 hr => ?_)
      refine ev_br (P := v1 < 0) (L' := [(0, .ref 67), (1, .ref t1), (2, .int x2), (3, .ref t3), (5, .int z5), (6, .int z6), (7, .int z7), (8, .int z8)]) (st' := []) hr rfl rfl rfl (fun hr => ?_) (fun hr => ?_)
      · skip
        refine ev_join (L' := [(0, .ref 67), (1, .ref t1), (2, .int x2), (3, .ref t3), (5, .int z5), (7, .int z7)]) [0, 1, 2, 3, 4, 6] [0, 1, 2, 3, 5, 6, 7, 8] [0, 1, 2, 3, 5, 7] rfl rfl (by decide) (by decide) rfl ?_
        exact hr
      · skip
        refine ev_join (L' := [(0, .ref 67), (1, .ref t1), (2, .int x2), (3, .ref t3), (5, .int z5), (7, .int z7)]) [0, 1, 2, 3, 4, 6] [0, 1, 2, 3, 5, 6, 7, 8] [0, 1, 2, 3, 5, 7] rfl rfl (by decide) (by decide) rfl ?_
        exact hr
set_option maxRecDepth 20000 in
theorem eMo_may_151 (d : Nat) (t1 : Nat) (t3 : Nat) (x4 : Int32) (z7 : Int32) (s : aT) (ht1 : isT t1) (ht3 : isT t3) : ∀ r, (fMo_may_152 (d + 1) t1 t3 x4 z7 0 s) = some r → fMo_may_151 (d + 1) t1 t3 x4 z7 s = some r := by
  intro r hr
  show ev (d + 1) q_239 151 [(1, .ref t1), (3, .ref t3), (4, .int x4), (7, .int z7)] [] s = some r
  refine ev_seg 1 (k' := 152) (L' := [(1, .ref t1), (3, .ref t3), (4, .int x4), (7, .int z7)]) (st' := [.int 0]) rfl ?_
  exact hr
set_option maxRecDepth 20000 in
theorem eMo_may_152 (d : Nat) (t1 : Nat) (t3 : Nat) (x4 : Int32) (z7 : Int32) (u0 : Int32) (s : aT) (ht1 : isT t1) (ht3 : isT t3) : ∀ r, (ldI 2200 s (t1 + 18) z7 (fun v1 => fMo_may_136 (d + 1) t1 t3 x4 u0 v1 s)) = some r → fMo_may_152 (d + 1) t1 t3 x4 z7 u0 s = some r := by
  intro r hr
  show ev (d + 1) q_239 152 [(1, .ref t1), (3, .ref t3), (4, .int x4), (7, .int z7)] [.int u0] s = some r
  refine ev_seg 2 (k' := 154) (L' := [(6, .int u0), (1, .ref t1), (3, .ref t3), (4, .int x4), (7, .int z7)]) (st' := [.ref t1]) rfl ?_
  refine ev_getR (c := t1) (v := t1 + 18) rfl (isT_sh ht1) rfl (isT_r18 ht1) ?_
  refine ev_seg 1 (k' := 156) (L' := [(6, .int u0), (1, .ref t1), (3, .ref t3), (4, .int x4), (7, .int z7)]) (st' := [.int z7, .ref (t1 + 18)]) rfl ?_
  refine ev_ldI hr rfl (isT_a18 ht1) (fun v1 hr => ?_)
  refine ev_seg 2 (k' := 136) (L' := [(7, .int v1), (6, .int u0), (1, .ref t1), (3, .ref t3), (4, .int x4)]) (st' := []) rfl ?_
  refine ev_join (L' := [(1, .ref t1), (3, .ref t3), (4, .int x4), (6, .int u0), (7, .int v1)]) [2, 3, 4, 1, 0] [7, 6, 1, 3, 4] [1, 3, 4, 6, 7] rfl rfl (by decide) (by decide) rfl ?_
  exact hr
set_option maxRecDepth 20000 in
theorem eMo_may_211 (d : Nat) (t1 : Nat) (x2 : Int32) (t3 : Nat) (z5 : Int32) (z7 : Int32) (s : aT) (ht1 : isT t1) (ht3 : isT t3) : ∀ r, (fMo_may_212 (d + 1) t1 x2 t3 z5 z7 0 s) = some r → fMo_may_211 (d + 1) t1 x2 t3 z5 z7 s = some r := by
  intro r hr
  show ev (d + 1) q_239 211 [(0, .ref 67), (1, .ref t1), (2, .int x2), (3, .ref t3), (5, .int z5), (7, .int z7)] [] s = some r
  refine ev_seg 1 (k' := 212) (L' := [(0, .ref 67), (1, .ref t1), (2, .int x2), (3, .ref t3), (5, .int z5), (7, .int z7)]) (st' := [.int 0]) rfl ?_
  exact hr
set_option maxRecDepth 20000 in
theorem eMo_may_209 (d : Nat) (t1 : Nat) (x2 : Int32) (t3 : Nat) (z5 : Int32) (z7 : Int32) (s : aT) (ht1 : isT t1) (ht3 : isT t3) : ∀ r, (fMo_may_212 (d + 1) t1 x2 t3 z5 z7 1 s) = some r → fMo_may_209 (d + 1) t1 x2 t3 z5 z7 s = some r := by
  intro r hr
  show ev (d + 1) q_239 209 [(0, .ref 67), (1, .ref t1), (2, .int x2), (3, .ref t3), (5, .int z5), (7, .int z7)] [] s = some r
  refine ev_seg 2 (k' := 212) (L' := [(0, .ref 67), (1, .ref t1), (2, .int x2), (3, .ref t3), (5, .int z5), (7, .int z7)]) (st' := [.int 1]) rfl ?_
  exact hr
set_option maxRecDepth 20000 in
theorem eMo_may_212 (d : Nat) (t1 : Nat) (x2 : Int32) (t3 : Nat) (z5 : Int32) (z7 : Int32) (u0 : Int32) (s : aT) (ht1 : isT t1) (ht3 : isT t3) : ∀ r, (ldI 2200 s (t3 + 18) z7 (fun v1 => fMo_may_177 (d + 1) t1 x2 t3 z5 u0 v1 s)) = some r → fMo_may_212 (d + 1) t1 x2 t3 z5 z7 u0 s = some r := by
  intro r hr
  show ev (d + 1) q_239 212 [(0, .ref 67), (1, .ref t1), (2, .int x2), (3, .ref t3), (5, .int z5), (7, .int z7)] [.int u0] s = some r
  refine ev_seg 2 (k' := 214) (L' := [(6, .int u0), (0, .ref 67), (1, .ref t1), (2, .int x2), (3, .ref t3), (5, .int z5), (7, .int z7)]) (st' := [.ref t3]) rfl ?_
  refine ev_getR (c := t3) (v := t3 + 18) rfl (isT_sh ht3) rfl (isT_r18 ht3) ?_
  refine ev_seg 1 (k' := 216) (L' := [(6, .int u0), (0, .ref 67), (1, .ref t1), (2, .int x2), (3, .ref t3), (5, .int z5), (7, .int z7)]) (st' := [.int z7, .ref (t3 + 18)]) rfl ?_
  refine ev_ldI hr rfl (isT_a18 ht3) (fun v1 hr => ?_)
  refine ev_seg 2 (k' := 177) (L' := [(7, .int v1), (6, .int u0), (0, .ref 67), (1, .ref t1), (2, .int x2), (3, .ref t3), (5, .int z5)]) (st' := []) rfl ?_
  refine ev_join (L' := [(0, .ref 67), (1, .ref t1), (2, .int x2), (3, .ref t3), (5, .int z5), (6, .int u0), (7, .int v1)]) [2, 3, 4, 5, 6, 1, 0] [7, 6, 0, 1, 2, 3, 5] [0, 1, 2, 3, 5, 6, 7] rfl rfl (by decide) (by decide) rfl ?_
  exact hr
set_option maxRecDepth 20000 in
theorem eMo_branchFor (d : Nat) (t0 : Nat) (x1 : Int32) (t2 : Nat) (x3 : Int32) (s : aT) (ht0 : isT t0) (ht2 : isT t2) : ∀ r, (ldI 140 s (t2 + 12) x3 (fun v1 => fMo_branchFor_5 (d + 1) t0 x1 t2 v1 s)) = some r → fMo_branchFor (d + 1) t0 x1 t2 x3 s = some r := by
  intro r hr
  show ev (d + 1) q_240 0 [(0, .ref t0), (1, .int x1), (2, .ref t2), (3, .int x3)] [] s = some r
  refine ev_seg 1 (k' := 1) (L' := [(0, .ref t0), (1, .int x1), (2, .ref t2), (3, .int x3)]) (st' := [.ref t2]) rfl ?_
  refine ev_getR (c := t2) (v := t2 + 12) rfl (isT_sh ht2) rfl (isT_r12 ht2) ?_
  refine ev_seg 1 (k' := 3) (L' := [(0, .ref t0), (1, .int x1), (2, .ref t2), (3, .int x3)]) (st' := [.int x3, .ref (t2 + 12)]) rfl ?_
  refine ev_ldI hr rfl (isT_a12 ht2) (fun v1 hr => ?_)
  refine ev_seg 1 (k' := 5) (L' := [(4, .int v1), (0, .ref t0), (1, .int x1), (2, .ref t2), (3, .int x3)]) (st' := []) rfl ?_
  refine ev_join (L' := [(0, .ref t0), (1, .int x1), (2, .ref t2), (4, .int v1)]) [1, 2, 3, 0] [4, 0, 1, 2, 3] [0, 1, 2, 4] rfl rfl (by decide) (by decide) rfl ?_
  exact hr
set_option maxRecDepth 20000 in
theorem eMo_branchFor_5 (d : Nat) (t0 : Nat) (x1 : Int32) (t2 : Nat) (z4 : Int32) (s : aT) (ht0 : isT t0) (ht2 : isT t2) : ∀ r, (if z4 < 0 then rI (-1) s else ldI 2200 s (t2 + 15) z4 (fun v1 => cG (fMo_matches d t0 x1 t2 v1 s) (kI fun v3 s2 => if v3 = 0 then ldI 2200 s2 (t2 + 18) z4 (fun v4 => fMo_branchFor_5 (d + 1) t0 x1 t2 v4 s2) else rI z4 s2))) = some r → fMo_branchFor_5 (d + 1) t0 x1 t2 z4 s = some r := by
  intro r hr
  show ev (d + 1) q_240 5 [(0, .ref t0), (1, .int x1), (2, .ref t2), (4, .int z4)] [] s = some r
  refine ev_seg 1 (k' := 6) (L' := [(0, .ref t0), (1, .int x1), (2, .ref t2), (4, .int z4)]) (st' := [.int z4]) rfl ?_
  refine ev_br (P := z4 < 0) (L' := [(0, .ref t0), (1, .int x1), (2, .ref t2), (4, .int z4)]) (st' := []) hr rfl rfl rfl (fun hr => ?_) (fun hr => ?_)
  · skip
    refine ev_seg 1 (k' := 25) (L' := [(0, .ref t0), (1, .int x1), (2, .ref t2), (4, .int z4)]) (st' := [.int (-1)]) rfl ?_
    exact ev_iret hr rfl rfl rfl
  · skip
    refine ev_seg 4 (k' := 11) (L' := [(0, .ref t0), (1, .int x1), (2, .ref t2), (4, .int z4)]) (st' := [.ref t2, .ref t2, .int x1, .ref t0]) rfl ?_
    refine ev_getR (c := t2) (v := t2 + 15) rfl (isT_sh ht2) rfl (isT_r15 ht2) ?_
    refine ev_seg 1 (k' := 13) (L' := [(0, .ref t0), (1, .int x1), (2, .ref t2), (4, .int z4)]) (st' := [.int z4, .ref (t2 + 15), .ref t2, .int x1, .ref t0]) rfl ?_
    refine ev_ldI hr rfl (isT_a15 ht2) (fun v1 hr => ?_)
    refine ev_callS (q' := q_241) (x := 241) (vs := [.ref t0, .int x1, .ref t2, .int v1]) (rest := []) hr rfl rfl rfl rfl rfl rfl rfl rfl rfl rfl (fun rv s2 hq => ev_kI hq (fun v3 e9 hr => ?_))
    subst e9
    refine ev_st (st' := [.int v3]) rfl ?_
    refine ev_br (P := v3 = 0) (L' := [(0, .ref t0), (1, .int x1), (2, .ref t2), (4, .int z4)]) (st' := []) hr rfl rfl rfl (fun hr => ?_) (fun hr => ?_)
    · skip
      refine ev_seg 1 (k' := 19) (L' := [(0, .ref t0), (1, .int x1), (2, .ref t2), (4, .int z4)]) (st' := [.ref t2]) rfl ?_
      refine ev_getR (c := t2) (v := t2 + 18) rfl (isT_sh ht2) rfl (isT_r18 ht2) ?_
      refine ev_seg 1 (k' := 21) (L' := [(0, .ref t0), (1, .int x1), (2, .ref t2), (4, .int z4)]) (st' := [.int z4, .ref (t2 + 18)]) rfl ?_
      refine ev_ldI hr rfl (isT_a18 ht2) (fun v4 hr => ?_)
      refine ev_seg 2 (k' := 5) (L' := [(4, .int v4), (0, .ref t0), (1, .int x1), (2, .ref t2)]) (st' := []) rfl ?_
      refine ev_join (L' := [(0, .ref t0), (1, .int x1), (2, .ref t2), (4, .int v4)]) [1, 2, 3, 0] [4, 0, 1, 2] [0, 1, 2, 4] rfl rfl (by decide) (by decide) rfl ?_
      exact hr
    · skip
      refine ev_seg 1 (k' := 17) (L' := [(0, .ref t0), (1, .int x1), (2, .ref t2), (4, .int z4)]) (st' := [.int z4]) rfl ?_
      exact ev_iret hr rfl rfl rfl
set_option maxRecDepth 20000 in
theorem eMo_matches (d : Nat) (t0 : Nat) (x1 : Int32) (t2 : Nat) (x3 : Int32) (s : aT) (ht0 : isT t0) (ht2 : isT t2) : ∀ r, (ldI 140 s (t0 + 9) x1 (fun v1 => ldI 140 s (t2 + 9) x3 (fun v2 => if v1 = 8 then rI 1 s else if ¬ v2 = 8 then cG (fMo_sixOf d v1 s) (kI fun v4 s3 => if ¬ v4 = 0 then fMo_matches_24 (d + 1) v1 v2 s3 else cG (fMo_sixOf d v2 s3) (kI fun v6 s5 => if v6 = 0 then if v1 = v2 then if v1 = 6 then fMo_matches_49 (d + 1) t0 x1 t2 x3 s5 else if ¬ v1 = 7 then ldI 140 s5 (t0 + 10) x1 (fun v7 => ldI 140 s5 (t2 + 10) x3 (fun v8 => cN (fMt_same d t0 v7 t2 v8 s5) (kI fun v10 s9 => if v10 = 0 then rI 0 s9 else if ¬ v1 = 9 then rI 1 s9 else ldI 140 s9 (t0 + 11) x1 (fun v11 => ldI 140 s9 (t2 + 11) x3 (fun v12 => if ¬ v11 = v12 then rI 0 s9 else rI 1 s9))))) else fMo_matches_49 (d + 1) t0 x1 t2 x3 s5 else rI 0 s5 else fMo_matches_24 (d + 1) v1 v2 s5)) else rI 1 s))) = some r → fMo_matches (d + 1) t0 x1 t2 x3 s = some r := by
  intro r hr
  show ev (d + 1) q_241 0 [(0, .ref t0), (1, .int x1), (2, .ref t2), (3, .int x3)] [] s = some r
  refine ev_seg 1 (k' := 1) (L' := [(0, .ref t0), (1, .int x1), (2, .ref t2), (3, .int x3)]) (st' := [.ref t0]) rfl ?_
  refine ev_getR (c := t0) (v := t0 + 9) rfl (isT_sh ht0) rfl (isT_r9 ht0) ?_
  refine ev_seg 1 (k' := 3) (L' := [(0, .ref t0), (1, .int x1), (2, .ref t2), (3, .int x3)]) (st' := [.int x1, .ref (t0 + 9)]) rfl ?_
  refine ev_ldI hr rfl (isT_a9 ht0) (fun v1 hr => ?_)
  refine ev_seg 2 (k' := 6) (L' := [(4, .int v1), (0, .ref t0), (1, .int x1), (2, .ref t2), (3, .int x3)]) (st' := [.ref t2]) rfl ?_
  refine ev_getR (c := t2) (v := t2 + 9) rfl (isT_sh ht2) rfl (isT_r9 ht2) ?_
  refine ev_seg 1 (k' := 8) (L' := [(4, .int v1), (0, .ref t0), (1, .int x1), (2, .ref t2), (3, .int x3)]) (st' := [.int x3, .ref (t2 + 9)]) rfl ?_
  refine ev_ldI hr rfl (isT_a9 ht2) (fun v2 hr => ?_)
  refine ev_seg 3 (k' := 12) (L' := [(5, .int v2), (4, .int v1), (0, .ref t0), (1, .int x1), (2, .ref t2), (3, .int x3)]) (st' := [.int 8, .int v1]) rfl ?_
  refine ev_br (P := v1 = 8) (L' := [(5, .int v2), (4, .int v1), (0, .ref t0), (1, .int x1), (2, .ref t2), (3, .int x3)]) (st' := []) hr rfl rfl rfl (fun hr => ?_) (fun hr => ?_)
  · skip
    refine ev_seg 1 (k' := 17) (L' := [(5, .int v2), (4, .int v1), (0, .ref t0), (1, .int x1), (2, .ref t2), (3, .int x3)]) (st' := [.int 1]) rfl ?_
    exact ev_iret hr rfl rfl rfl
  · skip
    refine ev_seg 2 (k' := 15) (L' := [(5, .int v2), (4, .int v1), (0, .ref t0), (1, .int x1), (2, .ref t2), (3, .int x3)]) (st' := [.int 8, .int v2]) rfl ?_
    refine ev_br (P := ¬ v2 = 8) (L' := [(5, .int v2), (4, .int v1), (0, .ref t0), (1, .int x1), (2, .ref t2), (3, .int x3)]) (st' := []) hr rfl rfl rfl (fun hr => ?_) (fun hr => ?_)
    · skip
      refine ev_seg 1 (k' := 19) (L' := [(5, .int v2), (4, .int v1), (0, .ref t0), (1, .int x1), (2, .ref t2), (3, .int x3)]) (st' := [.int v1]) rfl ?_
      refine ev_callS (q' := q_242) (x := 242) (vs := [.int v1]) (rest := []) hr rfl rfl rfl rfl rfl rfl rfl rfl rfl rfl (fun rv s3 hq => ev_kI hq (fun v4 e9 hr => ?_))
      subst e9
      refine ev_st (st' := [.int v4]) rfl ?_
      refine ev_br (P := ¬ v4 = 0) (L' := [(5, .int v2), (4, .int v1), (0, .ref t0), (1, .int x1), (2, .ref t2), (3, .int x3)]) (st' := []) hr rfl rfl rfl (fun hr => ?_) (fun hr => ?_)
      · skip
        refine ev_join (L' := [(4, .int v1), (5, .int v2)]) [1, 0] [5, 4, 0, 1, 2, 3] [4, 5] rfl rfl (by decide) (by decide) rfl ?_
        exact hr
      · skip
        refine ev_seg 1 (k' := 22) (L' := [(5, .int v2), (4, .int v1), (0, .ref t0), (1, .int x1), (2, .ref t2), (3, .int x3)]) (st' := [.int v2]) rfl ?_
        refine ev_callS (q' := q_242) (x := 242) (vs := [.int v2]) (rest := []) hr rfl rfl rfl rfl rfl rfl rfl rfl rfl rfl (fun rv s5 hq => ev_kI hq (fun v6 e9 hr => ?_))
        subst e9
        refine ev_st (st' := [.int v6]) rfl ?_
        refine ev_br (P := v6 = 0) (L' := [(5, .int v2), (4, .int v1), (0, .ref t0), (1, .int x1), (2, .ref t2), (3, .int x3)]) (st' := []) hr rfl rfl rfl (fun hr => ?_) (fun hr => ?_)
        · skip
          refine ev_seg 2 (k' := 40) (L' := [(5, .int v2), (4, .int v1), (0, .ref t0), (1, .int x1), (2, .ref t2), (3, .int x3)]) (st' := [.int v2, .int v1]) rfl ?_
          refine ev_br (P := v1 = v2) (L' := [(5, .int v2), (4, .int v1), (0, .ref t0), (1, .int x1), (2, .ref t2), (3, .int x3)]) (st' := []) hr rfl rfl rfl (fun hr => ?_) (fun hr => ?_)
          · skip
            refine ev_seg 2 (k' := 45) (L' := [(5, .int v2), (4, .int v1), (0, .ref t0), (1, .int x1), (2, .ref t2), (3, .int x3)]) (st' := [.int 6, .int v1]) rfl ?_
            refine ev_br (P := v1 = 6) (L' := [(5, .int v2), (4, .int v1), (0, .ref t0), (1, .int x1), (2, .ref t2), (3, .int x3)]) (st' := []) hr rfl rfl rfl (fun hr => ?_) (fun hr => ?_)
            · skip
              refine ev_join (L' := [(0, .ref t0), (1, .int x1), (2, .ref t2), (3, .int x3)]) [2, 3, 4, 5] [5, 4, 0, 1, 2, 3] [0, 1, 2, 3] rfl rfl (by decide) (by decide) rfl ?_
              exact hr
            · skip
              refine ev_seg 2 (k' := 48) (L' := [(5, .int v2), (4, .int v1), (0, .ref t0), (1, .int x1), (2, .ref t2), (3, .int x3)]) (st' := [.int 7, .int v1]) rfl ?_
              refine ev_br (P := ¬ v1 = 7) (L' := [(5, .int v2), (4, .int v1), (0, .ref t0), (1, .int x1), (2, .ref t2), (3, .int x3)]) (st' := []) hr rfl rfl rfl (fun hr => ?_) (fun hr => ?_)
              · skip
                refine ev_seg 2 (k' := 69) (L' := [(5, .int v2), (4, .int v1), (0, .ref t0), (1, .int x1), (2, .ref t2), (3, .int x3)]) (st' := [.ref t0, .ref t0]) rfl ?_
                refine ev_getR (c := t0) (v := t0 + 10) rfl (isT_sh ht0) rfl (isT_r10 ht0) ?_
                refine ev_seg 1 (k' := 71) (L' := [(5, .int v2), (4, .int v1), (0, .ref t0), (1, .int x1), (2, .ref t2), (3, .int x3)]) (st' := [.int x1, .ref (t0 + 10), .ref t0]) rfl ?_
                refine ev_ldI hr rfl (isT_a10 ht0) (fun v7 hr => ?_)
                refine ev_seg 2 (k' := 74) (L' := [(5, .int v2), (4, .int v1), (0, .ref t0), (1, .int x1), (2, .ref t2), (3, .int x3)]) (st' := [.ref t2, .ref t2, .int v7, .ref t0]) rfl ?_
                refine ev_getR (c := t2) (v := t2 + 10) rfl (isT_sh ht2) rfl (isT_r10 ht2) ?_
                refine ev_seg 1 (k' := 76) (L' := [(5, .int v2), (4, .int v1), (0, .ref t0), (1, .int x1), (2, .ref t2), (3, .int x3)]) (st' := [.int x3, .ref (t2 + 10), .ref t2, .int v7, .ref t0]) rfl ?_
                refine ev_ldI hr rfl (isT_a10 ht2) (fun v8 hr => ?_)
                refine ev_callN (q' := q_208) (x := 208) (y := 112) (c := t0) (As := [.int v7, .ref t2, .int v8]) (rest := []) hr rfl rfl rfl rfl rfl rfl (isT_sh ht0) rfl rfl (fun rv s9 hq => ev_kI hq (fun v10 e9 hr => ?_))
                subst e9
                refine ev_st (st' := [.int v10]) rfl ?_
                refine ev_br (P := v10 = 0) (L' := [(5, .int v2), (4, .int v1), (0, .ref t0), (1, .int x1), (2, .ref t2), (3, .int x3)]) (st' := []) hr rfl rfl rfl (fun hr => ?_) (fun hr => ?_)
                · skip
                  refine ev_seg 1 (k' := 94) (L' := [(5, .int v2), (4, .int v1), (0, .ref t0), (1, .int x1), (2, .ref t2), (3, .int x3)]) (st' := [.int 0]) rfl ?_
                  exact ev_iret hr rfl rfl rfl
                · skip
                  refine ev_seg 2 (k' := 81) (L' := [(5, .int v2), (4, .int v1), (0, .ref t0), (1, .int x1), (2, .ref t2), (3, .int x3)]) (st' := [.int 9, .int v1]) rfl ?_
                  refine ev_br (P := ¬ v1 = 9) (L' := [(5, .int v2), (4, .int v1), (0, .ref t0), (1, .int x1), (2, .ref t2), (3, .int x3)]) (st' := []) hr rfl rfl rfl (fun hr => ?_) (fun hr => ?_)
                  · skip
                    refine ev_seg 2 (k' := 94) (L' := [(5, .int v2), (4, .int v1), (0, .ref t0), (1, .int x1), (2, .ref t2), (3, .int x3)]) (st' := [.int 1]) rfl ?_
                    exact ev_iret hr rfl rfl rfl
                  · skip
                    refine ev_seg 1 (k' := 83) (L' := [(5, .int v2), (4, .int v1), (0, .ref t0), (1, .int x1), (2, .ref t2), (3, .int x3)]) (st' := [.ref t0]) rfl ?_
                    refine ev_getR (c := t0) (v := t0 + 11) rfl (isT_sh ht0) rfl (isT_r11 ht0) ?_
                    refine ev_seg 1 (k' := 85) (L' := [(5, .int v2), (4, .int v1), (0, .ref t0), (1, .int x1), (2, .ref t2), (3, .int x3)]) (st' := [.int x1, .ref (t0 + 11)]) rfl ?_
                    refine ev_ldI hr rfl (isT_a11 ht0) (fun v11 hr => ?_)
                    refine ev_seg 1 (k' := 87) (L' := [(5, .int v2), (4, .int v1), (0, .ref t0), (1, .int x1), (2, .ref t2), (3, .int x3)]) (st' := [.ref t2, .int v11]) rfl ?_
                    refine ev_getR (c := t2) (v := t2 + 11) rfl (isT_sh ht2) rfl (isT_r11 ht2) ?_
                    refine ev_seg 1 (k' := 89) (L' := [(5, .int v2), (4, .int v1), (0, .ref t0), (1, .int x1), (2, .ref t2), (3, .int x3)]) (st' := [.int x3, .ref (t2 + 11), .int v11]) rfl ?_
                    refine ev_ldI hr rfl (isT_a11 ht2) (fun v12 hr => ?_)
                    refine ev_br (P := ¬ v11 = v12) (L' := [(5, .int v2), (4, .int v1), (0, .ref t0), (1, .int x1), (2, .ref t2), (3, .int x3)]) (st' := []) hr rfl rfl rfl (fun hr => ?_) (fun hr => ?_)
                    · skip
                      refine ev_seg 1 (k' := 94) (L' := [(5, .int v2), (4, .int v1), (0, .ref t0), (1, .int x1), (2, .ref t2), (3, .int x3)]) (st' := [.int 0]) rfl ?_
                      exact ev_iret hr rfl rfl rfl
                    · skip
                      refine ev_seg 2 (k' := 94) (L' := [(5, .int v2), (4, .int v1), (0, .ref t0), (1, .int x1), (2, .ref t2), (3, .int x3)]) (st' := [.int 1]) rfl ?_
                      exact ev_iret hr rfl rfl rfl
              · skip
                refine ev_join (L' := [(0, .ref t0), (1, .int x1), (2, .ref t2), (3, .int x3)]) [2, 3, 4, 5] [5, 4, 0, 1, 2, 3] [0, 1, 2, 3] rfl rfl (by decide) (by decide) rfl ?_
                exact hr
          · skip
            refine ev_seg 1 (k' := 42) (L' := [(5, .int v2), (4, .int v1), (0, .ref t0), (1, .int x1), (2, .ref t2), (3, .int x3)]) (st' := [.int 0]) rfl ?_
            exact ev_iret hr rfl rfl rfl
        · skip
          refine ev_join (L' := [(4, .int v1), (5, .int v2)]) [1, 0] [5, 4, 0, 1, 2, 3] [4, 5] rfl rfl (by decide) (by decide) rfl ?_
          exact hr
    · skip
      refine ev_seg 1 (k' := 17) (L' := [(5, .int v2), (4, .int v1), (0, .ref t0), (1, .int x1), (2, .ref t2), (3, .int x3)]) (st' := [.int 1]) rfl ?_
      exact ev_iret hr rfl rfl rfl
set_option maxRecDepth 20000 in
theorem eMo_matches_24 (d : Nat) (z4 : Int32) (z5 : Int32) (s : aT) : ∀ r, (cG (fMo_sixOf d z4 s) (kI fun v2 s1 => if v2 = 0 then rI 0 s1 else cG (fMo_sixOf d z5 s1) (kI fun v4 s3 => if v4 = 0 then rI 0 s3 else cG (fMo_matchesSix d z4 z5 s3) (kI fun v6 s5 => if v6 = 0 then rI 0 s5 else rI 1 s5)))) = some r → fMo_matches_24 (d + 1) z4 z5 s = some r := by
  intro r hr
  show ev (d + 1) q_241 24 [(4, .int z4), (5, .int z5)] [] s = some r
  refine ev_seg 1 (k' := 25) (L' := [(4, .int z4), (5, .int z5)]) (st' := [.int z4]) rfl ?_
  refine ev_callS (q' := q_242) (x := 242) (vs := [.int z4]) (rest := []) hr rfl rfl rfl rfl rfl rfl rfl rfl rfl rfl (fun rv s1 hq => ev_kI hq (fun v2 e9 hr => ?_))
  subst e9
  refine ev_st (st' := [.int v2]) rfl ?_
  refine ev_br (P := v2 = 0) (L' := [(4, .int z4), (5, .int z5)]) (st' := []) hr rfl rfl rfl (fun hr => ?_) (fun hr => ?_)
  · skip
    refine ev_seg 1 (k' := 37) (L' := [(4, .int z4), (5, .int z5)]) (st' := [.int 0]) rfl ?_
    exact ev_iret hr rfl rfl rfl
  · skip
    refine ev_seg 1 (k' := 28) (L' := [(4, .int z4), (5, .int z5)]) (st' := [.int z5]) rfl ?_
    refine ev_callS (q' := q_242) (x := 242) (vs := [.int z5]) (rest := []) hr rfl rfl rfl rfl rfl rfl rfl rfl rfl rfl (fun rv s3 hq => ev_kI hq (fun v4 e9 hr => ?_))
    subst e9
    refine ev_st (st' := [.int v4]) rfl ?_
    refine ev_br (P := v4 = 0) (L' := [(4, .int z4), (5, .int z5)]) (st' := []) hr rfl rfl rfl (fun hr => ?_) (fun hr => ?_)
    · skip
      refine ev_seg 1 (k' := 37) (L' := [(4, .int z4), (5, .int z5)]) (st' := [.int 0]) rfl ?_
      exact ev_iret hr rfl rfl rfl
    · skip
      refine ev_seg 2 (k' := 32) (L' := [(4, .int z4), (5, .int z5)]) (st' := [.int z5, .int z4]) rfl ?_
      refine ev_callS (q' := q_243) (x := 243) (vs := [.int z4, .int z5]) (rest := []) hr rfl rfl rfl rfl rfl rfl rfl rfl rfl rfl (fun rv s5 hq => ev_kI hq (fun v6 e9 hr => ?_))
      subst e9
      refine ev_st (st' := [.int v6]) rfl ?_
      refine ev_br (P := v6 = 0) (L' := [(4, .int z4), (5, .int z5)]) (st' := []) hr rfl rfl rfl (fun hr => ?_) (fun hr => ?_)
      · skip
        refine ev_seg 1 (k' := 37) (L' := [(4, .int z4), (5, .int z5)]) (st' := [.int 0]) rfl ?_
        exact ev_iret hr rfl rfl rfl
      · skip
        refine ev_seg 2 (k' := 37) (L' := [(4, .int z4), (5, .int z5)]) (st' := [.int 1]) rfl ?_
        exact ev_iret hr rfl rfl rfl
set_option maxRecDepth 20000 in
theorem eMo_matches_49 (d : Nat) (t0 : Nat) (x1 : Int32) (t2 : Nat) (x3 : Int32) (s : aT) (ht0 : isT t0) (ht2 : isT t2) : ∀ r, (ldI 140 s (t0 + 12) x1 (fun v1 => ldI 2200 s (t0 + 15) v1 (fun v2 => ldI 140 s (t2 + 12) x3 (fun v3 => ldI 2200 s (t2 + 15) v3 (fun v4 => cG (fMo_matches d t0 v2 t2 v4 s) (kI fun v6 s5 => rZ v6 s5)))))) = some r → fMo_matches_49 (d + 1) t0 x1 t2 x3 s = some r := by
  intro r hr
  show ev (d + 1) q_241 49 [(0, .ref t0), (1, .int x1), (2, .ref t2), (3, .int x3)] [] s = some r
  refine ev_seg 2 (k' := 51) (L' := [(0, .ref t0), (1, .int x1), (2, .ref t2), (3, .int x3)]) (st' := [.ref t0, .ref t0]) rfl ?_
  refine ev_getR (c := t0) (v := t0 + 15) rfl (isT_sh ht0) rfl (isT_r15 ht0) ?_
  refine ev_seg 1 (k' := 53) (L' := [(0, .ref t0), (1, .int x1), (2, .ref t2), (3, .int x3)]) (st' := [.ref t0, .ref (t0 + 15), .ref t0]) rfl ?_
  refine ev_getR (c := t0) (v := t0 + 12) rfl (isT_sh ht0) rfl (isT_r12 ht0) ?_
  refine ev_seg 1 (k' := 55) (L' := [(0, .ref t0), (1, .int x1), (2, .ref t2), (3, .int x3)]) (st' := [.int x1, .ref (t0 + 12), .ref (t0 + 15), .ref t0]) rfl ?_
  refine ev_ldI hr rfl (isT_a12 ht0) (fun v1 hr => ?_)
  refine ev_ldI hr rfl (isT_a15 ht0) (fun v2 hr => ?_)
  refine ev_seg 2 (k' := 59) (L' := [(0, .ref t0), (1, .int x1), (2, .ref t2), (3, .int x3)]) (st' := [.ref t2, .ref t2, .int v2, .ref t0]) rfl ?_
  refine ev_getR (c := t2) (v := t2 + 15) rfl (isT_sh ht2) rfl (isT_r15 ht2) ?_
  refine ev_seg 1 (k' := 61) (L' := [(0, .ref t0), (1, .int x1), (2, .ref t2), (3, .int x3)]) (st' := [.ref t2, .ref (t2 + 15), .ref t2, .int v2, .ref t0]) rfl ?_
  refine ev_getR (c := t2) (v := t2 + 12) rfl (isT_sh ht2) rfl (isT_r12 ht2) ?_
  refine ev_seg 1 (k' := 63) (L' := [(0, .ref t0), (1, .int x1), (2, .ref t2), (3, .int x3)]) (st' := [.int x3, .ref (t2 + 12), .ref (t2 + 15), .ref t2, .int v2, .ref t0]) rfl ?_
  refine ev_ldI hr rfl (isT_a12 ht2) (fun v3 hr => ?_)
  refine ev_ldI hr rfl (isT_a15 ht2) (fun v4 hr => ?_)
  refine ev_callS (q' := q_241) (x := 241) (vs := [.ref t0, .int v2, .ref t2, .int v4]) (rest := []) hr rfl rfl rfl rfl rfl rfl rfl rfl rfl rfl (fun rv s5 hq => ev_kI hq (fun v6 e9 hr => ?_))
  subst e9
  refine ev_st (st' := [.int v6]) rfl ?_
  exact ev_zret hr rfl rfl
set_option maxRecDepth 20000 in
theorem eMo_sixOf (d : Nat) (x0 : Int32) (s : aT) : ∀ r, (if 6 ≤ x0 then rI 0 s else rI 1 s) = some r → fMo_sixOf d x0 s = some r := by
  intro r hr
  show ev d q_242 0 [(0, .int x0)] [] s = some r
  refine ev_seg 2 (k' := 2) (L' := [(0, .int x0)]) (st' := [.int 6, .int x0]) rfl ?_
  refine ev_br (P := 6 ≤ x0) (L' := [(0, .int x0)]) (st' := []) hr rfl rfl rfl (fun hr => ?_) (fun hr => ?_)
  · skip
    refine ev_seg 1 (k' := 6) (L' := [(0, .int x0)]) (st' := [.int 0]) rfl ?_
    exact ev_iret hr rfl rfl rfl
  · skip
    refine ev_seg 2 (k' := 6) (L' := [(0, .int x0)]) (st' := [.int 1]) rfl ?_
    exact ev_iret hr rfl rfl rfl
set_option maxRecDepth 20000 in
theorem eMo_matchesSix (d : Nat) (x0 : Int32) (x1 : Int32) (s : aT) : ∀ r, (if x0 = x1 then rI 1 s else if ¬ x0 = 2 then fMo_matchesSix_9 d x0 x1 s else if x1 = 3 then rI 1 s else fMo_matchesSix_9 d x0 x1 s) = some r → fMo_matchesSix d x0 x1 s = some r := by
  intro r hr
  show ev d q_243 0 [(0, .int x0), (1, .int x1)] [] s = some r
  refine ev_seg 2 (k' := 2) (L' := [(0, .int x0), (1, .int x1)]) (st' := [.int x1, .int x0]) rfl ?_
  refine ev_br (P := x0 = x1) (L' := [(0, .int x0), (1, .int x1)]) (st' := []) hr rfl rfl rfl (fun hr => ?_) (fun hr => ?_)
  · skip
    refine ev_seg 2 (k' := 24) (L' := [(0, .int x0), (1, .int x1)]) (st' := [.int 1]) rfl ?_
    exact ev_iret hr rfl rfl rfl
  · skip
    refine ev_seg 2 (k' := 5) (L' := [(0, .int x0), (1, .int x1)]) (st' := [.int 2, .int x0]) rfl ?_
    refine ev_br (P := ¬ x0 = 2) (L' := [(0, .int x0), (1, .int x1)]) (st' := []) hr rfl rfl rfl (fun hr => ?_) (fun hr => ?_)
    · skip
      exact hr
    · skip
      refine ev_seg 2 (k' := 8) (L' := [(0, .int x0), (1, .int x1)]) (st' := [.int 3, .int x1]) rfl ?_
      refine ev_br (P := x1 = 3) (L' := [(0, .int x0), (1, .int x1)]) (st' := []) hr rfl rfl rfl (fun hr => ?_) (fun hr => ?_)
      · skip
        refine ev_seg 2 (k' := 24) (L' := [(0, .int x0), (1, .int x1)]) (st' := [.int 1]) rfl ?_
        exact ev_iret hr rfl rfl rfl
      · skip
        exact hr
set_option maxRecDepth 20000 in
theorem eMo_matchesSix_9 (d : Nat) (x0 : Int32) (x1 : Int32) (s : aT) : ∀ r, (if x0 = 4 then fMo_matchesSix_15 d x1 s else if ¬ x0 = 5 then rI 0 s else fMo_matchesSix_15 d x1 s) = some r → fMo_matchesSix_9 d x0 x1 s = some r := by
  intro r hr
  show ev d q_243 9 [(0, .int x0), (1, .int x1)] [] s = some r
  refine ev_seg 2 (k' := 11) (L' := [(0, .int x0), (1, .int x1)]) (st' := [.int 4, .int x0]) rfl ?_
  refine ev_br (P := x0 = 4) (L' := [(0, .int x0), (1, .int x1)]) (st' := []) hr rfl rfl rfl (fun hr => ?_) (fun hr => ?_)
  · skip
    refine ev_join (L' := [(1, .int x1)]) [1] [0, 1] [1] rfl rfl (by decide) (by decide) rfl ?_
    exact hr
  · skip
    refine ev_seg 2 (k' := 14) (L' := [(0, .int x0), (1, .int x1)]) (st' := [.int 5, .int x0]) rfl ?_
    refine ev_br (P := ¬ x0 = 5) (L' := [(0, .int x0), (1, .int x1)]) (st' := []) hr rfl rfl rfl (fun hr => ?_) (fun hr => ?_)
    · skip
      refine ev_seg 1 (k' := 24) (L' := [(0, .int x0), (1, .int x1)]) (st' := [.int 0]) rfl ?_
      exact ev_iret hr rfl rfl rfl
    · skip
      refine ev_join (L' := [(1, .int x1)]) [1] [0, 1] [1] rfl rfl (by decide) (by decide) rfl ?_
      exact hr
set_option maxRecDepth 20000 in
theorem eMo_matchesSix_15 (d : Nat) (x1 : Int32) (s : aT) : ∀ r, (if x1 = 4 then rI 1 s else if ¬ x1 = 5 then rI 0 s else rI 1 s) = some r → fMo_matchesSix_15 d x1 s = some r := by
  intro r hr
  show ev d q_243 15 [(1, .int x1)] [] s = some r
  refine ev_seg 2 (k' := 17) (L' := [(1, .int x1)]) (st' := [.int 4, .int x1]) rfl ?_
  refine ev_br (P := x1 = 4) (L' := [(1, .int x1)]) (st' := []) hr rfl rfl rfl (fun hr => ?_) (fun hr => ?_)
  · skip
    refine ev_seg 2 (k' := 24) (L' := [(1, .int x1)]) (st' := [.int 1]) rfl ?_
    exact ev_iret hr rfl rfl rfl
  · skip
    refine ev_seg 2 (k' := 20) (L' := [(1, .int x1)]) (st' := [.int 5, .int x1]) rfl ?_
    refine ev_br (P := ¬ x1 = 5) (L' := [(1, .int x1)]) (st' := []) hr rfl rfl rfl (fun hr => ?_) (fun hr => ?_)
    · skip
      refine ev_seg 1 (k' := 24) (L' := [(1, .int x1)]) (st' := [.int 0]) rfl ?_
      exact ev_iret hr rfl rfl rfl
    · skip
      refine ev_seg 2 (k' := 24) (L' := [(1, .int x1)]) (st' := [.int 1]) rfl ?_
      exact ev_iret hr rfl rfl rfl
set_option maxRecDepth 20000 in
theorem eMo_fieldLike (d : Nat) (t0 : Nat) (x1 : Int32) (t2 : Nat) (x3 : Int32) (s : aT) (ht0 : isT t0) (ht2 : isT t2) : ∀ r, (ldI 140 s (t0 + 12) x1 (fun v1 => fMo_fieldLike_5 (d + 1) t0 t2 x3 v1 s)) = some r → fMo_fieldLike (d + 1) t0 x1 t2 x3 s = some r := by
  intro r hr
  show ev (d + 1) q_244 0 [(0, .ref t0), (1, .int x1), (2, .ref t2), (3, .int x3)] [] s = some r
  refine ev_seg 1 (k' := 1) (L' := [(0, .ref t0), (1, .int x1), (2, .ref t2), (3, .int x3)]) (st' := [.ref t0]) rfl ?_
  refine ev_getR (c := t0) (v := t0 + 12) rfl (isT_sh ht0) rfl (isT_r12 ht0) ?_
  refine ev_seg 1 (k' := 3) (L' := [(0, .ref t0), (1, .int x1), (2, .ref t2), (3, .int x3)]) (st' := [.int x1, .ref (t0 + 12)]) rfl ?_
  refine ev_ldI hr rfl (isT_a12 ht0) (fun v1 hr => ?_)
  refine ev_seg 1 (k' := 5) (L' := [(4, .int v1), (0, .ref t0), (1, .int x1), (2, .ref t2), (3, .int x3)]) (st' := []) rfl ?_
  refine ev_join (L' := [(0, .ref t0), (2, .ref t2), (3, .int x3), (4, .int v1)]) [1, 3, 4, 0] [4, 0, 1, 2, 3] [0, 2, 3, 4] rfl rfl (by decide) (by decide) rfl ?_
  exact hr
set_option maxRecDepth 20000 in
theorem eMo_fieldLike_5 (d : Nat) (t0 : Nat) (t2 : Nat) (x3 : Int32) (z4 : Int32) (s : aT) (ht0 : isT t0) (ht2 : isT t2) : ∀ r, (if z4 < 0 then rI (-1) s else ldI 2200 s (t0 + 16) z4 (fun v1 => ldI 2200 s (t2 + 16) x3 (fun v2 => cN (fMt_same d t0 v1 t2 v2 s) (kI fun v4 s3 => if v4 = 0 then ldI 2200 s3 (t0 + 18) z4 (fun v5 => fMo_fieldLike_5 (d + 1) t0 t2 x3 v5 s3) else rI z4 s3)))) = some r → fMo_fieldLike_5 (d + 1) t0 t2 x3 z4 s = some r := by
  intro r hr
  show ev (d + 1) q_244 5 [(0, .ref t0), (2, .ref t2), (3, .int x3), (4, .int z4)] [] s = some r
  refine ev_seg 1 (k' := 6) (L' := [(0, .ref t0), (2, .ref t2), (3, .int x3), (4, .int z4)]) (st' := [.int z4]) rfl ?_
  refine ev_br (P := z4 < 0) (L' := [(0, .ref t0), (2, .ref t2), (3, .int x3), (4, .int z4)]) (st' := []) hr rfl rfl rfl (fun hr => ?_) (fun hr => ?_)
  · skip
    refine ev_seg 1 (k' := 28) (L' := [(0, .ref t0), (2, .ref t2), (3, .int x3), (4, .int z4)]) (st' := [.int (-1)]) rfl ?_
    exact ev_iret hr rfl rfl rfl
  · skip
    refine ev_seg 2 (k' := 9) (L' := [(0, .ref t0), (2, .ref t2), (3, .int x3), (4, .int z4)]) (st' := [.ref t0, .ref t0]) rfl ?_
    refine ev_getR (c := t0) (v := t0 + 16) rfl (isT_sh ht0) rfl (isT_r16 ht0) ?_
    refine ev_seg 1 (k' := 11) (L' := [(0, .ref t0), (2, .ref t2), (3, .int x3), (4, .int z4)]) (st' := [.int z4, .ref (t0 + 16), .ref t0]) rfl ?_
    refine ev_ldI hr rfl (isT_a16 ht0) (fun v1 hr => ?_)
    refine ev_seg 2 (k' := 14) (L' := [(0, .ref t0), (2, .ref t2), (3, .int x3), (4, .int z4)]) (st' := [.ref t2, .ref t2, .int v1, .ref t0]) rfl ?_
    refine ev_getR (c := t2) (v := t2 + 16) rfl (isT_sh ht2) rfl (isT_r16 ht2) ?_
    refine ev_seg 1 (k' := 16) (L' := [(0, .ref t0), (2, .ref t2), (3, .int x3), (4, .int z4)]) (st' := [.int x3, .ref (t2 + 16), .ref t2, .int v1, .ref t0]) rfl ?_
    refine ev_ldI hr rfl (isT_a16 ht2) (fun v2 hr => ?_)
    refine ev_callN (q' := q_208) (x := 208) (y := 112) (c := t0) (As := [.int v1, .ref t2, .int v2]) (rest := []) hr rfl rfl rfl rfl rfl rfl (isT_sh ht0) rfl rfl (fun rv s3 hq => ev_kI hq (fun v4 e9 hr => ?_))
    subst e9
    refine ev_st (st' := [.int v4]) rfl ?_
    refine ev_br (P := v4 = 0) (L' := [(0, .ref t0), (2, .ref t2), (3, .int x3), (4, .int z4)]) (st' := []) hr rfl rfl rfl (fun hr => ?_) (fun hr => ?_)
    · skip
      refine ev_seg 1 (k' := 22) (L' := [(0, .ref t0), (2, .ref t2), (3, .int x3), (4, .int z4)]) (st' := [.ref t0]) rfl ?_
      refine ev_getR (c := t0) (v := t0 + 18) rfl (isT_sh ht0) rfl (isT_r18 ht0) ?_
      refine ev_seg 1 (k' := 24) (L' := [(0, .ref t0), (2, .ref t2), (3, .int x3), (4, .int z4)]) (st' := [.int z4, .ref (t0 + 18)]) rfl ?_
      refine ev_ldI hr rfl (isT_a18 ht0) (fun v5 hr => ?_)
      refine ev_seg 2 (k' := 5) (L' := [(4, .int v5), (0, .ref t0), (2, .ref t2), (3, .int x3)]) (st' := []) rfl ?_
      refine ev_join (L' := [(0, .ref t0), (2, .ref t2), (3, .int x3), (4, .int v5)]) [1, 2, 3, 0] [4, 0, 2, 3] [0, 2, 3, 4] rfl rfl (by decide) (by decide) rfl ?_
      exact hr
    · skip
      refine ev_seg 1 (k' := 20) (L' := [(0, .ref t0), (2, .ref t2), (3, .int x3), (4, .int z4)]) (st' := [.int z4]) rfl ?_
      exact ev_iret hr rfl rfl rfl
set_option maxRecDepth 20000 in
theorem eMo_write (d : Nat) (x1 : Int32) (x2 : Int32) (x3 : Int32) (x4 : Int32) (x5 : Int32) (a6 : Nat) (x7 : Int32) (x8 : Int32) (s : aT) : ∀ r, (if 4096 < x3 then fMo_write_9 (d + 1) x1 x2 x3 x4 x5 a6 x7 x8 s else if ¬ gI s 67 13 = 40 then fMo_write_11 (d + 1) x1 x2 x3 x4 x5 a6 x7 x8 s else if ¬ x8 = 0 then fMo_write_11 (d + 1) x1 x2 x3 x4 x5 a6 x7 x8 s else fMo_write_9 (d + 1) x1 x2 x3 x4 x5 a6 x7 x8 s) = some r → fMo_write (d + 1) x1 x2 x3 x4 x5 a6 x7 x8 s = some r := by
  intro r hr
  show ev (d + 1) q_245 0 [(0, .ref 67), (1, .int x1), (2, .int x2), (3, .int x3), (4, .int x4), (5, .int x5), (6, .ref a6), (7, .int x7), (8, .int x8)] [] s = some r
  refine ev_seg 2 (k' := 2) (L' := [(0, .ref 67), (1, .int x1), (2, .int x2), (3, .int x3), (4, .int x4), (5, .int x5), (6, .ref a6), (7, .int x7), (8, .int x8)]) (st' := [.int 4096, .int x3]) rfl ?_
  refine ev_br (P := 4096 < x3) (L' := [(0, .ref 67), (1, .int x1), (2, .int x2), (3, .int x3), (4, .int x4), (5, .int x5), (6, .ref a6), (7, .int x7), (8, .int x8)]) (st' := []) hr rfl rfl rfl (fun hr => ?_) (fun hr => ?_)
  · skip
    exact hr
  · skip
    refine ev_seg 3 (k' := 6) (L' := [(0, .ref 67), (1, .int x1), (2, .int x2), (3, .int x3), (4, .int x4), (5, .int x5), (6, .ref a6), (7, .int x7), (8, .int x8)]) (st' := [.int 40, .int (gI s 67 13)]) rfl ?_
    refine ev_br (P := ¬ gI s 67 13 = 40) (L' := [(0, .ref 67), (1, .int x1), (2, .int x2), (3, .int x3), (4, .int x4), (5, .int x5), (6, .ref a6), (7, .int x7), (8, .int x8)]) (st' := []) hr rfl rfl rfl (fun hr => ?_) (fun hr => ?_)
    · skip
      exact hr
    · skip
      refine ev_seg 1 (k' := 8) (L' := [(0, .ref 67), (1, .int x1), (2, .int x2), (3, .int x3), (4, .int x4), (5, .int x5), (6, .ref a6), (7, .int x7), (8, .int x8)]) (st' := [.int x8]) rfl ?_
      refine ev_br (P := ¬ x8 = 0) (L' := [(0, .ref 67), (1, .int x1), (2, .int x2), (3, .int x3), (4, .int x4), (5, .int x5), (6, .ref a6), (7, .int x7), (8, .int x8)]) (st' := []) hr rfl rfl rfl (fun hr => ?_) (fun hr => ?_)
      · skip
        exact hr
      · skip
        exact hr
set_option maxRecDepth 20000 in
theorem eMo_write_9 (d : Nat) (x1 : Int32) (x2 : Int32) (x3 : Int32) (x4 : Int32) (x5 : Int32) (a6 : Nat) (x7 : Int32) (x8 : Int32) (s : aT) : ∀ r, (fMo_write_15 (d + 1) x1 x2 x3 x4 x5 a6 x7 x8 (-1) s) = some r → fMo_write_9 (d + 1) x1 x2 x3 x4 x5 a6 x7 x8 s = some r := by
  intro r hr
  show ev (d + 1) q_245 9 [(0, .ref 67), (1, .int x1), (2, .int x2), (3, .int x3), (4, .int x4), (5, .int x5), (6, .ref a6), (7, .int x7), (8, .int x8)] [] s = some r
  refine ev_seg 2 (k' := 15) (L' := [(0, .ref 67), (1, .int x1), (2, .int x2), (3, .int x3), (4, .int x4), (5, .int x5), (6, .ref a6), (7, .int x7), (8, .int x8)]) (st' := [.int (-1)]) rfl ?_
  exact hr
set_option maxRecDepth 20000 in
theorem eMo_write_11 (d : Nat) (x1 : Int32) (x2 : Int32) (x3 : Int32) (x4 : Int32) (x5 : Int32) (a6 : Nat) (x7 : Int32) (x8 : Int32) (s : aT) : ∀ r, (cG (fMo_blocksOf d x3 s) (kI fun v2 s1 => cG (fMo_room d v2 s1) (kI fun v4 s3 => fMo_write_15 (d + 1) x1 x2 x3 x4 x5 a6 x7 x8 v4 s3))) = some r → fMo_write_11 (d + 1) x1 x2 x3 x4 x5 a6 x7 x8 s = some r := by
  intro r hr
  show ev (d + 1) q_245 11 [(0, .ref 67), (1, .int x1), (2, .int x2), (3, .int x3), (4, .int x4), (5, .int x5), (6, .ref a6), (7, .int x7), (8, .int x8)] [] s = some r
  refine ev_seg 2 (k' := 13) (L' := [(0, .ref 67), (1, .int x1), (2, .int x2), (3, .int x3), (4, .int x4), (5, .int x5), (6, .ref a6), (7, .int x7), (8, .int x8)]) (st' := [.int x3, .ref 67]) rfl ?_
  refine ev_callS (q' := q_246) (x := 246) (vs := [.int x3]) (rest := [.ref 67]) hr rfl rfl rfl rfl rfl rfl rfl rfl rfl rfl (fun rv s1 hq => ev_kI hq (fun v2 e9 hr => ?_))
  subst e9
  refine ev_st (st' := [.int v2, .ref 67]) rfl ?_
  refine ev_callV (q' := q_247) (x := 247) (y := 13) (c := 67) (As := [.int v2]) (rest := []) hr rfl rfl rfl rfl rfl rfl rfl rfl rfl rfl rfl rfl (fun rv s3 hq => ev_kI hq (fun v4 e9 hr => ?_))
  subst e9
  refine ev_st (st' := [.int v4]) rfl ?_
  exact hr
set_option maxRecDepth 20000 in
theorem eMo_write_15 (d : Nat) (x1 : Int32) (x2 : Int32) (x3 : Int32) (x4 : Int32) (x5 : Int32) (a6 : Nat) (x7 : Int32) (x8 : Int32) (u0 : Int32) (s : aT) : ∀ r, (if 0 ≤ u0 then cG (fMo_blocksOf d x3 s) (kI fun v2 s1 => cG (fMo_writes d (v2 + 1) s1) (kI fun v4 s3 => if ¬ v4 = 0 then fMo_write_31 (d + 1) x1 x2 x3 x4 x5 a6 x7 x8 u0 0 s3 else rI (-32) s3)) else rI (-31) s) = some r → fMo_write_15 (d + 1) x1 x2 x3 x4 x5 a6 x7 x8 u0 s = some r := by
  intro r hr
  show ev (d + 1) q_245 15 [(0, .ref 67), (1, .int x1), (2, .int x2), (3, .int x3), (4, .int x4), (5, .int x5), (6, .ref a6), (7, .int x7), (8, .int x8)] [.int u0] s = some r
  refine ev_seg 2 (k' := 17) (L' := [(9, .int u0), (0, .ref 67), (1, .int x1), (2, .int x2), (3, .int x3), (4, .int x4), (5, .int x5), (6, .ref a6), (7, .int x7), (8, .int x8)]) (st' := [.int u0]) rfl ?_
  refine ev_br (P := 0 ≤ u0) (L' := [(9, .int u0), (0, .ref 67), (1, .int x1), (2, .int x2), (3, .int x3), (4, .int x4), (5, .int x5), (6, .ref a6), (7, .int x7), (8, .int x8)]) (st' := []) hr rfl rfl rfl (fun hr => ?_) (fun hr => ?_)
  · skip
    refine ev_seg 2 (k' := 22) (L' := [(9, .int u0), (0, .ref 67), (1, .int x1), (2, .int x2), (3, .int x3), (4, .int x4), (5, .int x5), (6, .ref a6), (7, .int x7), (8, .int x8)]) (st' := [.int x3, .ref 67]) rfl ?_
    refine ev_callS (q' := q_246) (x := 246) (vs := [.int x3]) (rest := [.ref 67]) hr rfl rfl rfl rfl rfl rfl rfl rfl rfl rfl (fun rv s1 hq => ev_kI hq (fun v2 e9 hr => ?_))
    subst e9
    refine ev_st (st' := [.int v2, .ref 67]) rfl ?_
    refine ev_seg 2 (k' := 25) (L' := [(9, .int u0), (0, .ref 67), (1, .int x1), (2, .int x2), (3, .int x3), (4, .int x4), (5, .int x5), (6, .ref a6), (7, .int x7), (8, .int x8)]) (st' := [.int (v2 + 1), .ref 67]) rfl ?_
    refine ev_callV (q' := q_248) (x := 248) (y := 13) (c := 67) (As := [.int (v2 + 1)]) (rest := []) hr rfl rfl rfl rfl rfl rfl rfl rfl rfl rfl rfl rfl (fun rv s3 hq => ev_kI hq (fun v4 e9 hr => ?_))
    subst e9
    refine ev_st (st' := [.int v4]) rfl ?_
    refine ev_br (P := ¬ v4 = 0) (L' := [(9, .int u0), (0, .ref 67), (1, .int x1), (2, .int x2), (3, .int x3), (4, .int x4), (5, .int x5), (6, .ref a6), (7, .int x7), (8, .int x8)]) (st' := []) hr rfl rfl rfl (fun hr => ?_) (fun hr => ?_)
    · skip
      refine ev_seg 2 (k' := 31) (L' := [(10, .int 0), (9, .int u0), (0, .ref 67), (1, .int x1), (2, .int x2), (3, .int x3), (4, .int x4), (5, .int x5), (6, .ref a6), (7, .int x7), (8, .int x8)]) (st' := []) rfl ?_
      refine ev_join (L' := [(0, .ref 67), (1, .int x1), (2, .int x2), (3, .int x3), (4, .int x4), (5, .int x5), (6, .ref a6), (7, .int x7), (8, .int x8), (9, .int u0), (10, .int 0)]) [2, 3, 4, 5, 6, 7, 8, 9, 10, 1, 0] [10, 9, 0, 1, 2, 3, 4, 5, 6, 7, 8] [0, 1, 2, 3, 4, 5, 6, 7, 8, 9, 10] rfl rfl (by decide) (by decide) rfl ?_
      exact hr
    · skip
      refine ev_seg 1 (k' := 28) (L' := [(9, .int u0), (0, .ref 67), (1, .int x1), (2, .int x2), (3, .int x3), (4, .int x4), (5, .int x5), (6, .ref a6), (7, .int x7), (8, .int x8)]) (st' := [.int (-32)]) rfl ?_
      exact ev_iret hr rfl rfl rfl
  · skip
    refine ev_seg 1 (k' := 19) (L' := [(9, .int u0), (0, .ref 67), (1, .int x1), (2, .int x2), (3, .int x3), (4, .int x4), (5, .int x5), (6, .ref a6), (7, .int x7), (8, .int x8)]) (st' := [.int (-31)]) rfl ?_
    exact ev_iret hr rfl rfl rfl
set_option maxRecDepth 20000 in
theorem eMo_write_31 (d : Nat) (x1 : Int32) (x2 : Int32) (x3 : Int32) (x4 : Int32) (x5 : Int32) (a6 : Nat) (x7 : Int32) (x8 : Int32) (z9 : Int32) (z10 : Int32) (s : aT) : ∀ r, (if x5 ≤ z10 then if ¬ x8 = 0 then fMo_write_55 (d + 1) x1 x2 x3 x4 x5 x7 z9 s else wI s 67 13 ((gI s 67 13) + 1) (fun s1 => fMo_write_55 (d + 1) x1 x2 x3 x4 x5 x7 z9 s1) else ldI (alen a6) s a6 z10 (fun v2 => stI 32768 s 143 ((256 * z9) + z10) (vp_nar .byte v2) (fun s3 => fMo_write_31 (d + 1) x1 x2 x3 x4 x5 a6 x7 x8 z9 (z10 + 1) s3))) = some r → fMo_write_31 (d + 1) x1 x2 x3 x4 x5 a6 x7 x8 z9 z10 s = some r := by
  intro r hr
  show ev (d + 1) q_245 31 [(0, .ref 67), (1, .int x1), (2, .int x2), (3, .int x3), (4, .int x4), (5, .int x5), (6, .ref a6), (7, .int x7), (8, .int x8), (9, .int z9), (10, .int z10)] [] s = some r
  refine ev_seg 2 (k' := 33) (L' := [(0, .ref 67), (1, .int x1), (2, .int x2), (3, .int x3), (4, .int x4), (5, .int x5), (6, .ref a6), (7, .int x7), (8, .int x8), (9, .int z9), (10, .int z10)]) (st' := [.int x5, .int z10]) rfl ?_
  refine ev_br (P := x5 ≤ z10) (L' := [(0, .ref 67), (1, .int x1), (2, .int x2), (3, .int x3), (4, .int x4), (5, .int x5), (6, .ref a6), (7, .int x7), (8, .int x8), (9, .int z9), (10, .int z10)]) (st' := []) hr rfl rfl rfl (fun hr => ?_) (fun hr => ?_)
  · skip
    refine ev_seg 1 (k' := 48) (L' := [(0, .ref 67), (1, .int x1), (2, .int x2), (3, .int x3), (4, .int x4), (5, .int x5), (6, .ref a6), (7, .int x7), (8, .int x8), (9, .int z9), (10, .int z10)]) (st' := [.int x8]) rfl ?_
    refine ev_br (P := ¬ x8 = 0) (L' := [(0, .ref 67), (1, .int x1), (2, .int x2), (3, .int x3), (4, .int x4), (5, .int x5), (6, .ref a6), (7, .int x7), (8, .int x8), (9, .int z9), (10, .int z10)]) (st' := []) hr rfl rfl rfl (fun hr => ?_) (fun hr => ?_)
    · skip
      refine ev_join (L' := [(0, .ref 67), (1, .int x1), (2, .int x2), (3, .int x3), (4, .int x4), (5, .int x5), (7, .int x7), (9, .int z9)]) [0, 1, 2, 3, 4, 5, 7, 9] [0, 1, 2, 3, 4, 5, 6, 7, 8, 9, 10] [0, 1, 2, 3, 4, 5, 7, 9] rfl rfl (by decide) (by decide) rfl ?_
      exact hr
    · skip
      refine ev_seg 5 (k' := 54) (L' := [(0, .ref 67), (1, .int x1), (2, .int x2), (3, .int x3), (4, .int x4), (5, .int x5), (6, .ref a6), (7, .int x7), (8, .int x8), (9, .int z9), (10, .int z10)]) (st' := [.int ((gI s 67 13) + 1), .ref 67]) rfl ?_
      refine ev_putI (c := 67) hr rfl rfl rfl (fun s1 hr => ?_)
      refine ev_join (L' := [(0, .ref 67), (1, .int x1), (2, .int x2), (3, .int x3), (4, .int x4), (5, .int x5), (7, .int x7), (9, .int z9)]) [0, 1, 2, 3, 4, 5, 7, 9] [0, 1, 2, 3, 4, 5, 6, 7, 8, 9, 10] [0, 1, 2, 3, 4, 5, 7, 9] rfl rfl (by decide) (by decide) rfl ?_
      exact hr
  · skip
    refine ev_seg 9 (k' := 43) (L' := [(0, .ref 67), (1, .int x1), (2, .int x2), (3, .int x3), (4, .int x4), (5, .int x5), (6, .ref a6), (7, .int x7), (8, .int x8), (9, .int z9), (10, .int z10)]) (st' := [.int z10, .ref a6, .int ((256 * z9) + z10), .ref 143]) rfl ?_
    refine ev_ldX hr rfl (fun v2 hr => ?_)
    refine ev_stB hr rfl rfl (fun s3 hr => ?_)
    refine ev_seg 2 (k' := 31) (L' := [(10, .int (z10 + 1)), (0, .ref 67), (1, .int x1), (2, .int x2), (3, .int x3), (4, .int x4), (5, .int x5), (6, .ref a6), (7, .int x7), (8, .int x8), (9, .int z9)]) (st' := []) rfl ?_
    refine ev_join (L' := [(0, .ref 67), (1, .int x1), (2, .int x2), (3, .int x3), (4, .int x4), (5, .int x5), (6, .ref a6), (7, .int x7), (8, .int x8), (9, .int z9), (10, .int (z10 + 1))]) [1, 2, 3, 4, 5, 6, 7, 8, 9, 10, 0] [10, 0, 1, 2, 3, 4, 5, 6, 7, 8, 9] [0, 1, 2, 3, 4, 5, 6, 7, 8, 9, 10] rfl rfl (by decide) (by decide) rfl ?_
    exact hr
set_option maxRecDepth 20000 in
theorem eMo_write_55 (d : Nat) (x1 : Int32) (x2 : Int32) (x3 : Int32) (x4 : Int32) (x5 : Int32) (x7 : Int32) (z9 : Int32) (s : aT) : ∀ r, (stI 41 s 137 x7 x1 (fun s1 => stI 41 s1 138 x7 x2 (fun s2 => stI 41 s2 139 x7 z9 (fun s3 => stI 41 s3 140 x7 x3 (fun s4 => stI 41 s4 141 x7 x4 (fun s5 => stI 41 s5 142 x7 x5 (fun s6 => rI 0 s6))))))) = some r → fMo_write_55 (d + 1) x1 x2 x3 x4 x5 x7 z9 s = some r := by
  intro r hr
  show ev (d + 1) q_245 55 [(0, .ref 67), (1, .int x1), (2, .int x2), (3, .int x3), (4, .int x4), (5, .int x5), (7, .int x7), (9, .int z9)] [] s = some r
  refine ev_seg 4 (k' := 59) (L' := [(0, .ref 67), (1, .int x1), (2, .int x2), (3, .int x3), (4, .int x4), (5, .int x5), (7, .int x7), (9, .int z9)]) (st' := [.int x1, .int x7, .ref 137]) rfl ?_
  refine ev_stI hr rfl rfl (fun s1 hr => ?_)
  refine ev_seg 4 (k' := 64) (L' := [(0, .ref 67), (1, .int x1), (2, .int x2), (3, .int x3), (4, .int x4), (5, .int x5), (7, .int x7), (9, .int z9)]) (st' := [.int x2, .int x7, .ref 138]) rfl ?_
  refine ev_stI hr rfl rfl (fun s2 hr => ?_)
  refine ev_seg 4 (k' := 69) (L' := [(0, .ref 67), (1, .int x1), (2, .int x2), (3, .int x3), (4, .int x4), (5, .int x5), (7, .int x7), (9, .int z9)]) (st' := [.int z9, .int x7, .ref 139]) rfl ?_
  refine ev_stI hr rfl rfl (fun s3 hr => ?_)
  refine ev_seg 4 (k' := 74) (L' := [(0, .ref 67), (1, .int x1), (2, .int x2), (3, .int x3), (4, .int x4), (5, .int x5), (7, .int x7), (9, .int z9)]) (st' := [.int x3, .int x7, .ref 140]) rfl ?_
  refine ev_stI hr rfl rfl (fun s4 hr => ?_)
  refine ev_seg 4 (k' := 79) (L' := [(0, .ref 67), (1, .int x1), (2, .int x2), (3, .int x3), (4, .int x4), (5, .int x5), (7, .int x7), (9, .int z9)]) (st' := [.int x4, .int x7, .ref 141]) rfl ?_
  refine ev_stI hr rfl rfl (fun s5 hr => ?_)
  refine ev_seg 4 (k' := 84) (L' := [(0, .ref 67), (1, .int x1), (2, .int x2), (3, .int x3), (4, .int x4), (5, .int x5), (7, .int x7), (9, .int z9)]) (st' := [.int x5, .int x7, .ref 142]) rfl ?_
  refine ev_stI hr rfl rfl (fun s6 hr => ?_)
  refine ev_seg 1 (k' := 86) (L' := [(0, .ref 67), (1, .int x1), (2, .int x2), (3, .int x3), (4, .int x4), (5, .int x5), (7, .int x7), (9, .int z9)]) (st' := [.int 0]) rfl ?_
  exact ev_iret hr rfl rfl rfl
