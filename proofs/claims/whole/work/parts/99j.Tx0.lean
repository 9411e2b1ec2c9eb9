/-! RecordLake$Text: what its pieces do -/
set_option maxRecDepth 20000 in
theorem eTx_parse (d : Nat) (a1 : Nat) (x2 : Int32) (x3 : Int32) (s : aT) : ∀ r, (wM (pM0 s a1) (fun s1 => wI s1 13 12 x2 (fun s2 => cP 910 [.int x3, .int 4096] (fun v3 => wI s2 13 13 v3 (fun s4 => wI s4 13 14 0 (fun s5 => wI s5 13 7 0 (fun s6 => wI s6 20 1 0 (fun s7 => wI s7 13 10 (-1) (fun s8 => cG (fTx_value (d + 5) 0 s8) (kI fun v10 s9 => wI s9 13 8 v10 (fun s11 => wI s11 13 9 (gI s11 13 14) (fun s12 => cG (fTx_skipBlanks (d + 5) s12) (kV fun s13 => if gI s13 13 8 = (-1) then rV s13 else if gI s13 13 13 ≤ gI s13 13 14 then rV s13 else cG (fTx_failHere (d + 5) s13) (kI fun v15 s14 => wI s14 13 8 v15 (fun s16 => rV s16))))))))))))))) = some r → fTx_parse (d + 6) a1 x2 x3 s = some r := by
  intro r hr
  show ev (d + 6) q_2 0 [(0, .ref 13), (1, .ref a1), (2, .int x2), (3, .int x3)] [] s = some r
  refine ev_seg 2 (k' := 2) (L' := [(0, .ref 13), (1, .ref a1), (2, .int x2), (3, .int x3)]) (st' := [.ref a1, .ref 13]) rfl ?_
  refine ev_putM (c := 13) (v := a1) hr rfl rfl rfl rfl (RM0 _ _) (fun s1 hr => ?_)
  refine ev_seg 2 (k' := 5) (L' := [(0, .ref 13), (1, .ref a1), (2, .int x2), (3, .int x3)]) (st' := [.int x2, .ref 13]) rfl ?_
  refine ev_putI (c := 13) hr rfl rfl rfl (fun s2 hr => ?_)
  refine ev_seg 3 (k' := 9) (L' := [(0, .ref 13), (1, .ref a1), (2, .int x2), (3, .int x3)]) (st' := [.int 4096, .int x3, .ref 13]) rfl ?_
  refine ev_primS (x := 910) (As := [.int x3, .int 4096]) (rest := [.ref 13]) hr rfl rfl rfl rfl rfl (fun v3 hr => ?_)
  refine ev_putI (c := 13) hr rfl rfl rfl (fun s4 hr => ?_)
  refine ev_seg 2 (k' := 13) (L' := [(0, .ref 13), (1, .ref a1), (2, .int x2), (3, .int x3)]) (st' := [.int 0, .ref 13]) rfl ?_
  refine ev_putI (c := 13) hr rfl rfl rfl (fun s5 hr => ?_)
  refine ev_seg 2 (k' := 16) (L' := [(0, .ref 13), (1, .ref a1), (2, .int x2), (3, .int x3)]) (st' := [.int 0, .ref 13]) rfl ?_
  refine ev_putI (c := 13) hr rfl rfl rfl (fun s6 hr => ?_)
  refine ev_seg 3 (k' := 20) (L' := [(0, .ref 13), (1, .ref a1), (2, .int x2), (3, .int x3)]) (st' := [.int 0, .ref 20]) rfl ?_
  refine ev_putI (c := 20) hr rfl rfl rfl (fun s7 hr => ?_)
  refine ev_seg 2 (k' := 23) (L' := [(0, .ref 13), (1, .ref a1), (2, .int x2), (3, .int x3)]) (st' := [.int (-1), .ref 13]) rfl ?_
  refine ev_putI (c := 13) hr rfl rfl rfl (fun s8 hr => ?_)
  refine ev_seg 3 (k' := 27) (L' := [(0, .ref 13), (1, .ref a1), (2, .int x2), (3, .int x3)]) (st' := [.int 0, .ref 13, .ref 13]) rfl ?_
  refine ev_callV (q' := q_3) (x := 3) (y := 1) (c := 13) (As := [.int 0]) (rest := [.ref 13]) hr rfl rfl rfl rfl rfl rfl rfl rfl rfl rfl rfl rfl (fun rv s9 hq => ev_kI hq (fun v10 e9 hr => ?_))
  subst e9
  refine ev_st (st' := [.int v10, .ref 13]) rfl ?_
  refine ev_putI (c := 13) hr rfl rfl rfl (fun s11 hr => ?_)
  refine ev_seg 3 (k' := 32) (L' := [(0, .ref 13), (1, .ref a1), (2, .int x2), (3, .int x3)]) (st' := [.int (gI s11 13 14), .ref 13]) rfl ?_
  refine ev_putI (c := 13) hr rfl rfl rfl (fun s12 hr => ?_)
  refine ev_seg 1 (k' := 34) (L' := [(0, .ref 13), (1, .ref a1), (2, .int x2), (3, .int x3)]) (st' := [.ref 13]) rfl ?_
  refine ev_callV (q' := q_4) (x := 4) (y := 1) (c := 13) (As := []) (rest := []) hr rfl rfl rfl rfl rfl rfl rfl rfl rfl rfl rfl rfl (fun rv s13 hq => ev_kV hq (fun e9 hr => ?_))
  subst e9
  refine ev_st (st' := []) rfl ?_
  refine ev_seg 3 (k' := 38) (L' := [(0, .ref 13), (1, .ref a1), (2, .int x2), (3, .int x3)]) (st' := [.int (-1), .int (gI s13 13 8)]) rfl ?_
  refine ev_br (P := gI s13 13 8 = (-1)) (L' := [(0, .ref 13), (1, .ref a1), (2, .int x2), (3, .int x3)]) (st' := []) hr rfl rfl rfl (fun hr => ?_) (fun hr => ?_)
  · skip
    exact ev_vret hr rfl rfl
  · skip
    refine ev_seg 4 (k' := 43) (L' := [(0, .ref 13), (1, .ref a1), (2, .int x2), (3, .int x3)]) (st' := [.int (gI s13 13 13), .int (gI s13 13 14)]) rfl ?_
    refine ev_br (P := gI s13 13 13 ≤ gI s13 13 14) (L' := [(0, .ref 13), (1, .ref a1), (2, .int x2), (3, .int x3)]) (st' := []) hr rfl rfl rfl (fun hr => ?_) (fun hr => ?_)
    · skip
      exact ev_vret hr rfl rfl
    · skip
      refine ev_seg 2 (k' := 46) (L' := [(0, .ref 13), (1, .ref a1), (2, .int x2), (3, .int x3)]) (st' := [.ref 13, .ref 13]) rfl ?_
      refine ev_callV (q' := q_8) (x := 8) (y := 1) (c := 13) (As := []) (rest := [.ref 13]) hr rfl rfl rfl rfl rfl rfl rfl rfl rfl rfl rfl rfl (fun rv s14 hq => ev_kI hq (fun v15 e9 hr => ?_))
      subst e9
      refine ev_st (st' := [.int v15, .ref 13]) rfl ?_
      refine ev_putI (c := 13) hr rfl rfl rfl (fun s16 hr => ?_)
      exact ev_vret hr rfl rfl
set_option maxRecDepth 20000 in
theorem eTx_value (d : Nat) (x1 : Int32) (s : aT) : ∀ r, (cG (fTx_skipBlanks d s) (kV fun s1 => cG (fTx_peek d s1) (kI fun v3 s2 => if v3 = 34 then cG (fTx_string d s2) (kI fun v6 s5 => rI v6 s5) else if v3 = 91 then cG (fTx_listOfValues d x1 s2) (kI fun v9 s8 => rI v9 s8) else if v3 = 102 then cG (fTx_word d 1001 5 s2) (kI fun v12 s11 => rI v12 s11) else if v3 = 110 then cG (fTx_word d 1002 6 s2) (kI fun v15 s14 => rI v15 s14) else if v3 = 116 then cG (fTx_word d 1000 4 s2) (kI fun v18 s17 => rI v18 s17) else if v3 = 123 then cG (fTx_object d x1 s2) (kI fun v21 s20 => rI v21 s20) else if v3 = 45 then fTx_value_39 (d + 1) s2 else cG (fTx_isDigit d v3 s2) (kI fun v23 s22 => if v23 = 0 then cG (fTx_failHere d s22) (kI fun v25 s24 => rI v25 s24) else fTx_value_39 (d + 1) s22)))) = some r → fTx_value (d + 1) x1 s = some r := by
  intro r hr
  show ev (d + 1) q_3 0 [(0, .ref 13), (1, .int x1)] [] s = some r
  refine ev_seg 1 (k' := 1) (L' := [(0, .ref 13), (1, .int x1)]) (st' := [.ref 13]) rfl ?_
  refine ev_callV (q' := q_4) (x := 4) (y := 1) (c := 13) (As := []) (rest := []) hr rfl rfl rfl rfl rfl rfl rfl rfl rfl rfl rfl rfl (fun rv s1 hq => ev_kV hq (fun e9 hr => ?_))
  subst e9
  refine ev_st (st' := []) rfl ?_
  refine ev_seg 1 (k' := 3) (L' := [(0, .ref 13), (1, .int x1)]) (st' := [.ref 13]) rfl ?_
  refine ev_callV (q' := q_5) (x := 5) (y := 1) (c := 13) (As := []) (rest := []) hr rfl rfl rfl rfl rfl rfl rfl rfl rfl rfl rfl rfl (fun rv s2 hq => ev_kI hq (fun v3 e9 hr => ?_))
  subst e9
  refine ev_st (st' := [.int v3]) rfl ?_
  refine ev_seg 2 (k' := 6) (L' := [(2, .int v3), (0, .ref 13), (1, .int x1)]) (st' := [.int v3]) rfl ?_
  refine ev_if hr (fun h4 hr => ?_) (fun h4 hr => ?_)
  · skip
    refine ev_look (o := 70) (t := 15) rfl rfl (by rw [h4]; rfl) rfl ?_
    refine ev_seg 1 (k' := 16) (L' := [(2, .int v3), (0, .ref 13), (1, .int x1)]) (st' := [.ref 13]) rfl ?_
    refine ev_callV (q' := q_11) (x := 11) (y := 1) (c := 13) (As := []) (rest := []) hr rfl rfl rfl rfl rfl rfl rfl rfl rfl rfl rfl rfl (fun rv s5 hq => ev_kI hq (fun v6 e9 hr => ?_))
    subst e9
    refine ev_st (st' := [.int v6]) rfl ?_
    exact ev_iret hr rfl rfl rfl
  refine ev_if hr (fun h7 hr => ?_) (fun h7 hr => ?_)
  · skip
    refine ev_look (o := 64) (t := 11) rfl rfl (by rw [h7]; rfl) rfl ?_
    refine ev_seg 2 (k' := 13) (L' := [(2, .int v3), (0, .ref 13), (1, .int x1)]) (st' := [.int x1, .ref 13]) rfl ?_
    refine ev_callV (q' := q_21) (x := 21) (y := 1) (c := 13) (As := [.int x1]) (rest := []) hr rfl rfl rfl rfl rfl rfl rfl rfl rfl rfl rfl rfl (fun rv s8 hq => ev_kI hq (fun v9 e9 hr => ?_))
    subst e9
    refine ev_st (st' := [.int v9]) rfl ?_
    exact ev_iret hr rfl rfl rfl
  refine ev_if hr (fun h10 hr => ?_) (fun h10 hr => ?_)
  · skip
    refine ev_look (o := 83) (t := 23) rfl rfl (by rw [h10]; rfl) rfl ?_
    refine ev_seg 3 (k' := 26) (L' := [(2, .int v3), (0, .ref 13), (1, .int x1)]) (st' := [.int 5, .ref 1001, .ref 13]) rfl ?_
    refine ev_callV (q' := q_22) (x := 22) (y := 1) (c := 13) (As := [.ref 1001, .int 5]) (rest := []) hr rfl rfl rfl rfl rfl rfl rfl rfl rfl rfl rfl rfl (fun rv s11 hq => ev_kI hq (fun v12 e9 hr => ?_))
    subst e9
    refine ev_st (st' := [.int v12]) rfl ?_
    exact ev_iret hr rfl rfl rfl
  refine ev_if hr (fun h13 hr => ?_) (fun h13 hr => ?_)
  · skip
    refine ev_look (o := 91) (t := 28) rfl rfl (by rw [h13]; rfl) rfl ?_
    refine ev_seg 3 (k' := 31) (L' := [(2, .int v3), (0, .ref 13), (1, .int x1)]) (st' := [.int 6, .ref 1002, .ref 13]) rfl ?_
    refine ev_callV (q' := q_22) (x := 22) (y := 1) (c := 13) (As := [.ref 1002, .int 6]) (rest := []) hr rfl rfl rfl rfl rfl rfl rfl rfl rfl rfl rfl rfl (fun rv s14 hq => ev_kI hq (fun v15 e9 hr => ?_))
    subst e9
    refine ev_st (st' := [.int v15]) rfl ?_
    exact ev_iret hr rfl rfl rfl
  refine ev_if hr (fun h16 hr => ?_) (fun h16 hr => ?_)
  · skip
    refine ev_look (o := 75) (t := 18) rfl rfl (by rw [h16]; rfl) rfl ?_
    refine ev_seg 3 (k' := 21) (L' := [(2, .int v3), (0, .ref 13), (1, .int x1)]) (st' := [.int 4, .ref 1000, .ref 13]) rfl ?_
    refine ev_callV (q' := q_22) (x := 22) (y := 1) (c := 13) (As := [.ref 1000, .int 4]) (rest := []) hr rfl rfl rfl rfl rfl rfl rfl rfl rfl rfl rfl rfl (fun rv s17 hq => ev_kI hq (fun v18 e9 hr => ?_))
    subst e9
    refine ev_st (st' := [.int v18]) rfl ?_
    exact ev_iret hr rfl rfl rfl
  refine ev_if hr (fun h19 hr => ?_) (fun h19 hr => ?_)
  · skip
    refine ev_look (o := 58) (t := 7) rfl rfl (by rw [h19]; rfl) rfl ?_
    refine ev_seg 2 (k' := 9) (L' := [(2, .int v3), (0, .ref 13), (1, .int x1)]) (st' := [.int x1, .ref 13]) rfl ?_
    refine ev_callV (q' := q_7) (x := 7) (y := 1) (c := 13) (As := [.int x1]) (rest := []) hr rfl rfl rfl rfl rfl rfl rfl rfl rfl rfl rfl rfl (fun rv s20 hq => ev_kI hq (fun v21 e9 hr => ?_))
    subst e9
    refine ev_st (st' := [.int v21]) rfl ?_
    exact ev_iret hr rfl rfl rfl
  refine ev_look (o := 100) (t := 33) rfl rfl (by have e0 := i_neL (z := 34) (w := 34) rfl h4; have e1 := i_neL (z := 91) (w := 91) rfl h7; have e2 := i_neL (z := 102) (w := 102) rfl h10; have e3 := i_neL (z := 110) (w := 110) rfl h13; have e4 := i_neL (z := 116) (w := 116) rfl h16; have e5 := i_neL (z := 123) (w := 123) rfl h19; simp only [Op.lookupswitch.offset, if_neg (Ne.symm e0), if_neg (Ne.symm e1), if_neg (Ne.symm e2), if_neg (Ne.symm e3), if_neg (Ne.symm e4), if_neg (Ne.symm e5)]) rfl ?_
  refine ev_seg 2 (k' := 35) (L' := [(2, .int v3), (0, .ref 13), (1, .int x1)]) (st' := [.int 45, .int v3]) rfl ?_
  refine ev_br (P := v3 = 45) (L' := [(2, .int v3), (0, .ref 13), (1, .int x1)]) (st' := []) hr rfl rfl rfl (fun hr => ?_) (fun hr => ?_)
  · skip
    refine ev_join (L' := [(0, .ref 13)]) [1] [2, 0, 1] [0] rfl rfl (by decide) (by decide) rfl ?_
    exact hr
  · skip
    refine ev_seg 1 (k' := 37) (L' := [(2, .int v3), (0, .ref 13), (1, .int x1)]) (st' := [.int v3]) rfl ?_
    refine ev_callS (q' := q_23) (x := 23) (vs := [.int v3]) (rest := []) hr rfl rfl rfl rfl rfl rfl rfl rfl rfl rfl (fun rv s22 hq => ev_kI hq (fun v23 e9 hr => ?_))
    subst e9
    refine ev_st (st' := [.int v23]) rfl ?_
    refine ev_br (P := v23 = 0) (L' := [(2, .int v3), (0, .ref 13), (1, .int x1)]) (st' := []) hr rfl rfl rfl (fun hr => ?_) (fun hr => ?_)
    · skip
      refine ev_seg 1 (k' := 43) (L' := [(2, .int v3), (0, .ref 13), (1, .int x1)]) (st' := [.ref 13]) rfl ?_
      refine ev_callV (q' := q_8) (x := 8) (y := 1) (c := 13) (As := []) (rest := []) hr rfl rfl rfl rfl rfl rfl rfl rfl rfl rfl rfl rfl (fun rv s24 hq => ev_kI hq (fun v25 e9 hr => ?_))
      subst e9
      refine ev_st (st' := [.int v25]) rfl ?_
      exact ev_iret hr rfl rfl rfl
    · skip
      refine ev_join (L' := [(0, .ref 13)]) [1] [2, 0, 1] [0] rfl rfl (by decide) (by decide) rfl ?_
      exact hr
set_option maxRecDepth 20000 in
theorem eTx_value_39 (d : Nat) (s : aT) : ∀ r, (cG (fTx_numberOfDigits d s) (kI fun v2 s1 => rI v2 s1)) = some r → fTx_value_39 (d + 1) s = some r := by
  intro r hr
  show ev (d + 1) q_3 39 [(0, .ref 13)] [] s = some r
  refine ev_seg 1 (k' := 40) (L' := [(0, .ref 13)]) (st' := [.ref 13]) rfl ?_
  refine ev_callV (q' := q_24) (x := 24) (y := 1) (c := 13) (As := []) (rest := []) hr rfl rfl rfl rfl rfl rfl rfl rfl rfl rfl rfl rfl (fun rv s1 hq => ev_kI hq (fun v2 e9 hr => ?_))
  subst e9
  refine ev_st (st' := [.int v2]) rfl ?_
  refine ev_seg 1 (k' := 44) (L' := [(0, .ref 13)]) (st' := [.int v2]) rfl ?_
  exact ev_iret hr rfl rfl rfl
set_option maxRecDepth 20000 in
theorem eTx_skipBlanks (d : Nat) (s : aT) : ∀ r, (if gI s 13 13 ≤ gI s 13 14 then rV s else cG (fTx_peek d s) (kI fun v2 s1 => cG (fTx_isBlank d v2 s1) (kI fun v4 s3 => if v4 = 0 then rV s3 else wI s3 13 14 ((gI s3 13 14) + 1) (fun s5 => fTx_skipBlanks (d + 1) s5)))) = some r → fTx_skipBlanks (d + 1) s = some r := by
  intro r hr
  show ev (d + 1) q_4 0 [(0, .ref 13)] [] s = some r
  refine ev_seg 4 (k' := 4) (L' := [(0, .ref 13)]) (st' := [.int (gI s 13 13), .int (gI s 13 14)]) rfl ?_
  refine ev_br (P := gI s 13 13 ≤ gI s 13 14) (L' := [(0, .ref 13)]) (st' := []) hr rfl rfl rfl (fun hr => ?_) (fun hr => ?_)
  · skip
    exact ev_vret hr rfl rfl
  · skip
    refine ev_seg 1 (k' := 6) (L' := [(0, .ref 13)]) (st' := [.ref 13]) rfl ?_
    refine ev_callV (q' := q_5) (x := 5) (y := 1) (c := 13) (As := []) (rest := []) hr rfl rfl rfl rfl rfl rfl rfl rfl rfl rfl rfl rfl (fun rv s1 hq => ev_kI hq (fun v2 e9 hr => ?_))
    subst e9
    refine ev_st (st' := [.int v2]) rfl ?_
    refine ev_callS (q' := q_6) (x := 6) (vs := [.int v2]) (rest := []) hr rfl rfl rfl rfl rfl rfl rfl rfl rfl rfl (fun rv s3 hq => ev_kI hq (fun v4 e9 hr => ?_))
    subst e9
    refine ev_st (st' := [.int v4]) rfl ?_
    refine ev_br (P := v4 = 0) (L' := [(0, .ref 13)]) (st' := []) hr rfl rfl rfl (fun hr => ?_) (fun hr => ?_)
    · skip
      exact ev_vret hr rfl rfl
    · skip
      refine ev_seg 5 (k' := 14) (L' := [(0, .ref 13)]) (st' := [.int ((gI s3 13 14) + 1), .ref 13]) rfl ?_
      refine ev_putI (c := 13) hr rfl rfl rfl (fun s5 hr => ?_)
      refine ev_seg 1 (k' := 0) (L' := [(0, .ref 13)]) (st' := []) rfl ?_
      exact hr
set_option maxRecDepth 20000 in
theorem eTx_peek (d : Nat) (s : aT) : ∀ r, (if gI s 13 13 ≤ gI s 13 14 then rI (-1) s else ldI (alen (gM0 s)) s (gM0 s) ((gI s 13 12) + (gI s 13 14)) (fun v1 => rI (v1 &&& 255) s)) = some r → fTx_peek d s = some r := by
  intro r hr
  show ev d q_5 0 [(0, .ref 13)] [] s = some r
  refine ev_seg 4 (k' := 4) (L' := [(0, .ref 13)]) (st' := [.int (gI s 13 13), .int (gI s 13 14)]) rfl ?_
  refine ev_br (P := gI s 13 13 ≤ gI s 13 14) (L' := [(0, .ref 13)]) (st' := []) hr rfl rfl rfl (fun hr => ?_) (fun hr => ?_)
  · skip
    refine ev_seg 1 (k' := 17) (L' := [(0, .ref 13)]) (st' := [.int (-1)]) rfl ?_
    exact ev_iret hr rfl rfl rfl
  · skip
    refine ev_seg 7 (k' := 12) (L' := [(0, .ref 13)]) (st' := [.int ((gI s 13 12) + (gI s 13 14)), .ref (gM0 s)]) rfl ?_
    refine ev_ldX hr rfl (fun v1 hr => ?_)
    refine ev_seg 3 (k' := 17) (L' := [(0, .ref 13)]) (st' := [.int (v1 &&& 255)]) rfl ?_
    exact ev_iret hr rfl rfl rfl
set_option maxRecDepth 20000 in
theorem eTx_isBlank (d : Nat) (x0 : Int32) (s : aT) : ∀ r, (if x0 = 9 then rI 1 s else if x0 = 10 then rI 1 s else if x0 = 13 then rI 1 s else if ¬ x0 = 32 then rI 0 s else rI 1 s) = some r → fTx_isBlank d x0 s = some r := by
  intro r hr
  show ev d q_6 0 [(0, .int x0)] [] s = some r
  refine ev_seg 2 (k' := 2) (L' := [(0, .int x0)]) (st' := [.int 9, .int x0]) rfl ?_
  refine ev_br (P := x0 = 9) (L' := [(0, .int x0)]) (st' := []) hr rfl rfl rfl (fun hr => ?_) (fun hr => ?_)
  · skip
    refine ev_seg 2 (k' := 15) (L' := [(0, .int x0)]) (st' := [.int 1]) rfl ?_
    exact ev_iret hr rfl rfl rfl
  · skip
    refine ev_seg 2 (k' := 5) (L' := [(0, .int x0)]) (st' := [.int 10, .int x0]) rfl ?_
    refine ev_br (P := x0 = 10) (L' := [(0, .int x0)]) (st' := []) hr rfl rfl rfl (fun hr => ?_) (fun hr => ?_)
    · skip
      refine ev_seg 2 (k' := 15) (L' := [(0, .int x0)]) (st' := [.int 1]) rfl ?_
      exact ev_iret hr rfl rfl rfl
    · skip
      refine ev_seg 2 (k' := 8) (L' := [(0, .int x0)]) (st' := [.int 13, .int x0]) rfl ?_
      refine ev_br (P := x0 = 13) (L' := [(0, .int x0)]) (st' := []) hr rfl rfl rfl (fun hr => ?_) (fun hr => ?_)
      · skip
        refine ev_seg 2 (k' := 15) (L' := [(0, .int x0)]) (st' := [.int 1]) rfl ?_
        exact ev_iret hr rfl rfl rfl
      · skip
        refine ev_seg 2 (k' := 11) (L' := [(0, .int x0)]) (st' := [.int 32, .int x0]) rfl ?_
        refine ev_br (P := ¬ x0 = 32) (L' := [(0, .int x0)]) (st' := []) hr rfl rfl rfl (fun hr => ?_) (fun hr => ?_)
        · skip
          refine ev_seg 1 (k' := 15) (L' := [(0, .int x0)]) (st' := [.int 0]) rfl ?_
          exact ev_iret hr rfl rfl rfl
        · skip
          refine ev_seg 2 (k' := 15) (L' := [(0, .int x0)]) (st' := [.int 1]) rfl ?_
          exact ev_iret hr rfl rfl rfl
set_option maxRecDepth 20000 in
theorem eTx_object (d : Nat) (x1 : Int32) (s : aT) : ∀ r, (if x1 < 24 then cG (fTx_add d 0 s) (kI fun v2 s1 => wI s1 13 14 ((gI s1 13 14) + 1) (fun s3 => cG (fTx_skipBlanks d s3) (kV fun s4 => cG (fTx_peek d s4) (kI fun v6 s5 => if ¬ v6 = 125 then fTx_object_34 (d + 1) x1 v2 (-1) 0 s5 else wI s5 13 14 ((gI s5 13 14) + 1) (fun s7 => rI v2 s7))))) else cG (fTx_failHere d s) (kI fun v9 s8 => rI v9 s8)) = some r → fTx_object (d + 1) x1 s = some r := by
  intro r hr
  show ev (d + 1) q_7 0 [(0, .ref 13), (1, .int x1)] [] s = some r
  refine ev_seg 2 (k' := 2) (L' := [(0, .ref 13), (1, .int x1)]) (st' := [.int 24, .int x1]) rfl ?_
  refine ev_br (P := x1 < 24) (L' := [(0, .ref 13), (1, .int x1)]) (st' := []) hr rfl rfl rfl (fun hr => ?_) (fun hr => ?_)
  · skip
    refine ev_seg 2 (k' := 8) (L' := [(0, .ref 13), (1, .int x1)]) (st' := [.int 0, .ref 13]) rfl ?_
    refine ev_callV (q' := q_9) (x := 9) (y := 1) (c := 13) (As := [.int 0]) (rest := []) hr rfl rfl rfl rfl rfl rfl rfl rfl rfl rfl rfl rfl (fun rv s1 hq => ev_kI hq (fun v2 e9 hr => ?_))
    subst e9
    refine ev_st (st' := [.int v2]) rfl ?_
    refine ev_seg 6 (k' := 15) (L' := [(2, .int v2), (0, .ref 13), (1, .int x1)]) (st' := [.int ((gI s1 13 14) + 1), .ref 13]) rfl ?_
    refine ev_putI (c := 13) hr rfl rfl rfl (fun s3 hr => ?_)
    refine ev_seg 1 (k' := 17) (L' := [(2, .int v2), (0, .ref 13), (1, .int x1)]) (st' := [.ref 13]) rfl ?_
    refine ev_callV (q' := q_4) (x := 4) (y := 1) (c := 13) (As := []) (rest := []) hr rfl rfl rfl rfl rfl rfl rfl rfl rfl rfl rfl rfl (fun rv s4 hq => ev_kV hq (fun e9 hr => ?_))
    subst e9
    refine ev_st (st' := []) rfl ?_
    refine ev_seg 1 (k' := 19) (L' := [(2, .int v2), (0, .ref 13), (1, .int x1)]) (st' := [.ref 13]) rfl ?_
    refine ev_callV (q' := q_5) (x := 5) (y := 1) (c := 13) (As := []) (rest := []) hr rfl rfl rfl rfl rfl rfl rfl rfl rfl rfl rfl rfl (fun rv s5 hq => ev_kI hq (fun v6 e9 hr => ?_))
    subst e9
    refine ev_st (st' := [.int v6]) rfl ?_
    refine ev_seg 1 (k' := 21) (L' := [(2, .int v2), (0, .ref 13), (1, .int x1)]) (st' := [.int 125, .int v6]) rfl ?_
    refine ev_br (P := ¬ v6 = 125) (L' := [(2, .int v2), (0, .ref 13), (1, .int x1)]) (st' := []) hr rfl rfl rfl (fun hr => ?_) (fun hr => ?_)
    · skip
      refine ev_seg 4 (k' := 34) (L' := [(4, .int 0), (3, .int (-1)), (2, .int v2), (0, .ref 13), (1, .int x1)]) (st' := []) rfl ?_
      refine ev_join (L' := [(0, .ref 13), (1, .int x1), (2, .int v2), (3, .int (-1)), (4, .int 0)]) [3, 4, 2, 1, 0] [4, 3, 2, 0, 1] [0, 1, 2, 3, 4] rfl rfl (by decide) (by decide) rfl ?_
      exact hr
    · skip
      refine ev_seg 5 (k' := 27) (L' := [(2, .int v2), (0, .ref 13), (1, .int x1)]) (st' := [.int ((gI s5 13 14) + 1), .ref 13]) rfl ?_
      refine ev_putI (c := 13) hr rfl rfl rfl (fun s7 hr => ?_)
      refine ev_seg 1 (k' := 29) (L' := [(2, .int v2), (0, .ref 13), (1, .int x1)]) (st' := [.int v2]) rfl ?_
      exact ev_iret hr rfl rfl rfl
  · skip
    refine ev_seg 1 (k' := 4) (L' := [(0, .ref 13), (1, .int x1)]) (st' := [.ref 13]) rfl ?_
    refine ev_callV (q' := q_8) (x := 8) (y := 1) (c := 13) (As := []) (rest := []) hr rfl rfl rfl rfl rfl rfl rfl rfl rfl rfl rfl rfl (fun rv s8 hq => ev_kI hq (fun v9 e9 hr => ?_))
    subst e9
    refine ev_st (st' := [.int v9]) rfl ?_
    exact ev_iret hr rfl rfl rfl
set_option maxRecDepth 20000 in
theorem eTx_object_34 (d : Nat) (x1 : Int32) (z2 : Int32) (z3 : Int32) (z4 : Int32) (s : aT) : ∀ r, (if 4096 ≤ z4 then cG (fTx_failHere d s) (kI fun v2 s1 => rI v2 s1) else cG (fTx_memberBehind d z2 z3 x1 s) (kI fun v4 s3 => if ¬ v4 = (-1) then cG (fTx_separator d 125 s3) (kI fun v6 s5 => if v6 = 44 then fTx_object_34 (d + 1) x1 z2 v4 (z4 + 1) s5 else if ¬ v6 = (-1) then rI z2 s5 else rI (-1) s5) else rI (-1) s3)) = some r → fTx_object_34 (d + 1) x1 z2 z3 z4 s = some r := by
  intro r hr
  show ev (d + 1) q_7 34 [(0, .ref 13), (1, .int x1), (2, .int z2), (3, .int z3), (4, .int z4)] [] s = some r
  refine ev_seg 2 (k' := 36) (L' := [(0, .ref 13), (1, .int x1), (2, .int z2), (3, .int z3), (4, .int z4)]) (st' := [.int 4096, .int z4]) rfl ?_
  refine ev_br (P := 4096 ≤ z4) (L' := [(0, .ref 13), (1, .int x1), (2, .int z2), (3, .int z3), (4, .int z4)]) (st' := []) hr rfl rfl rfl (fun hr => ?_) (fun hr => ?_)
  · skip
    refine ev_seg 1 (k' := 65) (L' := [(0, .ref 13), (1, .int x1), (2, .int z2), (3, .int z3), (4, .int z4)]) (st' := [.ref 13]) rfl ?_
    refine ev_callV (q' := q_8) (x := 8) (y := 1) (c := 13) (As := []) (rest := []) hr rfl rfl rfl rfl rfl rfl rfl rfl rfl rfl rfl rfl (fun rv s1 hq => ev_kI hq (fun v2 e9 hr => ?_))
    subst e9
    refine ev_st (st' := [.int v2]) rfl ?_
    exact ev_iret hr rfl rfl rfl
  · skip
    refine ev_seg 4 (k' := 41) (L' := [(0, .ref 13), (1, .int x1), (2, .int z2), (3, .int z3), (4, .int z4)]) (st' := [.int x1, .int z3, .int z2, .ref 13]) rfl ?_
    refine ev_callV (q' := q_10) (x := 10) (y := 1) (c := 13) (As := [.int z2, .int z3, .int x1]) (rest := []) hr rfl rfl rfl rfl rfl rfl rfl rfl rfl rfl rfl rfl (fun rv s3 hq => ev_kI hq (fun v4 e9 hr => ?_))
    subst e9
    refine ev_st (st' := [.int v4]) rfl ?_
    refine ev_seg 3 (k' := 45) (L' := [(3, .int v4), (0, .ref 13), (1, .int x1), (2, .int z2), (4, .int z4)]) (st' := [.int (-1), .int v4]) rfl ?_
    refine ev_br (P := ¬ v4 = (-1)) (L' := [(3, .int v4), (0, .ref 13), (1, .int x1), (2, .int z2), (4, .int z4)]) (st' := []) hr rfl rfl rfl (fun hr => ?_) (fun hr => ?_)
    · skip
      refine ev_seg 2 (k' := 50) (L' := [(3, .int v4), (0, .ref 13), (1, .int x1), (2, .int z2), (4, .int z4)]) (st' := [.int 125, .ref 13]) rfl ?_
      refine ev_callV (q' := q_20) (x := 20) (y := 1) (c := 13) (As := [.int 125]) (rest := []) hr rfl rfl rfl rfl rfl rfl rfl rfl rfl rfl rfl rfl (fun rv s5 hq => ev_kI hq (fun v6 e9 hr => ?_))
      subst e9
      refine ev_st (st' := [.int v6]) rfl ?_
      refine ev_seg 3 (k' := 54) (L' := [(5, .int v6), (3, .int v4), (0, .ref 13), (1, .int x1), (2, .int z2), (4, .int z4)]) (st' := [.int 44, .int v6]) rfl ?_
      refine ev_br (P := v6 = 44) (L' := [(5, .int v6), (3, .int v4), (0, .ref 13), (1, .int x1), (2, .int z2), (4, .int z4)]) (st' := []) hr rfl rfl rfl (fun hr => ?_) (fun hr => ?_)
      · skip
        refine ev_seg 2 (k' := 34) (L' := [(4, .int (z4 + 1)), (5, .int v6), (3, .int v4), (0, .ref 13), (1, .int x1), (2, .int z2)]) (st' := []) rfl ?_
        refine ev_join (L' := [(0, .ref 13), (1, .int x1), (2, .int z2), (3, .int v4), (4, .int (z4 + 1))]) [3, 4, 5, 2, 0] [4, 5, 3, 0, 1, 2] [0, 1, 2, 3, 4] rfl rfl (by decide) (by decide) rfl ?_
        exact hr
      · skip
        refine ev_seg 2 (k' := 57) (L' := [(5, .int v6), (3, .int v4), (0, .ref 13), (1, .int x1), (2, .int z2), (4, .int z4)]) (st' := [.int (-1), .int v6]) rfl ?_
        refine ev_br (P := ¬ v6 = (-1)) (L' := [(5, .int v6), (3, .int v4), (0, .ref 13), (1, .int x1), (2, .int z2), (4, .int z4)]) (st' := []) hr rfl rfl rfl (fun hr => ?_) (fun hr => ?_)
        · skip
          refine ev_seg 1 (k' := 61) (L' := [(5, .int v6), (3, .int v4), (0, .ref 13), (1, .int x1), (2, .int z2), (4, .int z4)]) (st' := [.int z2]) rfl ?_
          exact ev_iret hr rfl rfl rfl
        · skip
          refine ev_seg 2 (k' := 61) (L' := [(5, .int v6), (3, .int v4), (0, .ref 13), (1, .int x1), (2, .int z2), (4, .int z4)]) (st' := [.int (-1)]) rfl ?_
          exact ev_iret hr rfl rfl rfl
    · skip
      refine ev_seg 1 (k' := 47) (L' := [(3, .int v4), (0, .ref 13), (1, .int x1), (2, .int z2), (4, .int z4)]) (st' := [.int (-1)]) rfl ?_
      exact ev_iret hr rfl rfl rfl
set_option maxRecDepth 20000 in
theorem eTx_failHere (d : Nat) (s : aT) : ∀ r, (wI s 13 10 (gI s 13 14) (fun s1 => rI (-1) s1)) = some r → fTx_failHere d s = some r := by
  intro r hr
  show ev d q_8 0 [(0, .ref 13)] [] s = some r
  refine ev_seg 3 (k' := 3) (L' := [(0, .ref 13)]) (st' := [.int (gI s 13 14), .ref 13]) rfl ?_
  refine ev_putI (c := 13) hr rfl rfl rfl (fun s1 hr => ?_)
  refine ev_seg 1 (k' := 5) (L' := [(0, .ref 13)]) (st' := [.int (-1)]) rfl ?_
  exact ev_iret hr rfl rfl rfl
set_option maxRecDepth 20000 in
theorem eTx_add (d : Nat) (x1 : Int32) (s : aT) : ∀ r, (wI s 13 7 ((gI s 13 7) + 1) (fun s1 => stI 4096 s1 14 (gI s 13 7) x1 (fun s2 => stI 4096 s2 15 (gI s 13 7) (gI s2 13 14) (fun s3 => stI 4096 s3 16 (gI s 13 7) (-1) (fun s4 => stI 4096 s4 17 (gI s 13 7) 0 (fun s5 => stI 4096 s5 18 (gI s 13 7) (-1) (fun s6 => rI (gI s 13 7) s6))))))) = some r → fTx_add d x1 s = some r := by
  intro r hr
  show ev d q_9 0 [(0, .ref 13), (1, .int x1)] [] s = some r
  refine ev_seg 8 (k' := 8) (L' := [(2, .int (gI s 13 7)), (0, .ref 13), (1, .int x1)]) (st' := [.int ((gI s 13 7) + 1), .ref 13]) rfl ?_
  refine ev_putI (c := 13) hr rfl rfl rfl (fun s1 hr => ?_)
  refine ev_seg 4 (k' := 13) (L' := [(2, .int (gI s 13 7)), (0, .ref 13), (1, .int x1)]) (st' := [.int x1, .int (gI s 13 7), .ref 14]) rfl ?_
  refine ev_stI hr rfl rfl (fun s2 hr => ?_)
  refine ev_seg 5 (k' := 19) (L' := [(2, .int (gI s 13 7)), (0, .ref 13), (1, .int x1)]) (st' := [.int (gI s2 13 14), .int (gI s 13 7), .ref 15]) rfl ?_
  refine ev_stI hr rfl rfl (fun s3 hr => ?_)
  refine ev_seg 4 (k' := 24) (L' := [(2, .int (gI s 13 7)), (0, .ref 13), (1, .int x1)]) (st' := [.int (-1), .int (gI s 13 7), .ref 16]) rfl ?_
  refine ev_stI hr rfl rfl (fun s4 hr => ?_)
  refine ev_seg 4 (k' := 29) (L' := [(2, .int (gI s 13 7)), (0, .ref 13), (1, .int x1)]) (st' := [.int 0, .int (gI s 13 7), .ref 17]) rfl ?_
  refine ev_stI hr rfl rfl (fun s5 hr => ?_)
  refine ev_seg 4 (k' := 34) (L' := [(2, .int (gI s 13 7)), (0, .ref 13), (1, .int x1)]) (st' := [.int (-1), .int (gI s 13 7), .ref 18]) rfl ?_
  refine ev_stI hr rfl rfl (fun s6 hr => ?_)
  refine ev_seg 1 (k' := 36) (L' := [(2, .int (gI s 13 7)), (0, .ref 13), (1, .int x1)]) (st' := [.int (gI s 13 7)]) rfl ?_
  exact ev_iret hr rfl rfl rfl
set_option maxRecDepth 20000 in
theorem eTx_memberBehind (d : Nat) (x1 : Int32) (x2 : Int32) (x3 : Int32) (s : aT) : ∀ r, (cG (fTx_skipBlanks d s) (kV fun s1 => cG (fTx_peek d s1) (kI fun v3 s2 => if v3 = 34 then cG (fTx_string d s2) (kI fun v5 s4 => if ¬ v5 = (-1) then ldI 4096 s4 16 v5 (fun v6 => ldI 4096 s4 17 v5 (fun v7 => cG (fTx_memberNamed d x1 21 v6 v7 s4) (kI fun v9 s8 => if v9 = (-1) then cG (fTx_skipBlanks d s8) (kV fun s10 => cG (fTx_peek d s10) (kI fun v12 s11 => if v12 = 58 then wI s11 13 14 ((gI s11 13 14) + 1) (fun s13 => cG (fTx_value d (x3 + 1) s13) (kI fun v15 s14 => if ¬ v15 = (-1) then cG (fTx_link d x1 x2 v5 s14) (kI fun v17 s16 => cG (fTx_link d x1 v17 v15 s16) (kI fun v19 s18 => rI v19 s18)) else rI (-1) s14)) else cG (fTx_failHere d s11) (kI fun v21 s20 => rI v21 s20))) else ldI 4096 s8 15 v5 (fun v22 => cG (fTx_failAt d v22 s8) (kI fun v24 s23 => rI v24 s23))))) else rI (-1) s4) else cG (fTx_failHere d s2) (kI fun v26 s25 => rI v26 s25)))) = some r → fTx_memberBehind (d + 1) x1 x2 x3 s = some r := by
  intro r hr
  show ev (d + 1) q_10 0 [(0, .ref 13), (1, .int x1), (2, .int x2), (3, .int x3)] [] s = some r
  refine ev_seg 1 (k' := 1) (L' := [(0, .ref 13), (1, .int x1), (2, .int x2), (3, .int x3)]) (st' := [.ref 13]) rfl ?_
  refine ev_callV (q' := q_4) (x := 4) (y := 1) (c := 13) (As := []) (rest := []) hr rfl rfl rfl rfl rfl rfl rfl rfl rfl rfl rfl rfl (fun rv s1 hq => ev_kV hq (fun e9 hr => ?_))
  subst e9
  refine ev_st (st' := []) rfl ?_
  refine ev_seg 1 (k' := 3) (L' := [(0, .ref 13), (1, .int x1), (2, .int x2), (3, .int x3)]) (st' := [.ref 13]) rfl ?_
  refine ev_callV (q' := q_5) (x := 5) (y := 1) (c := 13) (As := []) (rest := []) hr rfl rfl rfl rfl rfl rfl rfl rfl rfl rfl rfl rfl (fun rv s2 hq => ev_kI hq (fun v3 e9 hr => ?_))
  subst e9
  refine ev_st (st' := [.int v3]) rfl ?_
  refine ev_seg 1 (k' := 5) (L' := [(0, .ref 13), (1, .int x1), (2, .int x2), (3, .int x3)]) (st' := [.int 34, .int v3]) rfl ?_
  refine ev_br (P := v3 = 34) (L' := [(0, .ref 13), (1, .int x1), (2, .int x2), (3, .int x3)]) (st' := []) hr rfl rfl rfl (fun hr => ?_) (fun hr => ?_)
  · skip
    refine ev_seg 1 (k' := 10) (L' := [(0, .ref 13), (1, .int x1), (2, .int x2), (3, .int x3)]) (st' := [.ref 13]) rfl ?_
    refine ev_callV (q' := q_11) (x := 11) (y := 1) (c := 13) (As := []) (rest := []) hr rfl rfl rfl rfl rfl rfl rfl rfl rfl rfl rfl rfl (fun rv s4 hq => ev_kI hq (fun v5 e9 hr => ?_))
    subst e9
    refine ev_st (st' := [.int v5]) rfl ?_
    refine ev_seg 3 (k' := 14) (L' := [(4, .int v5), (0, .ref 13), (1, .int x1), (2, .int x2), (3, .int x3)]) (st' := [.int (-1), .int v5]) rfl ?_
    refine ev_br (P := ¬ v5 = (-1)) (L' := [(4, .int v5), (0, .ref 13), (1, .int x1), (2, .int x2), (3, .int x3)]) (st' := []) hr rfl rfl rfl (fun hr => ?_) (fun hr => ?_)
    · skip
      refine ev_seg 8 (k' := 25) (L' := [(4, .int v5), (0, .ref 13), (1, .int x1), (2, .int x2), (3, .int x3)]) (st' := [.int v5, .ref 16, .ref 21, .int x1, .ref 13]) rfl ?_
      refine ev_ldI hr rfl rfl (fun v6 hr => ?_)
      refine ev_seg 3 (k' := 29) (L' := [(4, .int v5), (0, .ref 13), (1, .int x1), (2, .int x2), (3, .int x3)]) (st' := [.int v5, .ref 17, .int v6, .ref 21, .int x1, .ref 13]) rfl ?_
      refine ev_ldI hr rfl rfl (fun v7 hr => ?_)
      refine ev_callV (q' := q_17) (x := 17) (y := 1) (c := 13) (As := [.int x1, .ref 21, .int v6, .int v7]) (rest := []) hr rfl rfl rfl rfl rfl rfl rfl rfl rfl rfl rfl rfl (fun rv s8 hq => ev_kI hq (fun v9 e9 hr => ?_))
      subst e9
      refine ev_st (st' := [.int v9]) rfl ?_
      refine ev_seg 1 (k' := 32) (L' := [(4, .int v5), (0, .ref 13), (1, .int x1), (2, .int x2), (3, .int x3)]) (st' := [.int (-1), .int v9]) rfl ?_
      refine ev_br (P := v9 = (-1)) (L' := [(4, .int v5), (0, .ref 13), (1, .int x1), (2, .int x2), (3, .int x3)]) (st' := []) hr rfl rfl rfl (fun hr => ?_) (fun hr => ?_)
      · skip
        refine ev_seg 1 (k' := 41) (L' := [(4, .int v5), (0, .ref 13), (1, .int x1), (2, .int x2), (3, .int x3)]) (st' := [.ref 13]) rfl ?_
        refine ev_callV (q' := q_4) (x := 4) (y := 1) (c := 13) (As := []) (rest := []) hr rfl rfl rfl rfl rfl rfl rfl rfl rfl rfl rfl rfl (fun rv s10 hq => ev_kV hq (fun e9 hr => ?_))
        subst e9
        refine ev_st (st' := []) rfl ?_
        refine ev_seg 1 (k' := 43) (L' := [(4, .int v5), (0, .ref 13), (1, .int x1), (2, .int x2), (3, .int x3)]) (st' := [.ref 13]) rfl ?_
        refine ev_callV (q' := q_5) (x := 5) (y := 1) (c := 13) (As := []) (rest := []) hr rfl rfl rfl rfl rfl rfl rfl rfl rfl rfl rfl rfl (fun rv s11 hq => ev_kI hq (fun v12 e9 hr => ?_))
        subst e9
        refine ev_st (st' := [.int v12]) rfl ?_
        refine ev_seg 1 (k' := 45) (L' := [(4, .int v5), (0, .ref 13), (1, .int x1), (2, .int x2), (3, .int x3)]) (st' := [.int 58, .int v12]) rfl ?_
        refine ev_br (P := v12 = 58) (L' := [(4, .int v5), (0, .ref 13), (1, .int x1), (2, .int x2), (3, .int x3)]) (st' := []) hr rfl rfl rfl (fun hr => ?_) (fun hr => ?_)
        · skip
          refine ev_seg 5 (k' := 54) (L' := [(4, .int v5), (0, .ref 13), (1, .int x1), (2, .int x2), (3, .int x3)]) (st' := [.int ((gI s11 13 14) + 1), .ref 13]) rfl ?_
          refine ev_putI (c := 13) hr rfl rfl rfl (fun s13 hr => ?_)
          refine ev_seg 4 (k' := 59) (L' := [(4, .int v5), (0, .ref 13), (1, .int x1), (2, .int x2), (3, .int x3)]) (st' := [.int (x3 + 1), .ref 13]) rfl ?_
          refine ev_callV (q' := q_3) (x := 3) (y := 1) (c := 13) (As := [.int (x3 + 1)]) (rest := []) hr rfl rfl rfl rfl rfl rfl rfl rfl rfl rfl rfl rfl (fun rv s14 hq => ev_kI hq (fun v15 e9 hr => ?_))
          subst e9
          refine ev_st (st' := [.int v15]) rfl ?_
          refine ev_seg 3 (k' := 63) (L' := [(5, .int v15), (4, .int v5), (0, .ref 13), (1, .int x1), (2, .int x2), (3, .int x3)]) (st' := [.int (-1), .int v15]) rfl ?_
          refine ev_br (P := ¬ v15 = (-1)) (L' := [(5, .int v15), (4, .int v5), (0, .ref 13), (1, .int x1), (2, .int x2), (3, .int x3)]) (st' := []) hr rfl rfl rfl (fun hr => ?_) (fun hr => ?_)
          · skip
            refine ev_seg 6 (k' := 72) (L' := [(5, .int v15), (4, .int v5), (0, .ref 13), (1, .int x1), (2, .int x2), (3, .int x3)]) (st' := [.int v5, .int x2, .int x1, .ref 13, .int x1, .ref 13]) rfl ?_
            refine ev_callV (q' := q_19) (x := 19) (y := 1) (c := 13) (As := [.int x1, .int x2, .int v5]) (rest := [.int x1, .ref 13]) hr rfl rfl rfl rfl rfl rfl rfl rfl rfl rfl rfl rfl (fun rv s16 hq => ev_kI hq (fun v17 e9 hr => ?_))
            subst e9
            refine ev_st (st' := [.int v17, .int x1, .ref 13]) rfl ?_
            refine ev_seg 1 (k' := 74) (L' := [(5, .int v15), (4, .int v5), (0, .ref 13), (1, .int x1), (2, .int x2), (3, .int x3)]) (st' := [.int v15, .int v17, .int x1, .ref 13]) rfl ?_
            refine ev_callV (q' := q_19) (x := 19) (y := 1) (c := 13) (As := [.int x1, .int v17, .int v15]) (rest := []) hr rfl rfl rfl rfl rfl rfl rfl rfl rfl rfl rfl rfl (fun rv s18 hq => ev_kI hq (fun v19 e9 hr => ?_))
            subst e9
            refine ev_st (st' := [.int v19]) rfl ?_
            exact ev_iret hr rfl rfl rfl
          · skip
            refine ev_seg 1 (k' := 65) (L' := [(5, .int v15), (4, .int v5), (0, .ref 13), (1, .int x1), (2, .int x2), (3, .int x3)]) (st' := [.int (-1)]) rfl ?_
            exact ev_iret hr rfl rfl rfl
        · skip
          refine ev_seg 1 (k' := 47) (L' := [(4, .int v5), (0, .ref 13), (1, .int x1), (2, .int x2), (3, .int x3)]) (st' := [.ref 13]) rfl ?_
          refine ev_callV (q' := q_8) (x := 8) (y := 1) (c := 13) (As := []) (rest := []) hr rfl rfl rfl rfl rfl rfl rfl rfl rfl rfl rfl rfl (fun rv s20 hq => ev_kI hq (fun v21 e9 hr => ?_))
          subst e9
          refine ev_st (st' := [.int v21]) rfl ?_
          exact ev_iret hr rfl rfl rfl
      · skip
        refine ev_seg 4 (k' := 37) (L' := [(4, .int v5), (0, .ref 13), (1, .int x1), (2, .int x2), (3, .int x3)]) (st' := [.int v5, .ref 15, .ref 13]) rfl ?_
        refine ev_ldI hr rfl rfl (fun v22 hr => ?_)
        refine ev_callV (q' := q_15) (x := 15) (y := 1) (c := 13) (As := [.int v22]) (rest := []) hr rfl rfl rfl rfl rfl rfl rfl rfl rfl rfl rfl rfl (fun rv s23 hq => ev_kI hq (fun v24 e9 hr => ?_))
        subst e9
        refine ev_st (st' := [.int v24]) rfl ?_
        exact ev_iret hr rfl rfl rfl
    · skip
      refine ev_seg 1 (k' := 16) (L' := [(4, .int v5), (0, .ref 13), (1, .int x1), (2, .int x2), (3, .int x3)]) (st' := [.int (-1)]) rfl ?_
      exact ev_iret hr rfl rfl rfl
  · skip
    refine ev_seg 1 (k' := 7) (L' := [(0, .ref 13), (1, .int x1), (2, .int x2), (3, .int x3)]) (st' := [.ref 13]) rfl ?_
    refine ev_callV (q' := q_8) (x := 8) (y := 1) (c := 13) (As := []) (rest := []) hr rfl rfl rfl rfl rfl rfl rfl rfl rfl rfl rfl rfl (fun rv s25 hq => ev_kI hq (fun v26 e9 hr => ?_))
    subst e9
    refine ev_st (st' := [.int v26]) rfl ?_
    exact ev_iret hr rfl rfl rfl
set_option maxRecDepth 20000 in
theorem eTx_string (d : Nat) (s : aT) : ∀ r, (cG (fTx_add d 2 s) (kI fun v2 s1 => stI 4096 s1 16 v2 (gI s1 20 1) (fun s3 => wI s3 13 14 ((gI s3 13 14) + 1) (fun s4 => fTx_string_17 (d + 1) v2 s4)))) = some r → fTx_string (d + 1) s = some r := by
  intro r hr
  show ev (d + 1) q_11 0 [(0, .ref 13)] [] s = some r
  refine ev_seg 2 (k' := 2) (L' := [(0, .ref 13)]) (st' := [.int 2, .ref 13]) rfl ?_
  refine ev_callV (q' := q_9) (x := 9) (y := 1) (c := 13) (As := [.int 2]) (rest := []) hr rfl rfl rfl rfl rfl rfl rfl rfl rfl rfl rfl rfl (fun rv s1 hq => ev_kI hq (fun v2 e9 hr => ?_))
  subst e9
  refine ev_st (st' := [.int v2]) rfl ?_
  refine ev_seg 7 (k' := 10) (L' := [(1, .int v2), (0, .ref 13)]) (st' := [.int (gI s1 20 1), .int v2, .ref 16]) rfl ?_
  refine ev_stI hr rfl rfl (fun s3 hr => ?_)
  refine ev_seg 5 (k' := 16) (L' := [(1, .int v2), (0, .ref 13)]) (st' := [.int ((gI s3 13 14) + 1), .ref 13]) rfl ?_
  refine ev_putI (c := 13) hr rfl rfl rfl (fun s4 hr => ?_)
  refine ev_join (L' := [(0, .ref 13), (1, .int v2)]) [1, 0] [1, 0] [0, 1] rfl rfl (by decide) (by decide) rfl ?_
  exact hr
set_option maxRecDepth 20000 in
theorem eTx_string_17 (d : Nat) (z1 : Int32) (s : aT) : ∀ r, (if gI s 13 13 ≤ gI s 13 14 then cG (fTx_failHere d s) (kI fun v2 s1 => rI v2 s1) else cG (fTx_peek d s) (kI fun v4 s3 => if ¬ v4 = 34 then if v4 < 32 then fTx_string_54 (d + 1) s3 else if v4 ≤ 126 then if ¬ v4 = 92 then fTx_string_64 (d + 1) z1 v4 s3 else cG (fTx_escape d s3) (kI fun v6 s5 => fTx_string_64 (d + 1) z1 v6 s5) else fTx_string_54 (d + 1) s3 else wI s3 13 14 ((gI s3 13 14) + 1) (fun s7 => ldI 4096 s7 16 z1 (fun v8 => stI 4096 s7 17 z1 ((gI s7 20 1) - v8) (fun s9 => rI z1 s9))))) = some r → fTx_string_17 (d + 1) z1 s = some r := by
  intro r hr
  show ev (d + 1) q_11 17 [(0, .ref 13), (1, .int z1)] [] s = some r
  refine ev_seg 4 (k' := 21) (L' := [(0, .ref 13), (1, .int z1)]) (st' := [.int (gI s 13 13), .int (gI s 13 14)]) rfl ?_
  refine ev_br (P := gI s 13 13 ≤ gI s 13 14) (L' := [(0, .ref 13), (1, .int z1)]) (st' := []) hr rfl rfl rfl (fun hr => ?_) (fun hr => ?_)
  · skip
    refine ev_seg 1 (k' := 83) (L' := [(0, .ref 13), (1, .int z1)]) (st' := [.ref 13]) rfl ?_
    refine ev_callV (q' := q_8) (x := 8) (y := 1) (c := 13) (As := []) (rest := []) hr rfl rfl rfl rfl rfl rfl rfl rfl rfl rfl rfl rfl (fun rv s1 hq => ev_kI hq (fun v2 e9 hr => ?_))
    subst e9
    refine ev_st (st' := [.int v2]) rfl ?_
    exact ev_iret hr rfl rfl rfl
  · skip
    refine ev_seg 1 (k' := 23) (L' := [(0, .ref 13), (1, .int z1)]) (st' := [.ref 13]) rfl ?_
    refine ev_callV (q' := q_5) (x := 5) (y := 1) (c := 13) (As := []) (rest := []) hr rfl rfl rfl rfl rfl rfl rfl rfl rfl rfl rfl rfl (fun rv s3 hq => ev_kI hq (fun v4 e9 hr => ?_))
    subst e9
    refine ev_st (st' := [.int v4]) rfl ?_
    refine ev_seg 3 (k' := 27) (L' := [(2, .int v4), (0, .ref 13), (1, .int z1)]) (st' := [.int 34, .int v4]) rfl ?_
    refine ev_br (P := ¬ v4 = 34) (L' := [(2, .int v4), (0, .ref 13), (1, .int z1)]) (st' := []) hr rfl rfl rfl (fun hr => ?_) (fun hr => ?_)
    · skip
      refine ev_seg 2 (k' := 50) (L' := [(2, .int v4), (0, .ref 13), (1, .int z1)]) (st' := [.int 32, .int v4]) rfl ?_
      refine ev_br (P := v4 < 32) (L' := [(2, .int v4), (0, .ref 13), (1, .int z1)]) (st' := []) hr rfl rfl rfl (fun hr => ?_) (fun hr => ?_)
      · skip
        refine ev_join (L' := [(0, .ref 13)]) [1] [2, 0, 1] [0] rfl rfl (by decide) (by decide) rfl ?_
        exact hr
      · skip
        refine ev_seg 2 (k' := 53) (L' := [(2, .int v4), (0, .ref 13), (1, .int z1)]) (st' := [.int 126, .int v4]) rfl ?_
        refine ev_br (P := v4 ≤ 126) (L' := [(2, .int v4), (0, .ref 13), (1, .int z1)]) (st' := []) hr rfl rfl rfl (fun hr => ?_) (fun hr => ?_)
        · skip
          refine ev_seg 2 (k' := 59) (L' := [(2, .int v4), (0, .ref 13), (1, .int z1)]) (st' := [.int 92, .int v4]) rfl ?_
          refine ev_br (P := ¬ v4 = 92) (L' := [(2, .int v4), (0, .ref 13), (1, .int z1)]) (st' := []) hr rfl rfl rfl (fun hr => ?_) (fun hr => ?_)
          · skip
            refine ev_seg 1 (k' := 64) (L' := [(2, .int v4), (0, .ref 13), (1, .int z1)]) (st' := [.int v4]) rfl ?_
            refine ev_join (L' := [(0, .ref 13), (1, .int z1)]) [1, 2] [2, 0, 1] [0, 1] rfl rfl (by decide) (by decide) rfl ?_
            exact hr
          · skip
            refine ev_seg 1 (k' := 61) (L' := [(2, .int v4), (0, .ref 13), (1, .int z1)]) (st' := [.ref 13]) rfl ?_
            refine ev_callV (q' := q_12) (x := 12) (y := 1) (c := 13) (As := []) (rest := []) hr rfl rfl rfl rfl rfl rfl rfl rfl rfl rfl rfl rfl (fun rv s5 hq => ev_kI hq (fun v6 e9 hr => ?_))
            subst e9
            refine ev_st (st' := [.int v6]) rfl ?_
            refine ev_seg 1 (k' := 64) (L' := [(2, .int v4), (0, .ref 13), (1, .int z1)]) (st' := [.int v6]) rfl ?_
            refine ev_join (L' := [(0, .ref 13), (1, .int z1)]) [1, 2] [2, 0, 1] [0, 1] rfl rfl (by decide) (by decide) rfl ?_
            exact hr
        · skip
          refine ev_join (L' := [(0, .ref 13)]) [1] [2, 0, 1] [0] rfl rfl (by decide) (by decide) rfl ?_
          exact hr
    · skip
      refine ev_seg 5 (k' := 33) (L' := [(2, .int v4), (0, .ref 13), (1, .int z1)]) (st' := [.int ((gI s3 13 14) + 1), .ref 13]) rfl ?_
      refine ev_putI (c := 13) hr rfl rfl rfl (fun s7 hr => ?_)
      refine ev_seg 9 (k' := 43) (L' := [(2, .int v4), (0, .ref 13), (1, .int z1)]) (st' := [.int z1, .ref 16, .int (gI s7 20 1), .int z1, .ref 17]) rfl ?_
      refine ev_ldI hr rfl rfl (fun v8 hr => ?_)
      refine ev_seg 1 (k' := 45) (L' := [(2, .int v4), (0, .ref 13), (1, .int z1)]) (st' := [.int ((gI s7 20 1) - v8), .int z1, .ref 17]) rfl ?_
      refine ev_stI hr rfl rfl (fun s9 hr => ?_)
      refine ev_seg 1 (k' := 47) (L' := [(2, .int v4), (0, .ref 13), (1, .int z1)]) (st' := [.int z1]) rfl ?_
      exact ev_iret hr rfl rfl rfl
set_option maxRecDepth 20000 in
theorem eTx_string_54 (d : Nat) (s : aT) : ∀ r, (cG (fTx_failHere d s) (kI fun v2 s1 => rI v2 s1)) = some r → fTx_string_54 (d + 1) s = some r := by
  intro r hr
  show ev (d + 1) q_11 54 [(0, .ref 13)] [] s = some r
  refine ev_seg 1 (k' := 55) (L' := [(0, .ref 13)]) (st' := [.ref 13]) rfl ?_
  refine ev_callV (q' := q_8) (x := 8) (y := 1) (c := 13) (As := []) (rest := []) hr rfl rfl rfl rfl rfl rfl rfl rfl rfl rfl rfl rfl (fun rv s1 hq => ev_kI hq (fun v2 e9 hr => ?_))
  subst e9
  refine ev_st (st' := [.int v2]) rfl ?_
  exact ev_iret hr rfl rfl rfl
set_option maxRecDepth 20000 in
theorem eTx_string_64 (d : Nat) (z1 : Int32) (u0 : Int32) (s : aT) : ∀ r, (if ¬ u0 = (-1) then cG (fBy_put d 20 u0 s) (kI fun v2 s1 => wI s1 13 14 ((gI s1 13 14) + 1) (fun s3 => fTx_string_17 (d + 1) z1 s3)) else rI (-1) s) = some r → fTx_string_64 (d + 1) z1 u0 s = some r := by
  intro r hr
  show ev (d + 1) q_11 64 [(0, .ref 13), (1, .int z1)] [.int u0] s = some r
  refine ev_seg 3 (k' := 67) (L' := [(3, .int u0), (0, .ref 13), (1, .int z1)]) (st' := [.int (-1), .int u0]) rfl ?_
  refine ev_br (P := ¬ u0 = (-1)) (L' := [(3, .int u0), (0, .ref 13), (1, .int z1)]) (st' := []) hr rfl rfl rfl (fun hr => ?_) (fun hr => ?_)
  · skip
    refine ev_seg 3 (k' := 73) (L' := [(3, .int u0), (0, .ref 13), (1, .int z1)]) (st' := [.int u0, .ref 20]) rfl ?_
    refine ev_callV (q' := q_16) (x := 16) (y := 0) (c := 20) (As := [.int u0]) (rest := []) hr rfl rfl rfl rfl rfl rfl rfl rfl rfl rfl rfl rfl (fun rv s1 hq => ev_kI hq (fun v2 e9 hr => ?_))
    subst e9
    refine ev_st (st' := [.int v2]) rfl ?_
    refine ev_seg 6 (k' := 80) (L' := [(3, .int u0), (0, .ref 13), (1, .int z1)]) (st' := [.int ((gI s1 13 14) + 1), .ref 13]) rfl ?_
    refine ev_putI (c := 13) hr rfl rfl rfl (fun s3 hr => ?_)
    refine ev_seg 1 (k' := 17) (L' := [(3, .int u0), (0, .ref 13), (1, .int z1)]) (st' := []) rfl ?_
    refine ev_join (L' := [(0, .ref 13), (1, .int z1)]) [1, 2] [3, 0, 1] [0, 1] rfl rfl (by decide) (by decide) rfl ?_
    exact hr
  · skip
    refine ev_seg 1 (k' := 69) (L' := [(3, .int u0), (0, .ref 13), (1, .int z1)]) (st' := [.int (-1)]) rfl ?_
    exact ev_iret hr rfl rfl rfl
set_option maxRecDepth 20000 in
theorem eTx_escape (d : Nat) (s : aT) : ∀ r, (wI s 13 14 ((gI s 13 14) + 1) (fun s1 => cG (fTx_peek d s1) (kI fun v3 s2 => if v3 = 34 then rI 34 s2 else if v3 = 47 then rI 47 s2 else if v3 = 92 then rI 92 s2 else if v3 = 98 then rI 8 s2 else if v3 = 102 then rI 12 s2 else if v3 = 110 then rI 10 s2 else if v3 = 114 then rI 13 s2 else if v3 = 116 then rI 9 s2 else if v3 = 117 then cG (fTx_fourDigits d (gI s 13 14) s2) (kI fun v14 s13 => rI v14 s13) else cG (fTx_failHere d s2) (kI fun v16 s15 => rI v16 s15)))) = some r → fTx_escape (d + 1) s = some r := by
  intro r hr
  show ev (d + 1) q_12 0 [(0, .ref 13)] [] s = some r
  refine ev_seg 8 (k' := 8) (L' := [(1, .int (gI s 13 14)), (0, .ref 13)]) (st' := [.int ((gI s 13 14) + 1), .ref 13]) rfl ?_
  refine ev_putI (c := 13) hr rfl rfl rfl (fun s1 hr => ?_)
  refine ev_seg 1 (k' := 10) (L' := [(1, .int (gI s 13 14)), (0, .ref 13)]) (st' := [.ref 13]) rfl ?_
  refine ev_callV (q' := q_5) (x := 5) (y := 1) (c := 13) (As := []) (rest := []) hr rfl rfl rfl rfl rfl rfl rfl rfl rfl rfl rfl rfl (fun rv s2 hq => ev_kI hq (fun v3 e9 hr => ?_))
  subst e9
  refine ev_st (st' := [.int v3]) rfl ?_
  refine ev_if hr (fun h4 hr => ?_) (fun h4 hr => ?_)
  · skip
    refine ev_look (o := 81) (t := 12) rfl rfl (by rw [h4]; rfl) rfl ?_
    refine ev_seg 1 (k' := 13) (L' := [(1, .int (gI s 13 14)), (0, .ref 13)]) (st' := [.int 34]) rfl ?_
    exact ev_iret hr rfl rfl rfl
  refine ev_if hr (fun h5 hr => ?_) (fun h5 hr => ?_)
  · skip
    refine ev_look (o := 87) (t := 16) rfl rfl (by rw [h5]; rfl) rfl ?_
    refine ev_seg 1 (k' := 17) (L' := [(1, .int (gI s 13 14)), (0, .ref 13)]) (st' := [.int 47]) rfl ?_
    exact ev_iret hr rfl rfl rfl
  refine ev_if hr (fun h6 hr => ?_) (fun h6 hr => ?_)
  · skip
    refine ev_look (o := 84) (t := 14) rfl rfl (by rw [h6]; rfl) rfl ?_
    refine ev_seg 1 (k' := 15) (L' := [(1, .int (gI s 13 14)), (0, .ref 13)]) (st' := [.int 92]) rfl ?_
    exact ev_iret hr rfl rfl rfl
  refine ev_if hr (fun h7 hr => ?_) (fun h7 hr => ?_)
  · skip
    refine ev_look (o := 90) (t := 18) rfl rfl (by rw [h7]; rfl) rfl ?_
    refine ev_seg 1 (k' := 19) (L' := [(1, .int (gI s 13 14)), (0, .ref 13)]) (st' := [.int 8]) rfl ?_
    exact ev_iret hr rfl rfl rfl
  refine ev_if hr (fun h8 hr => ?_) (fun h8 hr => ?_)
  · skip
    refine ev_look (o := 93) (t := 20) rfl rfl (by rw [h8]; rfl) rfl ?_
    refine ev_seg 1 (k' := 21) (L' := [(1, .int (gI s 13 14)), (0, .ref 13)]) (st' := [.int 12]) rfl ?_
    exact ev_iret hr rfl rfl rfl
  refine ev_if hr (fun h9 hr => ?_) (fun h9 hr => ?_)
  · skip
    refine ev_look (o := 96) (t := 22) rfl rfl (by rw [h9]; rfl) rfl ?_
    refine ev_seg 1 (k' := 23) (L' := [(1, .int (gI s 13 14)), (0, .ref 13)]) (st' := [.int 10]) rfl ?_
    exact ev_iret hr rfl rfl rfl
  refine ev_if hr (fun h10 hr => ?_) (fun h10 hr => ?_)
  · skip
    refine ev_look (o := 99) (t := 24) rfl rfl (by rw [h10]; rfl) rfl ?_
    refine ev_seg 1 (k' := 25) (L' := [(1, .int (gI s 13 14)), (0, .ref 13)]) (st' := [.int 13]) rfl ?_
    exact ev_iret hr rfl rfl rfl
  refine ev_if hr (fun h11 hr => ?_) (fun h11 hr => ?_)
  · skip
    refine ev_look (o := 102) (t := 26) rfl rfl (by rw [h11]; rfl) rfl ?_
    refine ev_seg 1 (k' := 27) (L' := [(1, .int (gI s 13 14)), (0, .ref 13)]) (st' := [.int 9]) rfl ?_
    exact ev_iret hr rfl rfl rfl
  refine ev_if hr (fun h12 hr => ?_) (fun h12 hr => ?_)
  · skip
    refine ev_look (o := 105) (t := 28) rfl rfl (by rw [h12]; rfl) rfl ?_
    refine ev_seg 2 (k' := 30) (L' := [(1, .int (gI s 13 14)), (0, .ref 13)]) (st' := [.int (gI s 13 14), .ref 13]) rfl ?_
    refine ev_callV (q' := q_13) (x := 13) (y := 1) (c := 13) (As := [.int (gI s 13 14)]) (rest := []) hr rfl rfl rfl rfl rfl rfl rfl rfl rfl rfl rfl rfl (fun rv s13 hq => ev_kI hq (fun v14 e9 hr => ?_))
    subst e9
    refine ev_st (st' := [.int v14]) rfl ?_
    exact ev_iret hr rfl rfl rfl
  refine ev_look (o := 111) (t := 32) rfl rfl (by have e0 := i_neL (z := 34) (w := 34) rfl h4; have e1 := i_neL (z := 47) (w := 47) rfl h5; have e2 := i_neL (z := 92) (w := 92) rfl h6; have e3 := i_neL (z := 98) (w := 98) rfl h7; have e4 := i_neL (z := 102) (w := 102) rfl h8; have e5 := i_neL (z := 110) (w := 110) rfl h9; have e6 := i_neL (z := 114) (w := 114) rfl h10; have e7 := i_neL (z := 116) (w := 116) rfl h11; have e8 := i_neL (z := 117) (w := 117) rfl h12; simp only [Op.lookupswitch.offset, if_neg (Ne.symm e0), if_neg (Ne.symm e1), if_neg (Ne.symm e2), if_neg (Ne.symm e3), if_neg (Ne.symm e4), if_neg (Ne.symm e5), if_neg (Ne.symm e6), if_neg (Ne.symm e7), if_neg (Ne.symm e8)]) rfl ?_
  refine ev_seg 1 (k' := 33) (L' := [(1, .int (gI s 13 14)), (0, .ref 13)]) (st' := [.ref 13]) rfl ?_
  refine ev_callV (q' := q_8) (x := 8) (y := 1) (c := 13) (As := []) (rest := []) hr rfl rfl rfl rfl rfl rfl rfl rfl rfl rfl rfl rfl (fun rv s15 hq => ev_kI hq (fun v16 e9 hr => ?_))
  subst e9
  refine ev_st (st' := [.int v16]) rfl ?_
  exact ev_iret hr rfl rfl rfl
set_option maxRecDepth 20000 in
theorem eTx_fourDigits (d : Nat) (x1 : Int32) (s : aT) : ∀ r, (fTx_fourDigits_4 (d + 1) x1 0 0 s) = some r → fTx_fourDigits (d + 1) x1 s = some r := by
  intro r hr
  show ev (d + 1) q_13 0 [(0, .ref 13), (1, .int x1)] [] s = some r
  refine ev_seg 4 (k' := 4) (L' := [(3, .int 0), (2, .int 0), (0, .ref 13), (1, .int x1)]) (st' := []) rfl ?_
  refine ev_join (L' := [(0, .ref 13), (1, .int x1), (2, .int 0), (3, .int 0)]) [2, 3, 1, 0] [3, 2, 0, 1] [0, 1, 2, 3] rfl rfl (by decide) (by decide) rfl ?_
  exact hr
set_option maxRecDepth 20000 in
theorem eTx_fourDigits_4 (d : Nat) (x1 : Int32) (z2 : Int32) (z3 : Int32) (s : aT) : ∀ r, (if 4 ≤ z3 then if z2 ≤ 255 then rI z2 s else cG (fTx_failAt d x1 s) (kI fun v2 s1 => rI v2 s1) else wI s 13 14 ((gI s 13 14) + 1) (fun s3 => cG (fTx_peek d s3) (kI fun v5 s4 => cG (fTx_hexDigit d v5 s4) (kI fun v7 s6 => if ¬ v7 = (-1) then fTx_fourDigits_4 (d + 1) x1 ((z2 * 16) + v7) (z3 + 1) s6 else cG (fTx_failHere d s6) (kI fun v9 s8 => rI v9 s8))))) = some r → fTx_fourDigits_4 (d + 1) x1 z2 z3 s = some r := by
  intro r hr
  show ev (d + 1) q_13 4 [(0, .ref 13), (1, .int x1), (2, .int z2), (3, .int z3)] [] s = some r
  refine ev_seg 2 (k' := 6) (L' := [(0, .ref 13), (1, .int x1), (2, .int z2), (3, .int z3)]) (st' := [.int 4, .int z3]) rfl ?_
  refine ev_br (P := 4 ≤ z3) (L' := [(0, .ref 13), (1, .int x1), (2, .int z2), (3, .int z3)]) (st' := []) hr rfl rfl rfl (fun hr => ?_) (fun hr => ?_)
  · skip
    refine ev_seg 2 (k' := 33) (L' := [(0, .ref 13), (1, .int x1), (2, .int z2), (3, .int z3)]) (st' := [.int 255, .int z2]) rfl ?_
    refine ev_br (P := z2 ≤ 255) (L' := [(0, .ref 13), (1, .int x1), (2, .int z2), (3, .int z3)]) (st' := []) hr rfl rfl rfl (fun hr => ?_) (fun hr => ?_)
    · skip
      refine ev_seg 1 (k' := 39) (L' := [(0, .ref 13), (1, .int x1), (2, .int z2), (3, .int z3)]) (st' := [.int z2]) rfl ?_
      exact ev_iret hr rfl rfl rfl
    · skip
      refine ev_seg 2 (k' := 36) (L' := [(0, .ref 13), (1, .int x1), (2, .int z2), (3, .int z3)]) (st' := [.int x1, .ref 13]) rfl ?_
      refine ev_callV (q' := q_15) (x := 15) (y := 1) (c := 13) (As := [.int x1]) (rest := []) hr rfl rfl rfl rfl rfl rfl rfl rfl rfl rfl rfl rfl (fun rv s1 hq => ev_kI hq (fun v2 e9 hr => ?_))
      subst e9
      refine ev_st (st' := [.int v2]) rfl ?_
      refine ev_seg 1 (k' := 39) (L' := [(0, .ref 13), (1, .int x1), (2, .int z2), (3, .int z3)]) (st' := [.int v2]) rfl ?_
      exact ev_iret hr rfl rfl rfl
  · skip
    refine ev_seg 5 (k' := 12) (L' := [(0, .ref 13), (1, .int x1), (2, .int z2), (3, .int z3)]) (st' := [.int ((gI s 13 14) + 1), .ref 13]) rfl ?_
    refine ev_putI (c := 13) hr rfl rfl rfl (fun s3 hr => ?_)
    refine ev_seg 1 (k' := 14) (L' := [(0, .ref 13), (1, .int x1), (2, .int z2), (3, .int z3)]) (st' := [.ref 13]) rfl ?_
    refine ev_callV (q' := q_5) (x := 5) (y := 1) (c := 13) (As := []) (rest := []) hr rfl rfl rfl rfl rfl rfl rfl rfl rfl rfl rfl rfl (fun rv s4 hq => ev_kI hq (fun v5 e9 hr => ?_))
    subst e9
    refine ev_st (st' := [.int v5]) rfl ?_
    refine ev_callS (q' := q_14) (x := 14) (vs := [.int v5]) (rest := []) hr rfl rfl rfl rfl rfl rfl rfl rfl rfl rfl (fun rv s6 hq => ev_kI hq (fun v7 e9 hr => ?_))
    subst e9
    refine ev_st (st' := [.int v7]) rfl ?_
    refine ev_seg 3 (k' := 19) (L' := [(4, .int v7), (0, .ref 13), (1, .int x1), (2, .int z2), (3, .int z3)]) (st' := [.int (-1), .int v7]) rfl ?_
    refine ev_br (P := ¬ v7 = (-1)) (L' := [(4, .int v7), (0, .ref 13), (1, .int x1), (2, .int z2), (3, .int z3)]) (st' := []) hr rfl rfl rfl (fun hr => ?_) (fun hr => ?_)
    · skip
      refine ev_seg 8 (k' := 4) (L' := [(3, .int (z3 + 1)), (2, .int ((z2 * 16) + v7)), (4, .int v7), (0, .ref 13), (1, .int x1)]) (st' := []) rfl ?_
      refine ev_join (L' := [(0, .ref 13), (1, .int x1), (2, .int ((z2 * 16) + v7)), (3, .int (z3 + 1))]) [3, 4, 1, 0] [3, 2, 4, 0, 1] [0, 1, 2, 3] rfl rfl (by decide) (by decide) rfl ?_
      exact hr
    · skip
      refine ev_seg 1 (k' := 21) (L' := [(4, .int v7), (0, .ref 13), (1, .int x1), (2, .int z2), (3, .int z3)]) (st' := [.ref 13]) rfl ?_
      refine ev_callV (q' := q_8) (x := 8) (y := 1) (c := 13) (As := []) (rest := []) hr rfl rfl rfl rfl rfl rfl rfl rfl rfl rfl rfl rfl (fun rv s8 hq => ev_kI hq (fun v9 e9 hr => ?_))
      subst e9
      refine ev_st (st' := [.int v9]) rfl ?_
      exact ev_iret hr rfl rfl rfl
set_option maxRecDepth 20000 in
theorem eTx_hexDigit (d : Nat) (x0 : Int32) (s : aT) : ∀ r, (if x0 < 48 then fTx_hexDigit_10 d x0 s else if 57 < x0 then fTx_hexDigit_10 d x0 s else rI (x0 - 48) s) = some r → fTx_hexDigit d x0 s = some r := by
  intro r hr
  show ev d q_14 0 [(0, .int x0)] [] s = some r
  refine ev_seg 2 (k' := 2) (L' := [(0, .int x0)]) (st' := [.int 48, .int x0]) rfl ?_
  refine ev_br (P := x0 < 48) (L' := [(0, .int x0)]) (st' := []) hr rfl rfl rfl (fun hr => ?_) (fun hr => ?_)
  · skip
    exact hr
  · skip
    refine ev_seg 2 (k' := 5) (L' := [(0, .int x0)]) (st' := [.int 57, .int x0]) rfl ?_
    refine ev_br (P := 57 < x0) (L' := [(0, .int x0)]) (st' := []) hr rfl rfl rfl (fun hr => ?_) (fun hr => ?_)
    · skip
      exact hr
    · skip
      refine ev_seg 3 (k' := 9) (L' := [(0, .int x0)]) (st' := [.int (x0 - 48)]) rfl ?_
      exact ev_iret hr rfl rfl rfl
set_option maxRecDepth 20000 in
theorem eTx_hexDigit_10 (d : Nat) (x0 : Int32) (s : aT) : ∀ r, (if x0 < 97 then fTx_hexDigit_22 d x0 s else if 102 < x0 then fTx_hexDigit_22 d x0 s else rI ((x0 - 97) + 10) s) = some r → fTx_hexDigit_10 d x0 s = some r := by
  intro r hr
  show ev d q_14 10 [(0, .int x0)] [] s = some r
  refine ev_seg 2 (k' := 12) (L' := [(0, .int x0)]) (st' := [.int 97, .int x0]) rfl ?_
  refine ev_br (P := x0 < 97) (L' := [(0, .int x0)]) (st' := []) hr rfl rfl rfl (fun hr => ?_) (fun hr => ?_)
  · skip
    exact hr
  · skip
    refine ev_seg 2 (k' := 15) (L' := [(0, .int x0)]) (st' := [.int 102, .int x0]) rfl ?_
    refine ev_br (P := 102 < x0) (L' := [(0, .int x0)]) (st' := []) hr rfl rfl rfl (fun hr => ?_) (fun hr => ?_)
    · skip
      exact hr
    · skip
      refine ev_seg 5 (k' := 21) (L' := [(0, .int x0)]) (st' := [.int ((x0 - 97) + 10)]) rfl ?_
      exact ev_iret hr rfl rfl rfl
set_option maxRecDepth 20000 in
theorem eTx_hexDigit_22 (d : Nat) (x0 : Int32) (s : aT) : ∀ r, (if x0 < 65 then rI (-1) s else if 70 < x0 then rI (-1) s else rI ((x0 - 65) + 10) s) = some r → fTx_hexDigit_22 d x0 s = some r := by
  intro r hr
  show ev d q_14 22 [(0, .int x0)] [] s = some r
  refine ev_seg 2 (k' := 24) (L' := [(0, .int x0)]) (st' := [.int 65, .int x0]) rfl ?_
  refine ev_br (P := x0 < 65) (L' := [(0, .int x0)]) (st' := []) hr rfl rfl rfl (fun hr => ?_) (fun hr => ?_)
  · skip
    refine ev_seg 1 (k' := 35) (L' := [(0, .int x0)]) (st' := [.int (-1)]) rfl ?_
    exact ev_iret hr rfl rfl rfl
  · skip
    refine ev_seg 2 (k' := 27) (L' := [(0, .int x0)]) (st' := [.int 70, .int x0]) rfl ?_
    refine ev_br (P := 70 < x0) (L' := [(0, .int x0)]) (st' := []) hr rfl rfl rfl (fun hr => ?_) (fun hr => ?_)
    · skip
      refine ev_seg 1 (k' := 35) (L' := [(0, .int x0)]) (st' := [.int (-1)]) rfl ?_
      exact ev_iret hr rfl rfl rfl
    · skip
      refine ev_seg 6 (k' := 35) (L' := [(0, .int x0)]) (st' := [.int ((x0 - 65) + 10)]) rfl ?_
      exact ev_iret hr rfl rfl rfl
set_option maxRecDepth 20000 in
theorem eTx_failAt (d : Nat) (x1 : Int32) (s : aT) : ∀ r, (wI s 13 10 x1 (fun s1 => rI (-1) s1)) = some r → fTx_failAt d x1 s = some r := by
  intro r hr
  show ev d q_15 0 [(0, .ref 13), (1, .int x1)] [] s = some r
  refine ev_seg 2 (k' := 2) (L' := [(0, .ref 13), (1, .int x1)]) (st' := [.int x1, .ref 13]) rfl ?_
  refine ev_putI (c := 13) hr rfl rfl rfl (fun s1 hr => ?_)
  refine ev_seg 1 (k' := 4) (L' := [(0, .ref 13), (1, .int x1)]) (st' := [.int (-1)]) rfl ?_
  exact ev_iret hr rfl rfl rfl
set_option maxRecDepth 20000 in
theorem eTx_memberNamed (d : Nat) (x1 : Int32) (a2 : Nat) (x3 : Int32) (x4 : Int32) (s : aT) : ∀ r, (ldI 4096 s 16 x1 (fun v1 => fTx_memberNamed_7 (d + 1) x1 a2 x3 x4 v1 0 s)) = some r → fTx_memberNamed (d + 1) x1 a2 x3 x4 s = some r := by
  intro r hr
  show ev (d + 1) q_17 0 [(0, .ref 13), (1, .int x1), (2, .ref a2), (3, .int x3), (4, .int x4)] [] s = some r
  refine ev_seg 3 (k' := 3) (L' := [(0, .ref 13), (1, .int x1), (2, .ref a2), (3, .int x3), (4, .int x4)]) (st' := [.int x1, .ref 16]) rfl ?_
  refine ev_ldI hr rfl rfl (fun v1 hr => ?_)
  refine ev_seg 3 (k' := 7) (L' := [(6, .int 0), (5, .int v1), (0, .ref 13), (1, .int x1), (2, .ref a2), (3, .int x3), (4, .int x4)]) (st' := []) rfl ?_
  refine ev_join (L' := [(0, .ref 13), (1, .int x1), (2, .ref a2), (3, .int x3), (4, .int x4), (5, .int v1), (6, .int 0)]) [2, 3, 4, 5, 6, 1, 0] [6, 5, 0, 1, 2, 3, 4] [0, 1, 2, 3, 4, 5, 6] rfl rfl (by decide) (by decide) rfl ?_
  exact hr
set_option maxRecDepth 20000 in
theorem eTx_memberNamed_7 (d : Nat) (x1 : Int32) (a2 : Nat) (x3 : Int32) (x4 : Int32) (z5 : Int32) (z6 : Int32) (s : aT) : ∀ r, (ldI 4096 s 17 x1 (fun v1 => if v1 ≤ z6 then rI (-1) s else if z5 = (-1) then rI (-1) s else cG (fTx_tellsBytes d z5 a2 x3 x4 s) (kI fun v3 s2 => if v3 = 0 then ldI 4096 s2 18 z5 (fun v4 => ldI 4096 s2 18 v4 (fun v5 => fTx_memberNamed_7 (d + 1) x1 a2 x3 x4 v5 (z6 + 2) s2)) else ldI 4096 s2 18 z5 (fun v6 => rI v6 s2)))) = some r → fTx_memberNamed_7 (d + 1) x1 a2 x3 x4 z5 z6 s = some r := by
  intro r hr
  show ev (d + 1) q_17 7 [(0, .ref 13), (1, .int x1), (2, .ref a2), (3, .int x3), (4, .int x4), (5, .int z5), (6, .int z6)] [] s = some r
  refine ev_seg 4 (k' := 11) (L' := [(0, .ref 13), (1, .int x1), (2, .ref a2), (3, .int x3), (4, .int x4), (5, .int z5), (6, .int z6)]) (st' := [.int x1, .ref 17, .int z6]) rfl ?_
  refine ev_ldI hr rfl rfl (fun v1 hr => ?_)
  refine ev_br (P := v1 ≤ z6) (L' := [(0, .ref 13), (1, .int x1), (2, .ref a2), (3, .int x3), (4, .int x4), (5, .int z5), (6, .int z6)]) (st' := []) hr rfl rfl rfl (fun hr => ?_) (fun hr => ?_)
  · skip
    refine ev_seg 1 (k' := 39) (L' := [(0, .ref 13), (1, .int x1), (2, .ref a2), (3, .int x3), (4, .int x4), (5, .int z5), (6, .int z6)]) (st' := [.int (-1)]) rfl ?_
    exact ev_iret hr rfl rfl rfl
  · skip
    refine ev_seg 2 (k' := 15) (L' := [(0, .ref 13), (1, .int x1), (2, .ref a2), (3, .int x3), (4, .int x4), (5, .int z5), (6, .int z6)]) (st' := [.int (-1), .int z5]) rfl ?_
    refine ev_br (P := z5 = (-1)) (L' := [(0, .ref 13), (1, .int x1), (2, .ref a2), (3, .int x3), (4, .int x4), (5, .int z5), (6, .int z6)]) (st' := []) hr rfl rfl rfl (fun hr => ?_) (fun hr => ?_)
    · skip
      refine ev_seg 1 (k' := 39) (L' := [(0, .ref 13), (1, .int x1), (2, .ref a2), (3, .int x3), (4, .int x4), (5, .int z5), (6, .int z6)]) (st' := [.int (-1)]) rfl ?_
      exact ev_iret hr rfl rfl rfl
    · skip
      refine ev_seg 5 (k' := 21) (L' := [(0, .ref 13), (1, .int x1), (2, .ref a2), (3, .int x3), (4, .int x4), (5, .int z5), (6, .int z6)]) (st' := [.int x4, .int x3, .ref a2, .int z5, .ref 13]) rfl ?_
      refine ev_callV (q' := q_18) (x := 18) (y := 1) (c := 13) (As := [.int z5, .ref a2, .int x3, .int x4]) (rest := []) hr rfl rfl rfl rfl rfl rfl rfl rfl rfl rfl rfl rfl (fun rv s2 hq => ev_kI hq (fun v3 e9 hr => ?_))
      subst e9
      refine ev_st (st' := [.int v3]) rfl ?_
      refine ev_br (P := v3 = 0) (L' := [(0, .ref 13), (1, .int x1), (2, .ref a2), (3, .int x3), (4, .int x4), (5, .int z5), (6, .int z6)]) (st' := []) hr rfl rfl rfl (fun hr => ?_) (fun hr => ?_)
      · skip
        refine ev_seg 5 (k' := 33) (L' := [(0, .ref 13), (1, .int x1), (2, .ref a2), (3, .int x3), (4, .int x4), (5, .int z5), (6, .int z6)]) (st' := [.int z5, .ref 18, .ref 18]) rfl ?_
        refine ev_ldI hr rfl rfl (fun v4 hr => ?_)
        refine ev_ldI hr rfl rfl (fun v5 hr => ?_)
        refine ev_seg 3 (k' := 7) (L' := [(6, .int (z6 + 2)), (5, .int v5), (0, .ref 13), (1, .int x1), (2, .ref a2), (3, .int x3), (4, .int x4)]) (st' := []) rfl ?_
        refine ev_join (L' := [(0, .ref 13), (1, .int x1), (2, .ref a2), (3, .int x3), (4, .int x4), (5, .int v5), (6, .int (z6 + 2))]) [2, 3, 4, 5, 6, 1, 0] [6, 5, 0, 1, 2, 3, 4] [0, 1, 2, 3, 4, 5, 6] rfl rfl (by decide) (by decide) rfl ?_
        exact hr
      · skip
        refine ev_seg 3 (k' := 26) (L' := [(0, .ref 13), (1, .int x1), (2, .ref a2), (3, .int x3), (4, .int x4), (5, .int z5), (6, .int z6)]) (st' := [.int z5, .ref 18]) rfl ?_
        refine ev_ldI hr rfl rfl (fun v6 hr => ?_)
        exact ev_iret hr rfl rfl rfl
set_option maxRecDepth 20000 in
theorem eTx_tellsBytes (d : Nat) (x1 : Int32) (a2 : Nat) (x3 : Int32) (x4 : Int32) (s : aT) : ∀ r, (ldI 4096 s 14 x1 (fun v1 => if ¬ v1 = 2 then rI 0 s else ldI 4096 s 17 x1 (fun v2 => if v2 = x4 then fTx_tellsBytes_16 d x1 a2 x3 x4 0 s else rI 0 s))) = some r → fTx_tellsBytes d x1 a2 x3 x4 s = some r := by
  intro r hr
  show ev d q_18 0 [(0, .ref 13), (1, .int x1), (2, .ref a2), (3, .int x3), (4, .int x4)] [] s = some r
  refine ev_seg 3 (k' := 3) (L' := [(0, .ref 13), (1, .int x1), (2, .ref a2), (3, .int x3), (4, .int x4)]) (st' := [.int x1, .ref 14]) rfl ?_
  refine ev_ldI hr rfl rfl (fun v1 hr => ?_)
  refine ev_seg 1 (k' := 5) (L' := [(0, .ref 13), (1, .int x1), (2, .ref a2), (3, .int x3), (4, .int x4)]) (st' := [.int 2, .int v1]) rfl ?_
  refine ev_br (P := ¬ v1 = 2) (L' := [(0, .ref 13), (1, .int x1), (2, .ref a2), (3, .int x3), (4, .int x4)]) (st' := []) hr rfl rfl rfl (fun hr => ?_) (fun hr => ?_)
  · skip
    refine ev_seg 1 (k' := 13) (L' := [(0, .ref 13), (1, .int x1), (2, .ref a2), (3, .int x3), (4, .int x4)]) (st' := [.int 0]) rfl ?_
    exact ev_iret hr rfl rfl rfl
  · skip
    refine ev_seg 3 (k' := 9) (L' := [(0, .ref 13), (1, .int x1), (2, .ref a2), (3, .int x3), (4, .int x4)]) (st' := [.int x1, .ref 17]) rfl ?_
    refine ev_ldI hr rfl rfl (fun v2 hr => ?_)
    refine ev_seg 1 (k' := 11) (L' := [(0, .ref 13), (1, .int x1), (2, .ref a2), (3, .int x3), (4, .int x4)]) (st' := [.int x4, .int v2]) rfl ?_
    refine ev_br (P := v2 = x4) (L' := [(0, .ref 13), (1, .int x1), (2, .ref a2), (3, .int x3), (4, .int x4)]) (st' := []) hr rfl rfl rfl (fun hr => ?_) (fun hr => ?_)
    · skip
      refine ev_seg 2 (k' := 16) (L' := [(5, .int 0), (0, .ref 13), (1, .int x1), (2, .ref a2), (3, .int x3), (4, .int x4)]) (st' := []) rfl ?_
      refine ev_join (L' := [(0, .ref 13), (1, .int x1), (2, .ref a2), (3, .int x3), (4, .int x4), (5, .int 0)]) [1, 2, 3, 4, 5, 0] [5, 0, 1, 2, 3, 4] [0, 1, 2, 3, 4, 5] rfl rfl (by decide) (by decide) rfl ?_
      exact hr
    · skip
      refine ev_seg 1 (k' := 13) (L' := [(0, .ref 13), (1, .int x1), (2, .ref a2), (3, .int x3), (4, .int x4)]) (st' := [.int 0]) rfl ?_
      exact ev_iret hr rfl rfl rfl
set_option maxRecDepth 20000 in
theorem eTx_tellsBytes_16 (d : Nat) (x1 : Int32) (a2 : Nat) (x3 : Int32) (x4 : Int32) (z5 : Int32) (s : aT) : ∀ r, (if x4 ≤ z5 then rI 1 s else ldI 4096 s 16 x1 (fun v1 => ldI 4096 s 21 (v1 + z5) (fun v2 => ldI (alen a2) s a2 (x3 + z5) (fun v3 => if v2 = v3 then fTx_tellsBytes_16 d x1 a2 x3 x4 (z5 + 1) s else rI 0 s)))) = some r → fTx_tellsBytes_16 d x1 a2 x3 x4 z5 s = some r := by
  intro r hr
  show ev d q_18 16 [(0, .ref 13), (1, .int x1), (2, .ref a2), (3, .int x3), (4, .int x4), (5, .int z5)] [] s = some r
  refine ev_seg 2 (k' := 18) (L' := [(0, .ref 13), (1, .int x1), (2, .ref a2), (3, .int x3), (4, .int x4), (5, .int z5)]) (st' := [.int x4, .int z5]) rfl ?_
  refine ev_br (P := x4 ≤ z5) (L' := [(0, .ref 13), (1, .int x1), (2, .ref a2), (3, .int x3), (4, .int x4), (5, .int z5)]) (st' := []) hr rfl rfl rfl (fun hr => ?_) (fun hr => ?_)
  · skip
    refine ev_seg 1 (k' := 40) (L' := [(0, .ref 13), (1, .int x1), (2, .ref a2), (3, .int x3), (4, .int x4), (5, .int z5)]) (st' := [.int 1]) rfl ?_
    exact ev_iret hr rfl rfl rfl
  · skip
    refine ev_seg 6 (k' := 25) (L' := [(0, .ref 13), (1, .int x1), (2, .ref a2), (3, .int x3), (4, .int x4), (5, .int z5)]) (st' := [.int x1, .ref 16, .ref 21]) rfl ?_
    refine ev_ldI hr rfl rfl (fun v1 hr => ?_)
    refine ev_seg 2 (k' := 28) (L' := [(0, .ref 13), (1, .int x1), (2, .ref a2), (3, .int x3), (4, .int x4), (5, .int z5)]) (st' := [.int (v1 + z5), .ref 21]) rfl ?_
    refine ev_ldB hr rfl rfl (fun v2 hr => ?_)
    refine ev_seg 4 (k' := 33) (L' := [(0, .ref 13), (1, .int x1), (2, .ref a2), (3, .int x3), (4, .int x4), (5, .int z5)]) (st' := [.int (x3 + z5), .ref a2, .int v2]) rfl ?_
    refine ev_ldX hr rfl (fun v3 hr => ?_)
    refine ev_br (P := v2 = v3) (L' := [(0, .ref 13), (1, .int x1), (2, .ref a2), (3, .int x3), (4, .int x4), (5, .int z5)]) (st' := []) hr rfl rfl rfl (fun hr => ?_) (fun hr => ?_)
    · skip
      refine ev_seg 2 (k' := 16) (L' := [(5, .int (z5 + 1)), (0, .ref 13), (1, .int x1), (2, .ref a2), (3, .int x3), (4, .int x4)]) (st' := []) rfl ?_
      refine ev_join (L' := [(0, .ref 13), (1, .int x1), (2, .ref a2), (3, .int x3), (4, .int x4), (5, .int (z5 + 1))]) [1, 2, 3, 4, 5, 0] [5, 0, 1, 2, 3, 4] [0, 1, 2, 3, 4, 5] rfl rfl (by decide) (by decide) rfl ?_
      exact hr
    · skip
      refine ev_seg 1 (k' := 36) (L' := [(0, .ref 13), (1, .int x1), (2, .ref a2), (3, .int x3), (4, .int x4), (5, .int z5)]) (st' := [.int 0]) rfl ?_
      exact ev_iret hr rfl rfl rfl
set_option maxRecDepth 20000 in
theorem eTx_link (d : Nat) (x1 : Int32) (x2 : Int32) (x3 : Int32) (s : aT) : ∀ r, (if ¬ x2 = (-1) then stI 4096 s 18 x2 x3 (fun s1 => fTx_link_14 d x1 x3 s1) else stI 4096 s 16 x1 x3 (fun s2 => fTx_link_14 d x1 x3 s2)) = some r → fTx_link d x1 x2 x3 s = some r := by
  intro r hr
  show ev d q_19 0 [(0, .ref 13), (1, .int x1), (2, .int x2), (3, .int x3)] [] s = some r
  refine ev_seg 2 (k' := 2) (L' := [(0, .ref 13), (1, .int x1), (2, .int x2), (3, .int x3)]) (st' := [.int (-1), .int x2]) rfl ?_
  refine ev_br (P := ¬ x2 = (-1)) (L' := [(0, .ref 13), (1, .int x1), (2, .int x2), (3, .int x3)]) (st' := []) hr rfl rfl rfl (fun hr => ?_) (fun hr => ?_)
  · skip
    refine ev_seg 4 (k' := 13) (L' := [(0, .ref 13), (1, .int x1), (2, .int x2), (3, .int x3)]) (st' := [.int x3, .int x2, .ref 18]) rfl ?_
    refine ev_stI hr rfl rfl (fun s1 hr => ?_)
    refine ev_join (L' := [(0, .ref 13), (1, .int x1), (3, .int x3)]) [0, 1, 3] [0, 1, 2, 3] [0, 1, 3] rfl rfl (by decide) (by decide) rfl ?_
    exact hr
  · skip
    refine ev_seg 4 (k' := 7) (L' := [(0, .ref 13), (1, .int x1), (2, .int x2), (3, .int x3)]) (st' := [.int x3, .int x1, .ref 16]) rfl ?_
    refine ev_stI hr rfl rfl (fun s2 hr => ?_)
    refine ev_seg 1 (k' := 14) (L' := [(0, .ref 13), (1, .int x1), (2, .int x2), (3, .int x3)]) (st' := []) rfl ?_
    refine ev_join (L' := [(0, .ref 13), (1, .int x1), (3, .int x3)]) [0, 1, 3] [0, 1, 2, 3] [0, 1, 3] rfl rfl (by decide) (by decide) rfl ?_
    exact hr
set_option maxRecDepth 20000 in
theorem eTx_link_14 (d : Nat) (x1 : Int32) (x3 : Int32) (s : aT) : ∀ r, (ldI 4096 s 17 x1 (fun v1 => stI 4096 s 17 x1 (v1 + 1) (fun s2 => rI x3 s2))) = some r → fTx_link_14 d x1 x3 s = some r := by
  intro r hr
  show ev d q_19 14 [(0, .ref 13), (1, .int x1), (3, .int x3)] [] s = some r
  refine ev_seg 4 (k' := 18) (L' := [(0, .ref 13), (1, .int x1), (3, .int x3)]) (st' := [.int x1, .ref 17, .int x1, .ref 17]) rfl ?_
  refine ev_ldI hr rfl rfl (fun v1 hr => ?_)
  refine ev_seg 2 (k' := 21) (L' := [(0, .ref 13), (1, .int x1), (3, .int x3)]) (st' := [.int (v1 + 1), .int x1, .ref 17]) rfl ?_
  refine ev_stI hr rfl rfl (fun s2 hr => ?_)
  refine ev_seg 1 (k' := 23) (L' := [(0, .ref 13), (1, .int x1), (3, .int x3)]) (st' := [.int x3]) rfl ?_
  exact ev_iret hr rfl rfl rfl
set_option maxRecDepth 20000 in
theorem eTx_separator (d : Nat) (x1 : Int32) (s : aT) : ∀ r, (cG (fTx_skipBlanks d s) (kV fun s1 => cG (fTx_peek d s1) (kI fun v3 s2 => if v3 = 44 then fTx_separator_14 (d + 1) v3 s2 else if v3 = x1 then fTx_separator_14 (d + 1) v3 s2 else cG (fTx_failHere d s2) (kI fun v5 s4 => rI v5 s4)))) = some r → fTx_separator (d + 1) x1 s = some r := by
  intro r hr
  show ev (d + 1) q_20 0 [(0, .ref 13), (1, .int x1)] [] s = some r
  refine ev_seg 1 (k' := 1) (L' := [(0, .ref 13), (1, .int x1)]) (st' := [.ref 13]) rfl ?_
  refine ev_callV (q' := q_4) (x := 4) (y := 1) (c := 13) (As := []) (rest := []) hr rfl rfl rfl rfl rfl rfl rfl rfl rfl rfl rfl rfl (fun rv s1 hq => ev_kV hq (fun e9 hr => ?_))
  subst e9
  refine ev_st (st' := []) rfl ?_
  refine ev_seg 1 (k' := 3) (L' := [(0, .ref 13), (1, .int x1)]) (st' := [.ref 13]) rfl ?_
  refine ev_callV (q' := q_5) (x := 5) (y := 1) (c := 13) (As := []) (rest := []) hr rfl rfl rfl rfl rfl rfl rfl rfl rfl rfl rfl rfl (fun rv s2 hq => ev_kI hq (fun v3 e9 hr => ?_))
  subst e9
  refine ev_st (st' := [.int v3]) rfl ?_
  refine ev_seg 3 (k' := 7) (L' := [(2, .int v3), (0, .ref 13), (1, .int x1)]) (st' := [.int 44, .int v3]) rfl ?_
  refine ev_br (P := v3 = 44) (L' := [(2, .int v3), (0, .ref 13), (1, .int x1)]) (st' := []) hr rfl rfl rfl (fun hr => ?_) (fun hr => ?_)
  · skip
    refine ev_join (L' := [(0, .ref 13), (2, .int v3)]) [1, 0] [2, 0, 1] [0, 2] rfl rfl (by decide) (by decide) rfl ?_
    exact hr
  · skip
    refine ev_seg 2 (k' := 10) (L' := [(2, .int v3), (0, .ref 13), (1, .int x1)]) (st' := [.int x1, .int v3]) rfl ?_
    refine ev_br (P := v3 = x1) (L' := [(2, .int v3), (0, .ref 13), (1, .int x1)]) (st' := []) hr rfl rfl rfl (fun hr => ?_) (fun hr => ?_)
    · skip
      refine ev_join (L' := [(0, .ref 13), (2, .int v3)]) [1, 0] [2, 0, 1] [0, 2] rfl rfl (by decide) (by decide) rfl ?_
      exact hr
    · skip
      refine ev_seg 1 (k' := 12) (L' := [(2, .int v3), (0, .ref 13), (1, .int x1)]) (st' := [.ref 13]) rfl ?_
      refine ev_callV (q' := q_8) (x := 8) (y := 1) (c := 13) (As := []) (rest := []) hr rfl rfl rfl rfl rfl rfl rfl rfl rfl rfl rfl rfl (fun rv s4 hq => ev_kI hq (fun v5 e9 hr => ?_))
      subst e9
      refine ev_st (st' := [.int v5]) rfl ?_
      exact ev_iret hr rfl rfl rfl
set_option maxRecDepth 20000 in
theorem eTx_separator_14 (d : Nat) (z2 : Int32) (s : aT) : ∀ r, (wI s 13 14 ((gI s 13 14) + 1) (fun s1 => rI z2 s1)) = some r → fTx_separator_14 (d + 1) z2 s = some r := by
  intro r hr
  show ev (d + 1) q_20 14 [(0, .ref 13), (2, .int z2)] [] s = some r
  refine ev_seg 5 (k' := 19) (L' := [(0, .ref 13), (2, .int z2)]) (st' := [.int ((gI s 13 14) + 1), .ref 13]) rfl ?_
  refine ev_putI (c := 13) hr rfl rfl rfl (fun s1 hr => ?_)
  refine ev_seg 1 (k' := 21) (L' := [(0, .ref 13), (2, .int z2)]) (st' := [.int z2]) rfl ?_
  exact ev_iret hr rfl rfl rfl
set_option maxRecDepth 20000 in
theorem eTx_listOfValues (d : Nat) (x1 : Int32) (s : aT) : ∀ r, (if x1 < 24 then cG (fTx_add d 1 s) (kI fun v2 s1 => wI s1 13 14 ((gI s1 13 14) + 1) (fun s3 => cG (fTx_skipBlanks d s3) (kV fun s4 => cG (fTx_peek d s4) (kI fun v6 s5 => if ¬ v6 = 93 then fTx_listOfValues_34 (d + 1) x1 v2 (-1) 0 s5 else wI s5 13 14 ((gI s5 13 14) + 1) (fun s7 => rI v2 s7))))) else cG (fTx_failHere d s) (kI fun v9 s8 => rI v9 s8)) = some r → fTx_listOfValues (d + 1) x1 s = some r := by
  intro r hr
  show ev (d + 1) q_21 0 [(0, .ref 13), (1, .int x1)] [] s = some r
  refine ev_seg 2 (k' := 2) (L' := [(0, .ref 13), (1, .int x1)]) (st' := [.int 24, .int x1]) rfl ?_
  refine ev_br (P := x1 < 24) (L' := [(0, .ref 13), (1, .int x1)]) (st' := []) hr rfl rfl rfl (fun hr => ?_) (fun hr => ?_)
  · skip
    refine ev_seg 2 (k' := 8) (L' := [(0, .ref 13), (1, .int x1)]) (st' := [.int 1, .ref 13]) rfl ?_
    refine ev_callV (q' := q_9) (x := 9) (y := 1) (c := 13) (As := [.int 1]) (rest := []) hr rfl rfl rfl rfl rfl rfl rfl rfl rfl rfl rfl rfl (fun rv s1 hq => ev_kI hq (fun v2 e9 hr => ?_))
    subst e9
    refine ev_st (st' := [.int v2]) rfl ?_
    refine ev_seg 6 (k' := 15) (L' := [(2, .int v2), (0, .ref 13), (1, .int x1)]) (st' := [.int ((gI s1 13 14) + 1), .ref 13]) rfl ?_
    refine ev_putI (c := 13) hr rfl rfl rfl (fun s3 hr => ?_)
    refine ev_seg 1 (k' := 17) (L' := [(2, .int v2), (0, .ref 13), (1, .int x1)]) (st' := [.ref 13]) rfl ?_
    refine ev_callV (q' := q_4) (x := 4) (y := 1) (c := 13) (As := []) (rest := []) hr rfl rfl rfl rfl rfl rfl rfl rfl rfl rfl rfl rfl (fun rv s4 hq => ev_kV hq (fun e9 hr => ?_))
    subst e9
    refine ev_st (st' := []) rfl ?_
    refine ev_seg 1 (k' := 19) (L' := [(2, .int v2), (0, .ref 13), (1, .int x1)]) (st' := [.ref 13]) rfl ?_
    refine ev_callV (q' := q_5) (x := 5) (y := 1) (c := 13) (As := []) (rest := []) hr rfl rfl rfl rfl rfl rfl rfl rfl rfl rfl rfl rfl (fun rv s5 hq => ev_kI hq (fun v6 e9 hr => ?_))
    subst e9
    refine ev_st (st' := [.int v6]) rfl ?_
    refine ev_seg 1 (k' := 21) (L' := [(2, .int v2), (0, .ref 13), (1, .int x1)]) (st' := [.int 93, .int v6]) rfl ?_
    refine ev_br (P := ¬ v6 = 93) (L' := [(2, .int v2), (0, .ref 13), (1, .int x1)]) (st' := []) hr rfl rfl rfl (fun hr => ?_) (fun hr => ?_)
    · skip
      refine ev_seg 4 (k' := 34) (L' := [(4, .int 0), (3, .int (-1)), (2, .int v2), (0, .ref 13), (1, .int x1)]) (st' := []) rfl ?_
      refine ev_join (L' := [(0, .ref 13), (1, .int x1), (2, .int v2), (3, .int (-1)), (4, .int 0)]) [3, 4, 2, 1, 0] [4, 3, 2, 0, 1] [0, 1, 2, 3, 4] rfl rfl (by decide) (by decide) rfl ?_
      exact hr
    · skip
      refine ev_seg 5 (k' := 27) (L' := [(2, .int v2), (0, .ref 13), (1, .int x1)]) (st' := [.int ((gI s5 13 14) + 1), .ref 13]) rfl ?_
      refine ev_putI (c := 13) hr rfl rfl rfl (fun s7 hr => ?_)
      refine ev_seg 1 (k' := 29) (L' := [(2, .int v2), (0, .ref 13), (1, .int x1)]) (st' := [.int v2]) rfl ?_
      exact ev_iret hr rfl rfl rfl
  · skip
    refine ev_seg 1 (k' := 4) (L' := [(0, .ref 13), (1, .int x1)]) (st' := [.ref 13]) rfl ?_
    refine ev_callV (q' := q_8) (x := 8) (y := 1) (c := 13) (As := []) (rest := []) hr rfl rfl rfl rfl rfl rfl rfl rfl rfl rfl rfl rfl (fun rv s8 hq => ev_kI hq (fun v9 e9 hr => ?_))
    subst e9
    refine ev_st (st' := [.int v9]) rfl ?_
    exact ev_iret hr rfl rfl rfl
set_option maxRecDepth 20000 in
theorem eTx_listOfValues_34 (d : Nat) (x1 : Int32) (z2 : Int32) (z3 : Int32) (z4 : Int32) (s : aT) : ∀ r, (if 4096 ≤ z4 then cG (fTx_failHere d s) (kI fun v2 s1 => rI v2 s1) else cG (fTx_value d (x1 + 1) s) (kI fun v4 s3 => if ¬ v4 = (-1) then cG (fTx_link d z2 z3 v4 s3) (kI fun v6 s5 => cG (fTx_separator d 93 s5) (kI fun v8 s7 => if v8 = 44 then fTx_listOfValues_34 (d + 1) x1 z2 v6 (z4 + 1) s7 else if ¬ v8 = (-1) then rI z2 s7 else rI (-1) s7)) else rI (-1) s3)) = some r → fTx_listOfValues_34 (d + 1) x1 z2 z3 z4 s = some r := by
  intro r hr
  show ev (d + 1) q_21 34 [(0, .ref 13), (1, .int x1), (2, .int z2), (3, .int z3), (4, .int z4)] [] s = some r
  refine ev_seg 2 (k' := 36) (L' := [(0, .ref 13), (1, .int x1), (2, .int z2), (3, .int z3), (4, .int z4)]) (st' := [.int 4096, .int z4]) rfl ?_
  refine ev_br (P := 4096 ≤ z4) (L' := [(0, .ref 13), (1, .int x1), (2, .int z2), (3, .int z3), (4, .int z4)]) (st' := []) hr rfl rfl rfl (fun hr => ?_) (fun hr => ?_)
  · skip
    refine ev_seg 1 (k' := 71) (L' := [(0, .ref 13), (1, .int x1), (2, .int z2), (3, .int z3), (4, .int z4)]) (st' := [.ref 13]) rfl ?_
    refine ev_callV (q' := q_8) (x := 8) (y := 1) (c := 13) (As := []) (rest := []) hr rfl rfl rfl rfl rfl rfl rfl rfl rfl rfl rfl rfl (fun rv s1 hq => ev_kI hq (fun v2 e9 hr => ?_))
    subst e9
    refine ev_st (st' := [.int v2]) rfl ?_
    exact ev_iret hr rfl rfl rfl
  · skip
    refine ev_seg 4 (k' := 41) (L' := [(0, .ref 13), (1, .int x1), (2, .int z2), (3, .int z3), (4, .int z4)]) (st' := [.int (x1 + 1), .ref 13]) rfl ?_
    refine ev_callV (q' := q_3) (x := 3) (y := 1) (c := 13) (As := [.int (x1 + 1)]) (rest := []) hr rfl rfl rfl rfl rfl rfl rfl rfl rfl rfl rfl rfl (fun rv s3 hq => ev_kI hq (fun v4 e9 hr => ?_))
    subst e9
    refine ev_st (st' := [.int v4]) rfl ?_
    refine ev_seg 3 (k' := 45) (L' := [(5, .int v4), (0, .ref 13), (1, .int x1), (2, .int z2), (3, .int z3), (4, .int z4)]) (st' := [.int (-1), .int v4]) rfl ?_
    refine ev_br (P := ¬ v4 = (-1)) (L' := [(5, .int v4), (0, .ref 13), (1, .int x1), (2, .int z2), (3, .int z3), (4, .int z4)]) (st' := []) hr rfl rfl rfl (fun hr => ?_) (fun hr => ?_)
    · skip
      refine ev_seg 4 (k' := 52) (L' := [(5, .int v4), (0, .ref 13), (1, .int x1), (2, .int z2), (3, .int z3), (4, .int z4)]) (st' := [.int v4, .int z3, .int z2, .ref 13]) rfl ?_
      refine ev_callV (q' := q_19) (x := 19) (y := 1) (c := 13) (As := [.int z2, .int z3, .int v4]) (rest := []) hr rfl rfl rfl rfl rfl rfl rfl rfl rfl rfl rfl rfl (fun rv s5 hq => ev_kI hq (fun v6 e9 hr => ?_))
      subst e9
      refine ev_st (st' := [.int v6]) rfl ?_
      refine ev_seg 3 (k' := 56) (L' := [(3, .int v6), (5, .int v4), (0, .ref 13), (1, .int x1), (2, .int z2), (4, .int z4)]) (st' := [.int 93, .ref 13]) rfl ?_
      refine ev_callV (q' := q_20) (x := 20) (y := 1) (c := 13) (As := [.int 93]) (rest := []) hr rfl rfl rfl rfl rfl rfl rfl rfl rfl rfl rfl rfl (fun rv s7 hq => ev_kI hq (fun v8 e9 hr => ?_))
      subst e9
      refine ev_st (st' := [.int v8]) rfl ?_
      refine ev_seg 3 (k' := 60) (L' := [(6, .int v8), (3, .int v6), (5, .int v4), (0, .ref 13), (1, .int x1), (2, .int z2), (4, .int z4)]) (st' := [.int 44, .int v8]) rfl ?_
      refine ev_br (P := v8 = 44) (L' := [(6, .int v8), (3, .int v6), (5, .int v4), (0, .ref 13), (1, .int x1), (2, .int z2), (4, .int z4)]) (st' := []) hr rfl rfl rfl (fun hr => ?_) (fun hr => ?_)
      · skip
        refine ev_seg 2 (k' := 34) (L' := [(4, .int (z4 + 1)), (6, .int v8), (3, .int v6), (5, .int v4), (0, .ref 13), (1, .int x1), (2, .int z2)]) (st' := []) rfl ?_
        refine ev_join (L' := [(0, .ref 13), (1, .int x1), (2, .int z2), (3, .int v6), (4, .int (z4 + 1))]) [4, 5, 6, 2, 0] [4, 6, 3, 5, 0, 1, 2] [0, 1, 2, 3, 4] rfl rfl (by decide) (by decide) rfl ?_
        exact hr
      · skip
        refine ev_seg 2 (k' := 63) (L' := [(6, .int v8), (3, .int v6), (5, .int v4), (0, .ref 13), (1, .int x1), (2, .int z2), (4, .int z4)]) (st' := [.int (-1), .int v8]) rfl ?_
        refine ev_br (P := ¬ v8 = (-1)) (L' := [(6, .int v8), (3, .int v6), (5, .int v4), (0, .ref 13), (1, .int x1), (2, .int z2), (4, .int z4)]) (st' := []) hr rfl rfl rfl (fun hr => ?_) (fun hr => ?_)
        · skip
          refine ev_seg 1 (k' := 67) (L' := [(6, .int v8), (3, .int v6), (5, .int v4), (0, .ref 13), (1, .int x1), (2, .int z2), (4, .int z4)]) (st' := [.int z2]) rfl ?_
          exact ev_iret hr rfl rfl rfl
        · skip
          refine ev_seg 2 (k' := 67) (L' := [(6, .int v8), (3, .int v6), (5, .int v4), (0, .ref 13), (1, .int x1), (2, .int z2), (4, .int z4)]) (st' := [.int (-1)]) rfl ?_
          exact ev_iret hr rfl rfl rfl
    · skip
      refine ev_seg 1 (k' := 47) (L' := [(5, .int v4), (0, .ref 13), (1, .int x1), (2, .int z2), (3, .int z3), (4, .int z4)]) (st' := [.int (-1)]) rfl ?_
      exact ev_iret hr rfl rfl rfl
set_option maxRecDepth 20000 in
theorem eTx_word (d : Nat) (w1 : Nat) (x2 : Int32) (s : aT) : ∀ r, (cG (fTx_add (d + 5) x2 s) (kI fun v2 s1 => fTx_word_6 (d + 6) w1 v2 0 s1)) = some r → fTx_word (d + 6) w1 x2 s = some r := by
  intro r hr
  show ev (d + 6) q_22 0 [(0, .ref 13), (1, .ref w1), (2, .int x2)] [] s = some r
  refine ev_seg 2 (k' := 2) (L' := [(0, .ref 13), (1, .ref w1), (2, .int x2)]) (st' := [.int x2, .ref 13]) rfl ?_
  refine ev_callV (q' := q_9) (x := 9) (y := 1) (c := 13) (As := [.int x2]) (rest := []) hr rfl rfl rfl rfl rfl rfl rfl rfl rfl rfl rfl rfl (fun rv s1 hq => ev_kI hq (fun v2 e9 hr => ?_))
  subst e9
  refine ev_st (st' := [.int v2]) rfl ?_
  refine ev_seg 3 (k' := 6) (L' := [(4, .int 0), (3, .int v2), (0, .ref 13), (1, .ref w1), (2, .int x2)]) (st' := []) rfl ?_
  refine ev_join (L' := [(0, .ref 13), (1, .ref w1), (3, .int v2), (4, .int 0)]) [2, 3, 1, 0] [4, 3, 0, 1, 2] [0, 1, 3, 4] rfl rfl (by decide) (by decide) rfl ?_
  exact hr
set_option maxRecDepth 20000 in
theorem eTx_word_6 (d : Nat) (w1 : Nat) (z3 : Int32) (z4 : Int32) (s : aT) : ∀ r, (cP 900 [.ref w1] (fun v1 => if v1 ≤ z4 then rI z3 s else cG (fTx_peek (d + 5) s) (kI fun v3 s2 => cP 901 [.ref w1, .int z4] (fun v4 => if v3 = v4 then wI s2 13 14 ((gI s2 13 14) + 1) (fun s5 => fTx_word_6 (d + 6) w1 z3 (z4 + 1) s5) else cG (fTx_failHere (d + 5) s2) (kI fun v7 s6 => rI v7 s6))))) = some r → fTx_word_6 (d + 6) w1 z3 z4 s = some r := by
  intro r hr
  show ev (d + 6) q_22 6 [(0, .ref 13), (1, .ref w1), (3, .int z3), (4, .int z4)] [] s = some r
  refine ev_seg 2 (k' := 8) (L' := [(0, .ref 13), (1, .ref w1), (3, .int z3), (4, .int z4)]) (st' := [.ref w1, .int z4]) rfl ?_
  refine ev_primV (x := 900) (As := [.ref w1]) (rest := [.int z4]) hr rfl rfl rfl rfl (fun v1 hr => ?_)
  refine ev_br (P := v1 ≤ z4) (L' := [(0, .ref 13), (1, .ref w1), (3, .int z3), (4, .int z4)]) (st' := []) hr rfl rfl rfl (fun hr => ?_) (fun hr => ?_)
  · skip
    refine ev_seg 1 (k' := 28) (L' := [(0, .ref 13), (1, .ref w1), (3, .int z3), (4, .int z4)]) (st' := [.int z3]) rfl ?_
    exact ev_iret hr rfl rfl rfl
  · skip
    refine ev_seg 1 (k' := 11) (L' := [(0, .ref 13), (1, .ref w1), (3, .int z3), (4, .int z4)]) (st' := [.ref 13]) rfl ?_
    refine ev_callV (q' := q_5) (x := 5) (y := 1) (c := 13) (As := []) (rest := []) hr rfl rfl rfl rfl rfl rfl rfl rfl rfl rfl rfl rfl (fun rv s2 hq => ev_kI hq (fun v3 e9 hr => ?_))
    subst e9
    refine ev_st (st' := [.int v3]) rfl ?_
    refine ev_seg 2 (k' := 14) (L' := [(0, .ref 13), (1, .ref w1), (3, .int z3), (4, .int z4)]) (st' := [.int z4, .ref w1, .int v3]) rfl ?_
    refine ev_primV (x := 901) (As := [.ref w1, .int z4]) (rest := [.int v3]) hr rfl rfl rfl rfl (fun v4 hr => ?_)
    refine ev_br (P := v3 = v4) (L' := [(0, .ref 13), (1, .ref w1), (3, .int z3), (4, .int z4)]) (st' := []) hr rfl rfl rfl (fun hr => ?_) (fun hr => ?_)
    · skip
      refine ev_seg 5 (k' := 24) (L' := [(0, .ref 13), (1, .ref w1), (3, .int z3), (4, .int z4)]) (st' := [.int ((gI s2 13 14) + 1), .ref 13]) rfl ?_
      refine ev_putI (c := 13) hr rfl rfl rfl (fun s5 hr => ?_)
      refine ev_seg 2 (k' := 6) (L' := [(4, .int (z4 + 1)), (0, .ref 13), (1, .ref w1), (3, .int z3)]) (st' := []) rfl ?_
      refine ev_join (L' := [(0, .ref 13), (1, .ref w1), (3, .int z3), (4, .int (z4 + 1))]) [1, 2, 3, 0] [4, 0, 1, 3] [0, 1, 3, 4] rfl rfl (by decide) (by decide) rfl ?_
      exact hr
    · skip
      refine ev_seg 1 (k' := 17) (L' := [(0, .ref 13), (1, .ref w1), (3, .int z3), (4, .int z4)]) (st' := [.ref 13]) rfl ?_
      refine ev_callV (q' := q_8) (x := 8) (y := 1) (c := 13) (As := []) (rest := []) hr rfl rfl rfl rfl rfl rfl rfl rfl rfl rfl rfl rfl (fun rv s6 hq => ev_kI hq (fun v7 e9 hr => ?_))
      subst e9
      refine ev_st (st' := [.int v7]) rfl ?_
      exact ev_iret hr rfl rfl rfl
set_option maxRecDepth 20000 in
theorem eTx_isDigit (d : Nat) (x0 : Int32) (s : aT) : ∀ r, (if x0 < 48 then rI 0 s else if 57 < x0 then rI 0 s else rI 1 s) = some r → fTx_isDigit d x0 s = some r := by
  intro r hr
  show ev d q_23 0 [(0, .int x0)] [] s = some r
  refine ev_seg 2 (k' := 2) (L' := [(0, .int x0)]) (st' := [.int 48, .int x0]) rfl ?_
  refine ev_br (P := x0 < 48) (L' := [(0, .int x0)]) (st' := []) hr rfl rfl rfl (fun hr => ?_) (fun hr => ?_)
  · skip
    refine ev_seg 1 (k' := 9) (L' := [(0, .int x0)]) (st' := [.int 0]) rfl ?_
    exact ev_iret hr rfl rfl rfl
  · skip
    refine ev_seg 2 (k' := 5) (L' := [(0, .int x0)]) (st' := [.int 57, .int x0]) rfl ?_
    refine ev_br (P := 57 < x0) (L' := [(0, .int x0)]) (st' := []) hr rfl rfl rfl (fun hr => ?_) (fun hr => ?_)
    · skip
      refine ev_seg 1 (k' := 9) (L' := [(0, .int x0)]) (st' := [.int 0]) rfl ?_
      exact ev_iret hr rfl rfl rfl
    · skip
      refine ev_seg 2 (k' := 9) (L' := [(0, .int x0)]) (st' := [.int 1]) rfl ?_
      exact ev_iret hr rfl rfl rfl
set_option maxRecDepth 20000 in
theorem eTx_numberOfDigits (d : Nat) (s : aT) : ∀ r, (cG (fTx_add d 3 s) (kI fun v2 s1 => cG (fTx_peek d s1) (kI fun v4 s3 => if ¬ v4 = 45 then fTx_numberOfDigits_11 (d + 1) v2 0 s3 else fTx_numberOfDigits_11 (d + 1) v2 1 s3))) = some r → fTx_numberOfDigits (d + 1) s = some r := by
  intro r hr
  show ev (d + 1) q_24 0 [(0, .ref 13)] [] s = some r
  refine ev_seg 2 (k' := 2) (L' := [(0, .ref 13)]) (st' := [.int 3, .ref 13]) rfl ?_
  refine ev_callV (q' := q_9) (x := 9) (y := 1) (c := 13) (As := [.int 3]) (rest := []) hr rfl rfl rfl rfl rfl rfl rfl rfl rfl rfl rfl rfl (fun rv s1 hq => ev_kI hq (fun v2 e9 hr => ?_))
  subst e9
  refine ev_st (st' := [.int v2]) rfl ?_
  refine ev_seg 2 (k' := 5) (L' := [(1, .int v2), (0, .ref 13)]) (st' := [.ref 13]) rfl ?_
  refine ev_callV (q' := q_5) (x := 5) (y := 1) (c := 13) (As := []) (rest := []) hr rfl rfl rfl rfl rfl rfl rfl rfl rfl rfl rfl rfl (fun rv s3 hq => ev_kI hq (fun v4 e9 hr => ?_))
  subst e9
  refine ev_st (st' := [.int v4]) rfl ?_
  refine ev_seg 1 (k' := 7) (L' := [(1, .int v2), (0, .ref 13)]) (st' := [.int 45, .int v4]) rfl ?_
  refine ev_br (P := ¬ v4 = 45) (L' := [(1, .int v2), (0, .ref 13)]) (st' := []) hr rfl rfl rfl (fun hr => ?_) (fun hr => ?_)
  · skip
    refine ev_seg 1 (k' := 11) (L' := [(1, .int v2), (0, .ref 13)]) (st' := [.int 0]) rfl ?_
    refine ev_join (L' := [(0, .ref 13), (1, .int v2)]) [1, 0] [1, 0] [0, 1] rfl rfl (by decide) (by decide) rfl ?_
    exact hr
  · skip
    refine ev_seg 2 (k' := 11) (L' := [(1, .int v2), (0, .ref 13)]) (st' := [.int 1]) rfl ?_
    refine ev_join (L' := [(0, .ref 13), (1, .int v2)]) [1, 0] [1, 0] [0, 1] rfl rfl (by decide) (by decide) rfl ?_
    exact hr
set_option maxRecDepth 20000 in
theorem eTx_numberOfDigits_11 (d : Nat) (z1 : Int32) (u0 : Int32) (s : aT) : ∀ r, (if u0 = 0 then fTx_numberOfDigits_20 (d + 1) z1 u0 s else wI s 13 14 ((gI s 13 14) + 1) (fun s1 => fTx_numberOfDigits_20 (d + 1) z1 u0 s1)) = some r → fTx_numberOfDigits_11 (d + 1) z1 u0 s = some r := by
  intro r hr
  show ev (d + 1) q_24 11 [(0, .ref 13), (1, .int z1)] [.int u0] s = some r
  refine ev_seg 2 (k' := 13) (L' := [(2, .int u0), (0, .ref 13), (1, .int z1)]) (st' := [.int u0]) rfl ?_
  refine ev_br (P := u0 = 0) (L' := [(2, .int u0), (0, .ref 13), (1, .int z1)]) (st' := []) hr rfl rfl rfl (fun hr => ?_) (fun hr => ?_)
  · skip
    refine ev_join (L' := [(0, .ref 13), (1, .int z1), (2, .int u0)]) [1, 2, 0] [2, 0, 1] [0, 1, 2] rfl rfl (by decide) (by decide) rfl ?_
    exact hr
  · skip
    refine ev_seg 5 (k' := 19) (L' := [(2, .int u0), (0, .ref 13), (1, .int z1)]) (st' := [.int ((gI s 13 14) + 1), .ref 13]) rfl ?_
    refine ev_putI (c := 13) hr rfl rfl rfl (fun s1 hr => ?_)
    refine ev_join (L' := [(0, .ref 13), (1, .int z1), (2, .int u0)]) [1, 2, 0] [2, 0, 1] [0, 1, 2] rfl rfl (by decide) (by decide) rfl ?_
    exact hr
set_option maxRecDepth 20000 in
theorem eTx_numberOfDigits_20 (d : Nat) (z1 : Int32) (z2 : Int32) (s : aT) : ∀ r, (cG (fTx_peek d s) (kI fun v2 s1 => cG (fTx_isDigit d v2 s1) (kI fun v4 s3 => if ¬ v4 = 0 then cG (fTx_peek d s3) (kI fun v6 s5 => if ¬ v6 = 48 then fTx_numberOfDigits_34 (d + 1) z1 z2 4096 s5 else fTx_numberOfDigits_34 (d + 1) z1 z2 1 s5) else cG (fTx_failHere d s3) (kI fun v8 s7 => rI v8 s7)))) = some r → fTx_numberOfDigits_20 (d + 1) z1 z2 s = some r := by
  intro r hr
  show ev (d + 1) q_24 20 [(0, .ref 13), (1, .int z1), (2, .int z2)] [] s = some r
  refine ev_seg 1 (k' := 21) (L' := [(0, .ref 13), (1, .int z1), (2, .int z2)]) (st' := [.ref 13]) rfl ?_
  refine ev_callV (q' := q_5) (x := 5) (y := 1) (c := 13) (As := []) (rest := []) hr rfl rfl rfl rfl rfl rfl rfl rfl rfl rfl rfl rfl (fun rv s1 hq => ev_kI hq (fun v2 e9 hr => ?_))
  subst e9
  refine ev_st (st' := [.int v2]) rfl ?_
  refine ev_callS (q' := q_23) (x := 23) (vs := [.int v2]) (rest := []) hr rfl rfl rfl rfl rfl rfl rfl rfl rfl rfl (fun rv s3 hq => ev_kI hq (fun v4 e9 hr => ?_))
  subst e9
  refine ev_st (st' := [.int v4]) rfl ?_
  refine ev_br (P := ¬ v4 = 0) (L' := [(0, .ref 13), (1, .int z1), (2, .int z2)]) (st' := []) hr rfl rfl rfl (fun hr => ?_) (fun hr => ?_)
  · skip
    refine ev_seg 1 (k' := 28) (L' := [(0, .ref 13), (1, .int z1), (2, .int z2)]) (st' := [.ref 13]) rfl ?_
    refine ev_callV (q' := q_5) (x := 5) (y := 1) (c := 13) (As := []) (rest := []) hr rfl rfl rfl rfl rfl rfl rfl rfl rfl rfl rfl rfl (fun rv s5 hq => ev_kI hq (fun v6 e9 hr => ?_))
    subst e9
    refine ev_st (st' := [.int v6]) rfl ?_
    refine ev_seg 1 (k' := 30) (L' := [(0, .ref 13), (1, .int z1), (2, .int z2)]) (st' := [.int 48, .int v6]) rfl ?_
    refine ev_br (P := ¬ v6 = 48) (L' := [(0, .ref 13), (1, .int z1), (2, .int z2)]) (st' := []) hr rfl rfl rfl (fun hr => ?_) (fun hr => ?_)
    · skip
      refine ev_seg 1 (k' := 34) (L' := [(0, .ref 13), (1, .int z1), (2, .int z2)]) (st' := [.int 4096]) rfl ?_
      exact hr
    · skip
      refine ev_seg 2 (k' := 34) (L' := [(0, .ref 13), (1, .int z1), (2, .int z2)]) (st' := [.int 1]) rfl ?_
      exact hr
  · skip
    refine ev_seg 1 (k' := 25) (L' := [(0, .ref 13), (1, .int z1), (2, .int z2)]) (st' := [.ref 13]) rfl ?_
    refine ev_callV (q' := q_8) (x := 8) (y := 1) (c := 13) (As := []) (rest := []) hr rfl rfl rfl rfl rfl rfl rfl rfl rfl rfl rfl rfl (fun rv s7 hq => ev_kI hq (fun v8 e9 hr => ?_))
    subst e9
    refine ev_st (st' := [.int v8]) rfl ?_
    exact ev_iret hr rfl rfl rfl
set_option maxRecDepth 20000 in
theorem eTx_numberOfDigits_34 (d : Nat) (z1 : Int32) (z2 : Int32) (u0 : Int32) (s : aT) : ∀ r, (fTx_numberOfDigits_41 (d + 1) z1 z2 u0 0 1 0 s) = some r → fTx_numberOfDigits_34 (d + 1) z1 z2 u0 s = some r := by
  intro r hr
  show ev (d + 1) q_24 34 [(0, .ref 13), (1, .int z1), (2, .int z2)] [.int u0] s = some r
  refine ev_seg 7 (k' := 41) (L' := [(7, .int 0), (6, .int 1), (4, .long 0), (3, .int u0), (0, .ref 13), (1, .int z1), (2, .int z2)]) (st' := []) rfl ?_
  refine ev_join (L' := [(0, .ref 13), (1, .int z1), (2, .int z2), (3, .int u0), (4, .long 0), (6, .int 1), (7, .int 0)]) [4, 5, 6, 3, 2, 1, 0] [7, 6, 4, 3, 0, 1, 2] [0, 1, 2, 3, 4, 6, 7] rfl rfl (by decide) (by decide) rfl ?_
  exact hr
set_option maxRecDepth 20000 in
theorem eTx_numberOfDigits_41 (d : Nat) (z1 : Int32) (z2 : Int32) (z3 : Int32) (l4 : Int64) (z6 : Int32) (z7 : Int32) (s : aT) : ∀ r, (if z3 ≤ z7 then fTx_numberOfDigits_83 (d + 1) z1 z2 l4 z6 s else cG (fTx_peek d s) (kI fun v2 s1 => cG (fTx_isDigit d v2 s1) (kI fun v4 s3 => if v4 = 0 then fTx_numberOfDigits_83 (d + 1) z1 z2 l4 z6 s3 else cG (fTx_peek d s3) (kI fun v6 s5 => if z6 = 0 then fTx_numberOfDigits_66 (d + 1) z1 z2 z3 l4 z7 (v6 - 48) s5 else if aLcmp l4 (((-9223372036854775808) + ((v6 - 48).toInt64)) / 10) < 0 then fTx_numberOfDigits_66 (d + 1) z1 z2 z3 l4 z7 (v6 - 48) s5 else fTx_numberOfDigits_67 (d + 1) z1 z2 z3 l4 z7 (v6 - 48) 1 s5)))) = some r → fTx_numberOfDigits_41 (d + 1) z1 z2 z3 l4 z6 z7 s = some r := by
  intro r hr
  show ev (d + 1) q_24 41 [(0, .ref 13), (1, .int z1), (2, .int z2), (3, .int z3), (4, .long l4), (6, .int z6), (7, .int z7)] [] s = some r
  refine ev_seg 2 (k' := 43) (L' := [(0, .ref 13), (1, .int z1), (2, .int z2), (3, .int z3), (4, .long l4), (6, .int z6), (7, .int z7)]) (st' := [.int z3, .int z7]) rfl ?_
  refine ev_br (P := z3 ≤ z7) (L' := [(0, .ref 13), (1, .int z1), (2, .int z2), (3, .int z3), (4, .long l4), (6, .int z6), (7, .int z7)]) (st' := []) hr rfl rfl rfl (fun hr => ?_) (fun hr => ?_)
  · skip
    refine ev_join (L' := [(0, .ref 13), (1, .int z1), (2, .int z2), (4, .long l4), (6, .int z6)]) [0, 1, 2, 4, 5] [0, 1, 2, 3, 4, 6, 7] [0, 1, 2, 4, 6] rfl rfl (by decide) (by decide) rfl ?_
    exact hr
  · skip
    refine ev_seg 1 (k' := 45) (L' := [(0, .ref 13), (1, .int z1), (2, .int z2), (3, .int z3), (4, .long l4), (6, .int z6), (7, .int z7)]) (st' := [.ref 13]) rfl ?_
    refine ev_callV (q' := q_5) (x := 5) (y := 1) (c := 13) (As := []) (rest := []) hr rfl rfl rfl rfl rfl rfl rfl rfl rfl rfl rfl rfl (fun rv s1 hq => ev_kI hq (fun v2 e9 hr => ?_))
    subst e9
    refine ev_st (st' := [.int v2]) rfl ?_
    refine ev_callS (q' := q_23) (x := 23) (vs := [.int v2]) (rest := []) hr rfl rfl rfl rfl rfl rfl rfl rfl rfl rfl (fun rv s3 hq => ev_kI hq (fun v4 e9 hr => ?_))
    subst e9
    refine ev_st (st' := [.int v4]) rfl ?_
    refine ev_br (P := v4 = 0) (L' := [(0, .ref 13), (1, .int z1), (2, .int z2), (3, .int z3), (4, .long l4), (6, .int z6), (7, .int z7)]) (st' := []) hr rfl rfl rfl (fun hr => ?_) (fun hr => ?_)
    · skip
      refine ev_join (L' := [(0, .ref 13), (1, .int z1), (2, .int z2), (4, .long l4), (6, .int z6)]) [0, 1, 2, 4, 5] [0, 1, 2, 3, 4, 6, 7] [0, 1, 2, 4, 6] rfl rfl (by decide) (by decide) rfl ?_
      exact hr
    · skip
      refine ev_seg 1 (k' := 49) (L' := [(0, .ref 13), (1, .int z1), (2, .int z2), (3, .int z3), (4, .long l4), (6, .int z6), (7, .int z7)]) (st' := [.ref 13]) rfl ?_
      refine ev_callV (q' := q_5) (x := 5) (y := 1) (c := 13) (As := []) (rest := []) hr rfl rfl rfl rfl rfl rfl rfl rfl rfl rfl rfl rfl (fun rv s5 hq => ev_kI hq (fun v6 e9 hr => ?_))
      subst e9
      refine ev_st (st' := [.int v6]) rfl ?_
      refine ev_seg 4 (k' := 54) (L' := [(8, .int (v6 - 48)), (0, .ref 13), (1, .int z1), (2, .int z2), (3, .int z3), (4, .long l4), (6, .int z6), (7, .int z7)]) (st' := [.int z6]) rfl ?_
      refine ev_br (P := z6 = 0) (L' := [(8, .int (v6 - 48)), (0, .ref 13), (1, .int z1), (2, .int z2), (3, .int z3), (4, .long l4), (6, .int z6), (7, .int z7)]) (st' := []) hr rfl rfl rfl (fun hr => ?_) (fun hr => ?_)
      · skip
        refine ev_join (L' := [(0, .ref 13), (1, .int z1), (2, .int z2), (3, .int z3), (4, .long l4), (7, .int z7), (8, .int (v6 - 48))]) [1, 2, 3, 4, 5, 7, 0] [8, 0, 1, 2, 3, 4, 6, 7] [0, 1, 2, 3, 4, 7, 8] rfl rfl (by decide) (by decide) rfl ?_
        exact hr
      · skip
        refine ev_seg 8 (k' := 63) (L' := [(8, .int (v6 - 48)), (0, .ref 13), (1, .int z1), (2, .int z2), (3, .int z3), (4, .long l4), (6, .int z6), (7, .int z7)]) (st' := [.int (aLcmp l4 (((-9223372036854775808) + ((v6 - 48).toInt64)) / 10))]) rfl ?_
        refine ev_br (P := aLcmp l4 (((-9223372036854775808) + ((v6 - 48).toInt64)) / 10) < 0) (L' := [(8, .int (v6 - 48)), (0, .ref 13), (1, .int z1), (2, .int z2), (3, .int z3), (4, .long l4), (6, .int z6), (7, .int z7)]) (st' := []) hr rfl rfl rfl (fun hr => ?_) (fun hr => ?_)
        · skip
          refine ev_join (L' := [(0, .ref 13), (1, .int z1), (2, .int z2), (3, .int z3), (4, .long l4), (7, .int z7), (8, .int (v6 - 48))]) [1, 2, 3, 4, 5, 7, 0] [8, 0, 1, 2, 3, 4, 6, 7] [0, 1, 2, 3, 4, 7, 8] rfl rfl (by decide) (by decide) rfl ?_
          exact hr
        · skip
          refine ev_seg 2 (k' := 67) (L' := [(8, .int (v6 - 48)), (0, .ref 13), (1, .int z1), (2, .int z2), (3, .int z3), (4, .long l4), (6, .int z6), (7, .int z7)]) (st' := [.int 1]) rfl ?_
          refine ev_join (L' := [(0, .ref 13), (1, .int z1), (2, .int z2), (3, .int z3), (4, .long l4), (7, .int z7), (8, .int (v6 - 48))]) [1, 2, 3, 4, 5, 7, 0] [8, 0, 1, 2, 3, 4, 6, 7] [0, 1, 2, 3, 4, 7, 8] rfl rfl (by decide) (by decide) rfl ?_
          exact hr
set_option maxRecDepth 20000 in
theorem eTx_numberOfDigits_83 (d : Nat) (z1 : Int32) (z2 : Int32) (l4 : Int64) (z6 : Int32) (s : aT) : ∀ r, (if z6 = 0 then fTx_numberOfDigits_91 (d + 1) z1 s else if ¬ z2 = 0 then fTx_numberOfDigits_98 (d + 1) z1 z2 l4 s else if ¬ aLcmp l4 (-9223372036854775808) = 0 then fTx_numberOfDigits_98 (d + 1) z1 z2 l4 s else fTx_numberOfDigits_91 (d + 1) z1 s) = some r → fTx_numberOfDigits_83 (d + 1) z1 z2 l4 z6 s = some r := by
  intro r hr
  show ev (d + 1) q_24 83 [(0, .ref 13), (1, .int z1), (2, .int z2), (4, .long l4), (6, .int z6)] [] s = some r
  refine ev_seg 1 (k' := 84) (L' := [(0, .ref 13), (1, .int z1), (2, .int z2), (4, .long l4), (6, .int z6)]) (st' := [.int z6]) rfl ?_
  refine ev_br (P := z6 = 0) (L' := [(0, .ref 13), (1, .int z1), (2, .int z2), (4, .long l4), (6, .int z6)]) (st' := []) hr rfl rfl rfl (fun hr => ?_) (fun hr => ?_)
  · skip
    refine ev_join (L' := [(0, .ref 13), (1, .int z1)]) [0, 1] [0, 1, 2, 4, 6] [0, 1] rfl rfl (by decide) (by decide) rfl ?_
    exact hr
  · skip
    refine ev_seg 1 (k' := 86) (L' := [(0, .ref 13), (1, .int z1), (2, .int z2), (4, .long l4), (6, .int z6)]) (st' := [.int z2]) rfl ?_
    refine ev_br (P := ¬ z2 = 0) (L' := [(0, .ref 13), (1, .int z1), (2, .int z2), (4, .long l4), (6, .int z6)]) (st' := []) hr rfl rfl rfl (fun hr => ?_) (fun hr => ?_)
    · skip
      refine ev_join (L' := [(0, .ref 13), (1, .int z1), (2, .int z2), (4, .long l4)]) [0, 1, 2, 3] [0, 1, 2, 4, 6] [0, 1, 2, 4] rfl rfl (by decide) (by decide) rfl ?_
      exact hr
    · skip
      refine ev_seg 3 (k' := 90) (L' := [(0, .ref 13), (1, .int z1), (2, .int z2), (4, .long l4), (6, .int z6)]) (st' := [.int (aLcmp l4 (-9223372036854775808))]) rfl ?_
      refine ev_br (P := ¬ aLcmp l4 (-9223372036854775808) = 0) (L' := [(0, .ref 13), (1, .int z1), (2, .int z2), (4, .long l4), (6, .int z6)]) (st' := []) hr rfl rfl rfl (fun hr => ?_) (fun hr => ?_)
      · skip
        refine ev_join (L' := [(0, .ref 13), (1, .int z1), (2, .int z2), (4, .long l4)]) [0, 1, 2, 3] [0, 1, 2, 4, 6] [0, 1, 2, 4] rfl rfl (by decide) (by decide) rfl ?_
        exact hr
      · skip
        refine ev_join (L' := [(0, .ref 13), (1, .int z1)]) [0, 1] [0, 1, 2, 4, 6] [0, 1] rfl rfl (by decide) (by decide) rfl ?_
        exact hr
set_option maxRecDepth 20000 in
theorem eTx_numberOfDigits_66 (d : Nat) (z1 : Int32) (z2 : Int32) (z3 : Int32) (l4 : Int64) (z7 : Int32) (z8 : Int32) (s : aT) : ∀ r, (fTx_numberOfDigits_67 (d + 1) z1 z2 z3 l4 z7 z8 0 s) = some r → fTx_numberOfDigits_66 (d + 1) z1 z2 z3 l4 z7 z8 s = some r := by
  intro r hr
  show ev (d + 1) q_24 66 [(0, .ref 13), (1, .int z1), (2, .int z2), (3, .int z3), (4, .long l4), (7, .int z7), (8, .int z8)] [] s = some r
  refine ev_seg 1 (k' := 67) (L' := [(0, .ref 13), (1, .int z1), (2, .int z2), (3, .int z3), (4, .long l4), (7, .int z7), (8, .int z8)]) (st' := [.int 0]) rfl ?_
  exact hr
set_option maxRecDepth 20000 in
theorem eTx_numberOfDigits_67 (d : Nat) (z1 : Int32) (z2 : Int32) (z3 : Int32) (l4 : Int64) (z7 : Int32) (z8 : Int32) (u0 : Int32) (s : aT) : ∀ r, (wI s 13 14 ((gI s 13 14) + 1) (fun s1 => fTx_numberOfDigits_41 (d + 1) z1 z2 z3 ((l4 * 10) - z8.toInt64) u0 (z7 + 1) s1)) = some r → fTx_numberOfDigits_67 (d + 1) z1 z2 z3 l4 z7 z8 u0 s = some r := by
  intro r hr
  show ev (d + 1) q_24 67 [(0, .ref 13), (1, .int z1), (2, .int z2), (3, .int z3), (4, .long l4), (7, .int z7), (8, .int z8)] [.int u0] s = some r
  refine ev_seg 13 (k' := 80) (L' := [(4, .long ((l4 * 10) - z8.toInt64)), (6, .int u0), (0, .ref 13), (1, .int z1), (2, .int z2), (3, .int z3), (7, .int z7), (8, .int z8)]) (st' := [.int ((gI s 13 14) + 1), .ref 13]) rfl ?_
  refine ev_putI (c := 13) hr rfl rfl rfl (fun s1 hr => ?_)
  refine ev_seg 2 (k' := 41) (L' := [(7, .int (z7 + 1)), (4, .long ((l4 * 10) - z8.toInt64)), (6, .int u0), (0, .ref 13), (1, .int z1), (2, .int z2), (3, .int z3), (8, .int z8)]) (st' := []) rfl ?_
  refine ev_join (L' := [(0, .ref 13), (1, .int z1), (2, .int z2), (3, .int z3), (4, .long ((l4 * 10) - z8.toInt64)), (6, .int u0), (7, .int (z7 + 1))]) [3, 4, 5, 6, 1, 2, 0] [7, 4, 6, 0, 1, 2, 3, 8] [0, 1, 2, 3, 4, 6, 7] rfl rfl (by decide) (by decide) rfl ?_
  exact hr
set_option maxRecDepth 20000 in
theorem eTx_numberOfDigits_91 (d : Nat) (z1 : Int32) (s : aT) : ∀ r, (ldI 4096 s 15 z1 (fun v1 => cG (fTx_failAt d v1 s) (kI fun v3 s2 => rI v3 s2))) = some r → fTx_numberOfDigits_91 (d + 1) z1 s = some r := by
  intro r hr
  show ev (d + 1) q_24 91 [(0, .ref 13), (1, .int z1)] [] s = some r
  refine ev_seg 4 (k' := 95) (L' := [(0, .ref 13), (1, .int z1)]) (st' := [.int z1, .ref 15, .ref 13]) rfl ?_
  refine ev_ldI hr rfl rfl (fun v1 hr => ?_)
  refine ev_callV (q' := q_15) (x := 15) (y := 1) (c := 13) (As := [.int v1]) (rest := []) hr rfl rfl rfl rfl rfl rfl rfl rfl rfl rfl rfl rfl (fun rv s2 hq => ev_kI hq (fun v3 e9 hr => ?_))
  subst e9
  refine ev_st (st' := [.int v3]) rfl ?_
  exact ev_iret hr rfl rfl rfl
set_option maxRecDepth 20000 in
theorem eTx_numberOfDigits_98 (d : Nat) (z1 : Int32) (z2 : Int32) (l4 : Int64) (s : aT) : ∀ r, (if z2 = 0 then fTx_numberOfDigits_107 (d + 1) z1 (-l4) z1 s else fTx_numberOfDigits_107 (d + 1) z1 l4 z1 s) = some r → fTx_numberOfDigits_98 (d + 1) z1 z2 l4 s = some r := by
  intro r hr
  show ev (d + 1) q_24 98 [(0, .ref 13), (1, .int z1), (2, .int z2), (4, .long l4)] [] s = some r
  refine ev_seg 4 (k' := 102) (L' := [(0, .ref 13), (1, .int z1), (2, .int z2), (4, .long l4)]) (st' := [.int z2, .int z1, .ref 19]) rfl ?_
  refine ev_br (P := z2 = 0) (L' := [(0, .ref 13), (1, .int z1), (2, .int z2), (4, .long l4)]) (st' := [.int z1, .ref 19]) hr rfl rfl rfl (fun hr => ?_) (fun hr => ?_)
  · skip
    refine ev_seg 2 (k' := 107) (L' := [(0, .ref 13), (1, .int z1), (2, .int z2), (4, .long l4)]) (st' := [.long (-l4), .int z1, .ref 19]) rfl ?_
    refine ev_join (L' := [(1, .int z1)]) [1] [0, 1, 2, 4] [1] rfl rfl (by decide) (by decide) rfl ?_
    exact hr
  · skip
    refine ev_seg 2 (k' := 107) (L' := [(0, .ref 13), (1, .int z1), (2, .int z2), (4, .long l4)]) (st' := [.long l4, .int z1, .ref 19]) rfl ?_
    refine ev_join (L' := [(1, .int z1)]) [1] [0, 1, 2, 4] [1] rfl rfl (by decide) (by decide) rfl ?_
    exact hr
set_option maxRecDepth 20000 in
theorem eTx_numberOfDigits_107 (d : Nat) (z1 : Int32) (n0 : Int64) (u1 : Int32) (s : aT) : ∀ r, (stL 4096 s 19 u1 n0 (fun s1 => rI z1 s1)) = some r → fTx_numberOfDigits_107 (d + 1) z1 n0 u1 s = some r := by
  intro r hr
  show ev (d + 1) q_24 107 [(1, .int z1)] [.long n0, .int u1, .ref 19] s = some r
  refine ev_stL hr rfl rfl (fun s1 hr => ?_)
  refine ev_seg 1 (k' := 109) (L' := [(1, .int z1)]) (st' := [.int z1]) rfl ?_
  exact ev_iret hr rfl rfl rfl
set_option maxRecDepth 20000 in
theorem eTx_tells (d : Nat) (x1 : Int32) (w2 : Nat) (s : aT) : ∀ r, (ldI 4096 s 14 x1 (fun v1 => if ¬ v1 = 2 then rI 0 s else ldI 4096 s 17 x1 (fun v2 => cP 900 [.ref w2] (fun v3 => if v2 = v3 then fTx_tells_17 (d + 6) x1 w2 0 s else rI 0 s)))) = some r → fTx_tells (d + 6) x1 w2 s = some r := by
  intro r hr
  show ev (d + 6) q_32 0 [(0, .ref 13), (1, .int x1), (2, .ref w2)] [] s = some r
  refine ev_seg 3 (k' := 3) (L' := [(0, .ref 13), (1, .int x1), (2, .ref w2)]) (st' := [.int x1, .ref 14]) rfl ?_
  refine ev_ldI hr rfl rfl (fun v1 hr => ?_)
  refine ev_seg 1 (k' := 5) (L' := [(0, .ref 13), (1, .int x1), (2, .ref w2)]) (st' := [.int 2, .int v1]) rfl ?_
  refine ev_br (P := ¬ v1 = 2) (L' := [(0, .ref 13), (1, .int x1), (2, .ref w2)]) (st' := []) hr rfl rfl rfl (fun hr => ?_) (fun hr => ?_)
  · skip
    refine ev_seg 1 (k' := 14) (L' := [(0, .ref 13), (1, .int x1), (2, .ref w2)]) (st' := [.int 0]) rfl ?_
    exact ev_iret hr rfl rfl rfl
  · skip
    refine ev_seg 3 (k' := 9) (L' := [(0, .ref 13), (1, .int x1), (2, .ref w2)]) (st' := [.int x1, .ref 17]) rfl ?_
    refine ev_ldI hr rfl rfl (fun v2 hr => ?_)
    refine ev_seg 1 (k' := 11) (L' := [(0, .ref 13), (1, .int x1), (2, .ref w2)]) (st' := [.ref w2, .int v2]) rfl ?_
    refine ev_primV (x := 900) (As := [.ref w2]) (rest := [.int v2]) hr rfl rfl rfl rfl (fun v3 hr => ?_)
    refine ev_br (P := v2 = v3) (L' := [(0, .ref 13), (1, .int x1), (2, .ref w2)]) (st' := []) hr rfl rfl rfl (fun hr => ?_) (fun hr => ?_)
    · skip
      refine ev_seg 2 (k' := 17) (L' := [(3, .int 0), (0, .ref 13), (1, .int x1), (2, .ref w2)]) (st' := []) rfl ?_
      refine ev_join (L' := [(0, .ref 13), (1, .int x1), (2, .ref w2), (3, .int 0)]) [1, 2, 3, 0] [3, 0, 1, 2] [0, 1, 2, 3] rfl rfl (by decide) (by decide) rfl ?_
      exact hr
    · skip
      refine ev_seg 1 (k' := 14) (L' := [(0, .ref 13), (1, .int x1), (2, .ref w2)]) (st' := [.int 0]) rfl ?_
      exact ev_iret hr rfl rfl rfl
set_option maxRecDepth 20000 in
theorem eTx_tells_17 (d : Nat) (x1 : Int32) (w2 : Nat) (z3 : Int32) (s : aT) : ∀ r, (ldI 4096 s 17 x1 (fun v1 => if v1 ≤ z3 then rI 1 s else ldI 4096 s 16 x1 (fun v2 => ldI 4096 s 21 (v2 + z3) (fun v3 => cP 901 [.ref w2, .int z3] (fun v4 => if v3 &&& 255 = v4 then fTx_tells_17 (d + 6) x1 w2 (z3 + 1) s else rI 0 s))))) = some r → fTx_tells_17 (d + 6) x1 w2 z3 s = some r := by
  intro r hr
  show ev (d + 6) q_32 17 [(0, .ref 13), (1, .int x1), (2, .ref w2), (3, .int z3)] [] s = some r
  refine ev_seg 4 (k' := 21) (L' := [(0, .ref 13), (1, .int x1), (2, .ref w2), (3, .int z3)]) (st' := [.int x1, .ref 17, .int z3]) rfl ?_
  refine ev_ldI hr rfl rfl (fun v1 hr => ?_)
  refine ev_br (P := v1 ≤ z3) (L' := [(0, .ref 13), (1, .int x1), (2, .ref w2), (3, .int z3)]) (st' := []) hr rfl rfl rfl (fun hr => ?_) (fun hr => ?_)
  · skip
    refine ev_seg 1 (k' := 44) (L' := [(0, .ref 13), (1, .int x1), (2, .ref w2), (3, .int z3)]) (st' := [.int 1]) rfl ?_
    exact ev_iret hr rfl rfl rfl
  · skip
    refine ev_seg 6 (k' := 29) (L' := [(0, .ref 13), (1, .int x1), (2, .ref w2), (3, .int z3)]) (st' := [.int x1, .ref 16, .ref 21]) rfl ?_
    refine ev_ldI hr rfl rfl (fun v2 hr => ?_)
    refine ev_seg 2 (k' := 32) (L' := [(0, .ref 13), (1, .int x1), (2, .ref w2), (3, .int z3)]) (st' := [.int (v2 + z3), .ref 21]) rfl ?_
    refine ev_ldB hr rfl rfl (fun v3 hr => ?_)
    refine ev_seg 4 (k' := 37) (L' := [(0, .ref 13), (1, .int x1), (2, .ref w2), (3, .int z3)]) (st' := [.int z3, .ref w2, .int (v3 &&& 255)]) rfl ?_
    refine ev_primV (x := 901) (As := [.ref w2, .int z3]) (rest := [.int (v3 &&& 255)]) hr rfl rfl rfl rfl (fun v4 hr => ?_)
    refine ev_br (P := v3 &&& 255 = v4) (L' := [(0, .ref 13), (1, .int x1), (2, .ref w2), (3, .int z3)]) (st' := []) hr rfl rfl rfl (fun hr => ?_) (fun hr => ?_)
    · skip
      refine ev_seg 2 (k' := 17) (L' := [(3, .int (z3 + 1)), (0, .ref 13), (1, .int x1), (2, .ref w2)]) (st' := []) rfl ?_
      refine ev_join (L' := [(0, .ref 13), (1, .int x1), (2, .ref w2), (3, .int (z3 + 1))]) [1, 2, 3, 0] [3, 0, 1, 2] [0, 1, 2, 3] rfl rfl (by decide) (by decide) rfl ?_
      exact hr
    · skip
      refine ev_seg 1 (k' := 40) (L' := [(0, .ref 13), (1, .int x1), (2, .ref w2), (3, .int z3)]) (st' := [.int 0]) rfl ?_
      exact ev_iret hr rfl rfl rfl
set_option maxRecDepth 20000 in
theorem eTx_member (d : Nat) (x1 : Int32) (w2 : Nat) (s : aT) : ∀ r, (ldI 4096 s 16 x1 (fun v1 => fTx_member_7 (d + 1) x1 w2 v1 0 s)) = some r → fTx_member (d + 1) x1 w2 s = some r := by
  intro r hr
  show ev (d + 1) q_41 0 [(0, .ref 13), (1, .int x1), (2, .ref w2)] [] s = some r
  refine ev_seg 3 (k' := 3) (L' := [(0, .ref 13), (1, .int x1), (2, .ref w2)]) (st' := [.int x1, .ref 16]) rfl ?_
  refine ev_ldI hr rfl rfl (fun v1 hr => ?_)
  refine ev_seg 3 (k' := 7) (L' := [(4, .int 0), (3, .int v1), (0, .ref 13), (1, .int x1), (2, .ref w2)]) (st' := []) rfl ?_
  refine ev_join (L' := [(0, .ref 13), (1, .int x1), (2, .ref w2), (3, .int v1), (4, .int 0)]) [2, 3, 4, 1, 0] [4, 3, 0, 1, 2] [0, 1, 2, 3, 4] rfl rfl (by decide) (by decide) rfl ?_
  exact hr
set_option maxRecDepth 20000 in
theorem eTx_member_7 (d : Nat) (x1 : Int32) (w2 : Nat) (z3 : Int32) (z4 : Int32) (s : aT) : ∀ r, (ldI 4096 s 17 x1 (fun v1 => if v1 ≤ z4 then rI (-1) s else if z3 = (-1) then rI (-1) s else cG (fTx_tells d z3 w2 s) (kI fun v3 s2 => if v3 = 0 then ldI 4096 s2 18 z3 (fun v4 => ldI 4096 s2 18 v4 (fun v5 => fTx_member_7 (d + 1) x1 w2 v5 (z4 + 2) s2)) else ldI 4096 s2 18 z3 (fun v6 => rI v6 s2)))) = some r → fTx_member_7 (d + 1) x1 w2 z3 z4 s = some r := by
  intro r hr
  show ev (d + 1) q_41 7 [(0, .ref 13), (1, .int x1), (2, .ref w2), (3, .int z3), (4, .int z4)] [] s = some r
  refine ev_seg 4 (k' := 11) (L' := [(0, .ref 13), (1, .int x1), (2, .ref w2), (3, .int z3), (4, .int z4)]) (st' := [.int x1, .ref 17, .int z4]) rfl ?_
  refine ev_ldI hr rfl rfl (fun v1 hr => ?_)
  refine ev_br (P := v1 ≤ z4) (L' := [(0, .ref 13), (1, .int x1), (2, .ref w2), (3, .int z3), (4, .int z4)]) (st' := []) hr rfl rfl rfl (fun hr => ?_) (fun hr => ?_)
  · skip
    refine ev_seg 1 (k' := 37) (L' := [(0, .ref 13), (1, .int x1), (2, .ref w2), (3, .int z3), (4, .int z4)]) (st' := [.int (-1)]) rfl ?_
    exact ev_iret hr rfl rfl rfl
  · skip
    refine ev_seg 2 (k' := 15) (L' := [(0, .ref 13), (1, .int x1), (2, .ref w2), (3, .int z3), (4, .int z4)]) (st' := [.int (-1), .int z3]) rfl ?_
    refine ev_br (P := z3 = (-1)) (L' := [(0, .ref 13), (1, .int x1), (2, .ref w2), (3, .int z3), (4, .int z4)]) (st' := []) hr rfl rfl rfl (fun hr => ?_) (fun hr => ?_)
    · skip
      refine ev_seg 1 (k' := 37) (L' := [(0, .ref 13), (1, .int x1), (2, .ref w2), (3, .int z3), (4, .int z4)]) (st' := [.int (-1)]) rfl ?_
      exact ev_iret hr rfl rfl rfl
    · skip
      refine ev_seg 3 (k' := 19) (L' := [(0, .ref 13), (1, .int x1), (2, .ref w2), (3, .int z3), (4, .int z4)]) (st' := [.ref w2, .int z3, .ref 13]) rfl ?_
      refine ev_callV (q' := q_32) (x := 32) (y := 1) (c := 13) (As := [.int z3, .ref w2]) (rest := []) hr rfl rfl rfl rfl rfl rfl rfl rfl rfl rfl rfl rfl (fun rv s2 hq => ev_kI hq (fun v3 e9 hr => ?_))
      subst e9
      refine ev_st (st' := [.int v3]) rfl ?_
      refine ev_br (P := v3 = 0) (L' := [(0, .ref 13), (1, .int x1), (2, .ref w2), (3, .int z3), (4, .int z4)]) (st' := []) hr rfl rfl rfl (fun hr => ?_) (fun hr => ?_)
      · skip
        refine ev_seg 5 (k' := 31) (L' := [(0, .ref 13), (1, .int x1), (2, .ref w2), (3, .int z3), (4, .int z4)]) (st' := [.int z3, .ref 18, .ref 18]) rfl ?_
        refine ev_ldI hr rfl rfl (fun v4 hr => ?_)
        refine ev_ldI hr rfl rfl (fun v5 hr => ?_)
        refine ev_seg 3 (k' := 7) (L' := [(4, .int (z4 + 2)), (3, .int v5), (0, .ref 13), (1, .int x1), (2, .ref w2)]) (st' := []) rfl ?_
        refine ev_join (L' := [(0, .ref 13), (1, .int x1), (2, .ref w2), (3, .int v5), (4, .int (z4 + 2))]) [2, 3, 4, 1, 0] [4, 3, 0, 1, 2] [0, 1, 2, 3, 4] rfl rfl (by decide) (by decide) rfl ?_
        exact hr
      · skip
        refine ev_seg 3 (k' := 24) (L' := [(0, .ref 13), (1, .int x1), (2, .ref w2), (3, .int z3), (4, .int z4)]) (st' := [.int z3, .ref 18]) rfl ?_
        refine ev_ldI hr rfl rfl (fun v6 hr => ?_)
        exact ev_iret hr rfl rfl rfl
