/-! RecordLake$PlainForm: what its pieces do -/
set_option maxRecDepth 20000 in
theorem ePf_writeTo (d : Nat) (b1 : Nat) (x2 : Int32) (s : aT) (hb1 : isB b1) : ∀ r, (wM (pM4 s b1) (fun s1 => wI s1 41 4 (-1) (fun s2 => cG (fPf_write d x2 0 s2) (kV fun s3 => rV s3)))) = some r → fPf_writeTo (d + 1) b1 x2 s = some r := by
  intro r hr
  show ev (d + 1) q_68 0 [(0, .ref 41), (1, .ref b1), (2, .int x2)] [] s = some r
  refine ev_seg 2 (k' := 2) (L' := [(0, .ref 41), (1, .ref b1), (2, .int x2)]) (st' := [.ref b1, .ref 41]) rfl ?_
  refine ev_putM (c := 41) (v := b1) hr rfl rfl rfl rfl (RM4 _ _) (fun s1 hr => ?_)
  refine ev_seg 2 (k' := 5) (L' := [(0, .ref 41), (1, .ref b1), (2, .int x2)]) (st' := [.int (-1), .ref 41]) rfl ?_
  refine ev_putI (c := 41) hr rfl rfl rfl (fun s2 hr => ?_)
  refine ev_seg 3 (k' := 9) (L' := [(0, .ref 41), (1, .ref b1), (2, .int x2)]) (st' := [.int 0, .int x2, .ref 41]) rfl ?_
  refine ev_callV (q' := q_69) (x := 69) (y := 5) (c := 41) (As := [.int x2, .int 0]) (rest := []) hr rfl rfl rfl rfl rfl rfl rfl rfl rfl rfl rfl rfl (fun rv s3 hq => ev_kV hq (fun e9 hr => ?_))
  subst e9
  refine ev_st (st' := []) rfl ?_
  exact ev_vret hr rfl rfl
set_option maxRecDepth 20000 in
theorem ePf_write (d : Nat) (x1 : Int32) (x2 : Int32) (s : aT) : ∀ r, (if x2 ≤ 16 then if 6 ≤ x1 then if gI s 41 4 < x1 then wI s 41 4 x1 (fun s1 => ldI 5254 s1 23 x1 (fun v2 => if v2 = 6 then cG (fPf_writeCollection d x1 1023 x2 s1) (kV fun s4 => rV s4) else if v2 = 7 then cG (fPf_writeCollection d x1 1025 x2 s1) (kV fun s6 => rV s6) else if v2 = 8 then cG (fPf_writeUnion d x1 x2 s1) (kV fun s8 => rV s8) else cG (fPf_writeNamed d x1 x2 s1) (kV fun s9 => rV s9))) else ldI 5254 s 24 x1 (fun v10 => cG (fPf_writeName d v10 s) (kV fun s11 => rV s11)) else cG (fSc_wordOf d x1 s) (kA fun v13 s12 => cG (fPf_quote d v13 s12) (kV fun s14 => rV s14)) else rV s) = some r → fPf_write (d + 1) x1 x2 s = some r := by
  intro r hr
  show ev (d + 1) q_69 0 [(0, .ref 41), (1, .int x1), (2, .int x2)] [] s = some r
  refine ev_seg 2 (k' := 2) (L' := [(0, .ref 41), (1, .int x1), (2, .int x2)]) (st' := [.int 16, .int x2]) rfl ?_
  refine ev_br (P := x2 ≤ 16) (L' := [(0, .ref 41), (1, .int x1), (2, .int x2)]) (st' := []) hr rfl rfl rfl (fun hr => ?_) (fun hr => ?_)
  · skip
    refine ev_seg 2 (k' := 6) (L' := [(0, .ref 41), (1, .int x1), (2, .int x2)]) (st' := [.int 6, .int x1]) rfl ?_
    refine ev_br (P := 6 ≤ x1) (L' := [(0, .ref 41), (1, .int x1), (2, .int x2)]) (st' := []) hr rfl rfl rfl (fun hr => ?_) (fun hr => ?_)
    · skip
      refine ev_seg 3 (k' := 15) (L' := [(0, .ref 41), (1, .int x1), (2, .int x2)]) (st' := [.int (gI s 41 4), .int x1]) rfl ?_
      refine ev_br (P := gI s 41 4 < x1) (L' := [(0, .ref 41), (1, .int x1), (2, .int x2)]) (st' := []) hr rfl rfl rfl (fun hr => ?_) (fun hr => ?_)
      · skip
        refine ev_seg 2 (k' := 26) (L' := [(0, .ref 41), (1, .int x1), (2, .int x2)]) (st' := [.int x1, .ref 41]) rfl ?_
        refine ev_putI (c := 41) hr rfl rfl rfl (fun s1 hr => ?_)
        refine ev_seg 4 (k' := 31) (L' := [(0, .ref 41), (1, .int x1), (2, .int x2)]) (st' := [.int x1, .ref 23]) rfl ?_
        refine ev_ldI hr rfl rfl (fun v2 hr => ?_)
        refine ev_if hr (fun h3 hr => ?_) (fun h3 hr => ?_)
        · skip
          refine ev_tab (o := 26) (t := 33) rfl (by rw [h3]; rfl) rfl ?_
          refine ev_seg 4 (k' := 37) (L' := [(0, .ref 41), (1, .int x1), (2, .int x2)]) (st' := [.int x2, .ref 1023, .int x1, .ref 41]) rfl ?_
          refine ev_callV (q' := q_73) (x := 73) (y := 5) (c := 41) (As := [.int x1, .ref 1023, .int x2]) (rest := []) hr rfl rfl rfl rfl rfl rfl rfl rfl rfl rfl rfl rfl (fun rv s4 hq => ev_kV hq (fun e9 hr => ?_))
          subst e9
          refine ev_st (st' := []) rfl ?_
          exact ev_vret hr rfl rfl
        refine ev_if hr (fun h5 hr => ?_) (fun h5 hr => ?_)
        · skip
          refine ev_tab (o := 35) (t := 39) rfl (by rw [h5]; rfl) rfl ?_
          refine ev_seg 4 (k' := 43) (L' := [(0, .ref 41), (1, .int x1), (2, .int x2)]) (st' := [.int x2, .ref 1025, .int x1, .ref 41]) rfl ?_
          refine ev_callV (q' := q_73) (x := 73) (y := 5) (c := 41) (As := [.int x1, .ref 1025, .int x2]) (rest := []) hr rfl rfl rfl rfl rfl rfl rfl rfl rfl rfl rfl rfl (fun rv s6 hq => ev_kV hq (fun e9 hr => ?_))
          subst e9
          refine ev_st (st' := []) rfl ?_
          exact ev_vret hr rfl rfl
        refine ev_if hr (fun h7 hr => ?_) (fun h7 hr => ?_)
        · skip
          refine ev_tab (o := 44) (t := 45) rfl (by rw [h7]; rfl) rfl ?_
          refine ev_seg 3 (k' := 48) (L' := [(0, .ref 41), (1, .int x1), (2, .int x2)]) (st' := [.int x2, .int x1, .ref 41]) rfl ?_
          refine ev_callV (q' := q_74) (x := 74) (y := 5) (c := 41) (As := [.int x1, .int x2]) (rest := []) hr rfl rfl rfl rfl rfl rfl rfl rfl rfl rfl rfl rfl (fun rv s8 hq => ev_kV hq (fun e9 hr => ?_))
          subst e9
          refine ev_st (st' := []) rfl ?_
          exact ev_vret hr rfl rfl
        refine ev_tab (o := 51) (t := 50) rfl (tab_in (by have e0 := i_neL (z := 6) (w := 6) rfl h3; have e1 := i_neL (z := 7) (w := 7) rfl h5; have e2 := i_neL (z := 8) (w := 8) rfl h7; omega)) rfl ?_
        refine ev_seg 3 (k' := 53) (L' := [(0, .ref 41), (1, .int x1), (2, .int x2)]) (st' := [.int x2, .int x1, .ref 41]) rfl ?_
        refine ev_callV (q' := q_75) (x := 75) (y := 5) (c := 41) (As := [.int x1, .int x2]) (rest := []) hr rfl rfl rfl rfl rfl rfl rfl rfl rfl rfl rfl rfl (fun rv s9 hq => ev_kV hq (fun e9 hr => ?_))
        subst e9
        refine ev_st (st' := []) rfl ?_
        exact ev_vret hr rfl rfl
      · skip
        refine ev_seg 5 (k' := 21) (L' := [(0, .ref 41), (1, .int x1), (2, .int x2)]) (st' := [.int x1, .ref 24, .ref 41]) rfl ?_
        refine ev_ldI hr rfl rfl (fun v10 hr => ?_)
        refine ev_callV (q' := q_72) (x := 72) (y := 5) (c := 41) (As := [.int v10]) (rest := []) hr rfl rfl rfl rfl rfl rfl rfl rfl rfl rfl rfl rfl (fun rv s11 hq => ev_kV hq (fun e9 hr => ?_))
        subst e9
        refine ev_st (st' := []) rfl ?_
        exact ev_vret hr rfl rfl
    · skip
      refine ev_seg 2 (k' := 9) (L' := [(0, .ref 41), (1, .int x1), (2, .int x2)]) (st' := [.int x1, .ref 41]) rfl ?_
      refine ev_callS (q' := q_31) (x := 31) (vs := [.int x1]) (rest := [.ref 41]) hr rfl rfl rfl rfl rfl rfl rfl rfl rfl rfl (fun rv s12 hq => ev_kA hq (fun v13 e9 hr => ?_))
      subst e9
      refine ev_st (st' := [.ref v13, .ref 41]) rfl ?_
      refine ev_callV (q' := q_70) (x := 70) (y := 5) (c := 41) (As := [.ref v13]) (rest := []) hr rfl rfl rfl rfl rfl rfl rfl rfl rfl rfl rfl rfl (fun rv s14 hq => ev_kV hq (fun e9 hr => ?_))
      subst e9
      refine ev_st (st' := []) rfl ?_
      exact ev_vret hr rfl rfl
  · skip
    exact ev_vret hr rfl rfl
set_option maxRecDepth 20000 in
theorem ePf_quote (d : Nat) (w1 : Nat) (s : aT) : ∀ r, (gC (gM4 s) 0 (cG (fBy_put d (gM4 s) 34 s) (kI fun v3 s2 => gC (gM4 s2) 0 (cG (fBy_putWord d (gM4 s2) w1 s2) (kI fun v6 s5 => gC (gM4 s5) 0 (cG (fBy_put d (gM4 s5) 34 s5) (kI fun v9 s8 => rV s8))))))) = some r → fPf_quote (d + 1) w1 s = some r := by
  intro r hr
  show ev (d + 1) q_70 0 [(0, .ref 41), (1, .ref w1)] [] s = some r
  refine ev_seg 3 (k' := 3) (L' := [(0, .ref 41), (1, .ref w1)]) (st' := [.int 34, .ref (gM4 s)]) rfl ?_
  refine ev_gC hr (fun h1 hr => ?_)
  refine ev_callV (q' := q_16) (x := 16) (y := 0) (c := (gM4 s)) (As := [.int 34]) (rest := []) hr rfl rfl rfl rfl rfl rfl h1 rfl rfl rfl rfl rfl (fun rv s2 hq => ev_kI hq (fun v3 e9 hr => ?_))
  subst e9
  refine ev_st (st' := [.int v3]) rfl ?_
  refine ev_seg 4 (k' := 8) (L' := [(0, .ref 41), (1, .ref w1)]) (st' := [.ref w1, .ref (gM4 s2)]) rfl ?_
  refine ev_gC hr (fun h4 hr => ?_)
  refine ev_callV (q' := q_71) (x := 71) (y := 0) (c := (gM4 s2)) (As := [.ref w1]) (rest := []) hr rfl rfl rfl rfl rfl rfl h4 rfl rfl rfl rfl rfl (fun rv s5 hq => ev_kI hq (fun v6 e9 hr => ?_))
  subst e9
  refine ev_st (st' := [.int v6]) rfl ?_
  refine ev_seg 4 (k' := 13) (L' := [(0, .ref 41), (1, .ref w1)]) (st' := [.int 34, .ref (gM4 s5)]) rfl ?_
  refine ev_gC hr (fun h7 hr => ?_)
  refine ev_callV (q' := q_16) (x := 16) (y := 0) (c := (gM4 s5)) (As := [.int 34]) (rest := []) hr rfl rfl rfl rfl rfl rfl h7 rfl rfl rfl rfl rfl (fun rv s8 hq => ev_kI hq (fun v9 e9 hr => ?_))
  subst e9
  refine ev_st (st' := [.int v9]) rfl ?_
  refine ev_seg 1 (k' := 15) (L' := [(0, .ref 41), (1, .ref w1)]) (st' := []) rfl ?_
  exact ev_vret hr rfl rfl
set_option maxRecDepth 20000 in
theorem ePf_writeName (d : Nat) (x1 : Int32) (s : aT) : ∀ r, (gC (gM4 s) 0 (cG (fBy_put d (gM4 s) 34 s) (kI fun v3 s2 => cG (fBy_at d 32 x1 s2) (kI fun v5 s4 => gC (gM4 s2) 0 (cG (fBy_putRow d (gM4 s2) 33 (x1 + 1) v5 s4) (kI fun v8 s7 => gC (gM4 s7) 0 (cG (fBy_put d (gM4 s7) 34 s7) (kI fun v11 s10 => rV s10)))))))) = some r → fPf_writeName (d + 1) x1 s = some r := by
  intro r hr
  show ev (d + 1) q_72 0 [(0, .ref 41), (1, .int x1)] [] s = some r
  refine ev_seg 3 (k' := 3) (L' := [(0, .ref 41), (1, .int x1)]) (st' := [.int 34, .ref (gM4 s)]) rfl ?_
  refine ev_gC hr (fun h1 hr => ?_)
  refine ev_callV (q' := q_16) (x := 16) (y := 0) (c := (gM4 s)) (As := [.int 34]) (rest := []) hr rfl rfl rfl rfl rfl rfl h1 rfl rfl rfl rfl rfl (fun rv s2 hq => ev_kI hq (fun v3 e9 hr => ?_))
  subst e9
  refine ev_st (st' := [.int v3]) rfl ?_
  refine ev_seg 14 (k' := 18) (L' := [(0, .ref 41), (1, .int x1)]) (st' := [.int x1, .ref 32, .int (x1 + 1), .ref 33, .ref (gM4 s2)]) rfl ?_
  refine ev_callV (q' := q_46) (x := 46) (y := 0) (c := 32) (As := [.int x1]) (rest := [.int (x1 + 1), .ref 33, .ref (gM4 s2)]) hr rfl rfl rfl rfl rfl rfl rfl rfl rfl rfl rfl rfl (fun rv s4 hq => ev_kI hq (fun v5 e9 hr => ?_))
  subst e9
  refine ev_st (st' := [.int v5, .int (x1 + 1), .ref 33, .ref (gM4 s2)]) rfl ?_
  refine ev_gC hr (fun h6 hr => ?_)
  refine ev_callV (q' := q_48) (x := 48) (y := 0) (c := (gM4 s2)) (As := [.ref 33, .int (x1 + 1), .int v5]) (rest := []) hr rfl rfl rfl rfl rfl rfl h6 rfl rfl rfl rfl rfl (fun rv s7 hq => ev_kI hq (fun v8 e9 hr => ?_))
  subst e9
  refine ev_st (st' := [.int v8]) rfl ?_
  refine ev_seg 4 (k' := 24) (L' := [(0, .ref 41), (1, .int x1)]) (st' := [.int 34, .ref (gM4 s7)]) rfl ?_
  refine ev_gC hr (fun h9 hr => ?_)
  refine ev_callV (q' := q_16) (x := 16) (y := 0) (c := (gM4 s7)) (As := [.int 34]) (rest := []) hr rfl rfl rfl rfl rfl rfl h9 rfl rfl rfl rfl rfl (fun rv s10 hq => ev_kI hq (fun v11 e9 hr => ?_))
  subst e9
  refine ev_st (st' := [.int v11]) rfl ?_
  refine ev_seg 1 (k' := 26) (L' := [(0, .ref 41), (1, .int x1)]) (st' := []) rfl ?_
  exact ev_vret hr rfl rfl
set_option maxRecDepth 20000 in
theorem ePf_writeCollection (d : Nat) (x1 : Int32) (w2 : Nat) (x3 : Int32) (s : aT) : ∀ r, (gC (gM4 s) 0 (cG (fBy_putWord d (gM4 s) 1024 s) (kI fun v3 s2 => ldI 5254 s2 23 x1 (fun v4 => cG (fSc_wordOf d v4 s2) (kA fun v6 s5 => cG (fPf_quote d v6 s5) (kV fun s7 => gC (gM4 s7) 0 (cG (fBy_put d (gM4 s7) 44 s7) (kI fun v10 s9 => gC (gM4 s9) 0 (cG (fBy_putWord d (gM4 s9) w2 s9) (kI fun v13 s12 => ldI 5254 s12 27 x1 (fun v14 => cG (fPf_write d v14 (x3 + 1) s12) (kV fun s15 => gC (gM4 s15) 0 (cG (fBy_put d (gM4 s15) 125 s15) (kI fun v18 s17 => rV s17)))))))))))))) = some r → fPf_writeCollection (d + 1) x1 w2 x3 s = some r := by
  intro r hr
  show ev (d + 1) q_73 0 [(0, .ref 41), (1, .int x1), (2, .ref w2), (3, .int x3)] [] s = some r
  refine ev_seg 3 (k' := 3) (L' := [(0, .ref 41), (1, .int x1), (2, .ref w2), (3, .int x3)]) (st' := [.ref 1024, .ref (gM4 s)]) rfl ?_
  refine ev_gC hr (fun h1 hr => ?_)
  refine ev_callV (q' := q_71) (x := 71) (y := 0) (c := (gM4 s)) (As := [.ref 1024]) (rest := []) hr rfl rfl rfl rfl rfl rfl h1 rfl rfl rfl rfl rfl (fun rv s2 hq => ev_kI hq (fun v3 e9 hr => ?_))
  subst e9
  refine ev_st (st' := [.int v3]) rfl ?_
  refine ev_seg 6 (k' := 10) (L' := [(0, .ref 41), (1, .int x1), (2, .ref w2), (3, .int x3)]) (st' := [.int x1, .ref 23, .ref 41]) rfl ?_
  refine ev_ldI hr rfl rfl (fun v4 hr => ?_)
  refine ev_callS (q' := q_31) (x := 31) (vs := [.int v4]) (rest := [.ref 41]) hr rfl rfl rfl rfl rfl rfl rfl rfl rfl rfl (fun rv s5 hq => ev_kA hq (fun v6 e9 hr => ?_))
  subst e9
  refine ev_st (st' := [.ref v6, .ref 41]) rfl ?_
  refine ev_callV (q' := q_70) (x := 70) (y := 5) (c := 41) (As := [.ref v6]) (rest := []) hr rfl rfl rfl rfl rfl rfl rfl rfl rfl rfl rfl rfl (fun rv s7 hq => ev_kV hq (fun e9 hr => ?_))
  subst e9
  refine ev_st (st' := []) rfl ?_
  refine ev_seg 3 (k' := 16) (L' := [(0, .ref 41), (1, .int x1), (2, .ref w2), (3, .int x3)]) (st' := [.int 44, .ref (gM4 s7)]) rfl ?_
  refine ev_gC hr (fun h8 hr => ?_)
  refine ev_callV (q' := q_16) (x := 16) (y := 0) (c := (gM4 s7)) (As := [.int 44]) (rest := []) hr rfl rfl rfl rfl rfl rfl h8 rfl rfl rfl rfl rfl (fun rv s9 hq => ev_kI hq (fun v10 e9 hr => ?_))
  subst e9
  refine ev_st (st' := [.int v10]) rfl ?_
  refine ev_seg 4 (k' := 21) (L' := [(0, .ref 41), (1, .int x1), (2, .ref w2), (3, .int x3)]) (st' := [.ref w2, .ref (gM4 s9)]) rfl ?_
  refine ev_gC hr (fun h11 hr => ?_)
  refine ev_callV (q' := q_71) (x := 71) (y := 0) (c := (gM4 s9)) (As := [.ref w2]) (rest := []) hr rfl rfl rfl rfl rfl rfl h11 rfl rfl rfl rfl rfl (fun rv s12 hq => ev_kI hq (fun v13 e9 hr => ?_))
  subst e9
  refine ev_st (st' := [.int v13]) rfl ?_
  refine ev_seg 6 (k' := 28) (L' := [(0, .ref 41), (1, .int x1), (2, .ref w2), (3, .int x3)]) (st' := [.int x1, .ref 27, .ref 41]) rfl ?_
  refine ev_ldI hr rfl rfl (fun v14 hr => ?_)
  refine ev_seg 3 (k' := 32) (L' := [(0, .ref 41), (1, .int x1), (2, .ref w2), (3, .int x3)]) (st' := [.int (x3 + 1), .int v14, .ref 41]) rfl ?_
  refine ev_callV (q' := q_69) (x := 69) (y := 5) (c := 41) (As := [.int v14, .int (x3 + 1)]) (rest := []) hr rfl rfl rfl rfl rfl rfl rfl rfl rfl rfl rfl rfl (fun rv s15 hq => ev_kV hq (fun e9 hr => ?_))
  subst e9
  refine ev_st (st' := []) rfl ?_
  refine ev_seg 3 (k' := 36) (L' := [(0, .ref 41), (1, .int x1), (2, .ref w2), (3, .int x3)]) (st' := [.int 125, .ref (gM4 s15)]) rfl ?_
  refine ev_gC hr (fun h16 hr => ?_)
  refine ev_callV (q' := q_16) (x := 16) (y := 0) (c := (gM4 s15)) (As := [.int 125]) (rest := []) hr rfl rfl rfl rfl rfl rfl h16 rfl rfl rfl rfl rfl (fun rv s17 hq => ev_kI hq (fun v18 e9 hr => ?_))
  subst e9
  refine ev_st (st' := [.int v18]) rfl ?_
  refine ev_seg 1 (k' := 38) (L' := [(0, .ref 41), (1, .int x1), (2, .ref w2), (3, .int x3)]) (st' := []) rfl ?_
  exact ev_vret hr rfl rfl
set_option maxRecDepth 20000 in
theorem ePf_writeUnion (d : Nat) (x1 : Int32) (x2 : Int32) (s : aT) : ∀ r, (gC (gM4 s) 0 (cG (fBy_put d (gM4 s) 91 s) (kI fun v3 s2 => fPf_writeUnion_7 (d + 1) x1 x2 0 s2))) = some r → fPf_writeUnion (d + 1) x1 x2 s = some r := by
  intro r hr
  show ev (d + 1) q_74 0 [(0, .ref 41), (1, .int x1), (2, .int x2)] [] s = some r
  refine ev_seg 3 (k' := 3) (L' := [(0, .ref 41), (1, .int x1), (2, .int x2)]) (st' := [.int 91, .ref (gM4 s)]) rfl ?_
  refine ev_gC hr (fun h1 hr => ?_)
  refine ev_callV (q' := q_16) (x := 16) (y := 0) (c := (gM4 s)) (As := [.int 91]) (rest := []) hr rfl rfl rfl rfl rfl rfl h1 rfl rfl rfl rfl rfl (fun rv s2 hq => ev_kI hq (fun v3 e9 hr => ?_))
  subst e9
  refine ev_st (st' := [.int v3]) rfl ?_
  refine ev_seg 3 (k' := 7) (L' := [(3, .int 0), (0, .ref 41), (1, .int x1), (2, .int x2)]) (st' := []) rfl ?_
  refine ev_join (L' := [(0, .ref 41), (1, .int x1), (2, .int x2), (3, .int 0)]) [1, 2, 3, 0] [3, 0, 1, 2] [0, 1, 2, 3] rfl rfl (by decide) (by decide) rfl ?_
  exact hr
set_option maxRecDepth 20000 in
theorem ePf_writeUnion_7 (d : Nat) (x1 : Int32) (x2 : Int32) (z3 : Int32) (s : aT) : ∀ r, (ldI 5254 s 26 x1 (fun v1 => if v1 ≤ z3 then gC (gM4 s) 0 (cG (fBy_put d (gM4 s) 93 s) (kI fun v4 s3 => rV s3)) else if z3 ≤ 0 then fPf_writeUnion_21 (d + 1) x1 x2 z3 s else gC (gM4 s) 0 (cG (fBy_put d (gM4 s) 44 s) (kI fun v7 s6 => fPf_writeUnion_21 (d + 1) x1 x2 z3 s6)))) = some r → fPf_writeUnion_7 (d + 1) x1 x2 z3 s = some r := by
  intro r hr
  show ev (d + 1) q_74 7 [(0, .ref 41), (1, .int x1), (2, .int x2), (3, .int z3)] [] s = some r
  refine ev_seg 5 (k' := 12) (L' := [(0, .ref 41), (1, .int x1), (2, .int x2), (3, .int z3)]) (st' := [.int x1, .ref 26, .int z3]) rfl ?_
  refine ev_ldI hr rfl rfl (fun v1 hr => ?_)
  refine ev_br (P := v1 ≤ z3) (L' := [(0, .ref 41), (1, .int x1), (2, .int x2), (3, .int z3)]) (st' := []) hr rfl rfl rfl (fun hr => ?_) (fun hr => ?_)
  · skip
    refine ev_seg 3 (k' := 36) (L' := [(0, .ref 41), (1, .int x1), (2, .int x2), (3, .int z3)]) (st' := [.int 93, .ref (gM4 s)]) rfl ?_
    refine ev_gC hr (fun h2 hr => ?_)
    refine ev_callV (q' := q_16) (x := 16) (y := 0) (c := (gM4 s)) (As := [.int 93]) (rest := []) hr rfl rfl rfl rfl rfl rfl h2 rfl rfl rfl rfl rfl (fun rv s3 hq => ev_kI hq (fun v4 e9 hr => ?_))
    subst e9
    refine ev_st (st' := [.int v4]) rfl ?_
    refine ev_seg 1 (k' := 38) (L' := [(0, .ref 41), (1, .int x1), (2, .int x2), (3, .int z3)]) (st' := []) rfl ?_
    exact ev_vret hr rfl rfl
  · skip
    refine ev_seg 1 (k' := 15) (L' := [(0, .ref 41), (1, .int x1), (2, .int x2), (3, .int z3)]) (st' := [.int z3]) rfl ?_
    refine ev_br (P := z3 ≤ 0) (L' := [(0, .ref 41), (1, .int x1), (2, .int x2), (3, .int z3)]) (st' := []) hr rfl rfl rfl (fun hr => ?_) (fun hr => ?_)
    · skip
      exact hr
    · skip
      refine ev_seg 3 (k' := 19) (L' := [(0, .ref 41), (1, .int x1), (2, .int x2), (3, .int z3)]) (st' := [.int 44, .ref (gM4 s)]) rfl ?_
      refine ev_gC hr (fun h5 hr => ?_)
      refine ev_callV (q' := q_16) (x := 16) (y := 0) (c := (gM4 s)) (As := [.int 44]) (rest := []) hr rfl rfl rfl rfl rfl rfl h5 rfl rfl rfl rfl rfl (fun rv s6 hq => ev_kI hq (fun v7 e9 hr => ?_))
      subst e9
      refine ev_st (st' := [.int v7]) rfl ?_
      refine ev_seg 1 (k' := 21) (L' := [(0, .ref 41), (1, .int x1), (2, .int x2), (3, .int z3)]) (st' := []) rfl ?_
      exact hr
set_option maxRecDepth 20000 in
theorem ePf_writeUnion_21 (d : Nat) (x1 : Int32) (x2 : Int32) (z3 : Int32) (s : aT) : ∀ r, (cG (fSc_partSchemaOf d x1 z3 s) (kI fun v2 s1 => cG (fPf_write d v2 (x2 + 1) s1) (kV fun s3 => fPf_writeUnion_7 (d + 1) x1 x2 (z3 + 1) s3))) = some r → fPf_writeUnion_21 (d + 1) x1 x2 z3 s = some r := by
  intro r hr
  show ev (d + 1) q_74 21 [(0, .ref 41), (1, .int x1), (2, .int x2), (3, .int z3)] [] s = some r
  refine ev_seg 5 (k' := 26) (L' := [(0, .ref 41), (1, .int x1), (2, .int x2), (3, .int z3)]) (st' := [.int z3, .int x1, .ref 22, .ref 41]) rfl ?_
  refine ev_callV (q' := q_39) (x := 39) (y := 2) (c := 22) (As := [.int x1, .int z3]) (rest := [.ref 41]) hr rfl rfl rfl rfl rfl rfl rfl rfl rfl rfl rfl rfl (fun rv s1 hq => ev_kI hq (fun v2 e9 hr => ?_))
  subst e9
  refine ev_st (st' := [.int v2, .ref 41]) rfl ?_
  refine ev_seg 3 (k' := 30) (L' := [(0, .ref 41), (1, .int x1), (2, .int x2), (3, .int z3)]) (st' := [.int (x2 + 1), .int v2, .ref 41]) rfl ?_
  refine ev_callV (q' := q_69) (x := 69) (y := 5) (c := 41) (As := [.int v2, .int (x2 + 1)]) (rest := []) hr rfl rfl rfl rfl rfl rfl rfl rfl rfl rfl rfl rfl (fun rv s3 hq => ev_kV hq (fun e9 hr => ?_))
  subst e9
  refine ev_st (st' := []) rfl ?_
  refine ev_seg 2 (k' := 7) (L' := [(3, .int (z3 + 1)), (0, .ref 41), (1, .int x1), (2, .int x2)]) (st' := []) rfl ?_
  refine ev_join (L' := [(0, .ref 41), (1, .int x1), (2, .int x2), (3, .int (z3 + 1))]) [1, 2, 3, 0] [3, 0, 1, 2] [0, 1, 2, 3] rfl rfl (by decide) (by decide) rfl ?_
  exact hr
set_option maxRecDepth 20000 in
theorem ePf_writeNamed (d : Nat) (x1 : Int32) (x2 : Int32) (s : aT) : ∀ r, (gC (gM4 s) 0 (cG (fBy_putWord d (gM4 s) 1026 s) (kI fun v3 s2 => ldI 5254 s2 24 x1 (fun v4 => cG (fPf_writeName d v4 s2) (kV fun s5 => gC (gM4 s5) 0 (cG (fBy_putWord d (gM4 s5) 1027 s5) (kI fun v8 s7 => ldI 5254 s7 23 x1 (fun v9 => cG (fSc_wordOf d v9 s7) (kA fun v11 s10 => cG (fPf_quote d v11 s10) (kV fun s12 => ldI 5254 s12 23 x1 (fun v13 => if v13 = 9 then gC (gM4 s12) 0 (cG (fBy_putWord d (gM4 s12) 1028 s12) (kI fun v17 s16 => ldI 5254 s16 27 x1 (fun v18 => cG (fPf_writeSize d v18 s16) (kV fun s19 => fPf_writeNamed_72 (d + 1) s19)))) else if v13 = 10 then gC (gM4 s12) 0 (cG (fBy_putWord d (gM4 s12) 1029 s12) (kI fun v23 s22 => cG (fPf_writeSymbols d x1 s22) (kV fun s24 => gC (gM4 s24) 0 (cG (fBy_put d (gM4 s24) 93 s24) (kI fun v27 s26 => fPf_writeNamed_72 (d + 1) s26))))) else gC (gM4 s12) 0 (cG (fBy_putWord d (gM4 s12) 1030 s12) (kI fun v30 s29 => cG (fPf_writeFields d x1 x2 s29) (kV fun s31 => gC (gM4 s31) 0 (cG (fBy_put d (gM4 s31) 93 s31) (kI fun v34 s33 => fPf_writeNamed_72 (d + 1) s33)))))))))))))))) = some r → fPf_writeNamed (d + 1) x1 x2 s = some r := by
  intro r hr
  show ev (d + 1) q_75 0 [(0, .ref 41), (1, .int x1), (2, .int x2)] [] s = some r
  refine ev_seg 3 (k' := 3) (L' := [(0, .ref 41), (1, .int x1), (2, .int x2)]) (st' := [.ref 1026, .ref (gM4 s)]) rfl ?_
  refine ev_gC hr (fun h1 hr => ?_)
  refine ev_callV (q' := q_71) (x := 71) (y := 0) (c := (gM4 s)) (As := [.ref 1026]) (rest := []) hr rfl rfl rfl rfl rfl rfl h1 rfl rfl rfl rfl rfl (fun rv s2 hq => ev_kI hq (fun v3 e9 hr => ?_))
  subst e9
  refine ev_st (st' := [.int v3]) rfl ?_
  refine ev_seg 6 (k' := 10) (L' := [(0, .ref 41), (1, .int x1), (2, .int x2)]) (st' := [.int x1, .ref 24, .ref 41]) rfl ?_
  refine ev_ldI hr rfl rfl (fun v4 hr => ?_)
  refine ev_callV (q' := q_72) (x := 72) (y := 5) (c := 41) (As := [.int v4]) (rest := []) hr rfl rfl rfl rfl rfl rfl rfl rfl rfl rfl rfl rfl (fun rv s5 hq => ev_kV hq (fun e9 hr => ?_))
  subst e9
  refine ev_st (st' := []) rfl ?_
  refine ev_seg 3 (k' := 15) (L' := [(0, .ref 41), (1, .int x1), (2, .int x2)]) (st' := [.ref 1027, .ref (gM4 s5)]) rfl ?_
  refine ev_gC hr (fun h6 hr => ?_)
  refine ev_callV (q' := q_71) (x := 71) (y := 0) (c := (gM4 s5)) (As := [.ref 1027]) (rest := []) hr rfl rfl rfl rfl rfl rfl h6 rfl rfl rfl rfl rfl (fun rv s7 hq => ev_kI hq (fun v8 e9 hr => ?_))
  subst e9
  refine ev_st (st' := [.int v8]) rfl ?_
  refine ev_seg 6 (k' := 22) (L' := [(0, .ref 41), (1, .int x1), (2, .int x2)]) (st' := [.int x1, .ref 23, .ref 41]) rfl ?_
  refine ev_ldI hr rfl rfl (fun v9 hr => ?_)
  refine ev_callS (q' := q_31) (x := 31) (vs := [.int v9]) (rest := [.ref 41]) hr rfl rfl rfl rfl rfl rfl rfl rfl rfl rfl (fun rv s10 hq => ev_kA hq (fun v11 e9 hr => ?_))
  subst e9
  refine ev_st (st' := [.ref v11, .ref 41]) rfl ?_
  refine ev_callV (q' := q_70) (x := 70) (y := 5) (c := 41) (As := [.ref v11]) (rest := []) hr rfl rfl rfl rfl rfl rfl rfl rfl rfl rfl rfl rfl (fun rv s12 hq => ev_kV hq (fun e9 hr => ?_))
  subst e9
  refine ev_st (st' := []) rfl ?_
  refine ev_seg 4 (k' := 29) (L' := [(0, .ref 41), (1, .int x1), (2, .int x2)]) (st' := [.int x1, .ref 23]) rfl ?_
  refine ev_ldI hr rfl rfl (fun v13 hr => ?_)
  refine ev_if hr (fun h14 hr => ?_) (fun h14 hr => ?_)
  · skip
    refine ev_look (o := 26) (t := 31) rfl rfl (by rw [h14]; rfl) rfl ?_
    refine ev_seg 3 (k' := 34) (L' := [(0, .ref 41), (1, .int x1), (2, .int x2)]) (st' := [.ref 1028, .ref (gM4 s12)]) rfl ?_
    refine ev_gC hr (fun h15 hr => ?_)
    refine ev_callV (q' := q_71) (x := 71) (y := 0) (c := (gM4 s12)) (As := [.ref 1028]) (rest := []) hr rfl rfl rfl rfl rfl rfl h15 rfl rfl rfl rfl rfl (fun rv s16 hq => ev_kI hq (fun v17 e9 hr => ?_))
    subst e9
    refine ev_st (st' := [.int v17]) rfl ?_
    refine ev_seg 6 (k' := 41) (L' := [(0, .ref 41), (1, .int x1), (2, .int x2)]) (st' := [.int x1, .ref 27, .ref 41]) rfl ?_
    refine ev_ldI hr rfl rfl (fun v18 hr => ?_)
    refine ev_callV (q' := q_76) (x := 76) (y := 5) (c := 41) (As := [.int v18]) (rest := []) hr rfl rfl rfl rfl rfl rfl rfl rfl rfl rfl rfl rfl (fun rv s19 hq => ev_kV hq (fun e9 hr => ?_))
    subst e9
    refine ev_st (st' := []) rfl ?_
    refine ev_seg 1 (k' := 72) (L' := [(0, .ref 41), (1, .int x1), (2, .int x2)]) (st' := []) rfl ?_
    refine ev_join (L' := [(0, .ref 41)]) [0] [0, 1, 2] [0] rfl rfl (by decide) (by decide) rfl ?_
    exact hr
  refine ev_if hr (fun h20 hr => ?_) (fun h20 hr => ?_)
  · skip
    refine ev_look (o := 52) (t := 44) rfl rfl (by rw [h20]; rfl) rfl ?_
    refine ev_seg 3 (k' := 47) (L' := [(0, .ref 41), (1, .int x1), (2, .int x2)]) (st' := [.ref 1029, .ref (gM4 s12)]) rfl ?_
    refine ev_gC hr (fun h21 hr => ?_)
    refine ev_callV (q' := q_71) (x := 71) (y := 0) (c := (gM4 s12)) (As := [.ref 1029]) (rest := []) hr rfl rfl rfl rfl rfl rfl h21 rfl rfl rfl rfl rfl (fun rv s22 hq => ev_kI hq (fun v23 e9 hr => ?_))
    subst e9
    refine ev_st (st' := [.int v23]) rfl ?_
    refine ev_seg 3 (k' := 51) (L' := [(0, .ref 41), (1, .int x1), (2, .int x2)]) (st' := [.int x1, .ref 41]) rfl ?_
    refine ev_callV (q' := q_77) (x := 77) (y := 5) (c := 41) (As := [.int x1]) (rest := []) hr rfl rfl rfl rfl rfl rfl rfl rfl rfl rfl rfl rfl (fun rv s24 hq => ev_kV hq (fun e9 hr => ?_))
    subst e9
    refine ev_st (st' := []) rfl ?_
    refine ev_seg 3 (k' := 55) (L' := [(0, .ref 41), (1, .int x1), (2, .int x2)]) (st' := [.int 93, .ref (gM4 s24)]) rfl ?_
    refine ev_gC hr (fun h25 hr => ?_)
    refine ev_callV (q' := q_16) (x := 16) (y := 0) (c := (gM4 s24)) (As := [.int 93]) (rest := []) hr rfl rfl rfl rfl rfl rfl h25 rfl rfl rfl rfl rfl (fun rv s26 hq => ev_kI hq (fun v27 e9 hr => ?_))
    subst e9
    refine ev_st (st' := [.int v27]) rfl ?_
    refine ev_seg 2 (k' := 72) (L' := [(0, .ref 41), (1, .int x1), (2, .int x2)]) (st' := []) rfl ?_
    refine ev_join (L' := [(0, .ref 41)]) [0] [0, 1, 2] [0] rfl rfl (by decide) (by decide) rfl ?_
    exact hr
  refine ev_look (o := 80) (t := 58) rfl rfl (by have e0 := i_neL (z := 9) (w := 9) rfl h14; have e1 := i_neL (z := 10) (w := 10) rfl h20; simp only [Op.lookupswitch.offset, if_neg (Ne.symm e0), if_neg (Ne.symm e1)]) rfl ?_
  refine ev_seg 3 (k' := 61) (L' := [(0, .ref 41), (1, .int x1), (2, .int x2)]) (st' := [.ref 1030, .ref (gM4 s12)]) rfl ?_
  refine ev_gC hr (fun h28 hr => ?_)
  refine ev_callV (q' := q_71) (x := 71) (y := 0) (c := (gM4 s12)) (As := [.ref 1030]) (rest := []) hr rfl rfl rfl rfl rfl rfl h28 rfl rfl rfl rfl rfl (fun rv s29 hq => ev_kI hq (fun v30 e9 hr => ?_))
  subst e9
  refine ev_st (st' := [.int v30]) rfl ?_
  refine ev_seg 4 (k' := 66) (L' := [(0, .ref 41), (1, .int x1), (2, .int x2)]) (st' := [.int x2, .int x1, .ref 41]) rfl ?_
  refine ev_callV (q' := q_78) (x := 78) (y := 5) (c := 41) (As := [.int x1, .int x2]) (rest := []) hr rfl rfl rfl rfl rfl rfl rfl rfl rfl rfl rfl rfl (fun rv s31 hq => ev_kV hq (fun e9 hr => ?_))
  subst e9
  refine ev_st (st' := []) rfl ?_
  refine ev_seg 3 (k' := 70) (L' := [(0, .ref 41), (1, .int x1), (2, .int x2)]) (st' := [.int 93, .ref (gM4 s31)]) rfl ?_
  refine ev_gC hr (fun h32 hr => ?_)
  refine ev_callV (q' := q_16) (x := 16) (y := 0) (c := (gM4 s31)) (As := [.int 93]) (rest := []) hr rfl rfl rfl rfl rfl rfl h32 rfl rfl rfl rfl rfl (fun rv s33 hq => ev_kI hq (fun v34 e9 hr => ?_))
  subst e9
  refine ev_st (st' := [.int v34]) rfl ?_
  refine ev_seg 1 (k' := 72) (L' := [(0, .ref 41), (1, .int x1), (2, .int x2)]) (st' := []) rfl ?_
  refine ev_join (L' := [(0, .ref 41)]) [0] [0, 1, 2] [0] rfl rfl (by decide) (by decide) rfl ?_
  exact hr
set_option maxRecDepth 20000 in
theorem ePf_writeNamed_72 (d : Nat) (s : aT) : ∀ r, (gC (gM4 s) 0 (cG (fBy_put d (gM4 s) 125 s) (kI fun v3 s2 => rV s2))) = some r → fPf_writeNamed_72 (d + 1) s = some r := by
  intro r hr
  show ev (d + 1) q_75 72 [(0, .ref 41)] [] s = some r
  refine ev_seg 3 (k' := 75) (L' := [(0, .ref 41)]) (st' := [.int 125, .ref (gM4 s)]) rfl ?_
  refine ev_gC hr (fun h1 hr => ?_)
  refine ev_callV (q' := q_16) (x := 16) (y := 0) (c := (gM4 s)) (As := [.int 125]) (rest := []) hr rfl rfl rfl rfl rfl rfl h1 rfl rfl rfl rfl rfl (fun rv s2 hq => ev_kI hq (fun v3 e9 hr => ?_))
  subst e9
  refine ev_st (st' := [.int v3]) rfl ?_
  refine ev_seg 1 (k' := 77) (L' := [(0, .ref 41)]) (st' := []) rfl ?_
  exact ev_vret hr rfl rfl
set_option maxRecDepth 20000 in
theorem ePf_writeSize (d : Nat) (x1 : Int32) (s : aT) : ∀ r, (if x1 < 10 then fPf_writeSize_12 (d + 1) x1 s else gC (gM4 s) 0 (cG (fBy_put d (gM4 s) (48 + (x1 / 10)) s) (kI fun v3 s2 => fPf_writeSize_12 (d + 1) x1 s2))) = some r → fPf_writeSize (d + 1) x1 s = some r := by
  intro r hr
  show ev (d + 1) q_76 0 [(0, .ref 41), (1, .int x1)] [] s = some r
  refine ev_seg 2 (k' := 2) (L' := [(0, .ref 41), (1, .int x1)]) (st' := [.int 10, .int x1]) rfl ?_
  refine ev_br (P := x1 < 10) (L' := [(0, .ref 41), (1, .int x1)]) (st' := []) hr rfl rfl rfl (fun hr => ?_) (fun hr => ?_)
  · skip
    exact hr
  · skip
    refine ev_seg 7 (k' := 10) (L' := [(0, .ref 41), (1, .int x1)]) (st' := [.int (48 + (x1 / 10)), .ref (gM4 s)]) rfl ?_
    refine ev_gC hr (fun h1 hr => ?_)
    refine ev_callV (q' := q_16) (x := 16) (y := 0) (c := (gM4 s)) (As := [.int (48 + (x1 / 10))]) (rest := []) hr rfl rfl rfl rfl rfl rfl h1 rfl rfl rfl rfl rfl (fun rv s2 hq => ev_kI hq (fun v3 e9 hr => ?_))
    subst e9
    refine ev_st (st' := [.int v3]) rfl ?_
    refine ev_seg 1 (k' := 12) (L' := [(0, .ref 41), (1, .int x1)]) (st' := []) rfl ?_
    exact hr
set_option maxRecDepth 20000 in
theorem ePf_writeSize_12 (d : Nat) (x1 : Int32) (s : aT) : ∀ r, (gC (gM4 s) 0 (cG (fBy_put d (gM4 s) (48 + (x1 - x1 / 10 * 10)) s) (kI fun v3 s2 => rV s2))) = some r → fPf_writeSize_12 (d + 1) x1 s = some r := by
  intro r hr
  show ev (d + 1) q_76 12 [(0, .ref 41), (1, .int x1)] [] s = some r
  refine ev_seg 7 (k' := 19) (L' := [(0, .ref 41), (1, .int x1)]) (st' := [.int (48 + (x1 - x1 / 10 * 10)), .ref (gM4 s)]) rfl ?_
  refine ev_gC hr (fun h1 hr => ?_)
  refine ev_callV (q' := q_16) (x := 16) (y := 0) (c := (gM4 s)) (As := [.int (48 + (x1 - x1 / 10 * 10))]) (rest := []) hr rfl rfl rfl rfl rfl rfl h1 rfl rfl rfl rfl rfl (fun rv s2 hq => ev_kI hq (fun v3 e9 hr => ?_))
  subst e9
  refine ev_st (st' := [.int v3]) rfl ?_
  refine ev_seg 1 (k' := 21) (L' := [(0, .ref 41), (1, .int x1)]) (st' := []) rfl ?_
  exact ev_vret hr rfl rfl
set_option maxRecDepth 20000 in
theorem ePf_writeSymbols (d : Nat) (x1 : Int32) (s : aT) : ∀ r, (fPf_writeSymbols_2 (d + 1) x1 0 s) = some r → fPf_writeSymbols (d + 1) x1 s = some r := by
  intro r hr
  show ev (d + 1) q_77 0 [(0, .ref 41), (1, .int x1)] [] s = some r
  refine ev_seg 2 (k' := 2) (L' := [(2, .int 0), (0, .ref 41), (1, .int x1)]) (st' := []) rfl ?_
  refine ev_join (L' := [(0, .ref 41), (1, .int x1), (2, .int 0)]) [1, 2, 0] [2, 0, 1] [0, 1, 2] rfl rfl (by decide) (by decide) rfl ?_
  exact hr
set_option maxRecDepth 20000 in
theorem ePf_writeSymbols_2 (d : Nat) (x1 : Int32) (z2 : Int32) (s : aT) : ∀ r, (ldI 5254 s 26 x1 (fun v1 => if v1 ≤ z2 then rV s else if z2 ≤ 0 then fPf_writeSymbols_16 (d + 1) x1 z2 s else gC (gM4 s) 0 (cG (fBy_put d (gM4 s) 44 s) (kI fun v4 s3 => fPf_writeSymbols_16 (d + 1) x1 z2 s3)))) = some r → fPf_writeSymbols_2 (d + 1) x1 z2 s = some r := by
  intro r hr
  show ev (d + 1) q_77 2 [(0, .ref 41), (1, .int x1), (2, .int z2)] [] s = some r
  refine ev_seg 5 (k' := 7) (L' := [(0, .ref 41), (1, .int x1), (2, .int z2)]) (st' := [.int x1, .ref 26, .int z2]) rfl ?_
  refine ev_ldI hr rfl rfl (fun v1 hr => ?_)
  refine ev_br (P := v1 ≤ z2) (L' := [(0, .ref 41), (1, .int x1), (2, .int z2)]) (st' := []) hr rfl rfl rfl (fun hr => ?_) (fun hr => ?_)
  · skip
    exact ev_vret hr rfl rfl
  · skip
    refine ev_seg 1 (k' := 10) (L' := [(0, .ref 41), (1, .int x1), (2, .int z2)]) (st' := [.int z2]) rfl ?_
    refine ev_br (P := z2 ≤ 0) (L' := [(0, .ref 41), (1, .int x1), (2, .int z2)]) (st' := []) hr rfl rfl rfl (fun hr => ?_) (fun hr => ?_)
    · skip
      exact hr
    · skip
      refine ev_seg 3 (k' := 14) (L' := [(0, .ref 41), (1, .int x1), (2, .int z2)]) (st' := [.int 44, .ref (gM4 s)]) rfl ?_
      refine ev_gC hr (fun h2 hr => ?_)
      refine ev_callV (q' := q_16) (x := 16) (y := 0) (c := (gM4 s)) (As := [.int 44]) (rest := []) hr rfl rfl rfl rfl rfl rfl h2 rfl rfl rfl rfl rfl (fun rv s3 hq => ev_kI hq (fun v4 e9 hr => ?_))
      subst e9
      refine ev_st (st' := [.int v4]) rfl ?_
      refine ev_seg 1 (k' := 16) (L' := [(0, .ref 41), (1, .int x1), (2, .int z2)]) (st' := []) rfl ?_
      exact hr
set_option maxRecDepth 20000 in
theorem ePf_writeSymbols_16 (d : Nat) (x1 : Int32) (z2 : Int32) (s : aT) : ∀ r, (ldI 5254 s 25 x1 (fun v1 => ldI 10112 s 28 (v1 + z2) (fun v2 => cG (fPf_writeName d v2 s) (kV fun s3 => fPf_writeSymbols_2 (d + 1) x1 (z2 + 1) s3)))) = some r → fPf_writeSymbols_16 (d + 1) x1 z2 s = some r := by
  intro r hr
  show ev (d + 1) q_77 16 [(0, .ref 41), (1, .int x1), (2, .int z2)] [] s = some r
  refine ev_seg 8 (k' := 24) (L' := [(0, .ref 41), (1, .int x1), (2, .int z2)]) (st' := [.int x1, .ref 25, .ref 28, .ref 41]) rfl ?_
  refine ev_ldI hr rfl rfl (fun v1 hr => ?_)
  refine ev_seg 2 (k' := 27) (L' := [(0, .ref 41), (1, .int x1), (2, .int z2)]) (st' := [.int (v1 + z2), .ref 28, .ref 41]) rfl ?_
  refine ev_ldI hr rfl rfl (fun v2 hr => ?_)
  refine ev_callV (q' := q_72) (x := 72) (y := 5) (c := 41) (As := [.int v2]) (rest := []) hr rfl rfl rfl rfl rfl rfl rfl rfl rfl rfl rfl rfl (fun rv s3 hq => ev_kV hq (fun e9 hr => ?_))
  subst e9
  refine ev_st (st' := []) rfl ?_
  refine ev_seg 2 (k' := 2) (L' := [(2, .int (z2 + 1)), (0, .ref 41), (1, .int x1)]) (st' := []) rfl ?_
  refine ev_join (L' := [(0, .ref 41), (1, .int x1), (2, .int (z2 + 1))]) [1, 2, 0] [2, 0, 1] [0, 1, 2] rfl rfl (by decide) (by decide) rfl ?_
  exact hr
set_option maxRecDepth 20000 in
theorem ePf_writeFields (d : Nat) (x1 : Int32) (x2 : Int32) (s : aT) : ∀ r, (fPf_writeFields_2 (d + 1) x1 x2 0 s) = some r → fPf_writeFields (d + 1) x1 x2 s = some r := by
  intro r hr
  show ev (d + 1) q_78 0 [(0, .ref 41), (1, .int x1), (2, .int x2)] [] s = some r
  refine ev_seg 2 (k' := 2) (L' := [(3, .int 0), (0, .ref 41), (1, .int x1), (2, .int x2)]) (st' := []) rfl ?_
  refine ev_join (L' := [(0, .ref 41), (1, .int x1), (2, .int x2), (3, .int 0)]) [1, 2, 3, 0] [3, 0, 1, 2] [0, 1, 2, 3] rfl rfl (by decide) (by decide) rfl ?_
  exact hr
set_option maxRecDepth 20000 in
theorem ePf_writeFields_2 (d : Nat) (x1 : Int32) (x2 : Int32) (z3 : Int32) (s : aT) : ∀ r, (ldI 5254 s 26 x1 (fun v1 => if v1 ≤ z3 then rV s else if z3 ≤ 0 then fPf_writeFields_16 (d + 1) x1 x2 z3 1026 (gM4 s) s else fPf_writeFields_16 (d + 1) x1 x2 z3 1031 (gM4 s) s)) = some r → fPf_writeFields_2 (d + 1) x1 x2 z3 s = some r := by
  intro r hr
  show ev (d + 1) q_78 2 [(0, .ref 41), (1, .int x1), (2, .int x2), (3, .int z3)] [] s = some r
  refine ev_seg 5 (k' := 7) (L' := [(0, .ref 41), (1, .int x1), (2, .int x2), (3, .int z3)]) (st' := [.int x1, .ref 26, .int z3]) rfl ?_
  refine ev_ldI hr rfl rfl (fun v1 hr => ?_)
  refine ev_br (P := v1 ≤ z3) (L' := [(0, .ref 41), (1, .int x1), (2, .int x2), (3, .int z3)]) (st' := []) hr rfl rfl rfl (fun hr => ?_) (fun hr => ?_)
  · skip
    exact ev_vret hr rfl rfl
  · skip
    refine ev_seg 3 (k' := 12) (L' := [(0, .ref 41), (1, .int x1), (2, .int x2), (3, .int z3)]) (st' := [.int z3, .ref (gM4 s)]) rfl ?_
    refine ev_br (P := z3 ≤ 0) (L' := [(0, .ref 41), (1, .int x1), (2, .int x2), (3, .int z3)]) (st' := [.ref (gM4 s)]) hr rfl rfl rfl (fun hr => ?_) (fun hr => ?_)
    · skip
      refine ev_seg 1 (k' := 16) (L' := [(0, .ref 41), (1, .int x1), (2, .int x2), (3, .int z3)]) (st' := [.ref 1026, .ref (gM4 s)]) rfl ?_
      exact hr
    · skip
      refine ev_seg 2 (k' := 16) (L' := [(0, .ref 41), (1, .int x1), (2, .int x2), (3, .int z3)]) (st' := [.ref 1031, .ref (gM4 s)]) rfl ?_
      exact hr
set_option maxRecDepth 20000 in
theorem ePf_writeFields_16 (d : Nat) (x1 : Int32) (x2 : Int32) (z3 : Int32) (q0 : Nat) (q1 : Nat) (s : aT) : ∀ r, (gC q1 0 (cG (fBy_putWord d q1 q0 s) (kI fun v3 s2 => ldI 5254 s2 25 x1 (fun v4 => ldI 10112 s2 28 (v4 + z3) (fun v5 => cG (fPf_writeName d v5 s2) (kV fun s6 => gC (gM4 s6) 0 (cG (fBy_putWord d (gM4 s6) 1027 s6) (kI fun v9 s8 => cG (fSc_partSchemaOf d x1 z3 s8) (kI fun v11 s10 => cG (fPf_write d v11 (x2 + 1) s10) (kV fun s12 => gC (gM4 s12) 0 (cG (fBy_put d (gM4 s12) 125 s12) (kI fun v15 s14 => fPf_writeFields_2 (d + 1) x1 x2 (z3 + 1) s14)))))))))))) = some r → fPf_writeFields_16 (d + 1) x1 x2 z3 q0 q1 s = some r := by
  intro r hr
  show ev (d + 1) q_78 16 [(0, .ref 41), (1, .int x1), (2, .int x2), (3, .int z3)] [.ref q0, .ref q1] s = some r
  refine ev_gC hr (fun h1 hr => ?_)
  refine ev_callV (q' := q_71) (x := 71) (y := 0) (c := q1) (As := [.ref q0]) (rest := []) hr rfl rfl rfl rfl rfl rfl h1 rfl rfl rfl rfl rfl (fun rv s2 hq => ev_kI hq (fun v3 e9 hr => ?_))
  subst e9
  refine ev_st (st' := [.int v3]) rfl ?_
  refine ev_seg 9 (k' := 26) (L' := [(0, .ref 41), (1, .int x1), (2, .int x2), (3, .int z3)]) (st' := [.int x1, .ref 25, .ref 28, .ref 41]) rfl ?_
  refine ev_ldI hr rfl rfl (fun v4 hr => ?_)
  refine ev_seg 2 (k' := 29) (L' := [(0, .ref 41), (1, .int x1), (2, .int x2), (3, .int z3)]) (st' := [.int (v4 + z3), .ref 28, .ref 41]) rfl ?_
  refine ev_ldI hr rfl rfl (fun v5 hr => ?_)
  refine ev_callV (q' := q_72) (x := 72) (y := 5) (c := 41) (As := [.int v5]) (rest := []) hr rfl rfl rfl rfl rfl rfl rfl rfl rfl rfl rfl rfl (fun rv s6 hq => ev_kV hq (fun e9 hr => ?_))
  subst e9
  refine ev_st (st' := []) rfl ?_
  refine ev_seg 3 (k' := 34) (L' := [(0, .ref 41), (1, .int x1), (2, .int x2), (3, .int z3)]) (st' := [.ref 1027, .ref (gM4 s6)]) rfl ?_
  refine ev_gC hr (fun h7 hr => ?_)
  refine ev_callV (q' := q_71) (x := 71) (y := 0) (c := (gM4 s6)) (As := [.ref 1027]) (rest := []) hr rfl rfl rfl rfl rfl rfl h7 rfl rfl rfl rfl rfl (fun rv s8 hq => ev_kI hq (fun v9 e9 hr => ?_))
  subst e9
  refine ev_st (st' := [.int v9]) rfl ?_
  refine ev_seg 6 (k' := 41) (L' := [(0, .ref 41), (1, .int x1), (2, .int x2), (3, .int z3)]) (st' := [.int z3, .int x1, .ref 22, .ref 41]) rfl ?_
  refine ev_callV (q' := q_39) (x := 39) (y := 2) (c := 22) (As := [.int x1, .int z3]) (rest := [.ref 41]) hr rfl rfl rfl rfl rfl rfl rfl rfl rfl rfl rfl rfl (fun rv s10 hq => ev_kI hq (fun v11 e9 hr => ?_))
  subst e9
  refine ev_st (st' := [.int v11, .ref 41]) rfl ?_
  refine ev_seg 3 (k' := 45) (L' := [(0, .ref 41), (1, .int x1), (2, .int x2), (3, .int z3)]) (st' := [.int (x2 + 1), .int v11, .ref 41]) rfl ?_
  refine ev_callV (q' := q_69) (x := 69) (y := 5) (c := 41) (As := [.int v11, .int (x2 + 1)]) (rest := []) hr rfl rfl rfl rfl rfl rfl rfl rfl rfl rfl rfl rfl (fun rv s12 hq => ev_kV hq (fun e9 hr => ?_))
  subst e9
  refine ev_st (st' := []) rfl ?_
  refine ev_seg 3 (k' := 49) (L' := [(0, .ref 41), (1, .int x1), (2, .int x2), (3, .int z3)]) (st' := [.int 125, .ref (gM4 s12)]) rfl ?_
  refine ev_gC hr (fun h13 hr => ?_)
  refine ev_callV (q' := q_16) (x := 16) (y := 0) (c := (gM4 s12)) (As := [.int 125]) (rest := []) hr rfl rfl rfl rfl rfl rfl h13 rfl rfl rfl rfl rfl (fun rv s14 hq => ev_kI hq (fun v15 e9 hr => ?_))
  subst e9
  refine ev_st (st' := [.int v15]) rfl ?_
  refine ev_seg 3 (k' := 2) (L' := [(3, .int (z3 + 1)), (0, .ref 41), (1, .int x1), (2, .int x2)]) (st' := []) rfl ?_
  refine ev_join (L' := [(0, .ref 41), (1, .int x1), (2, .int x2), (3, .int (z3 + 1))]) [1, 2, 3, 0] [3, 0, 1, 2] [0, 1, 2, 3] rfl rfl (by decide) (by decide) rfl ?_
  exact hr
set_option maxRecDepth 20000 in
theorem ePf_isSame (d : Nat) (x1 : Int32) (x2 : Int32) (s : aT) : ∀ r, (wI s 42 1 0 (fun s1 => wI s1 44 1 0 (fun s2 => cG (fPf_writeTo d 42 x1 s2) (kV fun s3 => cG (fPf_writeTo d 44 x2 s3) (kV fun s4 => cG (fBy_isSame d 42 44 s4) (kI fun v6 s5 => rZ v6 s5)))))) = some r → fPf_isSame (d + 1) x1 x2 s = some r := by
  intro r hr
  show ev (d + 1) q_161 0 [(0, .ref 41), (1, .int x1), (2, .int x2)] [] s = some r
  refine ev_seg 3 (k' := 3) (L' := [(0, .ref 41), (1, .int x1), (2, .int x2)]) (st' := [.int 0, .ref 42]) rfl ?_
  refine ev_putI (c := 42) hr rfl rfl rfl (fun s1 hr => ?_)
  refine ev_seg 3 (k' := 7) (L' := [(0, .ref 41), (1, .int x1), (2, .int x2)]) (st' := [.int 0, .ref 44]) rfl ?_
  refine ev_putI (c := 44) hr rfl rfl rfl (fun s2 hr => ?_)
  refine ev_seg 4 (k' := 12) (L' := [(0, .ref 41), (1, .int x1), (2, .int x2)]) (st' := [.int x1, .ref 42, .ref 41]) rfl ?_
  refine ev_callV (q' := q_68) (x := 68) (y := 5) (c := 41) (As := [.ref 42, .int x1]) (rest := []) hr rfl rfl rfl rfl rfl rfl rfl rfl rfl rfl rfl rfl (fun rv s3 hq => ev_kV hq (fun e9 hr => ?_))
  subst e9
  refine ev_st (st' := []) rfl ?_
  refine ev_seg 4 (k' := 17) (L' := [(0, .ref 41), (1, .int x1), (2, .int x2)]) (st' := [.int x2, .ref 44, .ref 41]) rfl ?_
  refine ev_callV (q' := q_68) (x := 68) (y := 5) (c := 41) (As := [.ref 44, .int x2]) (rest := []) hr rfl rfl rfl rfl rfl rfl rfl rfl rfl rfl rfl rfl (fun rv s4 hq => ev_kV hq (fun e9 hr => ?_))
  subst e9
  refine ev_st (st' := []) rfl ?_
  refine ev_seg 4 (k' := 22) (L' := [(0, .ref 41), (1, .int x1), (2, .int x2)]) (st' := [.ref 44, .ref 42]) rfl ?_
  refine ev_callV (q' := q_162) (x := 162) (y := 0) (c := 42) (As := [.ref 44]) (rest := []) hr rfl rfl rfl rfl rfl rfl rfl rfl rfl rfl rfl rfl (fun rv s5 hq => ev_kI hq (fun v6 e9 hr => ?_))
  subst e9
  refine ev_st (st' := [.int v6]) rfl ?_
  exact ev_zret hr rfl rfl
set_option maxRecDepth 20000 in
theorem ePf_printOf (d : Nat) (x1 : Int32) (s : aT) : ∀ r, (wI s 42 1 0 (fun s1 => cG (fPf_writeTo d 42 x1 s1) (kV fun s2 => fPf_printOf_13 (d + 1) (-4513414715797952619) 0 s2))) = some r → fPf_printOf (d + 1) x1 s = some r := by
  intro r hr
  show ev (d + 1) q_176 0 [(0, .ref 41), (1, .int x1)] [] s = some r
  refine ev_seg 3 (k' := 3) (L' := [(0, .ref 41), (1, .int x1)]) (st' := [.int 0, .ref 42]) rfl ?_
  refine ev_putI (c := 42) hr rfl rfl rfl (fun s1 hr => ?_)
  refine ev_seg 4 (k' := 8) (L' := [(0, .ref 41), (1, .int x1)]) (st' := [.int x1, .ref 42, .ref 41]) rfl ?_
  refine ev_callV (q' := q_68) (x := 68) (y := 5) (c := 41) (As := [.ref 42, .int x1]) (rest := []) hr rfl rfl rfl rfl rfl rfl rfl rfl rfl rfl rfl rfl (fun rv s2 hq => ev_kV hq (fun e9 hr => ?_))
  subst e9
  refine ev_st (st' := []) rfl ?_
  refine ev_seg 4 (k' := 13) (L' := [(4, .int 0), (2, .long (-4513414715797952619)), (0, .ref 41), (1, .int x1)]) (st' := []) rfl ?_
  refine ev_join (L' := [(0, .ref 41), (2, .long (-4513414715797952619)), (4, .int 0)]) [2, 1, 0] [4, 2, 0, 1] [0, 2, 4] rfl rfl (by decide) (by decide) rfl ?_
  exact hr
set_option maxRecDepth 20000 in
theorem ePf_printOf_13 (d : Nat) (l2 : Int64) (z4 : Int32) (s : aT) : ∀ r, (if gI s 42 1 ≤ z4 then rL l2 s else cG (fBy_at d 42 z4 s) (kI fun v2 s1 => fPf_printOf_28 (d + 1) (l2 ^^^ v2.toInt64) z4 0 s1)) = some r → fPf_printOf_13 (d + 1) l2 z4 s = some r := by
  intro r hr
  show ev (d + 1) q_176 13 [(0, .ref 41), (2, .long l2), (4, .int z4)] [] s = some r
  refine ev_seg 4 (k' := 17) (L' := [(0, .ref 41), (2, .long l2), (4, .int z4)]) (st' := [.int (gI s 42 1), .int z4]) rfl ?_
  refine ev_br (P := gI s 42 1 ≤ z4) (L' := [(0, .ref 41), (2, .long l2), (4, .int z4)]) (st' := []) hr rfl rfl rfl (fun hr => ?_) (fun hr => ?_)
  · skip
    refine ev_seg 1 (k' := 52) (L' := [(0, .ref 41), (2, .long l2), (4, .int z4)]) (st' := [.long l2]) rfl ?_
    exact ev_lret hr rfl rfl
  · skip
    refine ev_seg 4 (k' := 22) (L' := [(0, .ref 41), (2, .long l2), (4, .int z4)]) (st' := [.int z4, .ref 42, .long l2]) rfl ?_
    refine ev_callV (q' := q_46) (x := 46) (y := 0) (c := 42) (As := [.int z4]) (rest := [.long l2]) hr rfl rfl rfl rfl rfl rfl rfl rfl rfl rfl rfl rfl (fun rv s1 hq => ev_kI hq (fun v2 e9 hr => ?_))
    subst e9
    refine ev_st (st' := [.int v2, .long l2]) rfl ?_
    refine ev_seg 5 (k' := 28) (L' := [(5, .int 0), (2, .long (l2 ^^^ v2.toInt64)), (0, .ref 41), (4, .int z4)]) (st' := []) rfl ?_
    refine ev_join (L' := [(0, .ref 41), (2, .long (l2 ^^^ v2.toInt64)), (4, .int z4), (5, .int 0)]) [2, 1, 3, 0] [5, 2, 0, 4] [0, 2, 4, 5] rfl rfl (by decide) (by decide) rfl ?_
    exact hr
set_option maxRecDepth 20000 in
theorem ePf_printOf_28 (d : Nat) (l2 : Int64) (z4 : Int32) (z5 : Int32) (s : aT) : ∀ r, (if 8 ≤ z5 then fPf_printOf_13 (d + 1) l2 (z4 + 1) s else if ¬ aLcmp (l2 &&& 1) 0 = 0 then fPf_printOf_46 (d + 1) z4 z5 (((l2.toUInt64 >>> ((1 : Int32).toInt64.toUInt64 &&& Int64.toUInt64 63)).toInt64) ^^^ (-4513414715797952619)) s else fPf_printOf_46 (d + 1) z4 z5 ((l2.toUInt64 >>> ((1 : Int32).toInt64.toUInt64 &&& Int64.toUInt64 63)).toInt64) s) = some r → fPf_printOf_28 (d + 1) l2 z4 z5 s = some r := by
  intro r hr
  show ev (d + 1) q_176 28 [(0, .ref 41), (2, .long l2), (4, .int z4), (5, .int z5)] [] s = some r
  refine ev_seg 2 (k' := 30) (L' := [(0, .ref 41), (2, .long l2), (4, .int z4), (5, .int z5)]) (st' := [.int 8, .int z5]) rfl ?_
  refine ev_br (P := 8 ≤ z5) (L' := [(0, .ref 41), (2, .long l2), (4, .int z4), (5, .int z5)]) (st' := []) hr rfl rfl rfl (fun hr => ?_) (fun hr => ?_)
  · skip
    refine ev_seg 2 (k' := 13) (L' := [(4, .int (z4 + 1)), (0, .ref 41), (2, .long l2), (5, .int z5)]) (st' := []) rfl ?_
    refine ev_join (L' := [(0, .ref 41), (2, .long l2), (4, .int (z4 + 1))]) [1, 2, 0] [4, 0, 2, 5] [0, 2, 4] rfl rfl (by decide) (by decide) rfl ?_
    exact hr
  · skip
    refine ev_seg 5 (k' := 36) (L' := [(0, .ref 41), (2, .long l2), (4, .int z4), (5, .int z5)]) (st' := [.int (aLcmp (l2 &&& 1) 0)]) rfl ?_
    refine ev_br (P := ¬ aLcmp (l2 &&& 1) 0 = 0) (L' := [(0, .ref 41), (2, .long l2), (4, .int z4), (5, .int z5)]) (st' := []) hr rfl rfl rfl (fun hr => ?_) (fun hr => ?_)
    · skip
      refine ev_seg 5 (k' := 46) (L' := [(0, .ref 41), (2, .long l2), (4, .int z4), (5, .int z5)]) (st' := [.long (((l2.toUInt64 >>> ((1 : Int32).toInt64.toUInt64 &&& Int64.toUInt64 63)).toInt64) ^^^ (-4513414715797952619))]) rfl ?_
      refine ev_join (L' := [(0, .ref 41), (4, .int z4), (5, .int z5)]) [0, 2, 3] [0, 2, 4, 5] [0, 4, 5] rfl rfl (by decide) (by decide) rfl ?_
      exact hr
    · skip
      refine ev_seg 4 (k' := 46) (L' := [(0, .ref 41), (2, .long l2), (4, .int z4), (5, .int z5)]) (st' := [.long ((l2.toUInt64 >>> ((1 : Int32).toInt64.toUInt64 &&& Int64.toUInt64 63)).toInt64)]) rfl ?_
      refine ev_join (L' := [(0, .ref 41), (4, .int z4), (5, .int z5)]) [0, 2, 3] [0, 2, 4, 5] [0, 4, 5] rfl rfl (by decide) (by decide) rfl ?_
      exact hr
set_option maxRecDepth 20000 in
theorem ePf_printOf_46 (d : Nat) (z4 : Int32) (z5 : Int32) (n0 : Int64) (s : aT) : ∀ r, (fPf_printOf_28 (d + 1) n0 z4 (z5 + 1) s) = some r → fPf_printOf_46 (d + 1) z4 z5 n0 s = some r := by
  intro r hr
  show ev (d + 1) q_176 46 [(0, .ref 41), (4, .int z4), (5, .int z5)] [.long n0] s = some r
  refine ev_seg 3 (k' := 28) (L' := [(5, .int (z5 + 1)), (2, .long n0), (0, .ref 41), (4, .int z4)]) (st' := []) rfl ?_
  refine ev_join (L' := [(0, .ref 41), (2, .long n0), (4, .int z4), (5, .int (z5 + 1))]) [2, 1, 3, 0] [5, 2, 0, 4] [0, 2, 4, 5] rfl rfl (by decide) (by decide) rfl ?_
  exact hr
