/-! RecordLake$Looker: what its pieces do -/
set_option maxRecDepth 20000 in
theorem eLo_open (d : Nat) (a1 : Nat) (x2 : Int32) (x3 : Int32) (s : aT) : ∀ r, (wM (pM1 s a1) (fun s1 => wI s1 46 1 x2 (fun s2 => wI s2 46 7 x3 (fun s3 => wI s3 47 1 0 (fun s4 => rV s4))))) = some r → fLo_open d a1 x2 x3 s = some r := by
  intro r hr
  show ev d q_119 0 [(0, .ref 46), (1, .ref a1), (2, .int x2), (3, .int x3)] [] s = some r
  refine ev_seg 2 (k' := 2) (L' := [(0, .ref 46), (1, .ref a1), (2, .int x2), (3, .int x3)]) (st' := [.ref a1, .ref 46]) rfl ?_
  refine ev_putM (c := 46) (v := a1) hr rfl rfl rfl rfl (RM1 _ _) (fun s1 hr => ?_)
  refine ev_seg 2 (k' := 5) (L' := [(0, .ref 46), (1, .ref a1), (2, .int x2), (3, .int x3)]) (st' := [.int x2, .ref 46]) rfl ?_
  refine ev_putI (c := 46) hr rfl rfl rfl (fun s2 hr => ?_)
  refine ev_seg 2 (k' := 8) (L' := [(0, .ref 46), (1, .ref a1), (2, .int x2), (3, .int x3)]) (st' := [.int x3, .ref 46]) rfl ?_
  refine ev_putI (c := 46) hr rfl rfl rfl (fun s3 hr => ?_)
  refine ev_seg 3 (k' := 12) (L' := [(0, .ref 46), (1, .ref a1), (2, .int x2), (3, .int x3)]) (st' := [.int 0, .ref 47]) rfl ?_
  refine ev_putI (c := 47) hr rfl rfl rfl (fun s4 hr => ?_)
  exact ev_vret hr rfl rfl
set_option maxRecDepth 20000 in
theorem eLo_row (d : Nat) (x1 : Int32) (s : aT) : ∀ r, (wI s 46 8 0 (fun s1 => wI s1 46 9 0 (fun s2 => cG (fLo_datum d x1 0 s2) (kI fun v4 s3 => rZ v4 s3)))) = some r → fLo_row (d + 1) x1 s = some r := by
  intro r hr
  show ev (d + 1) q_120 0 [(0, .ref 46), (1, .int x1)] [] s = some r
  refine ev_seg 2 (k' := 2) (L' := [(0, .ref 46), (1, .int x1)]) (st' := [.int 0, .ref 46]) rfl ?_
  refine ev_putI (c := 46) hr rfl rfl rfl (fun s1 hr => ?_)
  refine ev_seg 2 (k' := 5) (L' := [(0, .ref 46), (1, .int x1)]) (st' := [.int 0, .ref 46]) rfl ?_
  refine ev_putI (c := 46) hr rfl rfl rfl (fun s2 hr => ?_)
  refine ev_seg 3 (k' := 9) (L' := [(0, .ref 46), (1, .int x1)]) (st' := [.int 0, .int x1, .ref 46]) rfl ?_
  refine ev_callV (q' := q_121) (x := 121) (y := 6) (c := 46) (As := [.int x1, .int 0]) (rest := []) hr rfl rfl rfl rfl rfl rfl rfl rfl rfl rfl rfl rfl (fun rv s3 hq => ev_kI hq (fun v4 e9 hr => ?_))
  subst e9
  refine ev_st (st' := [.int v4]) rfl ?_
  exact ev_zret hr rfl rfl
set_option maxRecDepth 20000 in
theorem eLo_datum (d : Nat) (x1 : Int32) (x2 : Int32) (s : aT) : ∀ r, (if x2 < 32 then if gI s 46 8 < 4000 then wI s 46 8 ((gI s 46 8) + 1) (fun s1 => ldI 5254 s1 23 x1 (fun v2 => if v2 = 0 then rI 1 s1 else if v2 = 1 then cG (fLo_truth d s1) (kI fun v6 s5 => rZ v6 s5) else if v2 = 2 then cG (fLo_integer d s1) (kI fun v9 s8 => rZ v9 s8) else if v2 = 3 then cG (fLo_varint d s1) (kI fun v12 s11 => if v12 = 0 then rI 0 s11 else cG (fBy_putVarint d 47 (gL s11 46 4) s11) (kI fun v14 s13 => if v14 = 0 then rI 0 s13 else rI 1 s13)) else if v2 = 4 then cG (fLo_countedBytes d s1) (kI fun v17 s16 => rZ v17 s16) else if v2 = 5 then cG (fLo_countedBytes d s1) (kI fun v20 s19 => rZ v20 s19) else if v2 = 6 then cG (fLo_blocks d x1 x2 s1) (kI fun v23 s22 => rZ v23 s22) else if v2 = 7 then cG (fLo_blocks d x1 x2 s1) (kI fun v26 s25 => rZ v26 s25) else if v2 = 8 then ldI 5254 s1 26 x1 (fun v28 => cG (fLo_choice d 4 v28 s1) (kI fun v30 s29 => if v30 = 0 then rI 0 s29 else cG (fSc_partSchemaOf d x1 ((gL s29 46 4).toInt32) s29) (kI fun v32 s31 => cG (fLo_datum d v32 (x2 + 1) s31) (kI fun v34 s33 => if v34 = 0 then rI 0 s33 else rI 1 s33)))) else if v2 = 9 then ldI 5254 s1 27 x1 (fun v36 => cG (fLo_manyBytes d v36.toInt64 s1) (kI fun v38 s37 => rZ v38 s37)) else if v2 = 10 then ldI 5254 s1 26 x1 (fun v40 => cG (fLo_choice d 5 v40 s1) (kI fun v42 s41 => rZ v42 s41)) else if v2 = 11 then cG (fLo_fields d x1 x2 s1) (kI fun v45 s44 => rZ v45 s44) else cG (fLo_blocks d x1 x2 s1) (kI fun v47 s46 => rZ v47 s46))) else cG (fLo_fail d 8 (gI s 46 1) s) (kI fun v49 s48 => rZ v49 s48) else cG (fLo_fail d 7 (gI s 46 1) s) (kI fun v51 s50 => rZ v51 s50)) = some r → fLo_datum (d + 1) x1 x2 s = some r := by
  intro r hr
  show ev (d + 1) q_121 0 [(0, .ref 46), (1, .int x1), (2, .int x2)] [] s = some r
  refine ev_seg 2 (k' := 2) (L' := [(0, .ref 46), (1, .int x1), (2, .int x2)]) (st' := [.int 32, .int x2]) rfl ?_
  refine ev_br (P := x2 < 32) (L' := [(0, .ref 46), (1, .int x1), (2, .int x2)]) (st' := []) hr rfl rfl rfl (fun hr => ?_) (fun hr => ?_)
  · skip
    refine ev_seg 3 (k' := 12) (L' := [(0, .ref 46), (1, .int x1), (2, .int x2)]) (st' := [.int 4000, .int (gI s 46 8)]) rfl ?_
    refine ev_br (P := gI s 46 8 < 4000) (L' := [(0, .ref 46), (1, .int x1), (2, .int x2)]) (st' := []) hr rfl rfl rfl (fun hr => ?_) (fun hr => ?_)
    · skip
      refine ev_seg 5 (k' := 24) (L' := [(0, .ref 46), (1, .int x1), (2, .int x2)]) (st' := [.int ((gI s 46 8) + 1), .ref 46]) rfl ?_
      refine ev_putI (c := 46) hr rfl rfl rfl (fun s1 hr => ?_)
      refine ev_seg 4 (k' := 29) (L' := [(0, .ref 46), (1, .int x1), (2, .int x2)]) (st' := [.int x1, .ref 23]) rfl ?_
      refine ev_ldI hr rfl rfl (fun v2 hr => ?_)
      refine ev_if hr (fun h3 hr => ?_) (fun h3 hr => ?_)
      · skip
        refine ev_tab (o := 63) (t := 31) rfl (by rw [h3]; rfl) rfl ?_
        refine ev_seg 1 (k' := 32) (L' := [(0, .ref 46), (1, .int x1), (2, .int x2)]) (st' := [.int 1]) rfl ?_
        exact ev_iret hr rfl rfl rfl
      refine ev_if hr (fun h4 hr => ?_) (fun h4 hr => ?_)
      · skip
        refine ev_tab (o := 65) (t := 33) rfl (by rw [h4]; rfl) rfl ?_
        refine ev_seg 1 (k' := 34) (L' := [(0, .ref 46), (1, .int x1), (2, .int x2)]) (st' := [.ref 46]) rfl ?_
        refine ev_callV (q' := q_123) (x := 123) (y := 6) (c := 46) (As := []) (rest := []) hr rfl rfl rfl rfl rfl rfl rfl rfl rfl rfl rfl rfl (fun rv s5 hq => ev_kI hq (fun v6 e9 hr => ?_))
        subst e9
        refine ev_st (st' := [.int v6]) rfl ?_
        exact ev_zret hr rfl rfl
      refine ev_if hr (fun h7 hr => ?_) (fun h7 hr => ?_)
      · skip
        refine ev_tab (o := 70) (t := 36) rfl (by rw [h7]; rfl) rfl ?_
        refine ev_seg 1 (k' := 37) (L' := [(0, .ref 46), (1, .int x1), (2, .int x2)]) (st' := [.ref 46]) rfl ?_
        refine ev_callV (q' := q_124) (x := 124) (y := 6) (c := 46) (As := []) (rest := []) hr rfl rfl rfl rfl rfl rfl rfl rfl rfl rfl rfl rfl (fun rv s8 hq => ev_kI hq (fun v9 e9 hr => ?_))
        subst e9
        refine ev_st (st' := [.int v9]) rfl ?_
        exact ev_zret hr rfl rfl
      refine ev_if hr (fun h10 hr => ?_) (fun h10 hr => ?_)
      · skip
        refine ev_tab (o := 75) (t := 39) rfl (by rw [h10]; rfl) rfl ?_
        refine ev_seg 1 (k' := 40) (L' := [(0, .ref 46), (1, .int x1), (2, .int x2)]) (st' := [.ref 46]) rfl ?_
        refine ev_callV (q' := q_125) (x := 125) (y := 6) (c := 46) (As := []) (rest := []) hr rfl rfl rfl rfl rfl rfl rfl rfl rfl rfl rfl rfl (fun rv s11 hq => ev_kI hq (fun v12 e9 hr => ?_))
        subst e9
        refine ev_st (st' := [.int v12]) rfl ?_
        refine ev_br (P := v12 = 0) (L' := [(0, .ref 46), (1, .int x1), (2, .int x2)]) (st' := []) hr rfl rfl rfl (fun hr => ?_) (fun hr => ?_)
        · skip
          refine ev_seg 1 (k' := 51) (L' := [(0, .ref 46), (1, .int x1), (2, .int x2)]) (st' := [.int 0]) rfl ?_
          exact ev_iret hr rfl rfl rfl
        · skip
          refine ev_seg 4 (k' := 46) (L' := [(0, .ref 46), (1, .int x1), (2, .int x2)]) (st' := [.long (gL s11 46 4), .ref 47]) rfl ?_
          refine ev_callV (q' := q_64) (x := 64) (y := 0) (c := 47) (As := [.long (gL s11 46 4)]) (rest := []) hr rfl rfl rfl rfl rfl rfl rfl rfl rfl rfl rfl rfl (fun rv s13 hq => ev_kI hq (fun v14 e9 hr => ?_))
          subst e9
          refine ev_st (st' := [.int v14]) rfl ?_
          refine ev_br (P := v14 = 0) (L' := [(0, .ref 46), (1, .int x1), (2, .int x2)]) (st' := []) hr rfl rfl rfl (fun hr => ?_) (fun hr => ?_)
          · skip
            refine ev_seg 1 (k' := 51) (L' := [(0, .ref 46), (1, .int x1), (2, .int x2)]) (st' := [.int 0]) rfl ?_
            exact ev_iret hr rfl rfl rfl
          · skip
            refine ev_seg 2 (k' := 51) (L' := [(0, .ref 46), (1, .int x1), (2, .int x2)]) (st' := [.int 1]) rfl ?_
            exact ev_iret hr rfl rfl rfl
      refine ev_if hr (fun h15 hr => ?_) (fun h15 hr => ?_)
      · skip
        refine ev_tab (o := 102) (t := 52) rfl (by rw [h15]; rfl) rfl ?_
        refine ev_seg 1 (k' := 53) (L' := [(0, .ref 46), (1, .int x1), (2, .int x2)]) (st' := [.ref 46]) rfl ?_
        refine ev_callV (q' := q_126) (x := 126) (y := 6) (c := 46) (As := []) (rest := []) hr rfl rfl rfl rfl rfl rfl rfl rfl rfl rfl rfl rfl (fun rv s16 hq => ev_kI hq (fun v17 e9 hr => ?_))
        subst e9
        refine ev_st (st' := [.int v17]) rfl ?_
        exact ev_zret hr rfl rfl
      refine ev_if hr (fun h18 hr => ?_) (fun h18 hr => ?_)
      · skip
        refine ev_tab (o := 102) (t := 52) rfl (by rw [h18]; rfl) rfl ?_
        refine ev_seg 1 (k' := 53) (L' := [(0, .ref 46), (1, .int x1), (2, .int x2)]) (st' := [.ref 46]) rfl ?_
        refine ev_callV (q' := q_126) (x := 126) (y := 6) (c := 46) (As := []) (rest := []) hr rfl rfl rfl rfl rfl rfl rfl rfl rfl rfl rfl rfl (fun rv s19 hq => ev_kI hq (fun v20 e9 hr => ?_))
        subst e9
        refine ev_st (st' := [.int v20]) rfl ?_
        exact ev_zret hr rfl rfl
      refine ev_if hr (fun h21 hr => ?_) (fun h21 hr => ?_)
      · skip
        refine ev_tab (o := 190) (t := 104) rfl (by rw [h21]; rfl) rfl ?_
        refine ev_seg 3 (k' := 107) (L' := [(0, .ref 46), (1, .int x1), (2, .int x2)]) (st' := [.int x2, .int x1, .ref 46]) rfl ?_
        refine ev_callV (q' := q_130) (x := 130) (y := 6) (c := 46) (As := [.int x1, .int x2]) (rest := []) hr rfl rfl rfl rfl rfl rfl rfl rfl rfl rfl rfl rfl (fun rv s22 hq => ev_kI hq (fun v23 e9 hr => ?_))
        subst e9
        refine ev_st (st' := [.int v23]) rfl ?_
        exact ev_zret hr rfl rfl
      refine ev_if hr (fun h24 hr => ?_) (fun h24 hr => ?_)
      · skip
        refine ev_tab (o := 190) (t := 104) rfl (by rw [h24]; rfl) rfl ?_
        refine ev_seg 3 (k' := 107) (L' := [(0, .ref 46), (1, .int x1), (2, .int x2)]) (st' := [.int x2, .int x1, .ref 46]) rfl ?_
        refine ev_callV (q' := q_130) (x := 130) (y := 6) (c := 46) (As := [.int x1, .int x2]) (rest := []) hr rfl rfl rfl rfl rfl rfl rfl rfl rfl rfl rfl rfl (fun rv s25 hq => ev_kI hq (fun v26 e9 hr => ?_))
        subst e9
        refine ev_st (st' := [.int v26]) rfl ?_
        exact ev_zret hr rfl rfl
      refine ev_if hr (fun h27 hr => ?_) (fun h27 hr => ?_)
      · skip
        refine ev_tab (o := 137) (t := 73) rfl (by rw [h27]; rfl) rfl ?_
        refine ev_seg 6 (k' := 79) (L' := [(0, .ref 46), (1, .int x1), (2, .int x2)]) (st' := [.int x1, .ref 26, .int 4, .ref 46]) rfl ?_
        refine ev_ldI hr rfl rfl (fun v28 hr => ?_)
        refine ev_callV (q' := q_128) (x := 128) (y := 6) (c := 46) (As := [.int 4, .int v28]) (rest := []) hr rfl rfl rfl rfl rfl rfl rfl rfl rfl rfl rfl rfl (fun rv s29 hq => ev_kI hq (fun v30 e9 hr => ?_))
        subst e9
        refine ev_st (st' := [.int v30]) rfl ?_
        refine ev_br (P := v30 = 0) (L' := [(0, .ref 46), (1, .int x1), (2, .int x2)]) (st' := []) hr rfl rfl rfl (fun hr => ?_) (fun hr => ?_)
        · skip
          refine ev_seg 1 (k' := 98) (L' := [(0, .ref 46), (1, .int x1), (2, .int x2)]) (st' := [.int 0]) rfl ?_
          exact ev_iret hr rfl rfl rfl
        · skip
          refine ev_seg 7 (k' := 89) (L' := [(0, .ref 46), (1, .int x1), (2, .int x2)]) (st' := [.int ((gL s29 46 4).toInt32), .int x1, .ref 22, .ref 46]) rfl ?_
          refine ev_callV (q' := q_39) (x := 39) (y := 2) (c := 22) (As := [.int x1, .int ((gL s29 46 4).toInt32)]) (rest := [.ref 46]) hr rfl rfl rfl rfl rfl rfl rfl rfl rfl rfl rfl rfl (fun rv s31 hq => ev_kI hq (fun v32 e9 hr => ?_))
          subst e9
          refine ev_st (st' := [.int v32, .ref 46]) rfl ?_
          refine ev_seg 3 (k' := 93) (L' := [(0, .ref 46), (1, .int x1), (2, .int x2)]) (st' := [.int (x2 + 1), .int v32, .ref 46]) rfl ?_
          refine ev_callV (q' := q_121) (x := 121) (y := 6) (c := 46) (As := [.int v32, .int (x2 + 1)]) (rest := []) hr rfl rfl rfl rfl rfl rfl rfl rfl rfl rfl rfl rfl (fun rv s33 hq => ev_kI hq (fun v34 e9 hr => ?_))
          subst e9
          refine ev_st (st' := [.int v34]) rfl ?_
          refine ev_br (P := v34 = 0) (L' := [(0, .ref 46), (1, .int x1), (2, .int x2)]) (st' := []) hr rfl rfl rfl (fun hr => ?_) (fun hr => ?_)
          · skip
            refine ev_seg 1 (k' := 98) (L' := [(0, .ref 46), (1, .int x1), (2, .int x2)]) (st' := [.int 0]) rfl ?_
            exact ev_iret hr rfl rfl rfl
          · skip
            refine ev_seg 2 (k' := 98) (L' := [(0, .ref 46), (1, .int x1), (2, .int x2)]) (st' := [.int 1]) rfl ?_
            exact ev_iret hr rfl rfl rfl
      refine ev_if hr (fun h35 hr => ?_) (fun h35 hr => ?_)
      · skip
        refine ev_tab (o := 107) (t := 55) rfl (by rw [h35]; rfl) rfl ?_
        refine ev_seg 5 (k' := 60) (L' := [(0, .ref 46), (1, .int x1), (2, .int x2)]) (st' := [.int x1, .ref 27, .ref 46]) rfl ?_
        refine ev_ldI hr rfl rfl (fun v36 hr => ?_)
        refine ev_seg 1 (k' := 62) (L' := [(0, .ref 46), (1, .int x1), (2, .int x2)]) (st' := [.long v36.toInt64, .ref 46]) rfl ?_
        refine ev_callV (q' := q_127) (x := 127) (y := 6) (c := 46) (As := [.long v36.toInt64]) (rest := []) hr rfl rfl rfl rfl rfl rfl rfl rfl rfl rfl rfl rfl (fun rv s37 hq => ev_kI hq (fun v38 e9 hr => ?_))
        subst e9
        refine ev_st (st' := [.int v38]) rfl ?_
        exact ev_zret hr rfl rfl
      refine ev_if hr (fun h39 hr => ?_) (fun h39 hr => ?_)
      · skip
        refine ev_tab (o := 122) (t := 64) rfl (by rw [h39]; rfl) rfl ?_
        refine ev_seg 6 (k' := 70) (L' := [(0, .ref 46), (1, .int x1), (2, .int x2)]) (st' := [.int x1, .ref 26, .int 5, .ref 46]) rfl ?_
        refine ev_ldI hr rfl rfl (fun v40 hr => ?_)
        refine ev_callV (q' := q_128) (x := 128) (y := 6) (c := 46) (As := [.int 5, .int v40]) (rest := []) hr rfl rfl rfl rfl rfl rfl rfl rfl rfl rfl rfl rfl (fun rv s41 hq => ev_kI hq (fun v42 e9 hr => ?_))
        subst e9
        refine ev_st (st' := [.int v42]) rfl ?_
        exact ev_zret hr rfl rfl
      refine ev_if hr (fun h43 hr => ?_) (fun h43 hr => ?_)
      · skip
        refine ev_tab (o := 183) (t := 99) rfl (by rw [h43]; rfl) rfl ?_
        refine ev_seg 3 (k' := 102) (L' := [(0, .ref 46), (1, .int x1), (2, .int x2)]) (st' := [.int x2, .int x1, .ref 46]) rfl ?_
        refine ev_callV (q' := q_129) (x := 129) (y := 6) (c := 46) (As := [.int x1, .int x2]) (rest := []) hr rfl rfl rfl rfl rfl rfl rfl rfl rfl rfl rfl rfl (fun rv s44 hq => ev_kI hq (fun v45 e9 hr => ?_))
        subst e9
        refine ev_st (st' := [.int v45]) rfl ?_
        exact ev_zret hr rfl rfl
      refine ev_tab (o := 190) (t := 104) rfl (tab_in (by have e0 := i_neL (z := 0) (w := 0) rfl h3; have e1 := i_neL (z := 1) (w := 1) rfl h4; have e2 := i_neL (z := 2) (w := 2) rfl h7; have e3 := i_neL (z := 3) (w := 3) rfl h10; have e4 := i_neL (z := 4) (w := 4) rfl h15; have e5 := i_neL (z := 5) (w := 5) rfl h18; have e6 := i_neL (z := 6) (w := 6) rfl h21; have e7 := i_neL (z := 7) (w := 7) rfl h24; have e8 := i_neL (z := 8) (w := 8) rfl h27; have e9 := i_neL (z := 9) (w := 9) rfl h35; have e10 := i_neL (z := 10) (w := 10) rfl h39; have e11 := i_neL (z := 11) (w := 11) rfl h43; omega)) rfl ?_
      refine ev_seg 3 (k' := 107) (L' := [(0, .ref 46), (1, .int x1), (2, .int x2)]) (st' := [.int x2, .int x1, .ref 46]) rfl ?_
      refine ev_callV (q' := q_130) (x := 130) (y := 6) (c := 46) (As := [.int x1, .int x2]) (rest := []) hr rfl rfl rfl rfl rfl rfl rfl rfl rfl rfl rfl rfl (fun rv s46 hq => ev_kI hq (fun v47 e9 hr => ?_))
      subst e9
      refine ev_st (st' := [.int v47]) rfl ?_
      exact ev_zret hr rfl rfl
    · skip
      refine ev_seg 4 (k' := 17) (L' := [(0, .ref 46), (1, .int x1), (2, .int x2)]) (st' := [.int (gI s 46 1), .int 8, .ref 46]) rfl ?_
      refine ev_callV (q' := q_122) (x := 122) (y := 6) (c := 46) (As := [.int 8, .int (gI s 46 1)]) (rest := []) hr rfl rfl rfl rfl rfl rfl rfl rfl rfl rfl rfl rfl (fun rv s48 hq => ev_kI hq (fun v49 e9 hr => ?_))
      subst e9
      refine ev_st (st' := [.int v49]) rfl ?_
      exact ev_zret hr rfl rfl
  · skip
    refine ev_seg 4 (k' := 7) (L' := [(0, .ref 46), (1, .int x1), (2, .int x2)]) (st' := [.int (gI s 46 1), .int 7, .ref 46]) rfl ?_
    refine ev_callV (q' := q_122) (x := 122) (y := 6) (c := 46) (As := [.int 7, .int (gI s 46 1)]) (rest := []) hr rfl rfl rfl rfl rfl rfl rfl rfl rfl rfl rfl rfl (fun rv s50 hq => ev_kI hq (fun v51 e9 hr => ?_))
    subst e9
    refine ev_st (st' := [.int v51]) rfl ?_
    exact ev_zret hr rfl rfl
set_option maxRecDepth 20000 in
theorem eLo_fail (d : Nat) (x1 : Int32) (x2 : Int32) (s : aT) : ∀ r, (wI s 46 2 x1 (fun s1 => wI s1 46 3 x2 (fun s2 => rI 0 s2))) = some r → fLo_fail d x1 x2 s = some r := by
  intro r hr
  show ev d q_122 0 [(0, .ref 46), (1, .int x1), (2, .int x2)] [] s = some r
  refine ev_seg 2 (k' := 2) (L' := [(0, .ref 46), (1, .int x1), (2, .int x2)]) (st' := [.int x1, .ref 46]) rfl ?_
  refine ev_putI (c := 46) hr rfl rfl rfl (fun s1 hr => ?_)
  refine ev_seg 2 (k' := 5) (L' := [(0, .ref 46), (1, .int x1), (2, .int x2)]) (st' := [.int x2, .ref 46]) rfl ?_
  refine ev_putI (c := 46) hr rfl rfl rfl (fun s2 hr => ?_)
  refine ev_seg 1 (k' := 7) (L' := [(0, .ref 46), (1, .int x1), (2, .int x2)]) (st' := [.int 0]) rfl ?_
  exact ev_iret hr rfl rfl rfl
set_option maxRecDepth 20000 in
theorem eLo_truth (d : Nat) (s : aT) : ∀ r, (if gI s 46 1 < gI s 46 7 then ldI (alen (gM1 s)) s (gM1 s) (gI s 46 1) (fun v1 => if v1 &&& 255 ≤ 1 then wI s 46 1 ((gI s 46 1) + 1) (fun s2 => cG (fBy_put d 47 (v1 &&& 255) s2) (kI fun v4 s3 => rZ v4 s3)) else cG (fLo_fail d 3 (gI s 46 1) s) (kI fun v6 s5 => rZ v6 s5)) else cG (fLo_fail d 1 (gI s 46 7) s) (kI fun v8 s7 => rZ v8 s7)) = some r → fLo_truth (d + 1) s = some r := by
  intro r hr
  show ev (d + 1) q_123 0 [(0, .ref 46)] [] s = some r
  refine ev_seg 4 (k' := 4) (L' := [(0, .ref 46)]) (st' := [.int (gI s 46 7), .int (gI s 46 1)]) rfl ?_
  refine ev_br (P := gI s 46 1 < gI s 46 7) (L' := [(0, .ref 46)]) (st' := []) hr rfl rfl rfl (fun hr => ?_) (fun hr => ?_)
  · skip
    refine ev_seg 4 (k' := 15) (L' := [(0, .ref 46)]) (st' := [.int (gI s 46 1), .ref (gM1 s)]) rfl ?_
    refine ev_ldX hr rfl (fun v1 hr => ?_)
    refine ev_seg 5 (k' := 21) (L' := [(1, .int (v1 &&& 255)), (0, .ref 46)]) (st' := [.int 1, .int (v1 &&& 255)]) rfl ?_
    refine ev_br (P := v1 &&& 255 ≤ 1) (L' := [(1, .int (v1 &&& 255)), (0, .ref 46)]) (st' := []) hr rfl rfl rfl (fun hr => ?_) (fun hr => ?_)
    · skip
      refine ev_seg 5 (k' := 33) (L' := [(1, .int (v1 &&& 255)), (0, .ref 46)]) (st' := [.int ((gI s 46 1) + 1), .ref 46]) rfl ?_
      refine ev_putI (c := 46) hr rfl rfl rfl (fun s2 hr => ?_)
      refine ev_seg 3 (k' := 37) (L' := [(1, .int (v1 &&& 255)), (0, .ref 46)]) (st' := [.int (v1 &&& 255), .ref 47]) rfl ?_
      refine ev_callV (q' := q_16) (x := 16) (y := 0) (c := 47) (As := [.int (v1 &&& 255)]) (rest := []) hr rfl rfl rfl rfl rfl rfl rfl rfl rfl rfl rfl rfl (fun rv s3 hq => ev_kI hq (fun v4 e9 hr => ?_))
      subst e9
      refine ev_st (st' := [.int v4]) rfl ?_
      exact ev_zret hr rfl rfl
    · skip
      refine ev_seg 4 (k' := 26) (L' := [(1, .int (v1 &&& 255)), (0, .ref 46)]) (st' := [.int (gI s 46 1), .int 3, .ref 46]) rfl ?_
      refine ev_callV (q' := q_122) (x := 122) (y := 6) (c := 46) (As := [.int 3, .int (gI s 46 1)]) (rest := []) hr rfl rfl rfl rfl rfl rfl rfl rfl rfl rfl rfl rfl (fun rv s5 hq => ev_kI hq (fun v6 e9 hr => ?_))
      subst e9
      refine ev_st (st' := [.int v6]) rfl ?_
      exact ev_zret hr rfl rfl
  · skip
    refine ev_seg 4 (k' := 9) (L' := [(0, .ref 46)]) (st' := [.int (gI s 46 7), .int 1, .ref 46]) rfl ?_
    refine ev_callV (q' := q_122) (x := 122) (y := 6) (c := 46) (As := [.int 1, .int (gI s 46 7)]) (rest := []) hr rfl rfl rfl rfl rfl rfl rfl rfl rfl rfl rfl rfl (fun rv s7 hq => ev_kI hq (fun v8 e9 hr => ?_))
    subst e9
    refine ev_st (st' := [.int v8]) rfl ?_
    exact ev_zret hr rfl rfl
set_option maxRecDepth 20000 in
theorem eLo_integer (d : Nat) (s : aT) : ∀ r, (cG (fLo_varint d s) (kI fun v2 s1 => if ¬ v2 = 0 then if ¬ aLcmp (gL s1 46 4) (((gL s1 46 4).toInt32).toInt64) = 0 then cG (fLo_fail d 2 (gI s 46 1) s1) (kI fun v4 s3 => rZ v4 s3) else cG (fBy_putVarint d 47 (gL s1 46 4) s1) (kI fun v6 s5 => rZ v6 s5) else rI 0 s1)) = some r → fLo_integer (d + 1) s = some r := by
  intro r hr
  show ev (d + 1) q_124 0 [(0, .ref 46)] [] s = some r
  refine ev_seg 4 (k' := 4) (L' := [(1, .int (gI s 46 1)), (0, .ref 46)]) (st' := [.ref 46]) rfl ?_
  refine ev_callV (q' := q_125) (x := 125) (y := 6) (c := 46) (As := []) (rest := []) hr rfl rfl rfl rfl rfl rfl rfl rfl rfl rfl rfl rfl (fun rv s1 hq => ev_kI hq (fun v2 e9 hr => ?_))
  subst e9
  refine ev_st (st' := [.int v2]) rfl ?_
  refine ev_br (P := ¬ v2 = 0) (L' := [(1, .int (gI s 46 1)), (0, .ref 46)]) (st' := []) hr rfl rfl rfl (fun hr => ?_) (fun hr => ?_)
  · skip
    refine ev_seg 7 (k' := 15) (L' := [(1, .int (gI s 46 1)), (0, .ref 46)]) (st' := [.int (aLcmp (gL s1 46 4) (((gL s1 46 4).toInt32).toInt64))]) rfl ?_
    refine ev_br (P := ¬ aLcmp (gL s1 46 4) (((gL s1 46 4).toInt32).toInt64) = 0) (L' := [(1, .int (gI s 46 1)), (0, .ref 46)]) (st' := []) hr rfl rfl rfl (fun hr => ?_) (fun hr => ?_)
    · skip
      refine ev_seg 3 (k' := 25) (L' := [(1, .int (gI s 46 1)), (0, .ref 46)]) (st' := [.int (gI s 46 1), .int 2, .ref 46]) rfl ?_
      refine ev_callV (q' := q_122) (x := 122) (y := 6) (c := 46) (As := [.int 2, .int (gI s 46 1)]) (rest := []) hr rfl rfl rfl rfl rfl rfl rfl rfl rfl rfl rfl rfl (fun rv s3 hq => ev_kI hq (fun v4 e9 hr => ?_))
      subst e9
      refine ev_st (st' := [.int v4]) rfl ?_
      exact ev_zret hr rfl rfl
    · skip
      refine ev_seg 4 (k' := 20) (L' := [(1, .int (gI s 46 1)), (0, .ref 46)]) (st' := [.long (gL s1 46 4), .ref 47]) rfl ?_
      refine ev_callV (q' := q_64) (x := 64) (y := 0) (c := 47) (As := [.long (gL s1 46 4)]) (rest := []) hr rfl rfl rfl rfl rfl rfl rfl rfl rfl rfl rfl rfl (fun rv s5 hq => ev_kI hq (fun v6 e9 hr => ?_))
      subst e9
      refine ev_st (st' := [.int v6]) rfl ?_
      refine ev_seg 1 (k' := 26) (L' := [(1, .int (gI s 46 1)), (0, .ref 46)]) (st' := [.int v6]) rfl ?_
      exact ev_zret hr rfl rfl
  · skip
    refine ev_seg 1 (k' := 7) (L' := [(1, .int (gI s 46 1)), (0, .ref 46)]) (st' := [.int 0]) rfl ?_
    exact ev_iret hr rfl rfl rfl
set_option maxRecDepth 20000 in
theorem eLo_varint (d : Nat) (s : aT) : ∀ r, (fLo_varint_7 (d + 1) (gI s 46 1) 0 0 s) = some r → fLo_varint (d + 1) s = some r := by
  intro r hr
  show ev (d + 1) q_125 0 [(0, .ref 46)] [] s = some r
  refine ev_seg 7 (k' := 7) (L' := [(4, .int 0), (2, .long 0), (1, .int (gI s 46 1)), (0, .ref 46)]) (st' := []) rfl ?_
  refine ev_join (L' := [(0, .ref 46), (1, .int (gI s 46 1)), (2, .long 0), (4, .int 0)]) [3, 2, 1, 0] [4, 2, 1, 0] [0, 1, 2, 4] rfl rfl (by decide) (by decide) rfl ?_
  exact hr
set_option maxRecDepth 20000 in
theorem eLo_varint_7 (d : Nat) (z1 : Int32) (l2 : Int64) (z4 : Int32) (s : aT) : ∀ r, (if 10 ≤ z4 then cG (fLo_fail d 2 z1 s) (kI fun v2 s1 => rZ v2 s1) else if gI s 46 1 < gI s 46 7 then ldI (alen (gM1 s)) s (gM1 s) (gI s 46 1) (fun v3 => if ¬ z4 = 9 then fLo_varint_40 (d + 1) z1 l2 z4 (v3 &&& 255) s else if v3 &&& 255 ≤ 1 then fLo_varint_40 (d + 1) z1 l2 z4 (v3 &&& 255) s else cG (fLo_fail d 2 z1 s) (kI fun v5 s4 => rZ v5 s4)) else cG (fLo_fail d 1 (gI s 46 7) s) (kI fun v7 s6 => rZ v7 s6)) = some r → fLo_varint_7 (d + 1) z1 l2 z4 s = some r := by
  intro r hr
  show ev (d + 1) q_125 7 [(0, .ref 46), (1, .int z1), (2, .long l2), (4, .int z4)] [] s = some r
  refine ev_seg 2 (k' := 9) (L' := [(0, .ref 46), (1, .int z1), (2, .long l2), (4, .int z4)]) (st' := [.int 10, .int z4]) rfl ?_
  refine ev_br (P := 10 ≤ z4) (L' := [(0, .ref 46), (1, .int z1), (2, .long l2), (4, .int z4)]) (st' := []) hr rfl rfl rfl (fun hr => ?_) (fun hr => ?_)
  · skip
    refine ev_seg 3 (k' := 77) (L' := [(0, .ref 46), (1, .int z1), (2, .long l2), (4, .int z4)]) (st' := [.int z1, .int 2, .ref 46]) rfl ?_
    refine ev_callV (q' := q_122) (x := 122) (y := 6) (c := 46) (As := [.int 2, .int z1]) (rest := []) hr rfl rfl rfl rfl rfl rfl rfl rfl rfl rfl rfl rfl (fun rv s1 hq => ev_kI hq (fun v2 e9 hr => ?_))
    subst e9
    refine ev_st (st' := [.int v2]) rfl ?_
    exact ev_zret hr rfl rfl
  · skip
    refine ev_seg 4 (k' := 14) (L' := [(0, .ref 46), (1, .int z1), (2, .long l2), (4, .int z4)]) (st' := [.int (gI s 46 7), .int (gI s 46 1)]) rfl ?_
    refine ev_br (P := gI s 46 1 < gI s 46 7) (L' := [(0, .ref 46), (1, .int z1), (2, .long l2), (4, .int z4)]) (st' := []) hr rfl rfl rfl (fun hr => ?_) (fun hr => ?_)
    · skip
      refine ev_seg 4 (k' := 25) (L' := [(0, .ref 46), (1, .int z1), (2, .long l2), (4, .int z4)]) (st' := [.int (gI s 46 1), .ref (gM1 s)]) rfl ?_
      refine ev_ldX hr rfl (fun v3 hr => ?_)
      refine ev_seg 5 (k' := 31) (L' := [(5, .int (v3 &&& 255)), (0, .ref 46), (1, .int z1), (2, .long l2), (4, .int z4)]) (st' := [.int 9, .int z4]) rfl ?_
      refine ev_br (P := ¬ z4 = 9) (L' := [(5, .int (v3 &&& 255)), (0, .ref 46), (1, .int z1), (2, .long l2), (4, .int z4)]) (st' := []) hr rfl rfl rfl (fun hr => ?_) (fun hr => ?_)
      · skip
        refine ev_join (L' := [(0, .ref 46), (1, .int z1), (2, .long l2), (4, .int z4), (5, .int (v3 &&& 255))]) [1, 2, 3, 4, 0] [5, 0, 1, 2, 4] [0, 1, 2, 4, 5] rfl rfl (by decide) (by decide) rfl ?_
        exact hr
      · skip
        refine ev_seg 2 (k' := 34) (L' := [(5, .int (v3 &&& 255)), (0, .ref 46), (1, .int z1), (2, .long l2), (4, .int z4)]) (st' := [.int 1, .int (v3 &&& 255)]) rfl ?_
        refine ev_br (P := v3 &&& 255 ≤ 1) (L' := [(5, .int (v3 &&& 255)), (0, .ref 46), (1, .int z1), (2, .long l2), (4, .int z4)]) (st' := []) hr rfl rfl rfl (fun hr => ?_) (fun hr => ?_)
        · skip
          refine ev_join (L' := [(0, .ref 46), (1, .int z1), (2, .long l2), (4, .int z4), (5, .int (v3 &&& 255))]) [1, 2, 3, 4, 0] [5, 0, 1, 2, 4] [0, 1, 2, 4, 5] rfl rfl (by decide) (by decide) rfl ?_
          exact hr
        · skip
          refine ev_seg 3 (k' := 38) (L' := [(5, .int (v3 &&& 255)), (0, .ref 46), (1, .int z1), (2, .long l2), (4, .int z4)]) (st' := [.int z1, .int 2, .ref 46]) rfl ?_
          refine ev_callV (q' := q_122) (x := 122) (y := 6) (c := 46) (As := [.int 2, .int z1]) (rest := []) hr rfl rfl rfl rfl rfl rfl rfl rfl rfl rfl rfl rfl (fun rv s4 hq => ev_kI hq (fun v5 e9 hr => ?_))
          subst e9
          refine ev_st (st' := [.int v5]) rfl ?_
          exact ev_zret hr rfl rfl
    · skip
      refine ev_seg 4 (k' := 19) (L' := [(0, .ref 46), (1, .int z1), (2, .long l2), (4, .int z4)]) (st' := [.int (gI s 46 7), .int 1, .ref 46]) rfl ?_
      refine ev_callV (q' := q_122) (x := 122) (y := 6) (c := 46) (As := [.int 1, .int (gI s 46 7)]) (rest := []) hr rfl rfl rfl rfl rfl rfl rfl rfl rfl rfl rfl rfl (fun rv s6 hq => ev_kI hq (fun v7 e9 hr => ?_))
      subst e9
      refine ev_st (st' := [.int v7]) rfl ?_
      exact ev_zret hr rfl rfl
set_option maxRecDepth 20000 in
theorem eLo_varint_40 (d : Nat) (z1 : Int32) (l2 : Int64) (z4 : Int32) (z5 : Int32) (s : aT) : ∀ r, (wI s 46 1 ((gI s 46 1) + 1) (fun s1 => if 128 ≤ z5 then fLo_varint_7 (d + 1) z1 (l2 ||| (((z5 &&& 127).toInt64) <<< ((7 * z4).toInt64 &&& 63))) (z4 + 1) s1 else wL s1 46 4 ((((l2 ||| (((z5 &&& 127).toInt64) <<< ((7 * z4).toInt64 &&& 63))).toUInt64 >>> ((1 : Int32).toInt64.toUInt64 &&& Int64.toUInt64 63)).toInt64) ^^^ (-((l2 ||| (((z5 &&& 127).toInt64) <<< ((7 * z4).toInt64 &&& 63))) &&& 1))) (fun s2 => rI 1 s2))) = some r → fLo_varint_40 (d + 1) z1 l2 z4 z5 s = some r := by
  intro r hr
  show ev (d + 1) q_125 40 [(0, .ref 46), (1, .int z1), (2, .long l2), (4, .int z4), (5, .int z5)] [] s = some r
  refine ev_seg 5 (k' := 45) (L' := [(0, .ref 46), (1, .int z1), (2, .long l2), (4, .int z4), (5, .int z5)]) (st' := [.int ((gI s 46 1) + 1), .ref 46]) rfl ?_
  refine ev_putI (c := 46) hr rfl rfl rfl (fun s1 hr => ?_)
  refine ev_seg 13 (k' := 59) (L' := [(2, .long (l2 ||| (((z5 &&& 127).toInt64) <<< ((7 * z4).toInt64 &&& 63)))), (0, .ref 46), (1, .int z1), (4, .int z4), (5, .int z5)]) (st' := [.int 128, .int z5]) rfl ?_
  refine ev_br (P := 128 ≤ z5) (L' := [(2, .long (l2 ||| (((z5 &&& 127).toInt64) <<< ((7 * z4).toInt64 &&& 63)))), (0, .ref 46), (1, .int z1), (4, .int z4), (5, .int z5)]) (st' := []) hr rfl rfl rfl (fun hr => ?_) (fun hr => ?_)
  · skip
    refine ev_seg 2 (k' := 7) (L' := [(4, .int (z4 + 1)), (2, .long (l2 ||| (((z5 &&& 127).toInt64) <<< ((7 * z4).toInt64 &&& 63)))), (0, .ref 46), (1, .int z1), (5, .int z5)]) (st' := []) rfl ?_
    refine ev_join (L' := [(0, .ref 46), (1, .int z1), (2, .long (l2 ||| (((z5 &&& 127).toInt64) <<< ((7 * z4).toInt64 &&& 63)))), (4, .int (z4 + 1))]) [2, 3, 1, 0] [4, 2, 0, 1, 5] [0, 1, 2, 4] rfl rfl (by decide) (by decide) rfl ?_
    exact hr
  · skip
    refine ev_seg 9 (k' := 69) (L' := [(2, .long (l2 ||| (((z5 &&& 127).toInt64) <<< ((7 * z4).toInt64 &&& 63)))), (0, .ref 46), (1, .int z1), (4, .int z4), (5, .int z5)]) (st' := [.long ((((l2 ||| (((z5 &&& 127).toInt64) <<< ((7 * z4).toInt64 &&& 63))).toUInt64 >>> ((1 : Int32).toInt64.toUInt64 &&& Int64.toUInt64 63)).toInt64) ^^^ (-((l2 ||| (((z5 &&& 127).toInt64) <<< ((7 * z4).toInt64 &&& 63))) &&& 1))), .ref 46]) rfl ?_
    refine ev_putL (c := 46) hr rfl rfl rfl (fun s2 hr => ?_)
    refine ev_seg 1 (k' := 71) (L' := [(2, .long (l2 ||| (((z5 &&& 127).toInt64) <<< ((7 * z4).toInt64 &&& 63)))), (0, .ref 46), (1, .int z1), (4, .int z4), (5, .int z5)]) (st' := [.int 1]) rfl ?_
    exact ev_iret hr rfl rfl rfl
set_option maxRecDepth 20000 in
theorem eLo_countedBytes (d : Nat) (s : aT) : ∀ r, (cG (fLo_varint d s) (kI fun v2 s1 => if ¬ v2 = 0 then if 0 ≤ aLcmp (gL s1 46 4) 0 then cG (fBy_putVarint d 47 (gL s1 46 4) s1) (kI fun v4 s3 => if v4 = 0 then rI 0 s3 else cG (fLo_manyBytes d (gL s3 46 4) s3) (kI fun v6 s5 => if v6 = 0 then rI 0 s5 else rI 1 s5)) else cG (fLo_fail d 6 (gI s 46 1) s1) (kI fun v8 s7 => rZ v8 s7) else rI 0 s1)) = some r → fLo_countedBytes (d + 1) s = some r := by
  intro r hr
  show ev (d + 1) q_126 0 [(0, .ref 46)] [] s = some r
  refine ev_seg 4 (k' := 4) (L' := [(1, .int (gI s 46 1)), (0, .ref 46)]) (st' := [.ref 46]) rfl ?_
  refine ev_callV (q' := q_125) (x := 125) (y := 6) (c := 46) (As := []) (rest := []) hr rfl rfl rfl rfl rfl rfl rfl rfl rfl rfl rfl rfl (fun rv s1 hq => ev_kI hq (fun v2 e9 hr => ?_))
  subst e9
  refine ev_st (st' := [.int v2]) rfl ?_
  refine ev_br (P := ¬ v2 = 0) (L' := [(1, .int (gI s 46 1)), (0, .ref 46)]) (st' := []) hr rfl rfl rfl (fun hr => ?_) (fun hr => ?_)
  · skip
    refine ev_seg 4 (k' := 12) (L' := [(1, .int (gI s 46 1)), (0, .ref 46)]) (st' := [.int (aLcmp (gL s1 46 4) 0)]) rfl ?_
    refine ev_br (P := 0 ≤ aLcmp (gL s1 46 4) 0) (L' := [(1, .int (gI s 46 1)), (0, .ref 46)]) (st' := []) hr rfl rfl rfl (fun hr => ?_) (fun hr => ?_)
    · skip
      refine ev_seg 4 (k' := 22) (L' := [(1, .int (gI s 46 1)), (0, .ref 46)]) (st' := [.long (gL s1 46 4), .ref 47]) rfl ?_
      refine ev_callV (q' := q_64) (x := 64) (y := 0) (c := 47) (As := [.long (gL s1 46 4)]) (rest := []) hr rfl rfl rfl rfl rfl rfl rfl rfl rfl rfl rfl rfl (fun rv s3 hq => ev_kI hq (fun v4 e9 hr => ?_))
      subst e9
      refine ev_st (st' := [.int v4]) rfl ?_
      refine ev_br (P := v4 = 0) (L' := [(1, .int (gI s 46 1)), (0, .ref 46)]) (st' := []) hr rfl rfl rfl (fun hr => ?_) (fun hr => ?_)
      · skip
        refine ev_seg 1 (k' := 32) (L' := [(1, .int (gI s 46 1)), (0, .ref 46)]) (st' := [.int 0]) rfl ?_
        exact ev_iret hr rfl rfl rfl
      · skip
        refine ev_seg 3 (k' := 27) (L' := [(1, .int (gI s 46 1)), (0, .ref 46)]) (st' := [.long (gL s3 46 4), .ref 46]) rfl ?_
        refine ev_callV (q' := q_127) (x := 127) (y := 6) (c := 46) (As := [.long (gL s3 46 4)]) (rest := []) hr rfl rfl rfl rfl rfl rfl rfl rfl rfl rfl rfl rfl (fun rv s5 hq => ev_kI hq (fun v6 e9 hr => ?_))
        subst e9
        refine ev_st (st' := [.int v6]) rfl ?_
        refine ev_br (P := v6 = 0) (L' := [(1, .int (gI s 46 1)), (0, .ref 46)]) (st' := []) hr rfl rfl rfl (fun hr => ?_) (fun hr => ?_)
        · skip
          refine ev_seg 1 (k' := 32) (L' := [(1, .int (gI s 46 1)), (0, .ref 46)]) (st' := [.int 0]) rfl ?_
          exact ev_iret hr rfl rfl rfl
        · skip
          refine ev_seg 2 (k' := 32) (L' := [(1, .int (gI s 46 1)), (0, .ref 46)]) (st' := [.int 1]) rfl ?_
          exact ev_iret hr rfl rfl rfl
    · skip
      refine ev_seg 3 (k' := 16) (L' := [(1, .int (gI s 46 1)), (0, .ref 46)]) (st' := [.int (gI s 46 1), .int 6, .ref 46]) rfl ?_
      refine ev_callV (q' := q_122) (x := 122) (y := 6) (c := 46) (As := [.int 6, .int (gI s 46 1)]) (rest := []) hr rfl rfl rfl rfl rfl rfl rfl rfl rfl rfl rfl rfl (fun rv s7 hq => ev_kI hq (fun v8 e9 hr => ?_))
      subst e9
      refine ev_st (st' := [.int v8]) rfl ?_
      exact ev_zret hr rfl rfl
  · skip
    refine ev_seg 1 (k' := 7) (L' := [(1, .int (gI s 46 1)), (0, .ref 46)]) (st' := [.int 0]) rfl ?_
    exact ev_iret hr rfl rfl rfl
set_option maxRecDepth 20000 in
theorem eLo_manyBytes (d : Nat) (y1 : Int64) (s : aT) : ∀ r, (if aLcmp y1 (((gI s 46 7) - (gI s 46 1)).toInt64) ≤ 0 then wI s 46 1 ((gI s 46 1) + y1.toInt32) (fun s1 => cG (fBy_putRow d 47 (gM1 s1) (gI s 46 1) y1.toInt32 s1) (kI fun v3 s2 => rZ v3 s2)) else cG (fLo_fail d 1 (gI s 46 7) s) (kI fun v5 s4 => rZ v5 s4)) = some r → fLo_manyBytes (d + 1) y1 s = some r := by
  intro r hr
  show ev (d + 1) q_127 0 [(0, .ref 46), (1, .long y1)] [] s = some r
  refine ev_seg 8 (k' := 8) (L' := [(0, .ref 46), (1, .long y1)]) (st' := [.int (aLcmp y1 (((gI s 46 7) - (gI s 46 1)).toInt64))]) rfl ?_
  refine ev_br (P := aLcmp y1 (((gI s 46 7) - (gI s 46 1)).toInt64) ≤ 0) (L' := [(0, .ref 46), (1, .long y1)]) (st' := []) hr rfl rfl rfl (fun hr => ?_) (fun hr => ?_)
  · skip
    refine ev_seg 9 (k' := 24) (L' := [(3, .int (gI s 46 1)), (0, .ref 46), (1, .long y1)]) (st' := [.int ((gI s 46 1) + y1.toInt32), .ref 46]) rfl ?_
    refine ev_putI (c := 46) hr rfl rfl rfl (fun s1 hr => ?_)
    refine ev_seg 7 (k' := 32) (L' := [(3, .int (gI s 46 1)), (0, .ref 46), (1, .long y1)]) (st' := [.int y1.toInt32, .int (gI s 46 1), .ref (gM1 s1), .ref 47]) rfl ?_
    refine ev_callV (q' := q_48) (x := 48) (y := 0) (c := 47) (As := [.ref (gM1 s1), .int (gI s 46 1), .int y1.toInt32]) (rest := []) hr rfl rfl rfl rfl rfl rfl rfl rfl rfl rfl rfl rfl (fun rv s2 hq => ev_kI hq (fun v3 e9 hr => ?_))
    subst e9
    refine ev_st (st' := [.int v3]) rfl ?_
    exact ev_zret hr rfl rfl
  · skip
    refine ev_seg 4 (k' := 13) (L' := [(0, .ref 46), (1, .long y1)]) (st' := [.int (gI s 46 7), .int 1, .ref 46]) rfl ?_
    refine ev_callV (q' := q_122) (x := 122) (y := 6) (c := 46) (As := [.int 1, .int (gI s 46 7)]) (rest := []) hr rfl rfl rfl rfl rfl rfl rfl rfl rfl rfl rfl rfl (fun rv s4 hq => ev_kI hq (fun v5 e9 hr => ?_))
    subst e9
    refine ev_st (st' := [.int v5]) rfl ?_
    exact ev_zret hr rfl rfl
set_option maxRecDepth 20000 in
theorem eLo_choice (d : Nat) (x1 : Int32) (x2 : Int32) (s : aT) : ∀ r, (cG (fLo_varint d s) (kI fun v2 s1 => if ¬ v2 = 0 then if aLcmp (gL s1 46 4) 0 < 0 then fLo_choice_19 (d + 1) x1 (gI s 46 1) s1 else if aLcmp (gL s1 46 4) x2.toInt64 < 0 then cG (fBy_putVarint d 47 (gL s1 46 4) s1) (kI fun v4 s3 => rZ v4 s3) else fLo_choice_19 (d + 1) x1 (gI s 46 1) s1 else rI 0 s1)) = some r → fLo_choice (d + 1) x1 x2 s = some r := by
  intro r hr
  show ev (d + 1) q_128 0 [(0, .ref 46), (1, .int x1), (2, .int x2)] [] s = some r
  refine ev_seg 4 (k' := 4) (L' := [(3, .int (gI s 46 1)), (0, .ref 46), (1, .int x1), (2, .int x2)]) (st' := [.ref 46]) rfl ?_
  refine ev_callV (q' := q_125) (x := 125) (y := 6) (c := 46) (As := []) (rest := []) hr rfl rfl rfl rfl rfl rfl rfl rfl rfl rfl rfl rfl (fun rv s1 hq => ev_kI hq (fun v2 e9 hr => ?_))
  subst e9
  refine ev_st (st' := [.int v2]) rfl ?_
  refine ev_br (P := ¬ v2 = 0) (L' := [(3, .int (gI s 46 1)), (0, .ref 46), (1, .int x1), (2, .int x2)]) (st' := []) hr rfl rfl rfl (fun hr => ?_) (fun hr => ?_)
  · skip
    refine ev_seg 4 (k' := 12) (L' := [(3, .int (gI s 46 1)), (0, .ref 46), (1, .int x1), (2, .int x2)]) (st' := [.int (aLcmp (gL s1 46 4) 0)]) rfl ?_
    refine ev_br (P := aLcmp (gL s1 46 4) 0 < 0) (L' := [(3, .int (gI s 46 1)), (0, .ref 46), (1, .int x1), (2, .int x2)]) (st' := []) hr rfl rfl rfl (fun hr => ?_) (fun hr => ?_)
    · skip
      refine ev_join (L' := [(0, .ref 46), (1, .int x1), (3, .int (gI s 46 1))]) [1, 2, 0] [3, 0, 1, 2] [0, 1, 3] rfl rfl (by decide) (by decide) rfl ?_
      exact hr
    · skip
      refine ev_seg 5 (k' := 18) (L' := [(3, .int (gI s 46 1)), (0, .ref 46), (1, .int x1), (2, .int x2)]) (st' := [.int (aLcmp (gL s1 46 4) x2.toInt64)]) rfl ?_
      refine ev_br (P := aLcmp (gL s1 46 4) x2.toInt64 < 0) (L' := [(3, .int (gI s 46 1)), (0, .ref 46), (1, .int x1), (2, .int x2)]) (st' := []) hr rfl rfl rfl (fun hr => ?_) (fun hr => ?_)
      · skip
        refine ev_seg 4 (k' := 28) (L' := [(3, .int (gI s 46 1)), (0, .ref 46), (1, .int x1), (2, .int x2)]) (st' := [.long (gL s1 46 4), .ref 47]) rfl ?_
        refine ev_callV (q' := q_64) (x := 64) (y := 0) (c := 47) (As := [.long (gL s1 46 4)]) (rest := []) hr rfl rfl rfl rfl rfl rfl rfl rfl rfl rfl rfl rfl (fun rv s3 hq => ev_kI hq (fun v4 e9 hr => ?_))
        subst e9
        refine ev_st (st' := [.int v4]) rfl ?_
        exact ev_zret hr rfl rfl
      · skip
        refine ev_join (L' := [(0, .ref 46), (1, .int x1), (3, .int (gI s 46 1))]) [1, 2, 0] [3, 0, 1, 2] [0, 1, 3] rfl rfl (by decide) (by decide) rfl ?_
        exact hr
  · skip
    refine ev_seg 1 (k' := 7) (L' := [(3, .int (gI s 46 1)), (0, .ref 46), (1, .int x1), (2, .int x2)]) (st' := [.int 0]) rfl ?_
    exact ev_iret hr rfl rfl rfl
set_option maxRecDepth 20000 in
theorem eLo_choice_19 (d : Nat) (x1 : Int32) (z3 : Int32) (s : aT) : ∀ r, (cG (fLo_fail d x1 z3 s) (kI fun v2 s1 => rZ v2 s1)) = some r → fLo_choice_19 (d + 1) x1 z3 s = some r := by
  intro r hr
  show ev (d + 1) q_128 19 [(0, .ref 46), (1, .int x1), (3, .int z3)] [] s = some r
  refine ev_seg 3 (k' := 22) (L' := [(0, .ref 46), (1, .int x1), (3, .int z3)]) (st' := [.int z3, .int x1, .ref 46]) rfl ?_
  refine ev_callV (q' := q_122) (x := 122) (y := 6) (c := 46) (As := [.int x1, .int z3]) (rest := []) hr rfl rfl rfl rfl rfl rfl rfl rfl rfl rfl rfl rfl (fun rv s1 hq => ev_kI hq (fun v2 e9 hr => ?_))
  subst e9
  refine ev_st (st' := [.int v2]) rfl ?_
  exact ev_zret hr rfl rfl
set_option maxRecDepth 20000 in
theorem eLo_fields (d : Nat) (x1 : Int32) (x2 : Int32) (s : aT) : ∀ r, (fLo_fields_2 (d + 1) x1 x2 0 s) = some r → fLo_fields (d + 1) x1 x2 s = some r := by
  intro r hr
  show ev (d + 1) q_129 0 [(0, .ref 46), (1, .int x1), (2, .int x2)] [] s = some r
  refine ev_seg 2 (k' := 2) (L' := [(3, .int 0), (0, .ref 46), (1, .int x1), (2, .int x2)]) (st' := []) rfl ?_
  refine ev_join (L' := [(0, .ref 46), (1, .int x1), (2, .int x2), (3, .int 0)]) [1, 2, 3, 0] [3, 0, 1, 2] [0, 1, 2, 3] rfl rfl (by decide) (by decide) rfl ?_
  exact hr
set_option maxRecDepth 20000 in
theorem eLo_fields_2 (d : Nat) (x1 : Int32) (x2 : Int32) (z3 : Int32) (s : aT) : ∀ r, (ldI 5254 s 26 x1 (fun v1 => if v1 ≤ z3 then rI 1 s else cG (fSc_partSchemaOf d x1 z3 s) (kI fun v3 s2 => cG (fLo_datum d v3 (x2 + 1) s2) (kI fun v5 s4 => if ¬ v5 = 0 then fLo_fields_2 (d + 1) x1 x2 (z3 + 1) s4 else rI 0 s4)))) = some r → fLo_fields_2 (d + 1) x1 x2 z3 s = some r := by
  intro r hr
  show ev (d + 1) q_129 2 [(0, .ref 46), (1, .int x1), (2, .int x2), (3, .int z3)] [] s = some r
  refine ev_seg 5 (k' := 7) (L' := [(0, .ref 46), (1, .int x1), (2, .int x2), (3, .int z3)]) (st' := [.int x1, .ref 26, .int z3]) rfl ?_
  refine ev_ldI hr rfl rfl (fun v1 hr => ?_)
  refine ev_br (P := v1 ≤ z3) (L' := [(0, .ref 46), (1, .int x1), (2, .int x2), (3, .int z3)]) (st' := []) hr rfl rfl rfl (fun hr => ?_) (fun hr => ?_)
  · skip
    refine ev_seg 1 (k' := 25) (L' := [(0, .ref 46), (1, .int x1), (2, .int x2), (3, .int z3)]) (st' := [.int 1]) rfl ?_
    exact ev_iret hr rfl rfl rfl
  · skip
    refine ev_seg 5 (k' := 14) (L' := [(0, .ref 46), (1, .int x1), (2, .int x2), (3, .int z3)]) (st' := [.int z3, .int x1, .ref 22, .ref 46]) rfl ?_
    refine ev_callV (q' := q_39) (x := 39) (y := 2) (c := 22) (As := [.int x1, .int z3]) (rest := [.ref 46]) hr rfl rfl rfl rfl rfl rfl rfl rfl rfl rfl rfl rfl (fun rv s2 hq => ev_kI hq (fun v3 e9 hr => ?_))
    subst e9
    refine ev_st (st' := [.int v3, .ref 46]) rfl ?_
    refine ev_seg 3 (k' := 18) (L' := [(0, .ref 46), (1, .int x1), (2, .int x2), (3, .int z3)]) (st' := [.int (x2 + 1), .int v3, .ref 46]) rfl ?_
    refine ev_callV (q' := q_121) (x := 121) (y := 6) (c := 46) (As := [.int v3, .int (x2 + 1)]) (rest := []) hr rfl rfl rfl rfl rfl rfl rfl rfl rfl rfl rfl rfl (fun rv s4 hq => ev_kI hq (fun v5 e9 hr => ?_))
    subst e9
    refine ev_st (st' := [.int v5]) rfl ?_
    refine ev_br (P := ¬ v5 = 0) (L' := [(0, .ref 46), (1, .int x1), (2, .int x2), (3, .int z3)]) (st' := []) hr rfl rfl rfl (fun hr => ?_) (fun hr => ?_)
    · skip
      refine ev_seg 2 (k' := 2) (L' := [(3, .int (z3 + 1)), (0, .ref 46), (1, .int x1), (2, .int x2)]) (st' := []) rfl ?_
      refine ev_join (L' := [(0, .ref 46), (1, .int x1), (2, .int x2), (3, .int (z3 + 1))]) [1, 2, 3, 0] [3, 0, 1, 2] [0, 1, 2, 3] rfl rfl (by decide) (by decide) rfl ?_
      exact hr
    · skip
      refine ev_seg 1 (k' := 21) (L' := [(0, .ref 46), (1, .int x1), (2, .int x2), (3, .int z3)]) (st' := [.int 0]) rfl ?_
      exact ev_iret hr rfl rfl rfl
set_option maxRecDepth 20000 in
theorem eLo_blocks (d : Nat) (x1 : Int32) (x2 : Int32) (s : aT) : ∀ r, (fLo_blocks_8 (d + 6) x1 x2 (gI s 47 1) 0 0 s) = some r → fLo_blocks (d + 6) x1 x2 s = some r := by
  intro r hr
  show ev (d + 6) q_130 0 [(0, .ref 46), (1, .int x1), (2, .int x2)] [] s = some r
  refine ev_seg 8 (k' := 8) (L' := [(5, .int 0), (4, .int 0), (3, .int (gI s 47 1)), (0, .ref 46), (1, .int x1), (2, .int x2)]) (st' := []) rfl ?_
  refine ev_join (L' := [(0, .ref 46), (1, .int x1), (2, .int x2), (3, .int (gI s 47 1)), (4, .int 0), (5, .int 0)]) [3, 4, 5, 2, 1, 0] [5, 4, 3, 0, 1, 2] [0, 1, 2, 3, 4, 5] rfl rfl (by decide) (by decide) rfl ?_
  exact hr
set_option maxRecDepth 20000 in
theorem eLo_blocks_8 (d : Nat) (x1 : Int32) (x2 : Int32) (z3 : Int32) (z4 : Int32) (z5 : Int32) (s : aT) : ∀ r, (if 2000 < z5 then fLo_blocks_73 (d + 6) z3 z4 s else cG (fLo_varint (d + 5) s) (kI fun v2 s1 => if ¬ v2 = 0 then if ¬ aLcmp (gL s1 46 4) 0 = 0 then if aLcmp (gL s1 46 4) (-2000) < 0 then fLo_blocks_44 (d + 6) (gI s 46 1) s1 else if 0 < aLcmp (gL s1 46 4) 2000 then fLo_blocks_44 (d + 6) (gI s 46 1) s1 else cQ 912 [.long (gL s1 46 4)] (fun v3 => if aLcmp (((gI s1 46 9).toInt64) + v3) 2000 ≤ 0 then cQ 912 [.long (gL s1 46 4)] (fun v4 => cQ 912 [.long (gL s1 46 4)] (fun v5 => wI s1 46 9 ((gI s1 46 9) + v5.toInt32) (fun s6 => cG (fLo_block (d + 5) x1 (gL s1 46 4) x2 s6) (kI fun v8 s7 => if ¬ v8 = 0 then fLo_blocks_8 (d + 6) x1 x2 z3 (z4 + v4.toInt32) (z5 + 1) s7 else rI 0 s7)))) else fLo_blocks_44 (d + 6) (gI s 46 1) s1) else fLo_blocks_73 (d + 6) z3 z4 s1 else rI 0 s1)) = some r → fLo_blocks_8 (d + 6) x1 x2 z3 z4 z5 s = some r := by
  intro r hr
  show ev (d + 6) q_130 8 [(0, .ref 46), (1, .int x1), (2, .int x2), (3, .int z3), (4, .int z4), (5, .int z5)] [] s = some r
  refine ev_seg 2 (k' := 10) (L' := [(0, .ref 46), (1, .int x1), (2, .int x2), (3, .int z3), (4, .int z4), (5, .int z5)]) (st' := [.int 2000, .int z5]) rfl ?_
  refine ev_br (P := 2000 < z5) (L' := [(0, .ref 46), (1, .int x1), (2, .int x2), (3, .int z3), (4, .int z4), (5, .int z5)]) (st' := []) hr rfl rfl rfl (fun hr => ?_) (fun hr => ?_)
  · skip
    refine ev_join (L' := [(0, .ref 46), (3, .int z3), (4, .int z4)]) [0, 3, 4] [0, 1, 2, 3, 4, 5] [0, 3, 4] rfl rfl (by decide) (by decide) rfl ?_
    exact hr
  · skip
    refine ev_seg 4 (k' := 15) (L' := [(6, .int (gI s 46 1)), (0, .ref 46), (1, .int x1), (2, .int x2), (3, .int z3), (4, .int z4), (5, .int z5)]) (st' := [.ref 46]) rfl ?_
    refine ev_callV (q' := q_125) (x := 125) (y := 6) (c := 46) (As := []) (rest := []) hr rfl rfl rfl rfl rfl rfl rfl rfl rfl rfl rfl rfl (fun rv s1 hq => ev_kI hq (fun v2 e9 hr => ?_))
    subst e9
    refine ev_st (st' := [.int v2]) rfl ?_
    refine ev_br (P := ¬ v2 = 0) (L' := [(6, .int (gI s 46 1)), (0, .ref 46), (1, .int x1), (2, .int x2), (3, .int z3), (4, .int z4), (5, .int z5)]) (st' := []) hr rfl rfl rfl (fun hr => ?_) (fun hr => ?_)
    · skip
      refine ev_seg 6 (k' := 25) (L' := [(7, .long (gL s1 46 4)), (6, .int (gI s 46 1)), (0, .ref 46), (1, .int x1), (2, .int x2), (3, .int z3), (4, .int z4), (5, .int z5)]) (st' := [.int (aLcmp (gL s1 46 4) 0)]) rfl ?_
      refine ev_br (P := ¬ aLcmp (gL s1 46 4) 0 = 0) (L' := [(7, .long (gL s1 46 4)), (6, .int (gI s 46 1)), (0, .ref 46), (1, .int x1), (2, .int x2), (3, .int z3), (4, .int z4), (5, .int z5)]) (st' := []) hr rfl rfl rfl (fun hr => ?_) (fun hr => ?_)
      · skip
        refine ev_seg 3 (k' := 30) (L' := [(7, .long (gL s1 46 4)), (6, .int (gI s 46 1)), (0, .ref 46), (1, .int x1), (2, .int x2), (3, .int z3), (4, .int z4), (5, .int z5)]) (st' := [.int (aLcmp (gL s1 46 4) (-2000))]) rfl ?_
        refine ev_br (P := aLcmp (gL s1 46 4) (-2000) < 0) (L' := [(7, .long (gL s1 46 4)), (6, .int (gI s 46 1)), (0, .ref 46), (1, .int x1), (2, .int x2), (3, .int z3), (4, .int z4), (5, .int z5)]) (st' := []) hr rfl rfl rfl (fun hr => ?_) (fun hr => ?_)
        · skip
          refine ev_join (L' := [(0, .ref 46), (6, .int (gI s 46 1))]) [2, 1] [7, 6, 0, 1, 2, 3, 4, 5] [0, 6] rfl rfl (by decide) (by decide) rfl ?_
          exact hr
        · skip
          refine ev_seg 3 (k' := 34) (L' := [(7, .long (gL s1 46 4)), (6, .int (gI s 46 1)), (0, .ref 46), (1, .int x1), (2, .int x2), (3, .int z3), (4, .int z4), (5, .int z5)]) (st' := [.int (aLcmp (gL s1 46 4) 2000)]) rfl ?_
          refine ev_br (P := 0 < aLcmp (gL s1 46 4) 2000) (L' := [(7, .long (gL s1 46 4)), (6, .int (gI s 46 1)), (0, .ref 46), (1, .int x1), (2, .int x2), (3, .int z3), (4, .int z4), (5, .int z5)]) (st' := []) hr rfl rfl rfl (fun hr => ?_) (fun hr => ?_)
          · skip
            refine ev_join (L' := [(0, .ref 46), (6, .int (gI s 46 1))]) [2, 1] [7, 6, 0, 1, 2, 3, 4, 5] [0, 6] rfl rfl (by decide) (by decide) rfl ?_
            exact hr
          · skip
            refine ev_seg 4 (k' := 39) (L' := [(7, .long (gL s1 46 4)), (6, .int (gI s 46 1)), (0, .ref 46), (1, .int x1), (2, .int x2), (3, .int z3), (4, .int z4), (5, .int z5)]) (st' := [.long (gL s1 46 4), .long ((gI s1 46 9).toInt64)]) rfl ?_
            refine ev_primQ (x := 912) (As := [.long (gL s1 46 4)]) (rest := [.long ((gI s1 46 9).toInt64)]) hr rfl rfl rfl rfl rfl (fun v3 hr => ?_)
            refine ev_seg 3 (k' := 43) (L' := [(7, .long (gL s1 46 4)), (6, .int (gI s 46 1)), (0, .ref 46), (1, .int x1), (2, .int x2), (3, .int z3), (4, .int z4), (5, .int z5)]) (st' := [.int (aLcmp (((gI s1 46 9).toInt64) + v3) 2000)]) rfl ?_
            refine ev_br (P := aLcmp (((gI s1 46 9).toInt64) + v3) 2000 ≤ 0) (L' := [(7, .long (gL s1 46 4)), (6, .int (gI s 46 1)), (0, .ref 46), (1, .int x1), (2, .int x2), (3, .int z3), (4, .int z4), (5, .int z5)]) (st' := []) hr rfl rfl rfl (fun hr => ?_) (fun hr => ?_)
            · skip
              refine ev_seg 2 (k' := 51) (L' := [(7, .long (gL s1 46 4)), (6, .int (gI s 46 1)), (0, .ref 46), (1, .int x1), (2, .int x2), (3, .int z3), (4, .int z4), (5, .int z5)]) (st' := [.long (gL s1 46 4), .int z4]) rfl ?_
              refine ev_primQ (x := 912) (As := [.long (gL s1 46 4)]) (rest := [.int z4]) hr rfl rfl rfl rfl rfl (fun v4 hr => ?_)
              refine ev_seg 7 (k' := 59) (L' := [(4, .int (z4 + v4.toInt32)), (7, .long (gL s1 46 4)), (6, .int (gI s 46 1)), (0, .ref 46), (1, .int x1), (2, .int x2), (3, .int z3), (5, .int z5)]) (st' := [.long (gL s1 46 4), .int (gI s1 46 9), .ref 46]) rfl ?_
              refine ev_primQ (x := 912) (As := [.long (gL s1 46 4)]) (rest := [.int (gI s1 46 9), .ref 46]) hr rfl rfl rfl rfl rfl (fun v5 hr => ?_)
              refine ev_seg 2 (k' := 62) (L' := [(4, .int (z4 + v4.toInt32)), (7, .long (gL s1 46 4)), (6, .int (gI s 46 1)), (0, .ref 46), (1, .int x1), (2, .int x2), (3, .int z3), (5, .int z5)]) (st' := [.int ((gI s1 46 9) + v5.toInt32), .ref 46]) rfl ?_
              refine ev_putI (c := 46) hr rfl rfl rfl (fun s6 hr => ?_)
              refine ev_seg 4 (k' := 67) (L' := [(4, .int (z4 + v4.toInt32)), (7, .long (gL s1 46 4)), (6, .int (gI s 46 1)), (0, .ref 46), (1, .int x1), (2, .int x2), (3, .int z3), (5, .int z5)]) (st' := [.int x2, .long (gL s1 46 4), .int x1, .ref 46]) rfl ?_
              refine ev_callV (q' := q_131) (x := 131) (y := 6) (c := 46) (As := [.int x1, .long (gL s1 46 4), .int x2]) (rest := []) hr rfl rfl rfl rfl rfl rfl rfl rfl rfl rfl rfl rfl (fun rv s7 hq => ev_kI hq (fun v8 e9 hr => ?_))
              subst e9
              refine ev_st (st' := [.int v8]) rfl ?_
              refine ev_br (P := ¬ v8 = 0) (L' := [(4, .int (z4 + v4.toInt32)), (7, .long (gL s1 46 4)), (6, .int (gI s 46 1)), (0, .ref 46), (1, .int x1), (2, .int x2), (3, .int z3), (5, .int z5)]) (st' := []) hr rfl rfl rfl (fun hr => ?_) (fun hr => ?_)
              · skip
                refine ev_seg 2 (k' := 8) (L' := [(5, .int (z5 + 1)), (4, .int (z4 + v4.toInt32)), (7, .long (gL s1 46 4)), (6, .int (gI s 46 1)), (0, .ref 46), (1, .int x1), (2, .int x2), (3, .int z3)]) (st' := []) rfl ?_
                refine ev_join (L' := [(0, .ref 46), (1, .int x1), (2, .int x2), (3, .int z3), (4, .int (z4 + v4.toInt32)), (5, .int (z5 + 1))]) [4, 5, 6, 7, 1, 0] [5, 4, 7, 6, 0, 1, 2, 3] [0, 1, 2, 3, 4, 5] rfl rfl (by decide) (by decide) rfl ?_
                exact hr
              · skip
                refine ev_seg 1 (k' := 70) (L' := [(4, .int (z4 + v4.toInt32)), (7, .long (gL s1 46 4)), (6, .int (gI s 46 1)), (0, .ref 46), (1, .int x1), (2, .int x2), (3, .int z3), (5, .int z5)]) (st' := [.int 0]) rfl ?_
                exact ev_iret hr rfl rfl rfl
            · skip
              refine ev_join (L' := [(0, .ref 46), (6, .int (gI s 46 1))]) [2, 1] [7, 6, 0, 1, 2, 3, 4, 5] [0, 6] rfl rfl (by decide) (by decide) rfl ?_
              exact hr
      · skip
        refine ev_seg 1 (k' := 73) (L' := [(7, .long (gL s1 46 4)), (6, .int (gI s 46 1)), (0, .ref 46), (1, .int x1), (2, .int x2), (3, .int z3), (4, .int z4), (5, .int z5)]) (st' := []) rfl ?_
        refine ev_join (L' := [(0, .ref 46), (3, .int z3), (4, .int z4)]) [2, 5, 6] [7, 6, 0, 1, 2, 3, 4, 5] [0, 3, 4] rfl rfl (by decide) (by decide) rfl ?_
        exact hr
    · skip
      refine ev_seg 1 (k' := 18) (L' := [(6, .int (gI s 46 1)), (0, .ref 46), (1, .int x1), (2, .int x2), (3, .int z3), (4, .int z4), (5, .int z5)]) (st' := [.int 0]) rfl ?_
      exact ev_iret hr rfl rfl rfl
set_option maxRecDepth 20000 in
theorem eLo_blocks_73 (d : Nat) (z3 : Int32) (z4 : Int32) (s : aT) : ∀ r, (if z4 ≤ 0 then fLo_blocks_81 (d + 6) s else cG (fBy_insertVarint (d + 5) 47 z3 z4.toInt64 s) (kV fun s1 => fLo_blocks_81 (d + 6) s1)) = some r → fLo_blocks_73 (d + 6) z3 z4 s = some r := by
  intro r hr
  show ev (d + 6) q_130 73 [(0, .ref 46), (3, .int z3), (4, .int z4)] [] s = some r
  refine ev_seg 1 (k' := 74) (L' := [(0, .ref 46), (3, .int z3), (4, .int z4)]) (st' := [.int z4]) rfl ?_
  refine ev_br (P := z4 ≤ 0) (L' := [(0, .ref 46), (3, .int z3), (4, .int z4)]) (st' := []) hr rfl rfl rfl (fun hr => ?_) (fun hr => ?_)
  · skip
    refine ev_join (L' := [(0, .ref 46)]) [0] [0, 3, 4] [0] rfl rfl (by decide) (by decide) rfl ?_
    exact hr
  · skip
    refine ev_seg 5 (k' := 80) (L' := [(0, .ref 46), (3, .int z3), (4, .int z4)]) (st' := [.long z4.toInt64, .int z3, .ref 47]) rfl ?_
    refine ev_callV (q' := q_132) (x := 132) (y := 0) (c := 47) (As := [.int z3, .long z4.toInt64]) (rest := []) hr rfl rfl rfl rfl rfl rfl rfl rfl rfl rfl rfl rfl (fun rv s1 hq => ev_kV hq (fun e9 hr => ?_))
    subst e9
    refine ev_st (st' := []) rfl ?_
    refine ev_join (L' := [(0, .ref 46)]) [0] [0, 3, 4] [0] rfl rfl (by decide) (by decide) rfl ?_
    exact hr
set_option maxRecDepth 20000 in
theorem eLo_blocks_44 (d : Nat) (z6 : Int32) (s : aT) : ∀ r, (cG (fLo_fail (d + 5) 6 z6 s) (kI fun v2 s1 => rZ v2 s1)) = some r → fLo_blocks_44 (d + 6) z6 s = some r := by
  intro r hr
  show ev (d + 6) q_130 44 [(0, .ref 46), (6, .int z6)] [] s = some r
  refine ev_seg 3 (k' := 47) (L' := [(0, .ref 46), (6, .int z6)]) (st' := [.int z6, .int 6, .ref 46]) rfl ?_
  refine ev_callV (q' := q_122) (x := 122) (y := 6) (c := 46) (As := [.int 6, .int z6]) (rest := []) hr rfl rfl rfl rfl rfl rfl rfl rfl rfl rfl rfl rfl (fun rv s1 hq => ev_kI hq (fun v2 e9 hr => ?_))
  subst e9
  refine ev_st (st' := [.int v2]) rfl ?_
  exact ev_zret hr rfl rfl
set_option maxRecDepth 20000 in
theorem eLo_blocks_81 (d : Nat) (s : aT) : ∀ r, (cG (fBy_put (d + 5) 47 0 s) (kI fun v2 s1 => rZ v2 s1)) = some r → fLo_blocks_81 (d + 6) s = some r := by
  intro r hr
  show ev (d + 6) q_130 81 [(0, .ref 46)] [] s = some r
  refine ev_seg 3 (k' := 84) (L' := [(0, .ref 46)]) (st' := [.int 0, .ref 47]) rfl ?_
  refine ev_callV (q' := q_16) (x := 16) (y := 0) (c := 47) (As := [.int 0]) (rest := []) hr rfl rfl rfl rfl rfl rfl rfl rfl rfl rfl rfl rfl (fun rv s1 hq => ev_kI hq (fun v2 e9 hr => ?_))
  subst e9
  refine ev_st (st' := [.int v2]) rfl ?_
  exact ev_zret hr rfl rfl
set_option maxRecDepth 20000 in
theorem eLo_block (d : Nat) (x1 : Int32) (y2 : Int64) (x4 : Int32) (s : aT) : ∀ r, (if 0 ≤ aLcmp y2 0 then fLo_block_12 (d + 6) x1 y2 x4 (gI s 46 1) s else cG (fLo_varint (d + 5) s) (kI fun v2 s1 => if ¬ v2 = 0 then fLo_block_12 (d + 6) x1 y2 x4 (gI s 46 1) s1 else rI 0 s1)) = some r → fLo_block (d + 6) x1 y2 x4 s = some r := by
  intro r hr
  show ev (d + 6) q_131 0 [(0, .ref 46), (1, .int x1), (2, .long y2), (4, .int x4)] [] s = some r
  refine ev_seg 6 (k' := 6) (L' := [(5, .int (gI s 46 1)), (0, .ref 46), (1, .int x1), (2, .long y2), (4, .int x4)]) (st' := [.int (aLcmp y2 0)]) rfl ?_
  refine ev_br (P := 0 ≤ aLcmp y2 0) (L' := [(5, .int (gI s 46 1)), (0, .ref 46), (1, .int x1), (2, .long y2), (4, .int x4)]) (st' := []) hr rfl rfl rfl (fun hr => ?_) (fun hr => ?_)
  · skip
    refine ev_join (L' := [(0, .ref 46), (1, .int x1), (2, .long y2), (4, .int x4), (5, .int (gI s 46 1))]) [1, 2, 3, 4, 0] [5, 0, 1, 2, 4] [0, 1, 2, 4, 5] rfl rfl (by decide) (by decide) rfl ?_
    exact hr
  · skip
    refine ev_seg 1 (k' := 8) (L' := [(5, .int (gI s 46 1)), (0, .ref 46), (1, .int x1), (2, .long y2), (4, .int x4)]) (st' := [.ref 46]) rfl ?_
    refine ev_callV (q' := q_125) (x := 125) (y := 6) (c := 46) (As := []) (rest := []) hr rfl rfl rfl rfl rfl rfl rfl rfl rfl rfl rfl rfl (fun rv s1 hq => ev_kI hq (fun v2 e9 hr => ?_))
    subst e9
    refine ev_st (st' := [.int v2]) rfl ?_
    refine ev_br (P := ¬ v2 = 0) (L' := [(5, .int (gI s 46 1)), (0, .ref 46), (1, .int x1), (2, .long y2), (4, .int x4)]) (st' := []) hr rfl rfl rfl (fun hr => ?_) (fun hr => ?_)
    · skip
      refine ev_join (L' := [(0, .ref 46), (1, .int x1), (2, .long y2), (4, .int x4), (5, .int (gI s 46 1))]) [1, 2, 3, 4, 0] [5, 0, 1, 2, 4] [0, 1, 2, 4, 5] rfl rfl (by decide) (by decide) rfl ?_
      exact hr
    · skip
      refine ev_seg 1 (k' := 11) (L' := [(5, .int (gI s 46 1)), (0, .ref 46), (1, .int x1), (2, .long y2), (4, .int x4)]) (st' := [.int 0]) rfl ?_
      exact ev_iret hr rfl rfl rfl
set_option maxRecDepth 20000 in
theorem eLo_block_12 (d : Nat) (x1 : Int32) (y2 : Int64) (x4 : Int32) (z5 : Int32) (s : aT) : ∀ r, (fLo_block_20 (d + 6) x1 y2 x4 z5 (gL s 46 4) (gI s 46 1) 0 s) = some r → fLo_block_12 (d + 6) x1 y2 x4 z5 s = some r := by
  intro r hr
  show ev (d + 6) q_131 12 [(0, .ref 46), (1, .int x1), (2, .long y2), (4, .int x4), (5, .int z5)] [] s = some r
  refine ev_seg 8 (k' := 20) (L' := [(9, .int 0), (8, .int (gI s 46 1)), (6, .long (gL s 46 4)), (0, .ref 46), (1, .int x1), (2, .long y2), (4, .int x4), (5, .int z5)]) (st' := []) rfl ?_
  refine ev_join (L' := [(0, .ref 46), (1, .int x1), (2, .long y2), (4, .int x4), (5, .int z5), (6, .long (gL s 46 4)), (8, .int (gI s 46 1)), (9, .int 0)]) [3, 4, 5, 6, 7, 2, 1, 0] [9, 8, 6, 0, 1, 2, 4, 5] [0, 1, 2, 4, 5, 6, 8, 9] rfl rfl (by decide) (by decide) rfl ?_
  exact hr
set_option maxRecDepth 20000 in
theorem eLo_block_20 (d : Nat) (x1 : Int32) (y2 : Int64) (x4 : Int32) (z5 : Int32) (l6 : Int64) (z8 : Int32) (z9 : Int32) (s : aT) : ∀ r, (cQ 912 [.long y2] (fun v1 => if 0 ≤ aLcmp z9.toInt64 v1 then if 0 < aLcmp y2 0 then rI 1 s else if aLcmp (((gI s 46 1) - z8).toInt64) l6 = 0 then rI 1 s else cG (fLo_fail (d + 5) 6 z5 s) (kI fun v3 s2 => if v3 = 0 then rI 0 s2 else rI 1 s2) else ldI 5254 s 23 x1 (fun v4 => if ¬ v4 = 7 then fLo_block_36 (d + 6) x1 y2 x4 z5 l6 z8 z9 s else cG (fLo_countedBytes (d + 5) s) (kI fun v6 s5 => if v6 = 0 then fLo_block_39 (d + 6) x1 y2 x4 z5 l6 z8 z9 0 s5 else fLo_block_36 (d + 6) x1 y2 x4 z5 l6 z8 z9 s5)))) = some r → fLo_block_20 (d + 6) x1 y2 x4 z5 l6 z8 z9 s = some r := by
  intro r hr
  show ev (d + 6) q_131 20 [(0, .ref 46), (1, .int x1), (2, .long y2), (4, .int x4), (5, .int z5), (6, .long l6), (8, .int z8), (9, .int z9)] [] s = some r
  refine ev_seg 3 (k' := 23) (L' := [(0, .ref 46), (1, .int x1), (2, .long y2), (4, .int x4), (5, .int z5), (6, .long l6), (8, .int z8), (9, .int z9)]) (st' := [.long y2, .long z9.toInt64]) rfl ?_
  refine ev_primQ (x := 912) (As := [.long y2]) (rest := [.long z9.toInt64]) hr rfl rfl rfl rfl rfl (fun v1 hr => ?_)
  refine ev_seg 1 (k' := 25) (L' := [(0, .ref 46), (1, .int x1), (2, .long y2), (4, .int x4), (5, .int z5), (6, .long l6), (8, .int z8), (9, .int z9)]) (st' := [.int (aLcmp z9.toInt64 v1)]) rfl ?_
  refine ev_br (P := 0 ≤ aLcmp z9.toInt64 v1) (L' := [(0, .ref 46), (1, .int x1), (2, .long y2), (4, .int x4), (5, .int z5), (6, .long l6), (8, .int z8), (9, .int z9)]) (st' := []) hr rfl rfl rfl (fun hr => ?_) (fun hr => ?_)
  · skip
    refine ev_seg 3 (k' := 60) (L' := [(0, .ref 46), (1, .int x1), (2, .long y2), (4, .int x4), (5, .int z5), (6, .long l6), (8, .int z8), (9, .int z9)]) (st' := [.int (aLcmp y2 0)]) rfl ?_
    refine ev_br (P := 0 < aLcmp y2 0) (L' := [(0, .ref 46), (1, .int x1), (2, .long y2), (4, .int x4), (5, .int z5), (6, .long l6), (8, .int z8), (9, .int z9)]) (st' := []) hr rfl rfl rfl (fun hr => ?_) (fun hr => ?_)
    · skip
      refine ev_seg 2 (k' := 77) (L' := [(0, .ref 46), (1, .int x1), (2, .long y2), (4, .int x4), (5, .int z5), (6, .long l6), (8, .int z8), (9, .int z9)]) (st' := [.int 1]) rfl ?_
      exact ev_iret hr rfl rfl rfl
    · skip
      refine ev_seg 7 (k' := 68) (L' := [(0, .ref 46), (1, .int x1), (2, .long y2), (4, .int x4), (5, .int z5), (6, .long l6), (8, .int z8), (9, .int z9)]) (st' := [.int (aLcmp (((gI s 46 1) - z8).toInt64) l6)]) rfl ?_
      refine ev_br (P := aLcmp (((gI s 46 1) - z8).toInt64) l6 = 0) (L' := [(0, .ref 46), (1, .int x1), (2, .long y2), (4, .int x4), (5, .int z5), (6, .long l6), (8, .int z8), (9, .int z9)]) (st' := []) hr rfl rfl rfl (fun hr => ?_) (fun hr => ?_)
      · skip
        refine ev_seg 2 (k' := 77) (L' := [(0, .ref 46), (1, .int x1), (2, .long y2), (4, .int x4), (5, .int z5), (6, .long l6), (8, .int z8), (9, .int z9)]) (st' := [.int 1]) rfl ?_
        exact ev_iret hr rfl rfl rfl
      · skip
        refine ev_seg 3 (k' := 72) (L' := [(0, .ref 46), (1, .int x1), (2, .long y2), (4, .int x4), (5, .int z5), (6, .long l6), (8, .int z8), (9, .int z9)]) (st' := [.int z5, .int 6, .ref 46]) rfl ?_
        refine ev_callV (q' := q_122) (x := 122) (y := 6) (c := 46) (As := [.int 6, .int z5]) (rest := []) hr rfl rfl rfl rfl rfl rfl rfl rfl rfl rfl rfl rfl (fun rv s2 hq => ev_kI hq (fun v3 e9 hr => ?_))
        subst e9
        refine ev_st (st' := [.int v3]) rfl ?_
        refine ev_br (P := v3 = 0) (L' := [(0, .ref 46), (1, .int x1), (2, .long y2), (4, .int x4), (5, .int z5), (6, .long l6), (8, .int z8), (9, .int z9)]) (st' := []) hr rfl rfl rfl (fun hr => ?_) (fun hr => ?_)
        · skip
          refine ev_seg 1 (k' := 77) (L' := [(0, .ref 46), (1, .int x1), (2, .long y2), (4, .int x4), (5, .int z5), (6, .long l6), (8, .int z8), (9, .int z9)]) (st' := [.int 0]) rfl ?_
          exact ev_iret hr rfl rfl rfl
        · skip
          refine ev_seg 2 (k' := 77) (L' := [(0, .ref 46), (1, .int x1), (2, .long y2), (4, .int x4), (5, .int z5), (6, .long l6), (8, .int z8), (9, .int z9)]) (st' := [.int 1]) rfl ?_
          exact ev_iret hr rfl rfl rfl
  · skip
    refine ev_seg 4 (k' := 30) (L' := [(0, .ref 46), (1, .int x1), (2, .long y2), (4, .int x4), (5, .int z5), (6, .long l6), (8, .int z8), (9, .int z9)]) (st' := [.int x1, .ref 23]) rfl ?_
    refine ev_ldI hr rfl rfl (fun v4 hr => ?_)
    refine ev_seg 1 (k' := 32) (L' := [(0, .ref 46), (1, .int x1), (2, .long y2), (4, .int x4), (5, .int z5), (6, .long l6), (8, .int z8), (9, .int z9)]) (st' := [.int 7, .int v4]) rfl ?_
    refine ev_br (P := ¬ v4 = 7) (L' := [(0, .ref 46), (1, .int x1), (2, .long y2), (4, .int x4), (5, .int z5), (6, .long l6), (8, .int z8), (9, .int z9)]) (st' := []) hr rfl rfl rfl (fun hr => ?_) (fun hr => ?_)
    · skip
      exact hr
    · skip
      refine ev_seg 1 (k' := 34) (L' := [(0, .ref 46), (1, .int x1), (2, .long y2), (4, .int x4), (5, .int z5), (6, .long l6), (8, .int z8), (9, .int z9)]) (st' := [.ref 46]) rfl ?_
      refine ev_callV (q' := q_126) (x := 126) (y := 6) (c := 46) (As := []) (rest := []) hr rfl rfl rfl rfl rfl rfl rfl rfl rfl rfl rfl rfl (fun rv s5 hq => ev_kI hq (fun v6 e9 hr => ?_))
      subst e9
      refine ev_st (st' := [.int v6]) rfl ?_
      refine ev_br (P := v6 = 0) (L' := [(0, .ref 46), (1, .int x1), (2, .long y2), (4, .int x4), (5, .int z5), (6, .long l6), (8, .int z8), (9, .int z9)]) (st' := []) hr rfl rfl rfl (fun hr => ?_) (fun hr => ?_)
      · skip
        refine ev_seg 1 (k' := 39) (L' := [(0, .ref 46), (1, .int x1), (2, .long y2), (4, .int x4), (5, .int z5), (6, .long l6), (8, .int z8), (9, .int z9)]) (st' := [.int 0]) rfl ?_
        exact hr
      · skip
        exact hr
set_option maxRecDepth 20000 in
theorem eLo_block_36 (d : Nat) (x1 : Int32) (y2 : Int64) (x4 : Int32) (z5 : Int32) (l6 : Int64) (z8 : Int32) (z9 : Int32) (s : aT) : ∀ r, (fLo_block_39 (d + 6) x1 y2 x4 z5 l6 z8 z9 1 s) = some r → fLo_block_36 (d + 6) x1 y2 x4 z5 l6 z8 z9 s = some r := by
  intro r hr
  show ev (d + 6) q_131 36 [(0, .ref 46), (1, .int x1), (2, .long y2), (4, .int x4), (5, .int z5), (6, .long l6), (8, .int z8), (9, .int z9)] [] s = some r
  refine ev_seg 2 (k' := 39) (L' := [(0, .ref 46), (1, .int x1), (2, .long y2), (4, .int x4), (5, .int z5), (6, .long l6), (8, .int z8), (9, .int z9)]) (st' := [.int 1]) rfl ?_
  exact hr
set_option maxRecDepth 20000 in
theorem eLo_block_39 (d : Nat) (x1 : Int32) (y2 : Int64) (x4 : Int32) (z5 : Int32) (l6 : Int64) (z8 : Int32) (z9 : Int32) (u0 : Int32) (s : aT) : ∀ r, (if u0 = 0 then rI 0 s else ldI 5254 s 27 x1 (fun v1 => cG (fLo_datum (d + 5) v1 (x4 + 1) s) (kI fun v3 s2 => if ¬ v3 = 0 then fLo_block_20 (d + 6) x1 y2 x4 z5 l6 z8 (z9 + 1) s2 else rI 0 s2))) = some r → fLo_block_39 (d + 6) x1 y2 x4 z5 l6 z8 z9 u0 s = some r := by
  intro r hr
  show ev (d + 6) q_131 39 [(0, .ref 46), (1, .int x1), (2, .long y2), (4, .int x4), (5, .int z5), (6, .long l6), (8, .int z8), (9, .int z9)] [.int u0] s = some r
  refine ev_seg 2 (k' := 41) (L' := [(10, .int u0), (0, .ref 46), (1, .int x1), (2, .long y2), (4, .int x4), (5, .int z5), (6, .long l6), (8, .int z8), (9, .int z9)]) (st' := [.int u0]) rfl ?_
  refine ev_br (P := u0 = 0) (L' := [(10, .int u0), (0, .ref 46), (1, .int x1), (2, .long y2), (4, .int x4), (5, .int z5), (6, .long l6), (8, .int z8), (9, .int z9)]) (st' := []) hr rfl rfl rfl (fun hr => ?_) (fun hr => ?_)
  · skip
    refine ev_seg 1 (k' := 54) (L' := [(10, .int u0), (0, .ref 46), (1, .int x1), (2, .long y2), (4, .int x4), (5, .int z5), (6, .long l6), (8, .int z8), (9, .int z9)]) (st' := [.int 0]) rfl ?_
    exact ev_iret hr rfl rfl rfl
  · skip
    refine ev_seg 5 (k' := 47) (L' := [(10, .int u0), (0, .ref 46), (1, .int x1), (2, .long y2), (4, .int x4), (5, .int z5), (6, .long l6), (8, .int z8), (9, .int z9)]) (st' := [.int x1, .ref 27, .ref 46]) rfl ?_
    refine ev_ldI hr rfl rfl (fun v1 hr => ?_)
    refine ev_seg 3 (k' := 51) (L' := [(10, .int u0), (0, .ref 46), (1, .int x1), (2, .long y2), (4, .int x4), (5, .int z5), (6, .long l6), (8, .int z8), (9, .int z9)]) (st' := [.int (x4 + 1), .int v1, .ref 46]) rfl ?_
    refine ev_callV (q' := q_121) (x := 121) (y := 6) (c := 46) (As := [.int v1, .int (x4 + 1)]) (rest := []) hr rfl rfl rfl rfl rfl rfl rfl rfl rfl rfl rfl rfl (fun rv s2 hq => ev_kI hq (fun v3 e9 hr => ?_))
    subst e9
    refine ev_st (st' := [.int v3]) rfl ?_
    refine ev_br (P := ¬ v3 = 0) (L' := [(10, .int u0), (0, .ref 46), (1, .int x1), (2, .long y2), (4, .int x4), (5, .int z5), (6, .long l6), (8, .int z8), (9, .int z9)]) (st' := []) hr rfl rfl rfl (fun hr => ?_) (fun hr => ?_)
    · skip
      refine ev_seg 2 (k' := 20) (L' := [(9, .int (z9 + 1)), (10, .int u0), (0, .ref 46), (1, .int x1), (2, .long y2), (4, .int x4), (5, .int z5), (6, .long l6), (8, .int z8)]) (st' := []) rfl ?_
      refine ev_join (L' := [(0, .ref 46), (1, .int x1), (2, .long y2), (4, .int x4), (5, .int z5), (6, .long l6), (8, .int z8), (9, .int (z9 + 1))]) [2, 3, 4, 5, 6, 7, 8, 0] [9, 10, 0, 1, 2, 4, 5, 6, 8] [0, 1, 2, 4, 5, 6, 8, 9] rfl rfl (by decide) (by decide) rfl ?_
      exact hr
    · skip
      refine ev_seg 1 (k' := 54) (L' := [(10, .int u0), (0, .ref 46), (1, .int x1), (2, .long y2), (4, .int x4), (5, .int z5), (6, .long l6), (8, .int z8), (9, .int z9)]) (st' := [.int 0]) rfl ?_
      exact ev_iret hr rfl rfl rfl
