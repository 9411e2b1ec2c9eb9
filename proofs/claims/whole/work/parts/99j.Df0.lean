/-! RecordLake$Defaults: what its pieces do -/
set_option maxRecDepth 20000 in
theorem eDf_forget (d : Nat) (s : aT) : ∀ r, (wI s 38 4 0 (fun s1 => rV s1)) = some r → fDf_forget d s = some r := by
  intro r hr
  show ev d q_27 0 [(0, .ref 38)] [] s = some r
  refine ev_seg 2 (k' := 2) (L' := [(0, .ref 38)]) (st' := [.int 0, .ref 38]) rfl ?_
  refine ev_putI (c := 38) hr rfl rfl rfl (fun s1 hr => ?_)
  exact ev_vret hr rfl rfl
set_option maxRecDepth 20000 in
theorem eDf_add (d : Nat) (x1 : Int32) (x2 : Int32) (s : aT) : ∀ r, (if x2 = (-1) then rV s else if gI s 38 4 < 128 then stI 128 s 40 (gI s 38 4) x1 (fun s1 => stI 128 s1 39 (gI s1 38 4) x2 (fun s2 => wI s2 38 4 ((gI s2 38 4) + 1) (fun s3 => rV s3))) else rV s) = some r → fDf_add d x1 x2 s = some r := by
  intro r hr
  show ev d q_55 0 [(0, .ref 38), (1, .int x1), (2, .int x2)] [] s = some r
  refine ev_seg 2 (k' := 2) (L' := [(0, .ref 38), (1, .int x1), (2, .int x2)]) (st' := [.int (-1), .int x2]) rfl ?_
  refine ev_br (P := x2 = (-1)) (L' := [(0, .ref 38), (1, .int x1), (2, .int x2)]) (st' := []) hr rfl rfl rfl (fun hr => ?_) (fun hr => ?_)
  · skip
    exact ev_vret hr rfl rfl
  · skip
    refine ev_seg 5 (k' := 8) (L' := [(0, .ref 38), (1, .int x1), (2, .int x2)]) (st' := [.int 128, .int (gI s 38 4)]) rfl ?_
    refine ev_br (P := gI s 38 4 < 128) (L' := [(0, .ref 38), (1, .int x1), (2, .int x2)]) (st' := []) hr rfl rfl rfl (fun hr => ?_) (fun hr => ?_)
    · skip
      refine ev_seg 5 (k' := 15) (L' := [(0, .ref 38), (1, .int x1), (2, .int x2)]) (st' := [.int x1, .int (gI s 38 4), .ref 40]) rfl ?_
      refine ev_stI hr rfl rfl (fun s1 hr => ?_)
      refine ev_seg 5 (k' := 21) (L' := [(0, .ref 38), (1, .int x1), (2, .int x2)]) (st' := [.int x2, .int (gI s1 38 4), .ref 39]) rfl ?_
      refine ev_stI hr rfl rfl (fun s2 hr => ?_)
      refine ev_seg 5 (k' := 27) (L' := [(0, .ref 38), (1, .int x1), (2, .int x2)]) (st' := [.int ((gI s2 38 4) + 1), .ref 38]) rfl ?_
      refine ev_putI (c := 38) hr rfl rfl rfl (fun s3 hr => ?_)
      exact ev_vret hr rfl rfl
    · skip
      exact ev_vret hr rfl rfl
set_option maxRecDepth 20000 in
theorem eDf_take (d : Nat) (s : aT) : ∀ r, (fDf_take_2 (d + 1) 0 s) = some r → fDf_take (d + 1) s = some r := by
  intro r hr
  show ev (d + 1) q_56 0 [(0, .ref 38)] [] s = some r
  refine ev_seg 2 (k' := 2) (L' := [(1, .int 0), (0, .ref 38)]) (st' := []) rfl ?_
  refine ev_join (L' := [(0, .ref 38), (1, .int 0)]) [1, 0] [1, 0] [0, 1] rfl rfl (by decide) (by decide) rfl ?_
  exact hr
set_option maxRecDepth 20000 in
theorem eDf_take_2 (d : Nat) (z1 : Int32) (s : aT) : ∀ r, (if gI s 38 4 ≤ z1 then rI (-1) s else ldI 128 s 40 z1 (fun v1 => ldI 128 s 39 z1 (fun v2 => ldI 10112 s 29 v1 (fun v3 => cG (fDf_misfit d v2 v3 0 s) (kI fun v5 s4 => if v5 = (-1) then stI 10112 s4 30 v1 (gI s4 32 1) (fun s6 => ldI 128 s6 39 z1 (fun v7 => ldI 10112 s6 29 v1 (fun v8 => cG (fDf_write d v7 v8 0 s6) (kV fun s9 => ldI 10112 s9 30 v1 (fun v10 => stI 10112 s9 31 v1 ((gI s9 32 1) - v10) (fun s11 => fDf_take_2 (d + 1) (z1 + 1) s11)))))) else rI v5 s4))))) = some r → fDf_take_2 (d + 1) z1 s = some r := by
  intro r hr
  show ev (d + 1) q_56 2 [(0, .ref 38), (1, .int z1)] [] s = some r
  refine ev_seg 3 (k' := 5) (L' := [(0, .ref 38), (1, .int z1)]) (st' := [.int (gI s 38 4), .int z1]) rfl ?_
  refine ev_br (P := gI s 38 4 ≤ z1) (L' := [(0, .ref 38), (1, .int z1)]) (st' := []) hr rfl rfl rfl (fun hr => ?_) (fun hr => ?_)
  · skip
    refine ev_seg 1 (k' := 68) (L' := [(0, .ref 38), (1, .int z1)]) (st' := [.int (-1)]) rfl ?_
    exact ev_iret hr rfl rfl rfl
  · skip
    refine ev_seg 3 (k' := 9) (L' := [(0, .ref 38), (1, .int z1)]) (st' := [.int z1, .ref 40]) rfl ?_
    refine ev_ldI hr rfl rfl (fun v1 hr => ?_)
    refine ev_seg 5 (k' := 15) (L' := [(2, .int v1), (0, .ref 38), (1, .int z1)]) (st' := [.int z1, .ref 39, .ref 38]) rfl ?_
    refine ev_ldI hr rfl rfl (fun v2 hr => ?_)
    refine ev_seg 4 (k' := 20) (L' := [(2, .int v1), (0, .ref 38), (1, .int z1)]) (st' := [.int v1, .ref 29, .int v2, .ref 38]) rfl ?_
    refine ev_ldI hr rfl rfl (fun v3 hr => ?_)
    refine ev_seg 1 (k' := 22) (L' := [(2, .int v1), (0, .ref 38), (1, .int z1)]) (st' := [.int 0, .int v3, .int v2, .ref 38]) rfl ?_
    refine ev_callV (q' := q_57) (x := 57) (y := 4) (c := 38) (As := [.int v2, .int v3, .int 0]) (rest := []) hr rfl rfl rfl rfl rfl rfl rfl rfl rfl rfl rfl rfl (fun rv s4 hq => ev_kI hq (fun v5 e9 hr => ?_))
    subst e9
    refine ev_st (st' := [.int v5]) rfl ?_
    refine ev_seg 3 (k' := 26) (L' := [(3, .int v5), (2, .int v1), (0, .ref 38), (1, .int z1)]) (st' := [.int (-1), .int v5]) rfl ?_
    refine ev_br (P := v5 = (-1)) (L' := [(3, .int v5), (2, .int v1), (0, .ref 38), (1, .int z1)]) (st' := []) hr rfl rfl rfl (fun hr => ?_) (fun hr => ?_)
    · skip
      refine ev_seg 8 (k' := 37) (L' := [(3, .int v5), (2, .int v1), (0, .ref 38), (1, .int z1)]) (st' := [.int (gI s4 32 1), .int v1, .ref 30]) rfl ?_
      refine ev_stI hr rfl rfl (fun s6 hr => ?_)
      refine ev_seg 4 (k' := 42) (L' := [(3, .int v5), (2, .int v1), (0, .ref 38), (1, .int z1)]) (st' := [.int z1, .ref 39, .ref 38]) rfl ?_
      refine ev_ldI hr rfl rfl (fun v7 hr => ?_)
      refine ev_seg 4 (k' := 47) (L' := [(3, .int v5), (2, .int v1), (0, .ref 38), (1, .int z1)]) (st' := [.int v1, .ref 29, .int v7, .ref 38]) rfl ?_
      refine ev_ldI hr rfl rfl (fun v8 hr => ?_)
      refine ev_seg 1 (k' := 49) (L' := [(3, .int v5), (2, .int v1), (0, .ref 38), (1, .int z1)]) (st' := [.int 0, .int v8, .int v7, .ref 38]) rfl ?_
      refine ev_callV (q' := q_63) (x := 63) (y := 4) (c := 38) (As := [.int v7, .int v8, .int 0]) (rest := []) hr rfl rfl rfl rfl rfl rfl rfl rfl rfl rfl rfl rfl (fun rv s9 hq => ev_kV hq (fun e9 hr => ?_))
      subst e9
      refine ev_st (st' := []) rfl ?_
      refine ev_seg 12 (k' := 62) (L' := [(3, .int v5), (2, .int v1), (0, .ref 38), (1, .int z1)]) (st' := [.int v1, .ref 30, .int (gI s9 32 1), .int v1, .ref 31]) rfl ?_
      refine ev_ldI hr rfl rfl (fun v10 hr => ?_)
      refine ev_seg 1 (k' := 64) (L' := [(3, .int v5), (2, .int v1), (0, .ref 38), (1, .int z1)]) (st' := [.int ((gI s9 32 1) - v10), .int v1, .ref 31]) rfl ?_
      refine ev_stI hr rfl rfl (fun s11 hr => ?_)
      refine ev_seg 2 (k' := 2) (L' := [(1, .int (z1 + 1)), (3, .int v5), (2, .int v1), (0, .ref 38)]) (st' := []) rfl ?_
      refine ev_join (L' := [(0, .ref 38), (1, .int (z1 + 1))]) [3, 0] [1, 3, 2, 0] [0, 1] rfl rfl (by decide) (by decide) rfl ?_
      exact hr
    · skip
      refine ev_seg 1 (k' := 28) (L' := [(3, .int v5), (2, .int v1), (0, .ref 38), (1, .int z1)]) (st' := [.int v5]) rfl ?_
      exact ev_iret hr rfl rfl rfl
set_option maxRecDepth 20000 in
theorem eDf_misfit (d : Nat) (x1 : Int32) (x2 : Int32) (x3 : Int32) (s : aT) : ∀ r, (cG (fDf_firstBranch d x2 s) (kI fun v2 s1 => if x3 ≤ 25 then ldI 5254 s1 23 v2 (fun v3 => if v3 = 6 then ldI 4096 s1 14 x1 (fun v5 => if ¬ v5 = 1 then rI x1 s1 else ldI 4096 s1 16 x1 (fun v6 => cG (fDf_misfitInside d x1 v6 v2 x3 s1) (kI fun v8 s7 => rI v8 s7))) else if v3 = 7 then ldI 4096 s1 14 x1 (fun v10 => if ¬ v10 = 0 then rI x1 s1 else ldI 4096 s1 16 x1 (fun v11 => cG (fDf_misfitInside d x1 v11 v2 x3 s1) (kI fun v13 s12 => rI v13 s12))) else if v3 = 11 then ldI 4096 s1 14 x1 (fun v15 => if ¬ v15 = 0 then rI x1 s1 else cG (fDf_misfitField d x1 v2 x3 s1) (kI fun v17 s16 => rI v17 s16)) else cG (fDf_isFitting d x1 v2 s1) (kI fun v19 s18 => if v19 = 0 then rI x1 s18 else rI (-1) s18)) else rI x1 s1)) = some r → fDf_misfit (d + 1) x1 x2 x3 s = some r := by
  intro r hr
  show ev (d + 1) q_57 0 [(0, .ref 38), (1, .int x1), (2, .int x2), (3, .int x3)] [] s = some r
  refine ev_seg 2 (k' := 2) (L' := [(0, .ref 38), (1, .int x1), (2, .int x2), (3, .int x3)]) (st' := [.int x2, .ref 38]) rfl ?_
  refine ev_callV (q' := q_58) (x := 58) (y := 4) (c := 38) (As := [.int x2]) (rest := []) hr rfl rfl rfl rfl rfl rfl rfl rfl rfl rfl rfl rfl (fun rv s1 hq => ev_kI hq (fun v2 e9 hr => ?_))
  subst e9
  refine ev_st (st' := [.int v2]) rfl ?_
  refine ev_seg 3 (k' := 6) (L' := [(4, .int v2), (0, .ref 38), (1, .int x1), (2, .int x2), (3, .int x3)]) (st' := [.int 25, .int x3]) rfl ?_
  refine ev_br (P := x3 ≤ 25) (L' := [(4, .int v2), (0, .ref 38), (1, .int x1), (2, .int x2), (3, .int x3)]) (st' := []) hr rfl rfl rfl (fun hr => ?_) (fun hr => ?_)
  · skip
    refine ev_seg 4 (k' := 13) (L' := [(4, .int v2), (0, .ref 38), (1, .int x1), (2, .int x2), (3, .int x3)]) (st' := [.int v2, .ref 23]) rfl ?_
    refine ev_ldI hr rfl rfl (fun v3 hr => ?_)
    refine ev_if hr (fun h4 hr => ?_) (fun h4 hr => ?_)
    · skip
      refine ev_look (o := 35) (t := 15) rfl rfl (by rw [h4]; rfl) rfl ?_
      refine ev_seg 4 (k' := 19) (L' := [(4, .int v2), (0, .ref 38), (1, .int x1), (2, .int x2), (3, .int x3)]) (st' := [.int x1, .ref 14]) rfl ?_
      refine ev_ldI hr rfl rfl (fun v5 hr => ?_)
      refine ev_seg 1 (k' := 21) (L' := [(4, .int v2), (0, .ref 38), (1, .int x1), (2, .int x2), (3, .int x3)]) (st' := [.int 1, .int v5]) rfl ?_
      refine ev_br (P := ¬ v5 = 1) (L' := [(4, .int v2), (0, .ref 38), (1, .int x1), (2, .int x2), (3, .int x3)]) (st' := []) hr rfl rfl rfl (fun hr => ?_) (fun hr => ?_)
      · skip
        refine ev_seg 1 (k' := 34) (L' := [(4, .int v2), (0, .ref 38), (1, .int x1), (2, .int x2), (3, .int x3)]) (st' := [.int x1]) rfl ?_
        exact ev_iret hr rfl rfl rfl
      · skip
        refine ev_seg 6 (k' := 28) (L' := [(4, .int v2), (0, .ref 38), (1, .int x1), (2, .int x2), (3, .int x3)]) (st' := [.int x1, .ref 16, .int x1, .ref 38]) rfl ?_
        refine ev_ldI hr rfl rfl (fun v6 hr => ?_)
        refine ev_seg 2 (k' := 31) (L' := [(4, .int v2), (0, .ref 38), (1, .int x1), (2, .int x2), (3, .int x3)]) (st' := [.int x3, .int v2, .int v6, .int x1, .ref 38]) rfl ?_
        refine ev_callV (q' := q_59) (x := 59) (y := 4) (c := 38) (As := [.int x1, .int v6, .int v2, .int x3]) (rest := []) hr rfl rfl rfl rfl rfl rfl rfl rfl rfl rfl rfl rfl (fun rv s7 hq => ev_kI hq (fun v8 e9 hr => ?_))
        subst e9
        refine ev_st (st' := [.int v8]) rfl ?_
        refine ev_seg 1 (k' := 34) (L' := [(4, .int v2), (0, .ref 38), (1, .int x1), (2, .int x2), (3, .int x3)]) (st' := [.int v8]) rfl ?_
        exact ev_iret hr rfl rfl rfl
    refine ev_if hr (fun h9 hr => ?_) (fun h9 hr => ?_)
    · skip
      refine ev_look (o := 70) (t := 35) rfl rfl (by rw [h9]; rfl) rfl ?_
      refine ev_seg 4 (k' := 39) (L' := [(4, .int v2), (0, .ref 38), (1, .int x1), (2, .int x2), (3, .int x3)]) (st' := [.int x1, .ref 14]) rfl ?_
      refine ev_ldI hr rfl rfl (fun v10 hr => ?_)
      refine ev_br (P := ¬ v10 = 0) (L' := [(4, .int v2), (0, .ref 38), (1, .int x1), (2, .int x2), (3, .int x3)]) (st' := []) hr rfl rfl rfl (fun hr => ?_) (fun hr => ?_)
      · skip
        refine ev_seg 1 (k' := 53) (L' := [(4, .int v2), (0, .ref 38), (1, .int x1), (2, .int x2), (3, .int x3)]) (st' := [.int x1]) rfl ?_
        exact ev_iret hr rfl rfl rfl
      · skip
        refine ev_seg 6 (k' := 47) (L' := [(4, .int v2), (0, .ref 38), (1, .int x1), (2, .int x2), (3, .int x3)]) (st' := [.int x1, .ref 16, .int x1, .ref 38]) rfl ?_
        refine ev_ldI hr rfl rfl (fun v11 hr => ?_)
        refine ev_seg 2 (k' := 50) (L' := [(4, .int v2), (0, .ref 38), (1, .int x1), (2, .int x2), (3, .int x3)]) (st' := [.int x3, .int v2, .int v11, .int x1, .ref 38]) rfl ?_
        refine ev_callV (q' := q_59) (x := 59) (y := 4) (c := 38) (As := [.int x1, .int v11, .int v2, .int x3]) (rest := []) hr rfl rfl rfl rfl rfl rfl rfl rfl rfl rfl rfl rfl (fun rv s12 hq => ev_kI hq (fun v13 e9 hr => ?_))
        subst e9
        refine ev_st (st' := [.int v13]) rfl ?_
        refine ev_seg 1 (k' := 53) (L' := [(4, .int v2), (0, .ref 38), (1, .int x1), (2, .int x2), (3, .int x3)]) (st' := [.int v13]) rfl ?_
        exact ev_iret hr rfl rfl rfl
    refine ev_if hr (fun h14 hr => ?_) (fun h14 hr => ?_)
    · skip
      refine ev_look (o := 104) (t := 54) rfl rfl (by rw [h14]; rfl) rfl ?_
      refine ev_seg 4 (k' := 58) (L' := [(4, .int v2), (0, .ref 38), (1, .int x1), (2, .int x2), (3, .int x3)]) (st' := [.int x1, .ref 14]) rfl ?_
      refine ev_ldI hr rfl rfl (fun v15 hr => ?_)
      refine ev_br (P := ¬ v15 = 0) (L' := [(4, .int v2), (0, .ref 38), (1, .int x1), (2, .int x2), (3, .int x3)]) (st' := []) hr rfl rfl rfl (fun hr => ?_) (fun hr => ?_)
      · skip
        refine ev_seg 1 (k' := 67) (L' := [(4, .int v2), (0, .ref 38), (1, .int x1), (2, .int x2), (3, .int x3)]) (st' := [.int x1]) rfl ?_
        exact ev_iret hr rfl rfl rfl
      · skip
        refine ev_seg 4 (k' := 64) (L' := [(4, .int v2), (0, .ref 38), (1, .int x1), (2, .int x2), (3, .int x3)]) (st' := [.int x3, .int v2, .int x1, .ref 38]) rfl ?_
        refine ev_callV (q' := q_60) (x := 60) (y := 4) (c := 38) (As := [.int x1, .int v2, .int x3]) (rest := []) hr rfl rfl rfl rfl rfl rfl rfl rfl rfl rfl rfl rfl (fun rv s16 hq => ev_kI hq (fun v17 e9 hr => ?_))
        subst e9
        refine ev_st (st' := [.int v17]) rfl ?_
        refine ev_seg 1 (k' := 67) (L' := [(4, .int v2), (0, .ref 38), (1, .int x1), (2, .int x2), (3, .int x3)]) (st' := [.int v17]) rfl ?_
        exact ev_iret hr rfl rfl rfl
    refine ev_look (o := 129) (t := 68) rfl rfl (by have e0 := i_neL (z := 6) (w := 6) rfl h4; have e1 := i_neL (z := 7) (w := 7) rfl h9; have e2 := i_neL (z := 11) (w := 11) rfl h14; simp only [Op.lookupswitch.offset, if_neg (Ne.symm e0), if_neg (Ne.symm e1), if_neg (Ne.symm e2)]) rfl ?_
    refine ev_seg 3 (k' := 71) (L' := [(4, .int v2), (0, .ref 38), (1, .int x1), (2, .int x2), (3, .int x3)]) (st' := [.int v2, .int x1, .ref 38]) rfl ?_
    refine ev_callV (q' := q_62) (x := 62) (y := 4) (c := 38) (As := [.int x1, .int v2]) (rest := []) hr rfl rfl rfl rfl rfl rfl rfl rfl rfl rfl rfl rfl (fun rv s18 hq => ev_kI hq (fun v19 e9 hr => ?_))
    subst e9
    refine ev_st (st' := [.int v19]) rfl ?_
    refine ev_br (P := v19 = 0) (L' := [(4, .int v2), (0, .ref 38), (1, .int x1), (2, .int x2), (3, .int x3)]) (st' := []) hr rfl rfl rfl (fun hr => ?_) (fun hr => ?_)
    · skip
      refine ev_seg 1 (k' := 76) (L' := [(4, .int v2), (0, .ref 38), (1, .int x1), (2, .int x2), (3, .int x3)]) (st' := [.int x1]) rfl ?_
      exact ev_iret hr rfl rfl rfl
    · skip
      refine ev_seg 2 (k' := 76) (L' := [(4, .int v2), (0, .ref 38), (1, .int x1), (2, .int x2), (3, .int x3)]) (st' := [.int (-1)]) rfl ?_
      exact ev_iret hr rfl rfl rfl
  · skip
    refine ev_seg 1 (k' := 8) (L' := [(4, .int v2), (0, .ref 38), (1, .int x1), (2, .int x2), (3, .int x3)]) (st' := [.int x1]) rfl ?_
    exact ev_iret hr rfl rfl rfl
set_option maxRecDepth 20000 in
theorem eDf_firstBranch (d : Nat) (x1 : Int32) (s : aT) : ∀ r, (ldI 5254 s 23 x1 (fun v1 => if ¬ v1 = 8 then rI x1 s else cG (fSc_partSchemaOf d x1 0 s) (kI fun v3 s2 => rI v3 s2))) = some r → fDf_firstBranch (d + 1) x1 s = some r := by
  intro r hr
  show ev (d + 1) q_58 0 [(0, .ref 38), (1, .int x1)] [] s = some r
  refine ev_seg 4 (k' := 4) (L' := [(0, .ref 38), (1, .int x1)]) (st' := [.int x1, .ref 23]) rfl ?_
  refine ev_ldI hr rfl rfl (fun v1 hr => ?_)
  refine ev_seg 1 (k' := 6) (L' := [(0, .ref 38), (1, .int x1)]) (st' := [.int 8, .int v1]) rfl ?_
  refine ev_br (P := ¬ v1 = 8) (L' := [(0, .ref 38), (1, .int x1)]) (st' := []) hr rfl rfl rfl (fun hr => ?_) (fun hr => ?_)
  · skip
    refine ev_seg 1 (k' := 14) (L' := [(0, .ref 38), (1, .int x1)]) (st' := [.int x1]) rfl ?_
    exact ev_iret hr rfl rfl rfl
  · skip
    refine ev_seg 4 (k' := 11) (L' := [(0, .ref 38), (1, .int x1)]) (st' := [.int 0, .int x1, .ref 22]) rfl ?_
    refine ev_callV (q' := q_39) (x := 39) (y := 2) (c := 22) (As := [.int x1, .int 0]) (rest := []) hr rfl rfl rfl rfl rfl rfl rfl rfl rfl rfl rfl rfl (fun rv s2 hq => ev_kI hq (fun v3 e9 hr => ?_))
    subst e9
    refine ev_st (st' := [.int v3]) rfl ?_
    refine ev_seg 1 (k' := 14) (L' := [(0, .ref 38), (1, .int x1)]) (st' := [.int v3]) rfl ?_
    exact ev_iret hr rfl rfl rfl
set_option maxRecDepth 20000 in
theorem eDf_misfitInside (d : Nat) (x1 : Int32) (x2 : Int32) (x3 : Int32) (x4 : Int32) (s : aT) : ∀ r, (ldI 5254 s 23 x3 (fun v1 => if ¬ v1 = 7 then fDf_misfitInside_10 (d + 1) x1 x2 x3 x4 0 s else fDf_misfitInside_10 (d + 1) x1 x2 x3 x4 1 s)) = some r → fDf_misfitInside (d + 1) x1 x2 x3 x4 s = some r := by
  intro r hr
  show ev (d + 1) q_59 0 [(0, .ref 38), (1, .int x1), (2, .int x2), (3, .int x3), (4, .int x4)] [] s = some r
  refine ev_seg 4 (k' := 4) (L' := [(0, .ref 38), (1, .int x1), (2, .int x2), (3, .int x3), (4, .int x4)]) (st' := [.int x3, .ref 23]) rfl ?_
  refine ev_ldI hr rfl rfl (fun v1 hr => ?_)
  refine ev_seg 1 (k' := 6) (L' := [(0, .ref 38), (1, .int x1), (2, .int x2), (3, .int x3), (4, .int x4)]) (st' := [.int 7, .int v1]) rfl ?_
  refine ev_br (P := ¬ v1 = 7) (L' := [(0, .ref 38), (1, .int x1), (2, .int x2), (3, .int x3), (4, .int x4)]) (st' := []) hr rfl rfl rfl (fun hr => ?_) (fun hr => ?_)
  · skip
    refine ev_seg 1 (k' := 10) (L' := [(0, .ref 38), (1, .int x1), (2, .int x2), (3, .int x3), (4, .int x4)]) (st' := [.int 0]) rfl ?_
    exact hr
  · skip
    refine ev_seg 2 (k' := 10) (L' := [(0, .ref 38), (1, .int x1), (2, .int x2), (3, .int x3), (4, .int x4)]) (st' := [.int 1]) rfl ?_
    exact hr
set_option maxRecDepth 20000 in
theorem eDf_misfitInside_10 (d : Nat) (x1 : Int32) (x2 : Int32) (x3 : Int32) (x4 : Int32) (u0 : Int32) (s : aT) : ∀ r, (fDf_misfitInside_15 (d + 1) x1 x3 x4 u0 x2 0 s) = some r → fDf_misfitInside_10 (d + 1) x1 x2 x3 x4 u0 s = some r := by
  intro r hr
  show ev (d + 1) q_59 10 [(0, .ref 38), (1, .int x1), (2, .int x2), (3, .int x3), (4, .int x4)] [.int u0] s = some r
  refine ev_seg 5 (k' := 15) (L' := [(7, .int 0), (6, .int x2), (5, .int u0), (0, .ref 38), (1, .int x1), (2, .int x2), (3, .int x3), (4, .int x4)]) (st' := []) rfl ?_
  refine ev_join (L' := [(0, .ref 38), (1, .int x1), (3, .int x3), (4, .int x4), (5, .int u0), (6, .int x2), (7, .int 0)]) [3, 4, 6, 7, 2, 1, 0] [7, 6, 5, 0, 1, 2, 3, 4] [0, 1, 3, 4, 5, 6, 7] rfl rfl (by decide) (by decide) rfl ?_
  exact hr
set_option maxRecDepth 20000 in
theorem eDf_misfitInside_15 (d : Nat) (x1 : Int32) (x3 : Int32) (x4 : Int32) (z5 : Int32) (z6 : Int32) (z7 : Int32) (s : aT) : ∀ r, (ldI 4096 s 17 x1 (fun v1 => if v1 ≤ z7 then rI (-1) s else if z6 = (-1) then rI (-1) s else if z5 = 0 then fDf_misfitInside_32 (d + 1) x1 x3 x4 z5 z6 z7 s else if ¬ z7 - z7 / 2 * 2 = 1 then fDf_misfitInside_49 (d + 1) x1 x3 x4 z5 z6 z7 s else fDf_misfitInside_32 (d + 1) x1 x3 x4 z5 z6 z7 s)) = some r → fDf_misfitInside_15 (d + 1) x1 x3 x4 z5 z6 z7 s = some r := by
  intro r hr
  show ev (d + 1) q_59 15 [(0, .ref 38), (1, .int x1), (3, .int x3), (4, .int x4), (5, .int z5), (6, .int z6), (7, .int z7)] [] s = some r
  refine ev_seg 5 (k' := 20) (L' := [(0, .ref 38), (1, .int x1), (3, .int x3), (4, .int x4), (5, .int z5), (6, .int z6), (7, .int z7)]) (st' := [.int x1, .ref 17, .int z7]) rfl ?_
  refine ev_ldI hr rfl rfl (fun v1 hr => ?_)
  refine ev_br (P := v1 ≤ z7) (L' := [(0, .ref 38), (1, .int x1), (3, .int x3), (4, .int x4), (5, .int z5), (6, .int z6), (7, .int z7)]) (st' := []) hr rfl rfl rfl (fun hr => ?_) (fun hr => ?_)
  · skip
    refine ev_seg 1 (k' := 58) (L' := [(0, .ref 38), (1, .int x1), (3, .int x3), (4, .int x4), (5, .int z5), (6, .int z6), (7, .int z7)]) (st' := [.int (-1)]) rfl ?_
    exact ev_iret hr rfl rfl rfl
  · skip
    refine ev_seg 2 (k' := 24) (L' := [(0, .ref 38), (1, .int x1), (3, .int x3), (4, .int x4), (5, .int z5), (6, .int z6), (7, .int z7)]) (st' := [.int (-1), .int z6]) rfl ?_
    refine ev_br (P := z6 = (-1)) (L' := [(0, .ref 38), (1, .int x1), (3, .int x3), (4, .int x4), (5, .int z5), (6, .int z6), (7, .int z7)]) (st' := []) hr rfl rfl rfl (fun hr => ?_) (fun hr => ?_)
    · skip
      refine ev_seg 1 (k' := 58) (L' := [(0, .ref 38), (1, .int x1), (3, .int x3), (4, .int x4), (5, .int z5), (6, .int z6), (7, .int z7)]) (st' := [.int (-1)]) rfl ?_
      exact ev_iret hr rfl rfl rfl
    · skip
      refine ev_seg 1 (k' := 26) (L' := [(0, .ref 38), (1, .int x1), (3, .int x3), (4, .int x4), (5, .int z5), (6, .int z6), (7, .int z7)]) (st' := [.int z5]) rfl ?_
      refine ev_br (P := z5 = 0) (L' := [(0, .ref 38), (1, .int x1), (3, .int x3), (4, .int x4), (5, .int z5), (6, .int z6), (7, .int z7)]) (st' := []) hr rfl rfl rfl (fun hr => ?_) (fun hr => ?_)
      · skip
        exact hr
      · skip
        refine ev_seg 4 (k' := 31) (L' := [(0, .ref 38), (1, .int x1), (3, .int x3), (4, .int x4), (5, .int z5), (6, .int z6), (7, .int z7)]) (st' := [.int 1, .int (z7 - z7 / 2 * 2)]) rfl ?_
        refine ev_br (P := ¬ z7 - z7 / 2 * 2 = 1) (L' := [(0, .ref 38), (1, .int x1), (3, .int x3), (4, .int x4), (5, .int z5), (6, .int z6), (7, .int z7)]) (st' := []) hr rfl rfl rfl (fun hr => ?_) (fun hr => ?_)
        · skip
          exact hr
        · skip
          exact hr
set_option maxRecDepth 20000 in
theorem eDf_misfitInside_32 (d : Nat) (x1 : Int32) (x3 : Int32) (x4 : Int32) (z5 : Int32) (z6 : Int32) (z7 : Int32) (s : aT) : ∀ r, (ldI 5254 s 27 x3 (fun v1 => cG (fDf_misfit d z6 v1 (x4 + 1) s) (kI fun v3 s2 => if v3 = (-1) then fDf_misfitInside_49 (d + 1) x1 x3 x4 z5 z6 z7 s2 else rI v3 s2))) = some r → fDf_misfitInside_32 (d + 1) x1 x3 x4 z5 z6 z7 s = some r := by
  intro r hr
  show ev (d + 1) q_59 32 [(0, .ref 38), (1, .int x1), (3, .int x3), (4, .int x4), (5, .int z5), (6, .int z6), (7, .int z7)] [] s = some r
  refine ev_seg 6 (k' := 38) (L' := [(0, .ref 38), (1, .int x1), (3, .int x3), (4, .int x4), (5, .int z5), (6, .int z6), (7, .int z7)]) (st' := [.int x3, .ref 27, .int z6, .ref 38]) rfl ?_
  refine ev_ldI hr rfl rfl (fun v1 hr => ?_)
  refine ev_seg 3 (k' := 42) (L' := [(0, .ref 38), (1, .int x1), (3, .int x3), (4, .int x4), (5, .int z5), (6, .int z6), (7, .int z7)]) (st' := [.int (x4 + 1), .int v1, .int z6, .ref 38]) rfl ?_
  refine ev_callV (q' := q_57) (x := 57) (y := 4) (c := 38) (As := [.int z6, .int v1, .int (x4 + 1)]) (rest := []) hr rfl rfl rfl rfl rfl rfl rfl rfl rfl rfl rfl rfl (fun rv s2 hq => ev_kI hq (fun v3 e9 hr => ?_))
  subst e9
  refine ev_st (st' := [.int v3]) rfl ?_
  refine ev_seg 3 (k' := 46) (L' := [(8, .int v3), (0, .ref 38), (1, .int x1), (3, .int x3), (4, .int x4), (5, .int z5), (6, .int z6), (7, .int z7)]) (st' := [.int (-1), .int v3]) rfl ?_
  refine ev_br (P := v3 = (-1)) (L' := [(8, .int v3), (0, .ref 38), (1, .int x1), (3, .int x3), (4, .int x4), (5, .int z5), (6, .int z6), (7, .int z7)]) (st' := []) hr rfl rfl rfl (fun hr => ?_) (fun hr => ?_)
  · skip
    refine ev_join (L' := [(0, .ref 38), (1, .int x1), (3, .int x3), (4, .int x4), (5, .int z5), (6, .int z6), (7, .int z7)]) [1, 2, 3, 4, 5, 6, 7] [8, 0, 1, 3, 4, 5, 6, 7] [0, 1, 3, 4, 5, 6, 7] rfl rfl (by decide) (by decide) rfl ?_
    exact hr
  · skip
    refine ev_seg 1 (k' := 48) (L' := [(8, .int v3), (0, .ref 38), (1, .int x1), (3, .int x3), (4, .int x4), (5, .int z5), (6, .int z6), (7, .int z7)]) (st' := [.int v3]) rfl ?_
    exact ev_iret hr rfl rfl rfl
set_option maxRecDepth 20000 in
theorem eDf_misfitInside_49 (d : Nat) (x1 : Int32) (x3 : Int32) (x4 : Int32) (z5 : Int32) (z6 : Int32) (z7 : Int32) (s : aT) : ∀ r, (ldI 4096 s 18 z6 (fun v1 => fDf_misfitInside_15 (d + 1) x1 x3 x4 z5 v1 (z7 + 1) s)) = some r → fDf_misfitInside_49 (d + 1) x1 x3 x4 z5 z6 z7 s = some r := by
  intro r hr
  show ev (d + 1) q_59 49 [(0, .ref 38), (1, .int x1), (3, .int x3), (4, .int x4), (5, .int z5), (6, .int z6), (7, .int z7)] [] s = some r
  refine ev_seg 4 (k' := 53) (L' := [(0, .ref 38), (1, .int x1), (3, .int x3), (4, .int x4), (5, .int z5), (6, .int z6), (7, .int z7)]) (st' := [.int z6, .ref 18]) rfl ?_
  refine ev_ldI hr rfl rfl (fun v1 hr => ?_)
  refine ev_seg 3 (k' := 15) (L' := [(7, .int (z7 + 1)), (6, .int v1), (0, .ref 38), (1, .int x1), (3, .int x3), (4, .int x4), (5, .int z5)]) (st' := []) rfl ?_
  refine ev_join (L' := [(0, .ref 38), (1, .int x1), (3, .int x3), (4, .int x4), (5, .int z5), (6, .int v1), (7, .int (z7 + 1))]) [2, 3, 4, 5, 6, 1, 0] [7, 6, 0, 1, 3, 4, 5] [0, 1, 3, 4, 5, 6, 7] rfl rfl (by decide) (by decide) rfl ?_
  exact hr
set_option maxRecDepth 20000 in
theorem eDf_misfitField (d : Nat) (x1 : Int32) (x2 : Int32) (x3 : Int32) (s : aT) : ∀ r, (fDf_misfitField_2 (d + 1) x1 x2 x3 0 s) = some r → fDf_misfitField (d + 1) x1 x2 x3 s = some r := by
  intro r hr
  show ev (d + 1) q_60 0 [(0, .ref 38), (1, .int x1), (2, .int x2), (3, .int x3)] [] s = some r
  refine ev_seg 2 (k' := 2) (L' := [(4, .int 0), (0, .ref 38), (1, .int x1), (2, .int x2), (3, .int x3)]) (st' := []) rfl ?_
  refine ev_join (L' := [(0, .ref 38), (1, .int x1), (2, .int x2), (3, .int x3), (4, .int 0)]) [1, 2, 3, 4, 0] [4, 0, 1, 2, 3] [0, 1, 2, 3, 4] rfl rfl (by decide) (by decide) rfl ?_
  exact hr
set_option maxRecDepth 20000 in
theorem eDf_misfitField_2 (d : Nat) (x1 : Int32) (x2 : Int32) (x3 : Int32) (z4 : Int32) (s : aT) : ∀ r, (ldI 5254 s 26 x2 (fun v1 => if v1 ≤ z4 then rI (-1) s else ldI 5254 s 25 x2 (fun v2 => ldI 10112 s 28 (v2 + z4) (fun v3 => cG (fSc_memberNamed d x1 v3 s) (kI fun v5 s4 => if ¬ v5 = (-1) then ldI 10112 s4 29 (v2 + z4) (fun v6 => cG (fDf_misfit d v5 v6 (x3 + 1) s4) (kI fun v8 s7 => if v8 = (-1) then fDf_misfitField_2 (d + 1) x1 x2 x3 (z4 + 1) s7 else rI v8 s7)) else rI x1 s4))))) = some r → fDf_misfitField_2 (d + 1) x1 x2 x3 z4 s = some r := by
  intro r hr
  show ev (d + 1) q_60 2 [(0, .ref 38), (1, .int x1), (2, .int x2), (3, .int x3), (4, .int z4)] [] s = some r
  refine ev_seg 5 (k' := 7) (L' := [(0, .ref 38), (1, .int x1), (2, .int x2), (3, .int x3), (4, .int z4)]) (st' := [.int x2, .ref 26, .int z4]) rfl ?_
  refine ev_ldI hr rfl rfl (fun v1 hr => ?_)
  refine ev_br (P := v1 ≤ z4) (L' := [(0, .ref 38), (1, .int x1), (2, .int x2), (3, .int x3), (4, .int z4)]) (st' := []) hr rfl rfl rfl (fun hr => ?_) (fun hr => ?_)
  · skip
    refine ev_seg 1 (k' := 54) (L' := [(0, .ref 38), (1, .int x1), (2, .int x2), (3, .int x3), (4, .int z4)]) (st' := [.int (-1)]) rfl ?_
    exact ev_iret hr rfl rfl rfl
  · skip
    refine ev_seg 4 (k' := 13) (L' := [(0, .ref 38), (1, .int x1), (2, .int x2), (3, .int x3), (4, .int z4)]) (st' := [.int x2, .ref 25]) rfl ?_
    refine ev_ldI hr rfl rfl (fun v2 hr => ?_)
    refine ev_seg 12 (k' := 26) (L' := [(5, .int (v2 + z4)), (0, .ref 38), (1, .int x1), (2, .int x2), (3, .int x3), (4, .int z4)]) (st' := [.int (v2 + z4), .ref 28, .int x1, .ref 13, .ref 22]) rfl ?_
    refine ev_ldI hr rfl rfl (fun v3 hr => ?_)
    refine ev_callV (q' := q_61) (x := 61) (y := 2) (c := 22) (As := [.ref 13, .int x1, .int v3]) (rest := []) hr rfl rfl rfl rfl rfl rfl rfl rfl rfl rfl rfl rfl (fun rv s4 hq => ev_kI hq (fun v5 e9 hr => ?_))
    subst e9
    refine ev_st (st' := [.int v5]) rfl ?_
    refine ev_seg 3 (k' := 31) (L' := [(6, .int v5), (5, .int (v2 + z4)), (0, .ref 38), (1, .int x1), (2, .int x2), (3, .int x3), (4, .int z4)]) (st' := [.int (-1), .int v5]) rfl ?_
    refine ev_br (P := ¬ v5 = (-1)) (L' := [(6, .int v5), (5, .int (v2 + z4)), (0, .ref 38), (1, .int x1), (2, .int x2), (3, .int x3), (4, .int z4)]) (st' := []) hr rfl rfl rfl (fun hr => ?_) (fun hr => ?_)
    · skip
      refine ev_seg 6 (k' := 40) (L' := [(6, .int v5), (5, .int (v2 + z4)), (0, .ref 38), (1, .int x1), (2, .int x2), (3, .int x3), (4, .int z4)]) (st' := [.int (v2 + z4), .ref 29, .int v5, .ref 38]) rfl ?_
      refine ev_ldI hr rfl rfl (fun v6 hr => ?_)
      refine ev_seg 3 (k' := 44) (L' := [(6, .int v5), (5, .int (v2 + z4)), (0, .ref 38), (1, .int x1), (2, .int x2), (3, .int x3), (4, .int z4)]) (st' := [.int (x3 + 1), .int v6, .int v5, .ref 38]) rfl ?_
      refine ev_callV (q' := q_57) (x := 57) (y := 4) (c := 38) (As := [.int v5, .int v6, .int (x3 + 1)]) (rest := []) hr rfl rfl rfl rfl rfl rfl rfl rfl rfl rfl rfl rfl (fun rv s7 hq => ev_kI hq (fun v8 e9 hr => ?_))
      subst e9
      refine ev_st (st' := [.int v8]) rfl ?_
      refine ev_seg 3 (k' := 48) (L' := [(7, .int v8), (6, .int v5), (5, .int (v2 + z4)), (0, .ref 38), (1, .int x1), (2, .int x2), (3, .int x3), (4, .int z4)]) (st' := [.int (-1), .int v8]) rfl ?_
      refine ev_br (P := v8 = (-1)) (L' := [(7, .int v8), (6, .int v5), (5, .int (v2 + z4)), (0, .ref 38), (1, .int x1), (2, .int x2), (3, .int x3), (4, .int z4)]) (st' := []) hr rfl rfl rfl (fun hr => ?_) (fun hr => ?_)
      · skip
        refine ev_seg 2 (k' := 2) (L' := [(4, .int (z4 + 1)), (7, .int v8), (6, .int v5), (5, .int (v2 + z4)), (0, .ref 38), (1, .int x1), (2, .int x2), (3, .int x3)]) (st' := []) rfl ?_
        refine ev_join (L' := [(0, .ref 38), (1, .int x1), (2, .int x2), (3, .int x3), (4, .int (z4 + 1))]) [4, 5, 6, 7, 0] [4, 7, 6, 5, 0, 1, 2, 3] [0, 1, 2, 3, 4] rfl rfl (by decide) (by decide) rfl ?_
        exact hr
      · skip
        refine ev_seg 1 (k' := 50) (L' := [(7, .int v8), (6, .int v5), (5, .int (v2 + z4)), (0, .ref 38), (1, .int x1), (2, .int x2), (3, .int x3), (4, .int z4)]) (st' := [.int v8]) rfl ?_
        exact ev_iret hr rfl rfl rfl
    · skip
      refine ev_seg 1 (k' := 33) (L' := [(6, .int v5), (5, .int (v2 + z4)), (0, .ref 38), (1, .int x1), (2, .int x2), (3, .int x3), (4, .int z4)]) (st' := [.int x1]) rfl ?_
      exact ev_iret hr rfl rfl rfl
set_option maxRecDepth 20000 in
theorem eDf_isFitting (d : Nat) (x1 : Int32) (x2 : Int32) (s : aT) : ∀ r, (ldI 4096 s 14 x1 (fun v1 => ldL 4096 s 19 x1 (fun v2 => ldI 5254 s 23 x2 (fun v3 => if v3 = 0 then if ¬ v1 = 6 then rI 0 s else rI 1 s else if v3 = 1 then if v1 = 4 then rI 1 s else if ¬ v1 = 5 then rI 0 s else rI 1 s else if v3 = 2 then if ¬ v1 = 3 then rI 0 s else if ¬ aLcmp v2 v2.toInt32.toInt64 = 0 then rI 0 s else rI 1 s else if v3 = 3 then if ¬ v1 = 3 then rI 0 s else rI 1 s else if v3 = 4 then if ¬ v1 = 2 then rI 0 s else rI 1 s else if v3 = 5 then if ¬ v1 = 2 then rI 0 s else rI 1 s else if v3 = 6 then if ¬ v1 = 2 then rI 0 s else rI 1 s else if v3 = 7 then if ¬ v1 = 2 then rI 0 s else rI 1 s else if v3 = 8 then if ¬ v1 = 2 then rI 0 s else rI 1 s else if v3 = 9 then if ¬ v1 = 2 then rI 0 s else ldI 4096 s 17 x1 (fun v14 => ldI 5254 s 27 x2 (fun v15 => if ¬ v14 = v15 then rI 0 s else rI 1 s)) else if v3 = 10 then ldI 5254 s 26 x2 (fun v17 => cG (fSc_partTold d x2 v17 x1 s) (kI fun v19 s18 => if v19 = (-1) then rI 0 s18 else rI 1 s18)) else if ¬ v1 = 2 then rI 0 s else rI 1 s)))) = some r → fDf_isFitting (d + 1) x1 x2 s = some r := by
  intro r hr
  show ev (d + 1) q_62 0 [(0, .ref 38), (1, .int x1), (2, .int x2)] [] s = some r
  refine ev_seg 4 (k' := 4) (L' := [(0, .ref 38), (1, .int x1), (2, .int x2)]) (st' := [.int x1, .ref 14]) rfl ?_
  refine ev_ldI hr rfl rfl (fun v1 hr => ?_)
  refine ev_seg 5 (k' := 10) (L' := [(3, .int v1), (0, .ref 38), (1, .int x1), (2, .int x2)]) (st' := [.int x1, .ref 19]) rfl ?_
  refine ev_ldL hr rfl rfl (fun v2 hr => ?_)
  refine ev_seg 5 (k' := 16) (L' := [(4, .long v2), (3, .int v1), (0, .ref 38), (1, .int x1), (2, .int x2)]) (st' := [.int x2, .ref 23]) rfl ?_
  refine ev_ldI hr rfl rfl (fun v3 hr => ?_)
  refine ev_if hr (fun h4 hr => ?_) (fun h4 hr => ?_)
  · skip
    refine ev_tab (o := 58) (t := 18) rfl (by rw [h4]; rfl) rfl ?_
    refine ev_seg 2 (k' := 20) (L' := [(4, .long v2), (3, .int v1), (0, .ref 38), (1, .int x1), (2, .int x2)]) (st' := [.int 6, .int v1]) rfl ?_
    refine ev_br (P := ¬ v1 = 6) (L' := [(4, .long v2), (3, .int v1), (0, .ref 38), (1, .int x1), (2, .int x2)]) (st' := []) hr rfl rfl rfl (fun hr => ?_) (fun hr => ?_)
    · skip
      refine ev_seg 1 (k' := 24) (L' := [(4, .long v2), (3, .int v1), (0, .ref 38), (1, .int x1), (2, .int x2)]) (st' := [.int 0]) rfl ?_
      exact ev_iret hr rfl rfl rfl
    · skip
      refine ev_seg 2 (k' := 24) (L' := [(4, .long v2), (3, .int v1), (0, .ref 38), (1, .int x1), (2, .int x2)]) (st' := [.int 1]) rfl ?_
      exact ev_iret hr rfl rfl rfl
  refine ev_if hr (fun h5 hr => ?_) (fun h5 hr => ?_)
  · skip
    refine ev_tab (o := 70) (t := 25) rfl (by rw [h5]; rfl) rfl ?_
    refine ev_seg 2 (k' := 27) (L' := [(4, .long v2), (3, .int v1), (0, .ref 38), (1, .int x1), (2, .int x2)]) (st' := [.int 4, .int v1]) rfl ?_
    refine ev_br (P := v1 = 4) (L' := [(4, .long v2), (3, .int v1), (0, .ref 38), (1, .int x1), (2, .int x2)]) (st' := []) hr rfl rfl rfl (fun hr => ?_) (fun hr => ?_)
    · skip
      refine ev_seg 2 (k' := 34) (L' := [(4, .long v2), (3, .int v1), (0, .ref 38), (1, .int x1), (2, .int x2)]) (st' := [.int 1]) rfl ?_
      exact ev_iret hr rfl rfl rfl
    · skip
      refine ev_seg 2 (k' := 30) (L' := [(4, .long v2), (3, .int v1), (0, .ref 38), (1, .int x1), (2, .int x2)]) (st' := [.int 5, .int v1]) rfl ?_
      refine ev_br (P := ¬ v1 = 5) (L' := [(4, .long v2), (3, .int v1), (0, .ref 38), (1, .int x1), (2, .int x2)]) (st' := []) hr rfl rfl rfl (fun hr => ?_) (fun hr => ?_)
      · skip
        refine ev_seg 1 (k' := 34) (L' := [(4, .long v2), (3, .int v1), (0, .ref 38), (1, .int x1), (2, .int x2)]) (st' := [.int 0]) rfl ?_
        exact ev_iret hr rfl rfl rfl
      · skip
        refine ev_seg 2 (k' := 34) (L' := [(4, .long v2), (3, .int v1), (0, .ref 38), (1, .int x1), (2, .int x2)]) (st' := [.int 1]) rfl ?_
        exact ev_iret hr rfl rfl rfl
  refine ev_if hr (fun h6 hr => ?_) (fun h6 hr => ?_)
  · skip
    refine ev_tab (o := 86) (t := 35) rfl (by rw [h6]; rfl) rfl ?_
    refine ev_seg 2 (k' := 37) (L' := [(4, .long v2), (3, .int v1), (0, .ref 38), (1, .int x1), (2, .int x2)]) (st' := [.int 3, .int v1]) rfl ?_
    refine ev_br (P := ¬ v1 = 3) (L' := [(4, .long v2), (3, .int v1), (0, .ref 38), (1, .int x1), (2, .int x2)]) (st' := []) hr rfl rfl rfl (fun hr => ?_) (fun hr => ?_)
    · skip
      refine ev_seg 1 (k' := 47) (L' := [(4, .long v2), (3, .int v1), (0, .ref 38), (1, .int x1), (2, .int x2)]) (st' := [.int 0]) rfl ?_
      exact ev_iret hr rfl rfl rfl
    · skip
      refine ev_seg 5 (k' := 43) (L' := [(4, .long v2), (3, .int v1), (0, .ref 38), (1, .int x1), (2, .int x2)]) (st' := [.int (aLcmp v2 v2.toInt32.toInt64)]) rfl ?_
      refine ev_br (P := ¬ aLcmp v2 v2.toInt32.toInt64 = 0) (L' := [(4, .long v2), (3, .int v1), (0, .ref 38), (1, .int x1), (2, .int x2)]) (st' := []) hr rfl rfl rfl (fun hr => ?_) (fun hr => ?_)
      · skip
        refine ev_seg 1 (k' := 47) (L' := [(4, .long v2), (3, .int v1), (0, .ref 38), (1, .int x1), (2, .int x2)]) (st' := [.int 0]) rfl ?_
        exact ev_iret hr rfl rfl rfl
      · skip
        refine ev_seg 2 (k' := 47) (L' := [(4, .long v2), (3, .int v1), (0, .ref 38), (1, .int x1), (2, .int x2)]) (st' := [.int 1]) rfl ?_
        exact ev_iret hr rfl rfl rfl
  refine ev_if hr (fun h7 hr => ?_) (fun h7 hr => ?_)
  · skip
    refine ev_tab (o := 107) (t := 48) rfl (by rw [h7]; rfl) rfl ?_
    refine ev_seg 2 (k' := 50) (L' := [(4, .long v2), (3, .int v1), (0, .ref 38), (1, .int x1), (2, .int x2)]) (st' := [.int 3, .int v1]) rfl ?_
    refine ev_br (P := ¬ v1 = 3) (L' := [(4, .long v2), (3, .int v1), (0, .ref 38), (1, .int x1), (2, .int x2)]) (st' := []) hr rfl rfl rfl (fun hr => ?_) (fun hr => ?_)
    · skip
      refine ev_seg 1 (k' := 54) (L' := [(4, .long v2), (3, .int v1), (0, .ref 38), (1, .int x1), (2, .int x2)]) (st' := [.int 0]) rfl ?_
      exact ev_iret hr rfl rfl rfl
    · skip
      refine ev_seg 2 (k' := 54) (L' := [(4, .long v2), (3, .int v1), (0, .ref 38), (1, .int x1), (2, .int x2)]) (st' := [.int 1]) rfl ?_
      exact ev_iret hr rfl rfl rfl
  refine ev_if hr (fun h8 hr => ?_) (fun h8 hr => ?_)
  · skip
    refine ev_tab (o := 182) (t := 91) rfl (by rw [h8]; rfl) rfl ?_
    refine ev_seg 2 (k' := 93) (L' := [(4, .long v2), (3, .int v1), (0, .ref 38), (1, .int x1), (2, .int x2)]) (st' := [.int 2, .int v1]) rfl ?_
    refine ev_br (P := ¬ v1 = 2) (L' := [(4, .long v2), (3, .int v1), (0, .ref 38), (1, .int x1), (2, .int x2)]) (st' := []) hr rfl rfl rfl (fun hr => ?_) (fun hr => ?_)
    · skip
      refine ev_seg 1 (k' := 97) (L' := [(4, .long v2), (3, .int v1), (0, .ref 38), (1, .int x1), (2, .int x2)]) (st' := [.int 0]) rfl ?_
      exact ev_iret hr rfl rfl rfl
    · skip
      refine ev_seg 2 (k' := 97) (L' := [(4, .long v2), (3, .int v1), (0, .ref 38), (1, .int x1), (2, .int x2)]) (st' := [.int 1]) rfl ?_
      exact ev_iret hr rfl rfl rfl
  refine ev_if hr (fun h9 hr => ?_) (fun h9 hr => ?_)
  · skip
    refine ev_tab (o := 182) (t := 91) rfl (by rw [h9]; rfl) rfl ?_
    refine ev_seg 2 (k' := 93) (L' := [(4, .long v2), (3, .int v1), (0, .ref 38), (1, .int x1), (2, .int x2)]) (st' := [.int 2, .int v1]) rfl ?_
    refine ev_br (P := ¬ v1 = 2) (L' := [(4, .long v2), (3, .int v1), (0, .ref 38), (1, .int x1), (2, .int x2)]) (st' := []) hr rfl rfl rfl (fun hr => ?_) (fun hr => ?_)
    · skip
      refine ev_seg 1 (k' := 97) (L' := [(4, .long v2), (3, .int v1), (0, .ref 38), (1, .int x1), (2, .int x2)]) (st' := [.int 0]) rfl ?_
      exact ev_iret hr rfl rfl rfl
    · skip
      refine ev_seg 2 (k' := 97) (L' := [(4, .long v2), (3, .int v1), (0, .ref 38), (1, .int x1), (2, .int x2)]) (st' := [.int 1]) rfl ?_
      exact ev_iret hr rfl rfl rfl
  refine ev_if hr (fun h10 hr => ?_) (fun h10 hr => ?_)
  · skip
    refine ev_tab (o := 182) (t := 91) rfl (by rw [h10]; rfl) rfl ?_
    refine ev_seg 2 (k' := 93) (L' := [(4, .long v2), (3, .int v1), (0, .ref 38), (1, .int x1), (2, .int x2)]) (st' := [.int 2, .int v1]) rfl ?_
    refine ev_br (P := ¬ v1 = 2) (L' := [(4, .long v2), (3, .int v1), (0, .ref 38), (1, .int x1), (2, .int x2)]) (st' := []) hr rfl rfl rfl (fun hr => ?_) (fun hr => ?_)
    · skip
      refine ev_seg 1 (k' := 97) (L' := [(4, .long v2), (3, .int v1), (0, .ref 38), (1, .int x1), (2, .int x2)]) (st' := [.int 0]) rfl ?_
      exact ev_iret hr rfl rfl rfl
    · skip
      refine ev_seg 2 (k' := 97) (L' := [(4, .long v2), (3, .int v1), (0, .ref 38), (1, .int x1), (2, .int x2)]) (st' := [.int 1]) rfl ?_
      exact ev_iret hr rfl rfl rfl
  refine ev_if hr (fun h11 hr => ?_) (fun h11 hr => ?_)
  · skip
    refine ev_tab (o := 182) (t := 91) rfl (by rw [h11]; rfl) rfl ?_
    refine ev_seg 2 (k' := 93) (L' := [(4, .long v2), (3, .int v1), (0, .ref 38), (1, .int x1), (2, .int x2)]) (st' := [.int 2, .int v1]) rfl ?_
    refine ev_br (P := ¬ v1 = 2) (L' := [(4, .long v2), (3, .int v1), (0, .ref 38), (1, .int x1), (2, .int x2)]) (st' := []) hr rfl rfl rfl (fun hr => ?_) (fun hr => ?_)
    · skip
      refine ev_seg 1 (k' := 97) (L' := [(4, .long v2), (3, .int v1), (0, .ref 38), (1, .int x1), (2, .int x2)]) (st' := [.int 0]) rfl ?_
      exact ev_iret hr rfl rfl rfl
    · skip
      refine ev_seg 2 (k' := 97) (L' := [(4, .long v2), (3, .int v1), (0, .ref 38), (1, .int x1), (2, .int x2)]) (st' := [.int 1]) rfl ?_
      exact ev_iret hr rfl rfl rfl
  refine ev_if hr (fun h12 hr => ?_) (fun h12 hr => ?_)
  · skip
    refine ev_tab (o := 182) (t := 91) rfl (by rw [h12]; rfl) rfl ?_
    refine ev_seg 2 (k' := 93) (L' := [(4, .long v2), (3, .int v1), (0, .ref 38), (1, .int x1), (2, .int x2)]) (st' := [.int 2, .int v1]) rfl ?_
    refine ev_br (P := ¬ v1 = 2) (L' := [(4, .long v2), (3, .int v1), (0, .ref 38), (1, .int x1), (2, .int x2)]) (st' := []) hr rfl rfl rfl (fun hr => ?_) (fun hr => ?_)
    · skip
      refine ev_seg 1 (k' := 97) (L' := [(4, .long v2), (3, .int v1), (0, .ref 38), (1, .int x1), (2, .int x2)]) (st' := [.int 0]) rfl ?_
      exact ev_iret hr rfl rfl rfl
    · skip
      refine ev_seg 2 (k' := 97) (L' := [(4, .long v2), (3, .int v1), (0, .ref 38), (1, .int x1), (2, .int x2)]) (st' := [.int 1]) rfl ?_
      exact ev_iret hr rfl rfl rfl
  refine ev_if hr (fun h13 hr => ?_) (fun h13 hr => ?_)
  · skip
    refine ev_tab (o := 118) (t := 55) rfl (by rw [h13]; rfl) rfl ?_
    refine ev_seg 2 (k' := 57) (L' := [(4, .long v2), (3, .int v1), (0, .ref 38), (1, .int x1), (2, .int x2)]) (st' := [.int 2, .int v1]) rfl ?_
    refine ev_br (P := ¬ v1 = 2) (L' := [(4, .long v2), (3, .int v1), (0, .ref 38), (1, .int x1), (2, .int x2)]) (st' := []) hr rfl rfl rfl (fun hr => ?_) (fun hr => ?_)
    · skip
      refine ev_seg 1 (k' := 72) (L' := [(4, .long v2), (3, .int v1), (0, .ref 38), (1, .int x1), (2, .int x2)]) (st' := [.int 0]) rfl ?_
      exact ev_iret hr rfl rfl rfl
    · skip
      refine ev_seg 4 (k' := 62) (L' := [(4, .long v2), (3, .int v1), (0, .ref 38), (1, .int x1), (2, .int x2)]) (st' := [.int x1, .ref 17]) rfl ?_
      refine ev_ldI hr rfl rfl (fun v14 hr => ?_)
      refine ev_seg 4 (k' := 67) (L' := [(4, .long v2), (3, .int v1), (0, .ref 38), (1, .int x1), (2, .int x2)]) (st' := [.int x2, .ref 27, .int v14]) rfl ?_
      refine ev_ldI hr rfl rfl (fun v15 hr => ?_)
      refine ev_br (P := ¬ v14 = v15) (L' := [(4, .long v2), (3, .int v1), (0, .ref 38), (1, .int x1), (2, .int x2)]) (st' := []) hr rfl rfl rfl (fun hr => ?_) (fun hr => ?_)
      · skip
        refine ev_seg 1 (k' := 72) (L' := [(4, .long v2), (3, .int v1), (0, .ref 38), (1, .int x1), (2, .int x2)]) (st' := [.int 0]) rfl ?_
        exact ev_iret hr rfl rfl rfl
      · skip
        refine ev_seg 2 (k' := 72) (L' := [(4, .long v2), (3, .int v1), (0, .ref 38), (1, .int x1), (2, .int x2)]) (st' := [.int 1]) rfl ?_
        exact ev_iret hr rfl rfl rfl
  refine ev_if hr (fun h16 hr => ?_) (fun h16 hr => ?_)
  · skip
    refine ev_tab (o := 150) (t := 73) rfl (by rw [h16]; rfl) rfl ?_
    refine ev_seg 7 (k' := 80) (L' := [(4, .long v2), (3, .int v1), (0, .ref 38), (1, .int x1), (2, .int x2)]) (st' := [.int x2, .ref 26, .int x2, .ref 22]) rfl ?_
    refine ev_ldI hr rfl rfl (fun v17 hr => ?_)
    refine ev_seg 3 (k' := 84) (L' := [(4, .long v2), (3, .int v1), (0, .ref 38), (1, .int x1), (2, .int x2)]) (st' := [.int x1, .ref 13, .int v17, .int x2, .ref 22]) rfl ?_
    refine ev_callV (q' := q_51) (x := 51) (y := 2) (c := 22) (As := [.int x2, .int v17, .ref 13, .int x1]) (rest := []) hr rfl rfl rfl rfl rfl rfl rfl rfl rfl rfl rfl rfl (fun rv s18 hq => ev_kI hq (fun v19 e9 hr => ?_))
    subst e9
    refine ev_st (st' := [.int v19]) rfl ?_
    refine ev_seg 1 (k' := 86) (L' := [(4, .long v2), (3, .int v1), (0, .ref 38), (1, .int x1), (2, .int x2)]) (st' := [.int (-1), .int v19]) rfl ?_
    refine ev_br (P := v19 = (-1)) (L' := [(4, .long v2), (3, .int v1), (0, .ref 38), (1, .int x1), (2, .int x2)]) (st' := []) hr rfl rfl rfl (fun hr => ?_) (fun hr => ?_)
    · skip
      refine ev_seg 1 (k' := 90) (L' := [(4, .long v2), (3, .int v1), (0, .ref 38), (1, .int x1), (2, .int x2)]) (st' := [.int 0]) rfl ?_
      exact ev_iret hr rfl rfl rfl
    · skip
      refine ev_seg 2 (k' := 90) (L' := [(4, .long v2), (3, .int v1), (0, .ref 38), (1, .int x1), (2, .int x2)]) (st' := [.int 1]) rfl ?_
      exact ev_iret hr rfl rfl rfl
  refine ev_tab (o := 182) (t := 91) rfl (tab_in (by have e0 := i_neL (z := 0) (w := 0) rfl h4; have e1 := i_neL (z := 1) (w := 1) rfl h5; have e2 := i_neL (z := 2) (w := 2) rfl h6; have e3 := i_neL (z := 3) (w := 3) rfl h7; have e4 := i_neL (z := 4) (w := 4) rfl h8; have e5 := i_neL (z := 5) (w := 5) rfl h9; have e6 := i_neL (z := 6) (w := 6) rfl h10; have e7 := i_neL (z := 7) (w := 7) rfl h11; have e8 := i_neL (z := 8) (w := 8) rfl h12; have e9 := i_neL (z := 9) (w := 9) rfl h13; have e10 := i_neL (z := 10) (w := 10) rfl h16; omega)) rfl ?_
  refine ev_seg 2 (k' := 93) (L' := [(4, .long v2), (3, .int v1), (0, .ref 38), (1, .int x1), (2, .int x2)]) (st' := [.int 2, .int v1]) rfl ?_
  refine ev_br (P := ¬ v1 = 2) (L' := [(4, .long v2), (3, .int v1), (0, .ref 38), (1, .int x1), (2, .int x2)]) (st' := []) hr rfl rfl rfl (fun hr => ?_) (fun hr => ?_)
  · skip
    refine ev_seg 1 (k' := 97) (L' := [(4, .long v2), (3, .int v1), (0, .ref 38), (1, .int x1), (2, .int x2)]) (st' := [.int 0]) rfl ?_
    exact ev_iret hr rfl rfl rfl
  · skip
    refine ev_seg 2 (k' := 97) (L' := [(4, .long v2), (3, .int v1), (0, .ref 38), (1, .int x1), (2, .int x2)]) (st' := [.int 1]) rfl ?_
    exact ev_iret hr rfl rfl rfl
set_option maxRecDepth 20000 in
theorem eDf_write (d : Nat) (x1 : Int32) (x2 : Int32) (x3 : Int32) (s : aT) : ∀ r, (if x3 ≤ 25 then cG (fDf_firstBranch d x2 s) (kI fun v2 s1 => if v2 = x2 then fDf_write_17 (d + 1) x1 x3 v2 s1 else cG (fBy_putVarint d 32 0 s1) (kI fun v4 s3 => fDf_write_17 (d + 1) x1 x3 v2 s3)) else rV s) = some r → fDf_write (d + 1) x1 x2 x3 s = some r := by
  intro r hr
  show ev (d + 1) q_63 0 [(0, .ref 38), (1, .int x1), (2, .int x2), (3, .int x3)] [] s = some r
  refine ev_seg 2 (k' := 2) (L' := [(0, .ref 38), (1, .int x1), (2, .int x2), (3, .int x3)]) (st' := [.int 25, .int x3]) rfl ?_
  refine ev_br (P := x3 ≤ 25) (L' := [(0, .ref 38), (1, .int x1), (2, .int x2), (3, .int x3)]) (st' := []) hr rfl rfl rfl (fun hr => ?_) (fun hr => ?_)
  · skip
    refine ev_seg 2 (k' := 6) (L' := [(0, .ref 38), (1, .int x1), (2, .int x2), (3, .int x3)]) (st' := [.int x2, .ref 38]) rfl ?_
    refine ev_callV (q' := q_58) (x := 58) (y := 4) (c := 38) (As := [.int x2]) (rest := []) hr rfl rfl rfl rfl rfl rfl rfl rfl rfl rfl rfl rfl (fun rv s1 hq => ev_kI hq (fun v2 e9 hr => ?_))
    subst e9
    refine ev_st (st' := [.int v2]) rfl ?_
    refine ev_seg 3 (k' := 10) (L' := [(4, .int v2), (0, .ref 38), (1, .int x1), (2, .int x2), (3, .int x3)]) (st' := [.int x2, .int v2]) rfl ?_
    refine ev_br (P := v2 = x2) (L' := [(4, .int v2), (0, .ref 38), (1, .int x1), (2, .int x2), (3, .int x3)]) (st' := []) hr rfl rfl rfl (fun hr => ?_) (fun hr => ?_)
    · skip
      refine ev_join (L' := [(0, .ref 38), (1, .int x1), (3, .int x3), (4, .int v2)]) [1, 2, 4, 0] [4, 0, 1, 2, 3] [0, 1, 3, 4] rfl rfl (by decide) (by decide) rfl ?_
      exact hr
    · skip
      refine ev_seg 4 (k' := 15) (L' := [(4, .int v2), (0, .ref 38), (1, .int x1), (2, .int x2), (3, .int x3)]) (st' := [.long 0, .ref 32]) rfl ?_
      refine ev_callV (q' := q_64) (x := 64) (y := 0) (c := 32) (As := [.long 0]) (rest := []) hr rfl rfl rfl rfl rfl rfl rfl rfl rfl rfl rfl rfl (fun rv s3 hq => ev_kI hq (fun v4 e9 hr => ?_))
      subst e9
      refine ev_st (st' := [.int v4]) rfl ?_
      refine ev_seg 1 (k' := 17) (L' := [(4, .int v2), (0, .ref 38), (1, .int x1), (2, .int x2), (3, .int x3)]) (st' := []) rfl ?_
      refine ev_join (L' := [(0, .ref 38), (1, .int x1), (3, .int x3), (4, .int v2)]) [1, 2, 4, 0] [4, 0, 1, 2, 3] [0, 1, 3, 4] rfl rfl (by decide) (by decide) rfl ?_
      exact hr
  · skip
    exact ev_vret hr rfl rfl
set_option maxRecDepth 20000 in
theorem eDf_write_17 (d : Nat) (x1 : Int32) (x3 : Int32) (z4 : Int32) (s : aT) : ∀ r, (ldI 5254 s 23 z4 (fun v1 => if v1 = 0 then rV s else if v1 = 1 then ldI 4096 s 14 x1 (fun v4 => if ¬ v4 = 4 then fDf_write_37 (d + 1) 0 s else fDf_write_37 (d + 1) 1 s) else if v1 = 2 then ldL 4096 s 19 x1 (fun v6 => cG (fBy_putVarint d 32 v6 s) (kI fun v8 s7 => rV s7)) else if v1 = 3 then ldL 4096 s 19 x1 (fun v10 => cG (fBy_putVarint d 32 v10 s) (kI fun v12 s11 => rV s11)) else if v1 = 4 then cG (fDf_writeString d x1 s) (kV fun s14 => rV s14) else if v1 = 5 then cG (fDf_writeString d x1 s) (kV fun s16 => rV s16) else if v1 = 6 then cG (fDf_writeItems d x1 z4 x3 s) (kV fun s18 => rV s18) else if v1 = 7 then cG (fDf_writeItems d x1 z4 x3 s) (kV fun s20 => rV s20) else if v1 = 8 then cG (fDf_writeItems d x1 z4 x3 s) (kV fun s22 => rV s22) else if v1 = 9 then ldI 4096 s 16 x1 (fun v24 => ldI 4096 s 17 x1 (fun v25 => cG (fBy_putRow d 32 21 v24 v25 s) (kI fun v27 s26 => rV s26))) else if v1 = 10 then ldI 5254 s 26 z4 (fun v29 => cG (fSc_partTold d z4 v29 x1 s) (kI fun v31 s30 => cG (fBy_putVarint d 32 v31.toInt64 s30) (kI fun v33 s32 => rV s32))) else if v1 = 11 then cG (fDf_writeFields d x1 z4 x3 s) (kV fun s35 => rV s35) else cG (fDf_writeItems d x1 z4 x3 s) (kV fun s36 => rV s36))) = some r → fDf_write_17 (d + 1) x1 x3 z4 s = some r := by
  intro r hr
  show ev (d + 1) q_63 17 [(0, .ref 38), (1, .int x1), (3, .int x3), (4, .int z4)] [] s = some r
  refine ev_seg 4 (k' := 21) (L' := [(0, .ref 38), (1, .int x1), (3, .int x3), (4, .int z4)]) (st' := [.int z4, .ref 23]) rfl ?_
  refine ev_ldI hr rfl rfl (fun v1 hr => ?_)
  refine ev_if hr (fun h2 hr => ?_) (fun h2 hr => ?_)
  · skip
    refine ev_tab (o := 62) (t := 23) rfl (by rw [h2]; rfl) rfl ?_
    exact ev_vret hr rfl rfl
  refine ev_if hr (fun h3 hr => ?_) (fun h3 hr => ?_)
  · skip
    refine ev_tab (o := 63) (t := 24) rfl (by rw [h3]; rfl) rfl ?_
    refine ev_seg 7 (k' := 31) (L' := [(0, .ref 38), (1, .int x1), (3, .int x3), (4, .int z4)]) (st' := [.int x1, .ref 14, .ref 32]) rfl ?_
    refine ev_ldI hr rfl rfl (fun v4 hr => ?_)
    refine ev_seg 1 (k' := 33) (L' := [(0, .ref 38), (1, .int x1), (3, .int x3), (4, .int z4)]) (st' := [.int 4, .int v4, .ref 32]) rfl ?_
    refine ev_br (P := ¬ v4 = 4) (L' := [(0, .ref 38), (1, .int x1), (3, .int x3), (4, .int z4)]) (st' := [.ref 32]) hr rfl rfl rfl (fun hr => ?_) (fun hr => ?_)
    · skip
      refine ev_seg 1 (k' := 37) (L' := [(0, .ref 38), (1, .int x1), (3, .int x3), (4, .int z4)]) (st' := [.int 0, .ref 32]) rfl ?_
      refine ev_join (L' := []) [] [0, 1, 3, 4] [] rfl rfl (by decide) (by decide) rfl ?_
      exact hr
    · skip
      refine ev_seg 2 (k' := 37) (L' := [(0, .ref 38), (1, .int x1), (3, .int x3), (4, .int z4)]) (st' := [.int 1, .ref 32]) rfl ?_
      refine ev_join (L' := []) [] [0, 1, 3, 4] [] rfl rfl (by decide) (by decide) rfl ?_
      exact hr
  refine ev_if hr (fun h5 hr => ?_) (fun h5 hr => ?_)
  · skip
    refine ev_tab (o := 93) (t := 40) rfl (by rw [h5]; rfl) rfl ?_
    refine ev_seg 7 (k' := 47) (L' := [(0, .ref 38), (1, .int x1), (3, .int x3), (4, .int z4)]) (st' := [.int x1, .ref 19, .ref 32]) rfl ?_
    refine ev_ldL hr rfl rfl (fun v6 hr => ?_)
    refine ev_callV (q' := q_64) (x := 64) (y := 0) (c := 32) (As := [.long v6]) (rest := []) hr rfl rfl rfl rfl rfl rfl rfl rfl rfl rfl rfl rfl (fun rv s7 hq => ev_kI hq (fun v8 e9 hr => ?_))
    subst e9
    refine ev_st (st' := [.int v8]) rfl ?_
    refine ev_seg 1 (k' := 50) (L' := [(0, .ref 38), (1, .int x1), (3, .int x3), (4, .int z4)]) (st' := []) rfl ?_
    exact ev_vret hr rfl rfl
  refine ev_if hr (fun h9 hr => ?_) (fun h9 hr => ?_)
  · skip
    refine ev_tab (o := 93) (t := 40) rfl (by rw [h9]; rfl) rfl ?_
    refine ev_seg 7 (k' := 47) (L' := [(0, .ref 38), (1, .int x1), (3, .int x3), (4, .int z4)]) (st' := [.int x1, .ref 19, .ref 32]) rfl ?_
    refine ev_ldL hr rfl rfl (fun v10 hr => ?_)
    refine ev_callV (q' := q_64) (x := 64) (y := 0) (c := 32) (As := [.long v10]) (rest := []) hr rfl rfl rfl rfl rfl rfl rfl rfl rfl rfl rfl rfl (fun rv s11 hq => ev_kI hq (fun v12 e9 hr => ?_))
    subst e9
    refine ev_st (st' := [.int v12]) rfl ?_
    refine ev_seg 1 (k' := 50) (L' := [(0, .ref 38), (1, .int x1), (3, .int x3), (4, .int z4)]) (st' := []) rfl ?_
    exact ev_vret hr rfl rfl
  refine ev_if hr (fun h13 hr => ?_) (fun h13 hr => ?_)
  · skip
    refine ev_tab (o := 114) (t := 51) rfl (by rw [h13]; rfl) rfl ?_
    refine ev_seg 2 (k' := 53) (L' := [(0, .ref 38), (1, .int x1), (3, .int x3), (4, .int z4)]) (st' := [.int x1, .ref 38]) rfl ?_
    refine ev_callV (q' := q_65) (x := 65) (y := 4) (c := 38) (As := [.int x1]) (rest := []) hr rfl rfl rfl rfl rfl rfl rfl rfl rfl rfl rfl rfl (fun rv s14 hq => ev_kV hq (fun e9 hr => ?_))
    subst e9
    refine ev_st (st' := []) rfl ?_
    exact ev_vret hr rfl rfl
  refine ev_if hr (fun h15 hr => ?_) (fun h15 hr => ?_)
  · skip
    refine ev_tab (o := 114) (t := 51) rfl (by rw [h15]; rfl) rfl ?_
    refine ev_seg 2 (k' := 53) (L' := [(0, .ref 38), (1, .int x1), (3, .int x3), (4, .int z4)]) (st' := [.int x1, .ref 38]) rfl ?_
    refine ev_callV (q' := q_65) (x := 65) (y := 4) (c := 38) (As := [.int x1]) (rest := []) hr rfl rfl rfl rfl rfl rfl rfl rfl rfl rfl rfl rfl (fun rv s16 hq => ev_kV hq (fun e9 hr => ?_))
    subst e9
    refine ev_st (st' := []) rfl ?_
    exact ev_vret hr rfl rfl
  refine ev_if hr (fun h17 hr => ?_) (fun h17 hr => ?_)
  · skip
    refine ev_tab (o := 206) (t := 100) rfl (by rw [h17]; rfl) rfl ?_
    refine ev_seg 4 (k' := 104) (L' := [(0, .ref 38), (1, .int x1), (3, .int x3), (4, .int z4)]) (st' := [.int x3, .int z4, .int x1, .ref 38]) rfl ?_
    refine ev_callV (q' := q_67) (x := 67) (y := 4) (c := 38) (As := [.int x1, .int z4, .int x3]) (rest := []) hr rfl rfl rfl rfl rfl rfl rfl rfl rfl rfl rfl rfl (fun rv s18 hq => ev_kV hq (fun e9 hr => ?_))
    subst e9
    refine ev_st (st' := []) rfl ?_
    exact ev_vret hr rfl rfl
  refine ev_if hr (fun h19 hr => ?_) (fun h19 hr => ?_)
  · skip
    refine ev_tab (o := 206) (t := 100) rfl (by rw [h19]; rfl) rfl ?_
    refine ev_seg 4 (k' := 104) (L' := [(0, .ref 38), (1, .int x1), (3, .int x3), (4, .int z4)]) (st' := [.int x3, .int z4, .int x1, .ref 38]) rfl ?_
    refine ev_callV (q' := q_67) (x := 67) (y := 4) (c := 38) (As := [.int x1, .int z4, .int x3]) (rest := []) hr rfl rfl rfl rfl rfl rfl rfl rfl rfl rfl rfl rfl (fun rv s20 hq => ev_kV hq (fun e9 hr => ?_))
    subst e9
    refine ev_st (st' := []) rfl ?_
    exact ev_vret hr rfl rfl
  refine ev_if hr (fun h21 hr => ?_) (fun h21 hr => ?_)
  · skip
    refine ev_tab (o := 206) (t := 100) rfl (by rw [h21]; rfl) rfl ?_
    refine ev_seg 4 (k' := 104) (L' := [(0, .ref 38), (1, .int x1), (3, .int x3), (4, .int z4)]) (st' := [.int x3, .int z4, .int x1, .ref 38]) rfl ?_
    refine ev_callV (q' := q_67) (x := 67) (y := 4) (c := 38) (As := [.int x1, .int z4, .int x3]) (rest := []) hr rfl rfl rfl rfl rfl rfl rfl rfl rfl rfl rfl rfl (fun rv s22 hq => ev_kV hq (fun e9 hr => ?_))
    subst e9
    refine ev_st (st' := []) rfl ?_
    exact ev_vret hr rfl rfl
  refine ev_if hr (fun h23 hr => ?_) (fun h23 hr => ?_)
  · skip
    refine ev_tab (o := 120) (t := 55) rfl (by rw [h23]; rfl) rfl ?_
    refine ev_seg 11 (k' := 66) (L' := [(0, .ref 38), (1, .int x1), (3, .int x3), (4, .int z4)]) (st' := [.int x1, .ref 16, .ref 21, .ref 32]) rfl ?_
    refine ev_ldI hr rfl rfl (fun v24 hr => ?_)
    refine ev_seg 4 (k' := 71) (L' := [(0, .ref 38), (1, .int x1), (3, .int x3), (4, .int z4)]) (st' := [.int x1, .ref 17, .int v24, .ref 21, .ref 32]) rfl ?_
    refine ev_ldI hr rfl rfl (fun v25 hr => ?_)
    refine ev_callV (q' := q_48) (x := 48) (y := 0) (c := 32) (As := [.ref 21, .int v24, .int v25]) (rest := []) hr rfl rfl rfl rfl rfl rfl rfl rfl rfl rfl rfl rfl (fun rv s26 hq => ev_kI hq (fun v27 e9 hr => ?_))
    subst e9
    refine ev_st (st' := [.int v27]) rfl ?_
    refine ev_seg 1 (k' := 74) (L' := [(0, .ref 38), (1, .int x1), (3, .int x3), (4, .int z4)]) (st' := []) rfl ?_
    exact ev_vret hr rfl rfl
  refine ev_if hr (fun h28 hr => ?_) (fun h28 hr => ?_)
  · skip
    refine ev_tab (o := 160) (t := 75) rfl (by rw [h28]; rfl) rfl ?_
    refine ev_seg 10 (k' := 85) (L' := [(0, .ref 38), (1, .int x1), (3, .int x3), (4, .int z4)]) (st' := [.int z4, .ref 26, .int z4, .ref 22, .ref 32]) rfl ?_
    refine ev_ldI hr rfl rfl (fun v29 hr => ?_)
    refine ev_seg 3 (k' := 89) (L' := [(0, .ref 38), (1, .int x1), (3, .int x3), (4, .int z4)]) (st' := [.int x1, .ref 13, .int v29, .int z4, .ref 22, .ref 32]) rfl ?_
    refine ev_callV (q' := q_51) (x := 51) (y := 2) (c := 22) (As := [.int z4, .int v29, .ref 13, .int x1]) (rest := [.ref 32]) hr rfl rfl rfl rfl rfl rfl rfl rfl rfl rfl rfl rfl (fun rv s30 hq => ev_kI hq (fun v31 e9 hr => ?_))
    subst e9
    refine ev_st (st' := [.int v31, .ref 32]) rfl ?_
    refine ev_seg 1 (k' := 91) (L' := [(0, .ref 38), (1, .int x1), (3, .int x3), (4, .int z4)]) (st' := [.long v31.toInt64, .ref 32]) rfl ?_
    refine ev_callV (q' := q_64) (x := 64) (y := 0) (c := 32) (As := [.long v31.toInt64]) (rest := []) hr rfl rfl rfl rfl rfl rfl rfl rfl rfl rfl rfl rfl (fun rv s32 hq => ev_kI hq (fun v33 e9 hr => ?_))
    subst e9
    refine ev_st (st' := [.int v33]) rfl ?_
    refine ev_seg 1 (k' := 93) (L' := [(0, .ref 38), (1, .int x1), (3, .int x3), (4, .int z4)]) (st' := []) rfl ?_
    exact ev_vret hr rfl rfl
  refine ev_if hr (fun h34 hr => ?_) (fun h34 hr => ?_)
  · skip
    refine ev_tab (o := 197) (t := 94) rfl (by rw [h34]; rfl) rfl ?_
    refine ev_seg 4 (k' := 98) (L' := [(0, .ref 38), (1, .int x1), (3, .int x3), (4, .int z4)]) (st' := [.int x3, .int z4, .int x1, .ref 38]) rfl ?_
    refine ev_callV (q' := q_66) (x := 66) (y := 4) (c := 38) (As := [.int x1, .int z4, .int x3]) (rest := []) hr rfl rfl rfl rfl rfl rfl rfl rfl rfl rfl rfl rfl (fun rv s35 hq => ev_kV hq (fun e9 hr => ?_))
    subst e9
    refine ev_st (st' := []) rfl ?_
    exact ev_vret hr rfl rfl
  refine ev_tab (o := 206) (t := 100) rfl (tab_in (by have e0 := i_neL (z := 0) (w := 0) rfl h2; have e1 := i_neL (z := 1) (w := 1) rfl h3; have e2 := i_neL (z := 2) (w := 2) rfl h5; have e3 := i_neL (z := 3) (w := 3) rfl h9; have e4 := i_neL (z := 4) (w := 4) rfl h13; have e5 := i_neL (z := 5) (w := 5) rfl h15; have e6 := i_neL (z := 6) (w := 6) rfl h17; have e7 := i_neL (z := 7) (w := 7) rfl h19; have e8 := i_neL (z := 8) (w := 8) rfl h21; have e9 := i_neL (z := 9) (w := 9) rfl h23; have e10 := i_neL (z := 10) (w := 10) rfl h28; have e11 := i_neL (z := 11) (w := 11) rfl h34; omega)) rfl ?_
  refine ev_seg 4 (k' := 104) (L' := [(0, .ref 38), (1, .int x1), (3, .int x3), (4, .int z4)]) (st' := [.int x3, .int z4, .int x1, .ref 38]) rfl ?_
  refine ev_callV (q' := q_67) (x := 67) (y := 4) (c := 38) (As := [.int x1, .int z4, .int x3]) (rest := []) hr rfl rfl rfl rfl rfl rfl rfl rfl rfl rfl rfl rfl (fun rv s36 hq => ev_kV hq (fun e9 hr => ?_))
  subst e9
  refine ev_st (st' := []) rfl ?_
  exact ev_vret hr rfl rfl
set_option maxRecDepth 20000 in
theorem eDf_write_37 (d : Nat) (u0 : Int32) (s : aT) : ∀ r, (cG (fBy_put d 32 u0 s) (kI fun v2 s1 => rV s1)) = some r → fDf_write_37 (d + 1) u0 s = some r := by
  intro r hr
  show ev (d + 1) q_63 37 [] [.int u0, .ref 32] s = some r
  refine ev_callV (q' := q_16) (x := 16) (y := 0) (c := 32) (As := [.int u0]) (rest := []) hr rfl rfl rfl rfl rfl rfl rfl rfl rfl rfl rfl rfl (fun rv s1 hq => ev_kI hq (fun v2 e9 hr => ?_))
  subst e9
  refine ev_st (st' := [.int v2]) rfl ?_
  refine ev_seg 1 (k' := 39) (L' := []) (st' := []) rfl ?_
  exact ev_vret hr rfl rfl
set_option maxRecDepth 20000 in
theorem eDf_writeString (d : Nat) (x1 : Int32) (s : aT) : ∀ r, (ldI 4096 s 17 x1 (fun v1 => cG (fBy_putVarint d 32 v1.toInt64 s) (kI fun v3 s2 => ldI 4096 s2 16 x1 (fun v4 => ldI 4096 s2 17 x1 (fun v5 => cG (fBy_putRow d 32 21 v4 v5 s2) (kI fun v7 s6 => rV s6)))))) = some r → fDf_writeString (d + 1) x1 s = some r := by
  intro r hr
  show ev (d + 1) q_65 0 [(0, .ref 38), (1, .int x1)] [] s = some r
  refine ev_seg 7 (k' := 7) (L' := [(0, .ref 38), (1, .int x1)]) (st' := [.int x1, .ref 17, .ref 32]) rfl ?_
  refine ev_ldI hr rfl rfl (fun v1 hr => ?_)
  refine ev_seg 1 (k' := 9) (L' := [(0, .ref 38), (1, .int x1)]) (st' := [.long v1.toInt64, .ref 32]) rfl ?_
  refine ev_callV (q' := q_64) (x := 64) (y := 0) (c := 32) (As := [.long v1.toInt64]) (rest := []) hr rfl rfl rfl rfl rfl rfl rfl rfl rfl rfl rfl rfl (fun rv s2 hq => ev_kI hq (fun v3 e9 hr => ?_))
  subst e9
  refine ev_st (st' := [.int v3]) rfl ?_
  refine ev_seg 12 (k' := 22) (L' := [(0, .ref 38), (1, .int x1)]) (st' := [.int x1, .ref 16, .ref 21, .ref 32]) rfl ?_
  refine ev_ldI hr rfl rfl (fun v4 hr => ?_)
  refine ev_seg 4 (k' := 27) (L' := [(0, .ref 38), (1, .int x1)]) (st' := [.int x1, .ref 17, .int v4, .ref 21, .ref 32]) rfl ?_
  refine ev_ldI hr rfl rfl (fun v5 hr => ?_)
  refine ev_callV (q' := q_48) (x := 48) (y := 0) (c := 32) (As := [.ref 21, .int v4, .int v5]) (rest := []) hr rfl rfl rfl rfl rfl rfl rfl rfl rfl rfl rfl rfl (fun rv s6 hq => ev_kI hq (fun v7 e9 hr => ?_))
  subst e9
  refine ev_st (st' := [.int v7]) rfl ?_
  refine ev_seg 1 (k' := 30) (L' := [(0, .ref 38), (1, .int x1)]) (st' := []) rfl ?_
  exact ev_vret hr rfl rfl
set_option maxRecDepth 20000 in
theorem eDf_writeFields (d : Nat) (x1 : Int32) (x2 : Int32) (x3 : Int32) (s : aT) : ∀ r, (fDf_writeFields_2 (d + 1) x1 x2 x3 0 s) = some r → fDf_writeFields (d + 1) x1 x2 x3 s = some r := by
  intro r hr
  show ev (d + 1) q_66 0 [(0, .ref 38), (1, .int x1), (2, .int x2), (3, .int x3)] [] s = some r
  refine ev_seg 2 (k' := 2) (L' := [(4, .int 0), (0, .ref 38), (1, .int x1), (2, .int x2), (3, .int x3)]) (st' := []) rfl ?_
  refine ev_join (L' := [(0, .ref 38), (1, .int x1), (2, .int x2), (3, .int x3), (4, .int 0)]) [1, 2, 3, 4, 0] [4, 0, 1, 2, 3] [0, 1, 2, 3, 4] rfl rfl (by decide) (by decide) rfl ?_
  exact hr
set_option maxRecDepth 20000 in
theorem eDf_writeFields_2 (d : Nat) (x1 : Int32) (x2 : Int32) (x3 : Int32) (z4 : Int32) (s : aT) : ∀ r, (ldI 5254 s 26 x2 (fun v1 => if v1 ≤ z4 then rV s else ldI 5254 s 25 x2 (fun v2 => ldI 10112 s 28 (v2 + z4) (fun v3 => cG (fSc_memberNamed d x1 v3 s) (kI fun v5 s4 => if v5 = (-1) then fDf_writeFields_43 (d + 1) x1 x2 x3 z4 s4 else ldI 10112 s4 29 (v2 + z4) (fun v6 => cG (fDf_write d v5 v6 (x3 + 1) s4) (kV fun s7 => fDf_writeFields_43 (d + 1) x1 x2 x3 z4 s7))))))) = some r → fDf_writeFields_2 (d + 1) x1 x2 x3 z4 s = some r := by
  intro r hr
  show ev (d + 1) q_66 2 [(0, .ref 38), (1, .int x1), (2, .int x2), (3, .int x3), (4, .int z4)] [] s = some r
  refine ev_seg 5 (k' := 7) (L' := [(0, .ref 38), (1, .int x1), (2, .int x2), (3, .int x3), (4, .int z4)]) (st' := [.int x2, .ref 26, .int z4]) rfl ?_
  refine ev_ldI hr rfl rfl (fun v1 hr => ?_)
  refine ev_br (P := v1 ≤ z4) (L' := [(0, .ref 38), (1, .int x1), (2, .int x2), (3, .int x3), (4, .int z4)]) (st' := []) hr rfl rfl rfl (fun hr => ?_) (fun hr => ?_)
  · skip
    exact ev_vret hr rfl rfl
  · skip
    refine ev_seg 4 (k' := 13) (L' := [(0, .ref 38), (1, .int x1), (2, .int x2), (3, .int x3), (4, .int z4)]) (st' := [.int x2, .ref 25]) rfl ?_
    refine ev_ldI hr rfl rfl (fun v2 hr => ?_)
    refine ev_seg 12 (k' := 26) (L' := [(5, .int (v2 + z4)), (0, .ref 38), (1, .int x1), (2, .int x2), (3, .int x3), (4, .int z4)]) (st' := [.int (v2 + z4), .ref 28, .int x1, .ref 13, .ref 22]) rfl ?_
    refine ev_ldI hr rfl rfl (fun v3 hr => ?_)
    refine ev_callV (q' := q_61) (x := 61) (y := 2) (c := 22) (As := [.ref 13, .int x1, .int v3]) (rest := []) hr rfl rfl rfl rfl rfl rfl rfl rfl rfl rfl rfl rfl (fun rv s4 hq => ev_kI hq (fun v5 e9 hr => ?_))
    subst e9
    refine ev_st (st' := [.int v5]) rfl ?_
    refine ev_seg 3 (k' := 31) (L' := [(6, .int v5), (5, .int (v2 + z4)), (0, .ref 38), (1, .int x1), (2, .int x2), (3, .int x3), (4, .int z4)]) (st' := [.int (-1), .int v5]) rfl ?_
    refine ev_br (P := v5 = (-1)) (L' := [(6, .int v5), (5, .int (v2 + z4)), (0, .ref 38), (1, .int x1), (2, .int x2), (3, .int x3), (4, .int z4)]) (st' := []) hr rfl rfl rfl (fun hr => ?_) (fun hr => ?_)
    · skip
      refine ev_join (L' := [(0, .ref 38), (1, .int x1), (2, .int x2), (3, .int x3), (4, .int z4)]) [2, 3, 4, 5, 6] [6, 5, 0, 1, 2, 3, 4] [0, 1, 2, 3, 4] rfl rfl (by decide) (by decide) rfl ?_
      exact hr
    · skip
      refine ev_seg 6 (k' := 38) (L' := [(6, .int v5), (5, .int (v2 + z4)), (0, .ref 38), (1, .int x1), (2, .int x2), (3, .int x3), (4, .int z4)]) (st' := [.int (v2 + z4), .ref 29, .int v5, .ref 38]) rfl ?_
      refine ev_ldI hr rfl rfl (fun v6 hr => ?_)
      refine ev_seg 3 (k' := 42) (L' := [(6, .int v5), (5, .int (v2 + z4)), (0, .ref 38), (1, .int x1), (2, .int x2), (3, .int x3), (4, .int z4)]) (st' := [.int (x3 + 1), .int v6, .int v5, .ref 38]) rfl ?_
      refine ev_callV (q' := q_63) (x := 63) (y := 4) (c := 38) (As := [.int v5, .int v6, .int (x3 + 1)]) (rest := []) hr rfl rfl rfl rfl rfl rfl rfl rfl rfl rfl rfl rfl (fun rv s7 hq => ev_kV hq (fun e9 hr => ?_))
      subst e9
      refine ev_st (st' := []) rfl ?_
      refine ev_join (L' := [(0, .ref 38), (1, .int x1), (2, .int x2), (3, .int x3), (4, .int z4)]) [2, 3, 4, 5, 6] [6, 5, 0, 1, 2, 3, 4] [0, 1, 2, 3, 4] rfl rfl (by decide) (by decide) rfl ?_
      exact hr
set_option maxRecDepth 20000 in
theorem eDf_writeFields_43 (d : Nat) (x1 : Int32) (x2 : Int32) (x3 : Int32) (z4 : Int32) (s : aT) : ∀ r, (fDf_writeFields_2 (d + 1) x1 x2 x3 (z4 + 1) s) = some r → fDf_writeFields_43 (d + 1) x1 x2 x3 z4 s = some r := by
  intro r hr
  show ev (d + 1) q_66 43 [(0, .ref 38), (1, .int x1), (2, .int x2), (3, .int x3), (4, .int z4)] [] s = some r
  refine ev_seg 2 (k' := 2) (L' := [(4, .int (z4 + 1)), (0, .ref 38), (1, .int x1), (2, .int x2), (3, .int x3)]) (st' := []) rfl ?_
  refine ev_join (L' := [(0, .ref 38), (1, .int x1), (2, .int x2), (3, .int x3), (4, .int (z4 + 1))]) [1, 2, 3, 4, 0] [4, 0, 1, 2, 3] [0, 1, 2, 3, 4] rfl rfl (by decide) (by decide) rfl ?_
  exact hr
set_option maxRecDepth 20000 in
theorem eDf_writeItems (d : Nat) (x1 : Int32) (x2 : Int32) (x3 : Int32) (s : aT) : ∀ r, (ldI 5254 s 23 x2 (fun v1 => if ¬ v1 = 7 then fDf_writeItems_10 (d + 1) x1 x2 x3 0 s else fDf_writeItems_10 (d + 1) x1 x2 x3 1 s)) = some r → fDf_writeItems (d + 1) x1 x2 x3 s = some r := by
  intro r hr
  show ev (d + 1) q_67 0 [(0, .ref 38), (1, .int x1), (2, .int x2), (3, .int x3)] [] s = some r
  refine ev_seg 4 (k' := 4) (L' := [(0, .ref 38), (1, .int x1), (2, .int x2), (3, .int x3)]) (st' := [.int x2, .ref 23]) rfl ?_
  refine ev_ldI hr rfl rfl (fun v1 hr => ?_)
  refine ev_seg 1 (k' := 6) (L' := [(0, .ref 38), (1, .int x1), (2, .int x2), (3, .int x3)]) (st' := [.int 7, .int v1]) rfl ?_
  refine ev_br (P := ¬ v1 = 7) (L' := [(0, .ref 38), (1, .int x1), (2, .int x2), (3, .int x3)]) (st' := []) hr rfl rfl rfl (fun hr => ?_) (fun hr => ?_)
  · skip
    refine ev_seg 1 (k' := 10) (L' := [(0, .ref 38), (1, .int x1), (2, .int x2), (3, .int x3)]) (st' := [.int 0]) rfl ?_
    exact hr
  · skip
    refine ev_seg 2 (k' := 10) (L' := [(0, .ref 38), (1, .int x1), (2, .int x2), (3, .int x3)]) (st' := [.int 1]) rfl ?_
    exact hr
set_option maxRecDepth 20000 in
theorem eDf_writeItems_10 (d : Nat) (x1 : Int32) (x2 : Int32) (x3 : Int32) (u0 : Int32) (s : aT) : ∀ r, (if u0 = 0 then ldI 4096 s 17 x1 (fun v1 => fDf_writeItems_26 (d + 1) x1 x2 x3 u0 v1 s) else ldI 4096 s 17 x1 (fun v2 => fDf_writeItems_26 (d + 1) x1 x2 x3 u0 (v2 / 2) s)) = some r → fDf_writeItems_10 (d + 1) x1 x2 x3 u0 s = some r := by
  intro r hr
  show ev (d + 1) q_67 10 [(0, .ref 38), (1, .int x1), (2, .int x2), (3, .int x3)] [.int u0] s = some r
  refine ev_seg 2 (k' := 12) (L' := [(4, .int u0), (0, .ref 38), (1, .int x1), (2, .int x2), (3, .int x3)]) (st' := [.int u0]) rfl ?_
  refine ev_br (P := u0 = 0) (L' := [(4, .int u0), (0, .ref 38), (1, .int x1), (2, .int x2), (3, .int x3)]) (st' := []) hr rfl rfl rfl (fun hr => ?_) (fun hr => ?_)
  · skip
    refine ev_seg 4 (k' := 25) (L' := [(4, .int u0), (0, .ref 38), (1, .int x1), (2, .int x2), (3, .int x3)]) (st' := [.int x1, .ref 17]) rfl ?_
    refine ev_ldI hr rfl rfl (fun v1 hr => ?_)
    refine ev_join (L' := [(0, .ref 38), (1, .int x1), (2, .int x2), (3, .int x3), (4, .int u0)]) [1, 2, 3, 4, 0] [4, 0, 1, 2, 3] [0, 1, 2, 3, 4] rfl rfl (by decide) (by decide) rfl ?_
    exact hr
  · skip
    refine ev_seg 4 (k' := 17) (L' := [(4, .int u0), (0, .ref 38), (1, .int x1), (2, .int x2), (3, .int x3)]) (st' := [.int x1, .ref 17]) rfl ?_
    refine ev_ldI hr rfl rfl (fun v2 hr => ?_)
    refine ev_seg 3 (k' := 26) (L' := [(4, .int u0), (0, .ref 38), (1, .int x1), (2, .int x2), (3, .int x3)]) (st' := [.int (v2 / 2)]) rfl ?_
    refine ev_join (L' := [(0, .ref 38), (1, .int x1), (2, .int x2), (3, .int x3), (4, .int u0)]) [1, 2, 3, 4, 0] [4, 0, 1, 2, 3] [0, 1, 2, 3, 4] rfl rfl (by decide) (by decide) rfl ?_
    exact hr
set_option maxRecDepth 20000 in
theorem eDf_writeItems_26 (d : Nat) (x1 : Int32) (x2 : Int32) (x3 : Int32) (z4 : Int32) (u0 : Int32) (s : aT) : ∀ r, (ldI 4096 s 16 x1 (fun v1 => if u0 ≤ 0 then fDf_writeItems_42 (d + 1) x2 x3 z4 u0 v1 s else cG (fBy_putVarint d 32 u0.toInt64 s) (kI fun v3 s2 => fDf_writeItems_42 (d + 1) x2 x3 z4 u0 v1 s2))) = some r → fDf_writeItems_26 (d + 1) x1 x2 x3 z4 u0 s = some r := by
  intro r hr
  show ev (d + 1) q_67 26 [(0, .ref 38), (1, .int x1), (2, .int x2), (3, .int x3), (4, .int z4)] [.int u0] s = some r
  refine ev_seg 5 (k' := 31) (L' := [(5, .int u0), (0, .ref 38), (1, .int x1), (2, .int x2), (3, .int x3), (4, .int z4)]) (st' := [.int x1, .ref 16]) rfl ?_
  refine ev_ldI hr rfl rfl (fun v1 hr => ?_)
  refine ev_seg 2 (k' := 34) (L' := [(6, .int v1), (5, .int u0), (0, .ref 38), (1, .int x1), (2, .int x2), (3, .int x3), (4, .int z4)]) (st' := [.int u0]) rfl ?_
  refine ev_br (P := u0 ≤ 0) (L' := [(6, .int v1), (5, .int u0), (0, .ref 38), (1, .int x1), (2, .int x2), (3, .int x3), (4, .int z4)]) (st' := []) hr rfl rfl rfl (fun hr => ?_) (fun hr => ?_)
  · skip
    refine ev_join (L' := [(0, .ref 38), (2, .int x2), (3, .int x3), (4, .int z4), (5, .int u0), (6, .int v1)]) [2, 4, 5, 6, 1, 0] [6, 5, 0, 1, 2, 3, 4] [0, 2, 3, 4, 5, 6] rfl rfl (by decide) (by decide) rfl ?_
    exact hr
  · skip
    refine ev_seg 5 (k' := 40) (L' := [(6, .int v1), (5, .int u0), (0, .ref 38), (1, .int x1), (2, .int x2), (3, .int x3), (4, .int z4)]) (st' := [.long u0.toInt64, .ref 32]) rfl ?_
    refine ev_callV (q' := q_64) (x := 64) (y := 0) (c := 32) (As := [.long u0.toInt64]) (rest := []) hr rfl rfl rfl rfl rfl rfl rfl rfl rfl rfl rfl rfl (fun rv s2 hq => ev_kI hq (fun v3 e9 hr => ?_))
    subst e9
    refine ev_st (st' := [.int v3]) rfl ?_
    refine ev_seg 1 (k' := 42) (L' := [(6, .int v1), (5, .int u0), (0, .ref 38), (1, .int x1), (2, .int x2), (3, .int x3), (4, .int z4)]) (st' := []) rfl ?_
    refine ev_join (L' := [(0, .ref 38), (2, .int x2), (3, .int x3), (4, .int z4), (5, .int u0), (6, .int v1)]) [2, 4, 5, 6, 1, 0] [6, 5, 0, 1, 2, 3, 4] [0, 2, 3, 4, 5, 6] rfl rfl (by decide) (by decide) rfl ?_
    exact hr
set_option maxRecDepth 20000 in
theorem eDf_writeItems_42 (d : Nat) (x2 : Int32) (x3 : Int32) (z4 : Int32) (z5 : Int32) (z6 : Int32) (s : aT) : ∀ r, (fDf_writeItems_44 (d + 1) x2 x3 z4 z5 z6 0 s) = some r → fDf_writeItems_42 (d + 1) x2 x3 z4 z5 z6 s = some r := by
  intro r hr
  show ev (d + 1) q_67 42 [(0, .ref 38), (2, .int x2), (3, .int x3), (4, .int z4), (5, .int z5), (6, .int z6)] [] s = some r
  refine ev_seg 2 (k' := 44) (L' := [(7, .int 0), (0, .ref 38), (2, .int x2), (3, .int x3), (4, .int z4), (5, .int z5), (6, .int z6)]) (st' := []) rfl ?_
  refine ev_join (L' := [(0, .ref 38), (2, .int x2), (3, .int x3), (4, .int z4), (5, .int z5), (6, .int z6), (7, .int 0)]) [1, 2, 3, 4, 5, 6, 0] [7, 0, 2, 3, 4, 5, 6] [0, 2, 3, 4, 5, 6, 7] rfl rfl (by decide) (by decide) rfl ?_
  exact hr
set_option maxRecDepth 20000 in
theorem eDf_writeItems_44 (d : Nat) (x2 : Int32) (x3 : Int32) (z4 : Int32) (z5 : Int32) (z6 : Int32) (z7 : Int32) (s : aT) : ∀ r, (if z5 ≤ z7 then fDf_writeItems_80 (d + 1) s else if z6 = (-1) then fDf_writeItems_80 (d + 1) s else if z4 = 0 then fDf_writeItems_61 (d + 1) x2 x3 z4 z5 z6 z7 s else cG (fDf_writeString d z6 s) (kV fun s1 => ldI 4096 s1 18 z6 (fun v2 => fDf_writeItems_61 (d + 1) x2 x3 z4 z5 v2 z7 s1))) = some r → fDf_writeItems_44 (d + 1) x2 x3 z4 z5 z6 z7 s = some r := by
  intro r hr
  show ev (d + 1) q_67 44 [(0, .ref 38), (2, .int x2), (3, .int x3), (4, .int z4), (5, .int z5), (6, .int z6), (7, .int z7)] [] s = some r
  refine ev_seg 2 (k' := 46) (L' := [(0, .ref 38), (2, .int x2), (3, .int x3), (4, .int z4), (5, .int z5), (6, .int z6), (7, .int z7)]) (st' := [.int z5, .int z7]) rfl ?_
  refine ev_br (P := z5 ≤ z7) (L' := [(0, .ref 38), (2, .int x2), (3, .int x3), (4, .int z4), (5, .int z5), (6, .int z6), (7, .int z7)]) (st' := []) hr rfl rfl rfl (fun hr => ?_) (fun hr => ?_)
  · skip
    refine ev_join (L' := [(0, .ref 38)]) [0] [0, 2, 3, 4, 5, 6, 7] [0] rfl rfl (by decide) (by decide) rfl ?_
    exact hr
  · skip
    refine ev_seg 2 (k' := 49) (L' := [(0, .ref 38), (2, .int x2), (3, .int x3), (4, .int z4), (5, .int z5), (6, .int z6), (7, .int z7)]) (st' := [.int (-1), .int z6]) rfl ?_
    refine ev_br (P := z6 = (-1)) (L' := [(0, .ref 38), (2, .int x2), (3, .int x3), (4, .int z4), (5, .int z5), (6, .int z6), (7, .int z7)]) (st' := []) hr rfl rfl rfl (fun hr => ?_) (fun hr => ?_)
    · skip
      refine ev_join (L' := [(0, .ref 38)]) [0] [0, 2, 3, 4, 5, 6, 7] [0] rfl rfl (by decide) (by decide) rfl ?_
      exact hr
    · skip
      refine ev_seg 1 (k' := 51) (L' := [(0, .ref 38), (2, .int x2), (3, .int x3), (4, .int z4), (5, .int z5), (6, .int z6), (7, .int z7)]) (st' := [.int z4]) rfl ?_
      refine ev_br (P := z4 = 0) (L' := [(0, .ref 38), (2, .int x2), (3, .int x3), (4, .int z4), (5, .int z5), (6, .int z6), (7, .int z7)]) (st' := []) hr rfl rfl rfl (fun hr => ?_) (fun hr => ?_)
      · skip
        exact hr
      · skip
        refine ev_seg 2 (k' := 54) (L' := [(0, .ref 38), (2, .int x2), (3, .int x3), (4, .int z4), (5, .int z5), (6, .int z6), (7, .int z7)]) (st' := [.int z6, .ref 38]) rfl ?_
        refine ev_callV (q' := q_65) (x := 65) (y := 4) (c := 38) (As := [.int z6]) (rest := []) hr rfl rfl rfl rfl rfl rfl rfl rfl rfl rfl rfl rfl (fun rv s1 hq => ev_kV hq (fun e9 hr => ?_))
        subst e9
        refine ev_st (st' := []) rfl ?_
        refine ev_seg 4 (k' := 59) (L' := [(0, .ref 38), (2, .int x2), (3, .int x3), (4, .int z4), (5, .int z5), (6, .int z6), (7, .int z7)]) (st' := [.int z6, .ref 18]) rfl ?_
        refine ev_ldI hr rfl rfl (fun v2 hr => ?_)
        refine ev_seg 1 (k' := 61) (L' := [(6, .int v2), (0, .ref 38), (2, .int x2), (3, .int x3), (4, .int z4), (5, .int z5), (7, .int z7)]) (st' := []) rfl ?_
        refine ev_join (L' := [(0, .ref 38), (2, .int x2), (3, .int x3), (4, .int z4), (5, .int z5), (6, .int v2), (7, .int z7)]) [1, 2, 3, 4, 5, 0, 6] [6, 0, 2, 3, 4, 5, 7] [0, 2, 3, 4, 5, 6, 7] rfl rfl (by decide) (by decide) rfl ?_
        exact hr
set_option maxRecDepth 20000 in
theorem eDf_writeItems_80 (d : Nat) (s : aT) : ∀ r, (cG (fBy_putVarint d 32 0 s) (kI fun v2 s1 => rV s1)) = some r → fDf_writeItems_80 (d + 1) s = some r := by
  intro r hr
  show ev (d + 1) q_67 80 [(0, .ref 38)] [] s = some r
  refine ev_seg 4 (k' := 84) (L' := [(0, .ref 38)]) (st' := [.long 0, .ref 32]) rfl ?_
  refine ev_callV (q' := q_64) (x := 64) (y := 0) (c := 32) (As := [.long 0]) (rest := []) hr rfl rfl rfl rfl rfl rfl rfl rfl rfl rfl rfl rfl (fun rv s1 hq => ev_kI hq (fun v2 e9 hr => ?_))
  subst e9
  refine ev_st (st' := [.int v2]) rfl ?_
  refine ev_seg 1 (k' := 86) (L' := [(0, .ref 38)]) (st' := []) rfl ?_
  exact ev_vret hr rfl rfl
set_option maxRecDepth 20000 in
theorem eDf_writeItems_61 (d : Nat) (x2 : Int32) (x3 : Int32) (z4 : Int32) (z5 : Int32) (z6 : Int32) (z7 : Int32) (s : aT) : ∀ r, (ldI 5254 s 27 x2 (fun v1 => cG (fDf_write d z6 v1 (x3 + 1) s) (kV fun s2 => ldI 4096 s2 18 z6 (fun v3 => fDf_writeItems_44 (d + 1) x2 x3 z4 z5 v3 (z7 + 1) s2)))) = some r → fDf_writeItems_61 (d + 1) x2 x3 z4 z5 z6 z7 s = some r := by
  intro r hr
  show ev (d + 1) q_67 61 [(0, .ref 38), (2, .int x2), (3, .int x3), (4, .int z4), (5, .int z5), (6, .int z6), (7, .int z7)] [] s = some r
  refine ev_seg 6 (k' := 67) (L' := [(0, .ref 38), (2, .int x2), (3, .int x3), (4, .int z4), (5, .int z5), (6, .int z6), (7, .int z7)]) (st' := [.int x2, .ref 27, .int z6, .ref 38]) rfl ?_
  refine ev_ldI hr rfl rfl (fun v1 hr => ?_)
  refine ev_seg 3 (k' := 71) (L' := [(0, .ref 38), (2, .int x2), (3, .int x3), (4, .int z4), (5, .int z5), (6, .int z6), (7, .int z7)]) (st' := [.int (x3 + 1), .int v1, .int z6, .ref 38]) rfl ?_
  refine ev_callV (q' := q_63) (x := 63) (y := 4) (c := 38) (As := [.int z6, .int v1, .int (x3 + 1)]) (rest := []) hr rfl rfl rfl rfl rfl rfl rfl rfl rfl rfl rfl rfl (fun rv s2 hq => ev_kV hq (fun e9 hr => ?_))
  subst e9
  refine ev_st (st' := []) rfl ?_
  refine ev_seg 4 (k' := 76) (L' := [(0, .ref 38), (2, .int x2), (3, .int x3), (4, .int z4), (5, .int z5), (6, .int z6), (7, .int z7)]) (st' := [.int z6, .ref 18]) rfl ?_
  refine ev_ldI hr rfl rfl (fun v3 hr => ?_)
  refine ev_seg 3 (k' := 44) (L' := [(7, .int (z7 + 1)), (6, .int v3), (0, .ref 38), (2, .int x2), (3, .int x3), (4, .int z4), (5, .int z5)]) (st' := []) rfl ?_
  refine ev_join (L' := [(0, .ref 38), (2, .int x2), (3, .int x3), (4, .int z4), (5, .int z5), (6, .int v3), (7, .int (z7 + 1))]) [2, 3, 4, 5, 6, 1, 0] [7, 6, 0, 2, 3, 4, 5] [0, 2, 3, 4, 5, 6, 7] rfl rfl (by decide) (by decide) rfl ?_
  exact hr
