/-! RecordLakeModel: what its pieces do -/
set_option maxRecDepth 20000 in
theorem eMo_letter (d : Nat) (x1 : Int32) (x2 : Int32) (s : aT) : ∀ r, (cG (fMo_within d x2 0 1 s) (kI fun v2 s1 => if ¬ v2 = 0 then fMo_letter_8 (d + 1) x1 x2 0 s1 else fMo_letter_8 (d + 1) x1 x2 1 s1)) = some r → fMo_letter (d + 1) x1 x2 s = some r := by
  intro r hr
  show ev (d + 1) q_295 0 [(0, .ref 67), (1, .int x1), (2, .int x2)] [] s = some r
  refine ev_seg 3 (k' := 3) (L' := [(0, .ref 67), (1, .int x1), (2, .int x2)]) (st' := [.int 1, .int 0, .int x2]) rfl ?_
  refine ev_callS (q' := q_192) (x := 192) (vs := [.int x2, .int 0, .int 1]) (rest := []) hr rfl rfl rfl rfl rfl rfl rfl rfl rfl rfl (fun rv s1 hq => ev_kI hq (fun v2 e9 hr => ?_))
  subst e9
  refine ev_st (st' := [.int v2]) rfl ?_
  refine ev_br (P := ¬ v2 = 0) (L' := [(0, .ref 67), (1, .int x1), (2, .int x2)]) (st' := []) hr rfl rfl rfl (fun hr => ?_) (fun hr => ?_)
  · skip
    refine ev_seg 1 (k' := 8) (L' := [(0, .ref 67), (1, .int x1), (2, .int x2)]) (st' := [.int 0]) rfl ?_
    exact hr
  · skip
    refine ev_seg 2 (k' := 8) (L' := [(0, .ref 67), (1, .int x1), (2, .int x2)]) (st' := [.int 1]) rfl ?_
    exact hr
set_option maxRecDepth 20000 in
theorem eMo_letter_8 (d : Nat) (x1 : Int32) (x2 : Int32) (u0 : Int32) (s : aT) : ∀ r, (if ¬ u0 = 0 then fMo_letter_27 (d + 1) x1 x2 u0 s else if ¬ x2 = 0 then fMo_letter_21 (d + 1) x1 x2 u0 (gI s 67 10) 0 x1 s else fMo_letter_21 (d + 1) x1 x2 u0 (gI s 67 8) 0 x1 s) = some r → fMo_letter_8 (d + 1) x1 x2 u0 s = some r := by
  intro r hr
  show ev (d + 1) q_295 8 [(0, .ref 67), (1, .int x1), (2, .int x2)] [.int u0] s = some r
  refine ev_seg 3 (k' := 11) (L' := [(3, .int u0), (0, .ref 67), (1, .int x1), (2, .int x2)]) (st' := [.int u0, .ref 67]) rfl ?_
  refine ev_br (P := ¬ u0 = 0) (L' := [(3, .int u0), (0, .ref 67), (1, .int x1), (2, .int x2)]) (st' := [.ref 67]) hr rfl rfl rfl (fun hr => ?_) (fun hr => ?_)
  · skip
    refine ev_join (L' := [(0, .ref 67), (1, .int x1), (2, .int x2), (3, .int u0)]) [1, 2, 3, 0] [3, 0, 1, 2] [0, 1, 2, 3] rfl rfl (by decide) (by decide) rfl ?_
    exact hr
  · skip
    refine ev_seg 3 (k' := 15) (L' := [(3, .int u0), (0, .ref 67), (1, .int x1), (2, .int x2)]) (st' := [.int x2, .int 0, .int x1, .ref 67]) rfl ?_
    refine ev_br (P := ¬ x2 = 0) (L' := [(3, .int u0), (0, .ref 67), (1, .int x1), (2, .int x2)]) (st' := [.int 0, .int x1, .ref 67]) hr rfl rfl rfl (fun hr => ?_) (fun hr => ?_)
    · skip
      refine ev_seg 2 (k' := 21) (L' := [(3, .int u0), (0, .ref 67), (1, .int x1), (2, .int x2)]) (st' := [.int (gI s 67 10), .int 0, .int x1, .ref 67]) rfl ?_
      refine ev_join (L' := [(0, .ref 67), (1, .int x1), (2, .int x2), (3, .int u0)]) [1, 2, 3, 0] [3, 0, 1, 2] [0, 1, 2, 3] rfl rfl (by decide) (by decide) rfl ?_
      exact hr
    · skip
      refine ev_seg 3 (k' := 21) (L' := [(3, .int u0), (0, .ref 67), (1, .int x1), (2, .int x2)]) (st' := [.int (gI s 67 8), .int 0, .int x1, .ref 67]) rfl ?_
      refine ev_join (L' := [(0, .ref 67), (1, .int x1), (2, .int x2), (3, .int u0)]) [1, 2, 3, 0] [3, 0, 1, 2] [0, 1, 2, 3] rfl rfl (by decide) (by decide) rfl ?_
      exact hr
set_option maxRecDepth 20000 in
theorem eMo_letter_27 (d : Nat) (x1 : Int32) (x2 : Int32) (z3 : Int32) (s : aT) : ∀ r, (fMo_letter_28 (d + 1) x1 x2 z3 0 s) = some r → fMo_letter_27 (d + 1) x1 x2 z3 s = some r := by
  intro r hr
  show ev (d + 1) q_295 27 [(0, .ref 67), (1, .int x1), (2, .int x2), (3, .int z3)] [.ref 67] s = some r
  refine ev_seg 1 (k' := 28) (L' := [(0, .ref 67), (1, .int x1), (2, .int x2), (3, .int z3)]) (st' := [.int 0, .ref 67]) rfl ?_
  exact hr
set_option maxRecDepth 20000 in
theorem eMo_letter_21 (d : Nat) (x1 : Int32) (x2 : Int32) (z3 : Int32) (u0 : Int32) (u1 : Int32) (u2 : Int32) (s : aT) : ∀ r, (cG (fMo_within d u2 u1 (u0 - 1) s) (kI fun v2 s1 => if ¬ v2 = 0 then fMo_letter_27 (d + 1) x1 x2 z3 s1 else fMo_letter_28 (d + 1) x1 x2 z3 1 s1)) = some r → fMo_letter_21 (d + 1) x1 x2 z3 u0 u1 u2 s = some r := by
  intro r hr
  show ev (d + 1) q_295 21 [(0, .ref 67), (1, .int x1), (2, .int x2), (3, .int z3)] [.int u0, .int u1, .int u2, .ref 67] s = some r
  refine ev_seg 2 (k' := 23) (L' := [(0, .ref 67), (1, .int x1), (2, .int x2), (3, .int z3)]) (st' := [.int (u0 - 1), .int u1, .int u2, .ref 67]) rfl ?_
  refine ev_callS (q' := q_192) (x := 192) (vs := [.int u2, .int u1, .int (u0 - 1)]) (rest := [.ref 67]) hr rfl rfl rfl rfl rfl rfl rfl rfl rfl rfl (fun rv s1 hq => ev_kI hq (fun v2 e9 hr => ?_))
  subst e9
  refine ev_st (st' := [.int v2, .ref 67]) rfl ?_
  refine ev_br (P := ¬ v2 = 0) (L' := [(0, .ref 67), (1, .int x1), (2, .int x2), (3, .int z3)]) (st' := [.ref 67]) hr rfl rfl rfl (fun hr => ?_) (fun hr => ?_)
  · skip
    exact hr
  · skip
    refine ev_seg 2 (k' := 28) (L' := [(0, .ref 67), (1, .int x1), (2, .int x2), (3, .int z3)]) (st' := [.int 1, .ref 67]) rfl ?_
    exact hr
set_option maxRecDepth 20000 in
theorem eMo_letter_28 (d : Nat) (x1 : Int32) (x2 : Int32) (z3 : Int32) (u0 : Int32) (s : aT) : ∀ r, (cG (fMo_refused d u0 z3 s) (kI fun v2 s1 => if v2 = 0 then if ¬ x2 = 0 then ldI 4096 s1 136 x1 (fun v3 => rI (v3 &&& 255) s1) else ldI 4200 s1 135 x1 (fun v4 => rI (v4 &&& 255) s1) else rI 0 s1)) = some r → fMo_letter_28 (d + 1) x1 x2 z3 u0 s = some r := by
  intro r hr
  show ev (d + 1) q_295 28 [(0, .ref 67), (1, .int x1), (2, .int x2), (3, .int z3)] [.int u0, .ref 67] s = some r
  refine ev_seg 1 (k' := 29) (L' := [(0, .ref 67), (1, .int x1), (2, .int x2), (3, .int z3)]) (st' := [.int z3, .int u0, .ref 67]) rfl ?_
  refine ev_callV (q' := q_189) (x := 189) (y := 13) (c := 67) (As := [.int u0, .int z3]) (rest := []) hr rfl rfl rfl rfl rfl rfl rfl rfl rfl rfl rfl rfl (fun rv s1 hq => ev_kI hq (fun v2 e9 hr => ?_))
  subst e9
  refine ev_st (st' := [.int v2]) rfl ?_
  refine ev_br (P := v2 = 0) (L' := [(0, .ref 67), (1, .int x1), (2, .int x2), (3, .int z3)]) (st' := []) hr rfl rfl rfl (fun hr => ?_) (fun hr => ?_)
  · skip
    refine ev_seg 1 (k' := 34) (L' := [(0, .ref 67), (1, .int x1), (2, .int x2), (3, .int z3)]) (st' := [.int x2]) rfl ?_
    refine ev_br (P := ¬ x2 = 0) (L' := [(0, .ref 67), (1, .int x1), (2, .int x2), (3, .int z3)]) (st' := []) hr rfl rfl rfl (fun hr => ?_) (fun hr => ?_)
    · skip
      refine ev_seg 3 (k' := 45) (L' := [(0, .ref 67), (1, .int x1), (2, .int x2), (3, .int z3)]) (st' := [.int x1, .ref 136]) rfl ?_
      refine ev_ldB hr rfl rfl (fun v3 hr => ?_)
      refine ev_seg 2 (k' := 48) (L' := [(0, .ref 67), (1, .int x1), (2, .int x2), (3, .int z3)]) (st' := [.int (v3 &&& 255)]) rfl ?_
      exact ev_iret hr rfl rfl rfl
    · skip
      refine ev_seg 3 (k' := 38) (L' := [(0, .ref 67), (1, .int x1), (2, .int x2), (3, .int z3)]) (st' := [.int x1, .ref 135]) rfl ?_
      refine ev_ldB hr rfl rfl (fun v4 hr => ?_)
      refine ev_seg 3 (k' := 48) (L' := [(0, .ref 67), (1, .int x1), (2, .int x2), (3, .int z3)]) (st' := [.int (v4 &&& 255)]) rfl ?_
      exact ev_iret hr rfl rfl rfl
  · skip
    refine ev_seg 1 (k' := 32) (L' := [(0, .ref 67), (1, .int x1), (2, .int x2), (3, .int z3)]) (st' := [.int 0]) rfl ?_
    exact ev_iret hr rfl rfl rfl
set_option maxRecDepth 20000 in
theorem eMo_size (d : Nat) (x1 : Int32) (s : aT) : ∀ r, (cG (fMo_within d x1 0 1 s) (kI fun v2 s1 => if ¬ v2 = 0 then fMo_size_9 (d + 1) x1 0 s1 else fMo_size_9 (d + 1) x1 1 s1)) = some r → fMo_size (d + 1) x1 s = some r := by
  intro r hr
  show ev (d + 1) q_296 0 [(0, .ref 67), (1, .int x1)] [] s = some r
  refine ev_seg 4 (k' := 4) (L' := [(0, .ref 67), (1, .int x1)]) (st' := [.int 1, .int 0, .int x1, .ref 67]) rfl ?_
  refine ev_callS (q' := q_192) (x := 192) (vs := [.int x1, .int 0, .int 1]) (rest := [.ref 67]) hr rfl rfl rfl rfl rfl rfl rfl rfl rfl rfl (fun rv s1 hq => ev_kI hq (fun v2 e9 hr => ?_))
  subst e9
  refine ev_st (st' := [.int v2, .ref 67]) rfl ?_
  refine ev_br (P := ¬ v2 = 0) (L' := [(0, .ref 67), (1, .int x1)]) (st' := [.ref 67]) hr rfl rfl rfl (fun hr => ?_) (fun hr => ?_)
  · skip
    refine ev_seg 1 (k' := 9) (L' := [(0, .ref 67), (1, .int x1)]) (st' := [.int 0, .ref 67]) rfl ?_
    exact hr
  · skip
    refine ev_seg 2 (k' := 9) (L' := [(0, .ref 67), (1, .int x1)]) (st' := [.int 1, .ref 67]) rfl ?_
    exact hr
set_option maxRecDepth 20000 in
theorem eMo_size_9 (d : Nat) (x1 : Int32) (u0 : Int32) (s : aT) : ∀ r, (cG (fMo_refused d u0 0 s) (kI fun v2 s1 => if v2 = 0 then if ¬ x1 = 0 then rI (gI s1 67 10) s1 else rI (gI s1 67 8) s1 else rI 0 s1)) = some r → fMo_size_9 (d + 1) x1 u0 s = some r := by
  intro r hr
  show ev (d + 1) q_296 9 [(0, .ref 67), (1, .int x1)] [.int u0, .ref 67] s = some r
  refine ev_seg 1 (k' := 10) (L' := [(0, .ref 67), (1, .int x1)]) (st' := [.int 0, .int u0, .ref 67]) rfl ?_
  refine ev_callV (q' := q_189) (x := 189) (y := 13) (c := 67) (As := [.int u0, .int 0]) (rest := []) hr rfl rfl rfl rfl rfl rfl rfl rfl rfl rfl rfl rfl (fun rv s1 hq => ev_kI hq (fun v2 e9 hr => ?_))
  subst e9
  refine ev_st (st' := [.int v2]) rfl ?_
  refine ev_br (P := v2 = 0) (L' := [(0, .ref 67), (1, .int x1)]) (st' := []) hr rfl rfl rfl (fun hr => ?_) (fun hr => ?_)
  · skip
    refine ev_seg 1 (k' := 15) (L' := [(0, .ref 67), (1, .int x1)]) (st' := [.int x1]) rfl ?_
    refine ev_br (P := ¬ x1 = 0) (L' := [(0, .ref 67), (1, .int x1)]) (st' := []) hr rfl rfl rfl (fun hr => ?_) (fun hr => ?_)
    · skip
      refine ev_seg 2 (k' := 21) (L' := [(0, .ref 67), (1, .int x1)]) (st' := [.int (gI s1 67 10)]) rfl ?_
      exact ev_iret hr rfl rfl rfl
    · skip
      refine ev_seg 3 (k' := 21) (L' := [(0, .ref 67), (1, .int x1)]) (st' := [.int (gI s1 67 8)]) rfl ?_
      exact ev_iret hr rfl rfl rfl
  · skip
    refine ev_seg 2 (k' := 21) (L' := [(0, .ref 67), (1, .int x1)]) (st' := [.int 0]) rfl ?_
    exact ev_iret hr rfl rfl rfl
set_option maxRecDepth 20000 in
theorem eMo_file (d : Nat) (x1 : Int32) (x2 : Int32) (s : aT) : ∀ r, (if ¬ gI s 67 11 = 0 then fMo_file_14 (d + 1) x1 x2 s else cG (fMo_within d x1 0 ((gI s 67 13) - 1) s) (kI fun v2 s1 => if ¬ v2 = 0 then fMo_file_14 (d + 1) x1 x2 s1 else fMo_file_15 (d + 1) x1 x2 1 s1)) = some r → fMo_file (d + 1) x1 x2 s = some r := by
  intro r hr
  show ev (d + 1) q_297 0 [(0, .ref 67), (1, .int x1), (2, .int x2)] [] s = some r
  refine ev_seg 3 (k' := 3) (L' := [(0, .ref 67), (1, .int x1), (2, .int x2)]) (st' := [.int (gI s 67 11), .ref 67]) rfl ?_
  refine ev_br (P := ¬ gI s 67 11 = 0) (L' := [(0, .ref 67), (1, .int x1), (2, .int x2)]) (st' := [.ref 67]) hr rfl rfl rfl (fun hr => ?_) (fun hr => ?_)
  · skip
    exact hr
  · skip
    refine ev_seg 6 (k' := 10) (L' := [(0, .ref 67), (1, .int x1), (2, .int x2)]) (st' := [.int ((gI s 67 13) - 1), .int 0, .int x1, .ref 67]) rfl ?_
    refine ev_callS (q' := q_192) (x := 192) (vs := [.int x1, .int 0, .int ((gI s 67 13) - 1)]) (rest := [.ref 67]) hr rfl rfl rfl rfl rfl rfl rfl rfl rfl rfl (fun rv s1 hq => ev_kI hq (fun v2 e9 hr => ?_))
    subst e9
    refine ev_st (st' := [.int v2, .ref 67]) rfl ?_
    refine ev_br (P := ¬ v2 = 0) (L' := [(0, .ref 67), (1, .int x1), (2, .int x2)]) (st' := [.ref 67]) hr rfl rfl rfl (fun hr => ?_) (fun hr => ?_)
    · skip
      exact hr
    · skip
      refine ev_seg 2 (k' := 15) (L' := [(0, .ref 67), (1, .int x1), (2, .int x2)]) (st' := [.int 1, .ref 67]) rfl ?_
      exact hr
set_option maxRecDepth 20000 in
theorem eMo_file_14 (d : Nat) (x1 : Int32) (x2 : Int32) (s : aT) : ∀ r, (fMo_file_15 (d + 1) x1 x2 0 s) = some r → fMo_file_14 (d + 1) x1 x2 s = some r := by
  intro r hr
  show ev (d + 1) q_297 14 [(0, .ref 67), (1, .int x1), (2, .int x2)] [.ref 67] s = some r
  refine ev_seg 1 (k' := 15) (L' := [(0, .ref 67), (1, .int x1), (2, .int x2)]) (st' := [.int 0, .ref 67]) rfl ?_
  exact hr
set_option maxRecDepth 20000 in
theorem eMo_file_15 (d : Nat) (x1 : Int32) (x2 : Int32) (u0 : Int32) (s : aT) : ∀ r, (cG (fMo_within d x2 0 4 s) (kI fun v2 s1 => if ¬ v2 = 0 then fMo_file_23 (d + 1) x1 x2 0 u0 s1 else fMo_file_23 (d + 1) x1 x2 1 u0 s1)) = some r → fMo_file_15 (d + 1) x1 x2 u0 s = some r := by
  intro r hr
  show ev (d + 1) q_297 15 [(0, .ref 67), (1, .int x1), (2, .int x2)] [.int u0, .ref 67] s = some r
  refine ev_seg 3 (k' := 18) (L' := [(0, .ref 67), (1, .int x1), (2, .int x2)]) (st' := [.int 4, .int 0, .int x2, .int u0, .ref 67]) rfl ?_
  refine ev_callS (q' := q_192) (x := 192) (vs := [.int x2, .int 0, .int 4]) (rest := [.int u0, .ref 67]) hr rfl rfl rfl rfl rfl rfl rfl rfl rfl rfl (fun rv s1 hq => ev_kI hq (fun v2 e9 hr => ?_))
  subst e9
  refine ev_st (st' := [.int v2, .int u0, .ref 67]) rfl ?_
  refine ev_br (P := ¬ v2 = 0) (L' := [(0, .ref 67), (1, .int x1), (2, .int x2)]) (st' := [.int u0, .ref 67]) hr rfl rfl rfl (fun hr => ?_) (fun hr => ?_)
  · skip
    refine ev_seg 1 (k' := 23) (L' := [(0, .ref 67), (1, .int x1), (2, .int x2)]) (st' := [.int 0, .int u0, .ref 67]) rfl ?_
    exact hr
  · skip
    refine ev_seg 2 (k' := 23) (L' := [(0, .ref 67), (1, .int x1), (2, .int x2)]) (st' := [.int 1, .int u0, .ref 67]) rfl ?_
    exact hr
set_option maxRecDepth 20000 in
theorem eMo_file_23 (d : Nat) (x1 : Int32) (x2 : Int32) (u0 : Int32) (u1 : Int32) (s : aT) : ∀ r, (cG (fMo_refused d u1 u0 s) (kI fun v2 s1 => if v2 = 0 then if gI s1 67 11 = 0 then if ¬ x2 = 0 then if ¬ x2 = 1 then if ¬ x2 = 2 then if ¬ x2 = 3 then ldI 41 s1 141 x1 (fun v3 => rI v3 s1) else ldI 41 s1 140 x1 (fun v4 => rI v4 s1) else ldI 41 s1 139 x1 (fun v5 => rI v5 s1) else ldI 41 s1 138 x1 (fun v6 => rI v6 s1) else ldI 41 s1 137 x1 (fun v7 => rI v7 s1) else rI (-33) s1 else rI 0 s1)) = some r → fMo_file_23 (d + 1) x1 x2 u0 u1 s = some r := by
  intro r hr
  show ev (d + 1) q_297 23 [(0, .ref 67), (1, .int x1), (2, .int x2)] [.int u0, .int u1, .ref 67] s = some r
  refine ev_callV (q' := q_189) (x := 189) (y := 13) (c := 67) (As := [.int u1, .int u0]) (rest := []) hr rfl rfl rfl rfl rfl rfl rfl rfl rfl rfl rfl rfl (fun rv s1 hq => ev_kI hq (fun v2 e9 hr => ?_))
  subst e9
  refine ev_st (st' := [.int v2]) rfl ?_
  refine ev_br (P := v2 = 0) (L' := [(0, .ref 67), (1, .int x1), (2, .int x2)]) (st' := []) hr rfl rfl rfl (fun hr => ?_) (fun hr => ?_)
  · skip
    refine ev_seg 2 (k' := 29) (L' := [(0, .ref 67), (1, .int x1), (2, .int x2)]) (st' := [.int (gI s1 67 11)]) rfl ?_
    refine ev_br (P := gI s1 67 11 = 0) (L' := [(0, .ref 67), (1, .int x1), (2, .int x2)]) (st' := []) hr rfl rfl rfl (fun hr => ?_) (fun hr => ?_)
    · skip
      refine ev_seg 1 (k' := 33) (L' := [(0, .ref 67), (1, .int x1), (2, .int x2)]) (st' := [.int x2]) rfl ?_
      refine ev_br (P := ¬ x2 = 0) (L' := [(0, .ref 67), (1, .int x1), (2, .int x2)]) (st' := []) hr rfl rfl rfl (fun hr => ?_) (fun hr => ?_)
      · skip
        refine ev_seg 2 (k' := 41) (L' := [(0, .ref 67), (1, .int x1), (2, .int x2)]) (st' := [.int 1, .int x2]) rfl ?_
        refine ev_br (P := ¬ x2 = 1) (L' := [(0, .ref 67), (1, .int x1), (2, .int x2)]) (st' := []) hr rfl rfl rfl (fun hr => ?_) (fun hr => ?_)
        · skip
          refine ev_seg 2 (k' := 49) (L' := [(0, .ref 67), (1, .int x1), (2, .int x2)]) (st' := [.int 2, .int x2]) rfl ?_
          refine ev_br (P := ¬ x2 = 2) (L' := [(0, .ref 67), (1, .int x1), (2, .int x2)]) (st' := []) hr rfl rfl rfl (fun hr => ?_) (fun hr => ?_)
          · skip
            refine ev_seg 2 (k' := 57) (L' := [(0, .ref 67), (1, .int x1), (2, .int x2)]) (st' := [.int 3, .int x2]) rfl ?_
            refine ev_br (P := ¬ x2 = 3) (L' := [(0, .ref 67), (1, .int x1), (2, .int x2)]) (st' := []) hr rfl rfl rfl (fun hr => ?_) (fun hr => ?_)
            · skip
              refine ev_seg 3 (k' := 66) (L' := [(0, .ref 67), (1, .int x1), (2, .int x2)]) (st' := [.int x1, .ref 141]) rfl ?_
              refine ev_ldI hr rfl rfl (fun v3 hr => ?_)
              exact ev_iret hr rfl rfl rfl
            · skip
              refine ev_seg 3 (k' := 61) (L' := [(0, .ref 67), (1, .int x1), (2, .int x2)]) (st' := [.int x1, .ref 140]) rfl ?_
              refine ev_ldI hr rfl rfl (fun v4 hr => ?_)
              refine ev_seg 1 (k' := 67) (L' := [(0, .ref 67), (1, .int x1), (2, .int x2)]) (st' := [.int v4]) rfl ?_
              exact ev_iret hr rfl rfl rfl
          · skip
            refine ev_seg 3 (k' := 53) (L' := [(0, .ref 67), (1, .int x1), (2, .int x2)]) (st' := [.int x1, .ref 139]) rfl ?_
            refine ev_ldI hr rfl rfl (fun v5 hr => ?_)
            refine ev_seg 1 (k' := 67) (L' := [(0, .ref 67), (1, .int x1), (2, .int x2)]) (st' := [.int v5]) rfl ?_
            exact ev_iret hr rfl rfl rfl
        · skip
          refine ev_seg 3 (k' := 45) (L' := [(0, .ref 67), (1, .int x1), (2, .int x2)]) (st' := [.int x1, .ref 138]) rfl ?_
          refine ev_ldI hr rfl rfl (fun v6 hr => ?_)
          refine ev_seg 1 (k' := 67) (L' := [(0, .ref 67), (1, .int x1), (2, .int x2)]) (st' := [.int v6]) rfl ?_
          exact ev_iret hr rfl rfl rfl
      · skip
        refine ev_seg 3 (k' := 37) (L' := [(0, .ref 67), (1, .int x1), (2, .int x2)]) (st' := [.int x1, .ref 137]) rfl ?_
        refine ev_ldI hr rfl rfl (fun v7 hr => ?_)
        refine ev_seg 1 (k' := 67) (L' := [(0, .ref 67), (1, .int x1), (2, .int x2)]) (st' := [.int v7]) rfl ?_
        exact ev_iret hr rfl rfl rfl
    · skip
      refine ev_seg 1 (k' := 31) (L' := [(0, .ref 67), (1, .int x1), (2, .int x2)]) (st' := [.int (-33)]) rfl ?_
      exact ev_iret hr rfl rfl rfl
  · skip
    refine ev_seg 1 (k' := 26) (L' := [(0, .ref 67), (1, .int x1), (2, .int x2)]) (st' := [.int 0]) rfl ?_
    exact ev_iret hr rfl rfl rfl
set_option maxRecDepth 20000 in
theorem eMo_files (d : Nat) (s : aT) : ∀ r, (wI s 67 0 0 (fun s1 => if gI s1 67 11 = 0 then rI (gI s1 67 13) s1 else rI (-33) s1)) = some r → fMo_files d s = some r := by
  intro r hr
  show ev d q_298 0 [(0, .ref 67)] [] s = some r
  refine ev_seg 2 (k' := 2) (L' := [(0, .ref 67)]) (st' := [.int 0, .ref 67]) rfl ?_
  refine ev_putI (c := 67) hr rfl rfl rfl (fun s1 hr => ?_)
  refine ev_seg 2 (k' := 5) (L' := [(0, .ref 67)]) (st' := [.int (gI s1 67 11)]) rfl ?_
  refine ev_br (P := gI s1 67 11 = 0) (L' := [(0, .ref 67)]) (st' := []) hr rfl rfl rfl (fun hr => ?_) (fun hr => ?_)
  · skip
    refine ev_seg 2 (k' := 10) (L' := [(0, .ref 67)]) (st' := [.int (gI s1 67 13)]) rfl ?_
    exact ev_iret hr rfl rfl rfl
  · skip
    refine ev_seg 2 (k' := 10) (L' := [(0, .ref 67)]) (st' := [.int (-33)]) rfl ?_
    exact ev_iret hr rfl rfl rfl
set_option maxRecDepth 20000 in
theorem eMo_power (d : Nat) (x1 : Int32) (s : aT) : ∀ r, (cG (fMo_within d x1 (-1) 1000 s) (kI fun v2 s1 => if ¬ v2 = 0 then fMo_power_9 (d + 1) x1 0 s1 else fMo_power_9 (d + 1) x1 1 s1)) = some r → fMo_power (d + 1) x1 s = some r := by
  intro r hr
  show ev (d + 1) q_299 0 [(0, .ref 67), (1, .int x1)] [] s = some r
  refine ev_seg 4 (k' := 4) (L' := [(0, .ref 67), (1, .int x1)]) (st' := [.int 1000, .int (-1), .int x1, .ref 67]) rfl ?_
  refine ev_callS (q' := q_192) (x := 192) (vs := [.int x1, .int (-1), .int 1000]) (rest := [.ref 67]) hr rfl rfl rfl rfl rfl rfl rfl rfl rfl rfl (fun rv s1 hq => ev_kI hq (fun v2 e9 hr => ?_))
  subst e9
  refine ev_st (st' := [.int v2, .ref 67]) rfl ?_
  refine ev_br (P := ¬ v2 = 0) (L' := [(0, .ref 67), (1, .int x1)]) (st' := [.ref 67]) hr rfl rfl rfl (fun hr => ?_) (fun hr => ?_)
  · skip
    refine ev_seg 1 (k' := 9) (L' := [(0, .ref 67), (1, .int x1)]) (st' := [.int 0, .ref 67]) rfl ?_
    exact hr
  · skip
    refine ev_seg 2 (k' := 9) (L' := [(0, .ref 67), (1, .int x1)]) (st' := [.int 1, .ref 67]) rfl ?_
    exact hr
set_option maxRecDepth 20000 in
theorem eMo_power_9 (d : Nat) (x1 : Int32) (u0 : Int32) (s : aT) : ∀ r, (cG (fMo_refused d u0 0 s) (kI fun v2 s1 => if ¬ v2 = 0 then rV s1 else wI s1 67 12 x1 (fun s3 => rV s3))) = some r → fMo_power_9 (d + 1) x1 u0 s = some r := by
  intro r hr
  show ev (d + 1) q_299 9 [(0, .ref 67), (1, .int x1)] [.int u0, .ref 67] s = some r
  refine ev_seg 1 (k' := 10) (L' := [(0, .ref 67), (1, .int x1)]) (st' := [.int 0, .int u0, .ref 67]) rfl ?_
  refine ev_callV (q' := q_189) (x := 189) (y := 13) (c := 67) (As := [.int u0, .int 0]) (rest := []) hr rfl rfl rfl rfl rfl rfl rfl rfl rfl rfl rfl rfl (fun rv s1 hq => ev_kI hq (fun v2 e9 hr => ?_))
  subst e9
  refine ev_st (st' := [.int v2]) rfl ?_
  refine ev_br (P := ¬ v2 = 0) (L' := [(0, .ref 67), (1, .int x1)]) (st' := []) hr rfl rfl rfl (fun hr => ?_) (fun hr => ?_)
  · skip
    exact ev_vret hr rfl rfl
  · skip
    refine ev_seg 2 (k' := 14) (L' := [(0, .ref 67), (1, .int x1)]) (st' := [.int x1, .ref 67]) rfl ?_
    refine ev_putI (c := 67) hr rfl rfl rfl (fun s3 hr => ?_)
    exact ev_vret hr rfl rfl
set_option maxRecDepth 20000 in
theorem eMo_start (d : Nat) (s : aT) : ∀ r, (if ¬ gI s 67 11 = 0 then fMo_start_7 (d + 1) 0 s else fMo_start_7 (d + 1) 1 s) = some r → fMo_start (d + 1) s = some r := by
  intro r hr
  show ev (d + 1) q_300 0 [(0, .ref 67)] [] s = some r
  refine ev_seg 3 (k' := 3) (L' := [(0, .ref 67)]) (st' := [.int (gI s 67 11), .ref 67]) rfl ?_
  refine ev_br (P := ¬ gI s 67 11 = 0) (L' := [(0, .ref 67)]) (st' := [.ref 67]) hr rfl rfl rfl (fun hr => ?_) (fun hr => ?_)
  · skip
    refine ev_seg 1 (k' := 7) (L' := [(0, .ref 67)]) (st' := [.int 0, .ref 67]) rfl ?_
    exact hr
  · skip
    refine ev_seg 2 (k' := 7) (L' := [(0, .ref 67)]) (st' := [.int 1, .ref 67]) rfl ?_
    exact hr
set_option maxRecDepth 20000 in
theorem eMo_start_7 (d : Nat) (u0 : Int32) (s : aT) : ∀ r, (cG (fMo_refused d u0 0 s) (kI fun v2 s1 => if v2 = 0 then wZ s1 67 11 0 (fun s3 => rI (gI s3 67 13) s3) else rI 0 s1)) = some r → fMo_start_7 (d + 1) u0 s = some r := by
  intro r hr
  show ev (d + 1) q_300 7 [(0, .ref 67)] [.int u0, .ref 67] s = some r
  refine ev_seg 1 (k' := 8) (L' := [(0, .ref 67)]) (st' := [.int 0, .int u0, .ref 67]) rfl ?_
  refine ev_callV (q' := q_189) (x := 189) (y := 13) (c := 67) (As := [.int u0, .int 0]) (rest := []) hr rfl rfl rfl rfl rfl rfl rfl rfl rfl rfl rfl rfl (fun rv s1 hq => ev_kI hq (fun v2 e9 hr => ?_))
  subst e9
  refine ev_st (st' := [.int v2]) rfl ?_
  refine ev_br (P := v2 = 0) (L' := [(0, .ref 67)]) (st' := []) hr rfl rfl rfl (fun hr => ?_) (fun hr => ?_)
  · skip
    refine ev_seg 2 (k' := 14) (L' := [(0, .ref 67)]) (st' := [.int 0, .ref 67]) rfl ?_
    refine ev_putZ (c := 67) hr rfl rfl rfl (fun s3 hr => ?_)
    refine ev_seg 2 (k' := 17) (L' := [(0, .ref 67)]) (st' := [.int (gI s3 67 13)]) rfl ?_
    exact ev_iret hr rfl rfl rfl
  · skip
    refine ev_seg 1 (k' := 11) (L' := [(0, .ref 67)]) (st' := [.int 0]) rfl ?_
    exact ev_iret hr rfl rfl rfl
