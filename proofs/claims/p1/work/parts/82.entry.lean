/-! THE ENTRY: what the start gives, in the rows' own form -/
def fN : List Cond := flatC (Jvm.Cond.and given_1 narrow_1)
def pS : List Nat := [59, 67, 76, 84, 93, 104, 111, 119, 128, 138, 147, 154, 163, 171, 181, 185, 193, 202, 212, 220, 228, 239, 250, 260, 272, 284, 297, 309, 321, 333, 349, 364, 377, 421, 453, 481, 509, 533, 570, 595, 620, 646, 664, 673, 685, 694, 704, 714, 726, 734, 743, 753, 764, 773, 783, 791, 801, 812, 822, 831, 842, 851, 860, 872, 884, 895, 923, 950, 955, 960, 965, 970, 975, 980, 993, 1020, 1050, 1081, 1094, 1100]
def pT : List Nat := [624, 677, 678, 715, 716, 717, 718, 719, 720, 721, 722, 723, 724, 725, 726, 764, 774, 779, 784, 809, 815, 824, 829, 920, 925, 926, 936, 937, 938, 943, 948, 953, 1015, 1062, 1089, 1234, 1336, 1500, 1525, 1540, 1548, 1556, 1882, 1900, 1977, 1978, 1979, 1994, 1995, 1996, 1997, 1998, 2019, 2024, 2025, 2026, 2027, 2028, 2029, 2030, 2035, 2040, 2046, 2047, 2056, 2069, 2070, 2075, 2076, 2077, 2078, 2079, 2088, 2089, 2090, 2095, 2096, 2097, 2098, 2183]
def sQ (j : Nat) : String × Nat × String := sW.getD j ("", 0, "")
def tmS (j : Nat) : Term := .string (sQ j).1 (sQ j).2.1
theorem nS_ex : ∀ j, j < 80 → fN[pS.getD j 0]? = some (.exactly (tmS j) "java/lang/String") := by decide +kernel
theorem nS_co : ∀ j, j < 80 → fN[pS.getD j 0 + 1]? = some (.eq (.field (tmS j) "java/lang/String" "coder" "B") (.int 0)) := by decide +kernel
theorem nS_ar : ∀ j, j < 80 → fN[pS.getD j 0 + 2]? = some (.arrayOf (.field (tmS j) "java/lang/String" "value" "[B") .byte) := by decide +kernel
theorem nS_le : ∀ j, j < 80 → fN[pS.getD j 0 + 3]? = some (.eq (.length (.field (tmS j) "java/lang/String" "value" "[B")) (.int (Int32.ofNat (bS.getD j []).length))) := by decide +kernel
theorem nS_el : ∀ j, j < 80 → ∀ i, i < (bS.getD j []).length → fN[pS.getD j 0 + 4 + i]? = some (.eq (.elem (.field (tmS j) "java/lang/String" "value" "[B") (.int (Int32.ofNat i))) (.int ((bS.getD j []).getD i 0))) := by decide +kernel
theorem nS_tx : ∀ j, j < 80 → tables_1[pT.getD j 0]? = some (.stringRef (sQ j).1 (sQ j).2.1 (sQ j).2.2) := by decide +kernel
theorem sQ_of {j : Nat} {q : String × Nat × String} (h : sW[j]? = some q) : sQ j = q := by unfold sQ; rw [List.getD_eq_getElem?_getD, h]; rfl
theorem zRef {C n d : String} {A : Nat → Prop} {s : State} {args : Array Value} (hl : (Cond.laysStatic C n d).before args s = true) (hini : (Cond.initialized C).before args s = true) (hr : (Cond.isRef (.static C n d)).before args s = true) (hA : ∀ a : Nat, a < s.heap.size → ¬ A a) : ∃ v : Value, (v = .null ∨ ∃ t, v = .ref t) ∧ va_Z C n d v A s s.heap := by
  cases hv : (Term.static C n d).eval args s none [] s with
  | none => simp [Cond.before, Cond.holds, Cond.value, hv] at hr
  | some w =>
    refine ⟨w, ?_, va_Zof hl hini hv hA⟩
    cases w with
    | null => exact Or.inl rfl
    | ref t => exact Or.inr ⟨t, rfl⟩
    | _ => simp [Cond.before, Cond.holds, Cond.value, hv] at hr
theorem xT_strings {args : Array Value} {s : State} {A : Nat → Prop} (hs : ∀ c ∈ fN, c.before args s = true) (hA : ∀ a : Nat, a < s.heap.size → ¬ A a) : ∃ kS : Nat → Nat, (∀ j : Nat, j < 80 → va_O tSt (kS j) A s s.heap ∧ va_OF tSt "coder" "B" (.int 0) (kS j) A s s.heap ∧ va_OF tSt "value" "[B" (.ref (kS (80 + j))) (kS j) A s s.heap ∧ va_T .byte (kS (80 + j)) (bS.getD j []).length (fun i => .int ((bS.getD j []).getD i 0)) A s s.heap) ∧ ∀ j : Nat, j < 80 → (tmS j).eval args s none [] s = some (.ref (kS j)) := by
  have h0 : ∀ j : Nat, ∃ q : Nat × Nat, j < 80 → (tmS j).eval args s none [] s = some (.ref q.1) ∧ va_O tSt q.1 A s s.heap ∧ va_OF tSt "coder" "B" (.int 0) q.1 A s s.heap ∧ va_OF tSt "value" "[B" (.ref q.2) q.1 A s s.heap ∧ va_T .byte q.2 (bS.getD j []).length (fun i => .int ((bS.getD j []).getD i 0)) A s s.heap := by
    intro j
    by_cases hj : j < 80
    · obtain ⟨a, c, cA, kA, q1, q2, q3, q4, q5, q6, -⟩ := Cond.exactly_spec (args := args) (first := s) (o := none) (s := s) (idx := []) (t := tmS j) (cls := "java/lang/String") (hs _ (List.mem_of_getElem? (nS_ex j hj)))
      obtain ⟨t, ht, hT⟩ := va_Tof (N := (bS.getD j []).length) (f := fun i => .int ((bS.getD j []).getD i 0)) (A := A) (Nat.lt_trans (sL_lt j hj) (by decide)) (hs _ (List.mem_of_getElem? (nS_ar j hj))) (va_eqt (hs _ (List.mem_of_getElem? (nS_le j hj)))) (fun i hi => va_eqt (hs _ (List.mem_of_getElem? (nS_el j hj i hi)))) hA
      exact ⟨(a, t), fun _ => ⟨q1, ⟨cA, q3, q5, by rw [q6]; exact q2, hA a (Array.getElem?_eq_some_iff.mp q3).1⟩, vk_OFof q1 (va_eqt (hs _ (List.mem_of_getElem? (nS_co j hj)))) hA, vk_OFof q1 ht hA, hT⟩⟩
    · exact ⟨(0, 0), fun h => absurd h hj⟩
  obtain ⟨ad, had⟩ := Classical.axiomOfChoice h0
  refine ⟨fun n => if n < 80 then (ad n).1 else (ad (n - 80)).2, fun j hj => ?_, fun j hj => ?_⟩
  · dsimp only
    rw [if_pos hj, if_neg (by omega : ¬ 80 + j < 80), show 80 + j - 80 = j by omega]
    exact (had j hj).2
  · dsimp only
    rw [if_pos hj]
    exact (had j hj).1
theorem arr_of {args : Array Value} {s : State} {ty : FieldType} (h : (Cond.arrayClass ty).before args s = true) (hp : ∀ C, ty ≠ .object C) : ∃ cA : ClassId, ArrOfT s cA ty ∧ va_RA s cA ty := by
  obtain ⟨cA, k, comp, h1, h2, h3⟩ := Cond.arrayClass_spec h
  refine ⟨cA, fun n z => ⟨fun k h => (by cases h), k, h2, comp, h3⟩, ?_⟩
  cases ty <;> first | exact h1 | exact absurd rfl (hp _)
set_option maxHeartbeats 4000000 in
set_option maxRecDepth 100000 in
theorem lB_entry {p : Program} {l : Launch} {s : State} {m : MethodId} {meth : Method} {c : Code} {b L : Nat} {xs : Nat → Int32} (hfl : l.flags = flags0) (C0 : lw_At p s m meth c b L xs) : ∃ (D : va_G) (kA : Nat → ClassId) (kS : Nat → Nat), lB p l s m c b L xs D kA kS (fun q : Nat => s.heap.size ≤ q) := by
  obtain ⟨hx, hb, hr, hml, hown, hts, hX, hbl, hlocks, hgv⟩ := C0
  have hg : ∀ w ∈ gW, w.before #[Value.ref b] s = true := fun w hw => hts w (List.mem_filter.mp hw).1
  have hts0 : ∀ w ∈ tables_1, w.before #[Value.ref b] s = true := fun w hw => hts w (List.mem_append_right _ hw)
  have hs : ∀ c ∈ fN, c.before #[Value.ref b] s = true := flat_of_before _ hgv
  have hA0 : ∀ a : Nat, a < s.heap.size → ¬ (fun q : Nat => s.heap.size ≤ q) a := fun a h => Nat.not_le.mpr h
  obtain ⟨c0, i0, hk0⟩ := u_known (C := R_By) (T := F_By) (N := 2) (n := 2) hg i_By (hg _ mw_37)
  obtain ⟨c1, i1, hk1⟩ := u_known (C := R_Tx) (T := F_Tx) (N := 15) (n := 15) hg i_Tx (hg _ mw_66)
  obtain ⟨c2, i2, hk2⟩ := u_known (C := R_Sc) (T := F_Sc) (N := 18) (n := 18) hg i_Sc (hg _ mw_141)
  obtain ⟨c3, i3, hk3⟩ := u_known (C := R_Sr) (T := F_Sr) (N := 6) (n := 6) hg i_Sr (hg _ mw_248)
  obtain ⟨c4, i4, hk4⟩ := u_known (C := R_Df) (T := F_Df) (N := 5) (n := 5) hg i_Df (hg _ mw_254)
  obtain ⟨c5, i5, hk5⟩ := u_known (C := R_Pf) (T := F_Pf) (N := 5) (n := 5) hg i_Pf (hg _ mw_297)
  obtain ⟨c6, i6, hk6⟩ := u_known (C := R_Lo) (T := F_Lo) (N := 10) (n := 10) hg i_Lo (hg _ mw_321)
  obtain ⟨c7, i7, hk7⟩ := u_known (C := R_Ma) (T := F_Ma) (N := 7) (n := 7) hg i_Ma (hg _ mw_364)
  obtain ⟨c8, i8, hk8⟩ := u_known (C := R_Te) (T := F_Te) (N := 7) (n := 7) hg i_Te (hg _ mw_392)
  obtain ⟨c9, i9, hk9⟩ := u_known (C := R_Dk) (T := F_Dk) (N := 2) (n := 2) hg i_Dk (hg _ mw_424)
  obtain ⟨c10, i10, hk10⟩ := u_known (C := R_Fl) (T := F_Fl) (N := 9) (n := 9) hg i_Fl (hg _ mw_441)
  obtain ⟨c11, i11, hk11⟩ := u_known (C := R_Lk) (T := F_Lk) (N := 17) (n := 17) hg i_Lk (hg _ mw_29)
  obtain ⟨c12, i12, hk12⟩ := u_known (C := R_Mt) (T := F_Mt) (N := 35) (n := 35) hg i_Mt (hg _ mw_1583)
  obtain ⟨c13, i13, hk13⟩ := u_known (C := R_Mo) (T := F_Mo) (N := 35) (n := 35) hg i_Mo (hg _ mw_1577)
  obtain ⟨a0, ha0, hr0⟩ := arr_of (hg _ mw_64) (fun C h => by cases h)
  obtain ⟨a1, ha1, hr1⟩ := arr_of (hg _ mw_138) (fun C h => by cases h)
  obtain ⟨a2, ha2, hr2⟩ := arr_of (hg _ mw_139) (fun C h => by cases h)
  obtain ⟨a3, ha3, hr3⟩ := arr_of (hg _ mw_482) (fun C h => by cases h)
  have hK : va_K ((fun k => [c0, c1, c2, c3, c4, c5, c6, c7, c8, c9, c10, c11, c12, c13].getD k c0), (fun k => [i0, i1, i2, i3, i4, i5, i6, i7, i8, i9, i10, i11, i12, i13].getD k i0)) vC (tK (fun k => [a0, a1, a2, a3].getD k a0)) s := by
    refine ⟨fun k q hq => ?_, fun k q hq => ?_⟩
    · match k, hq with
      | 0, hq => cases hq; exact hk0
      | 1, hq => cases hq; exact hk1
      | 2, hq => cases hq; exact hk2
      | 3, hq => cases hq; exact hk3
      | 4, hq => cases hq; exact hk4
      | 5, hq => cases hq; exact hk5
      | 6, hq => cases hq; exact hk6
      | 7, hq => cases hq; exact hk7
      | 8, hq => cases hq; exact hk8
      | 9, hq => cases hq; exact hk9
      | 10, hq => cases hq; exact hk10
      | 11, hq => cases hq; exact hk11
      | 12, hq => cases hq; exact hk12
      | 13, hq => cases hq; exact hk13
      | k + 14, hq => simp [vC] at hq
    · match k, hq with
      | 0, hq => cases hq; exact ⟨ha0, hr0⟩
      | 1, hq => cases hq; exact ⟨ha1, hr1⟩
      | 2, hq => cases hq; exact ⟨ha2, hr2⟩
      | 3, hq => cases hq; exact ⟨ha3, hr3⟩
      | k + 4, hq => simp at hq
  have hN : xN s := fun w hw => by
    have ok := (List.mem_filter.mp hw).2
    have h1 := hts w (List.mem_filter.mp hw).1
    cases w <;> first | exact va_Nw.of rfl h1 | (cases ok; done)
  have hno : xNo s := va_Nc.of (hs _ (List.mem_of_getElem? (i := 58) (by decide +kernel)))
  obtain ⟨kS, hk1, hk2⟩ := xT_strings hs hA0
  have hC : xC kS (fun q : Nat => s.heap.size ≤ q) s s.heap := by
    refine ⟨⟨xz.of (hts0 _ (List.mem_of_getElem? (i := 1001) (by decide +kernel))) (hs _ (List.mem_of_getElem? (i := 9) (by decide +kernel))) hA0, ?_, ?_, hk1⟩, xz.of (hts0 _ (List.mem_of_getElem? (i := 1003) (by decide +kernel))) (hs _ (List.mem_of_getElem? (i := 10) (by decide +kernel))) hA0, fun j q hq => ?_⟩
    · exact va_Zof (hts0 _ (List.mem_of_getElem? (i := 638) (by decide +kernel))) (hts0 _ (List.mem_of_getElem? (i := 21) (by decide +kernel))) (va_eqi (hs _ (List.mem_of_getElem? (i := 4) (by decide +kernel)))) hA0
    · exact zRef (hts0 _ (List.mem_of_getElem? (i := 654) (by decide +kernel))) (hts0 _ (List.mem_of_getElem? (i := 23) (by decide +kernel))) (hs _ (List.mem_of_getElem? (i := 5) (by decide +kernel))) hA0
    · have hj : j < 80 := (List.getElem?_eq_some_iff.mp hq).1
      have e1 := sQ_of hq
      have h1 := hts0 _ (List.mem_of_getElem? (nS_tx j hj))
      have h2 := hk2 j hj
      unfold tmS at h2
      rw [e1] at h1 h2
      exact vk_R.of h1 h2
  exact ⟨_, _, kS, hfl, hx, hb, hml, hown, hg, hK, hN, hno, hC, hX, hbl, fun _ h => h, hA0 b hbl⟩
