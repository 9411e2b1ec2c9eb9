/-! PURE: faults of a look have a number -/
section
variable {q : kP} {B : Nat → Nat} {n : Nat}
def kEk (e : Nat × Nat) : Prop := 0 < e.1 ∧ e.1 < 30
def kRk (rec : kDr) : Prop := ∀ x p e, rec x p = .error e → kEk e
theorem kVd_ek {fr : Nat} : ∀ f k a u e, kVd B n fr f k a u = .error e → kEk e
  | 0, k, a, u, e, h => by cases h; exact ⟨by show 0 < 2; omega, by show 2 < 30; omega⟩
  | f + 1, k, a, u, e, h => by
    unfold kVd at h
    split at h
    · split at h
      · cases h; exact ⟨by show 0 < 2; omega, by show 2 < 30; omega⟩
      · split at h
        · exact kVd_ek f _ _ _ _ h
        · cases h
    · cases h; exact ⟨by show 0 < 1; omega, by show 1 < 30; omega⟩
theorem kVr_ek {a : Nat} {e : Nat × Nat} (h : kVr B n a = .error e) : kEk e := kVd_ek _ _ _ _ _ h
theorem kSt_ek {p : kB} {e : Nat × Nat} (h : kSt B n p = .error e) : kEk e := by
  unfold kSt at h
  split at h
  · rename_i e1 h1
    cases h
    exact kVr_ek h1
  · split at h
    · cases h; exact ⟨by show 0 < 6; omega, by show 6 < 30; omega⟩
    · split at h
      · cases h
      · cases h; exact ⟨by show 0 < 1; omega, by show 1 < 30; omega⟩
theorem kCh_ek {k code : Nat} (hc : 0 < code ∧ code < 30) {p : kB} {e : Nat × Nat} (h : kCh B n k code p = .error e) : kEk e := by
  unfold kCh at h
  split at h
  · rename_i e1 h1
    cases h
    exact kVr_ek h1
  · split at h
    · cases h; exact hc
    · cases h
theorem kFs_ek {rec : kDr} (hr : kRk rec) {x : Nat} : ∀ k i p e, kFs q rec x k i p = .error e → kEk e
  | 0, i, p, e, h => by cases h
  | k + 1, i, p, e, h => by
    unfold kFs at h
    split at h
    · rename_i e1 h1
      cases h
      exact hr _ _ _ h1
    · exact kFs_ek hr k _ _ _ h
theorem kIm_ek {rec : kDr} (hr : kRk rec) {x : Nat} {p : kB} {e : Nat × Nat} (h : kIm q B n rec x p = .error e) : kEk e := by
  unfold kIm at h
  split at h
  · split at h
    · rename_i e1 h1
      cases h
      exact kSt_ek h1
    · exact hr _ _ _ h
  · exact hr _ _ _ h
theorem kIs2_ek {rec : kDr} (hr : kRk rec) {x : Nat} : ∀ k p e, kIs2 q B n rec x k p = .error e → kEk e
  | 0, p, e, h => by cases h
  | k + 1, p, e, h => by
    unfold kIs2 at h
    split at h
    · rename_i e1 h1
      cases h
      exact kIm_ek hr h1
    · exact kIs2_ek hr k _ _ h
theorem kBl_ek {rec : kDr} (hr : kRk rec) {x z : Nat} : ∀ f cnt p e, kBl q B n rec x z f cnt p = .error e → kEk e
  | 0, cnt, p, e, h => by cases h; exact ⟨by show 0 < 6; omega, by show 6 < 30; omega⟩
  | f + 1, cnt, p, e, h => by
    unfold kBl at h
    split at h
    · rename_i e1 h1
      cases h
      exact kVr_ek h1
    · split at h
      · cases h
      · split at h
        · cases h; exact ⟨by show 0 < 6; omega, by show 6 < 30; omega⟩
        · split at h
          · rename_i e1 h1
            cases h
            unfold kTo at h1
            split at h1
            · exact kVr_ek h1
            · cases h1
          · split at h
            · rename_i e1 h1
              cases h
              exact kIs2_ek hr _ _ _ h1
            · split at h
              · cases h; exact ⟨by show 0 < 6; omega, by show 6 < 30; omega⟩
              · exact kBl_ek hr f _ _ _ h
theorem kDb_ek {rec : kDr} (hr : kRk rec) {x : Nat} {p : kB} {e : Nat × Nat} (h : kDb q B n rec x p = .error e) : kEk e := by
  unfold kDb at h
  split at h
  · cases h
  · split at h
    · split at h
      · split at h
        · cases h
        · cases h; exact ⟨by show 0 < 3; omega, by show 3 < 30; omega⟩
      · cases h; exact ⟨by show 0 < 1; omega, by show 1 < 30; omega⟩
    · split at h
      · split at h
        · rename_i e1 h1
          cases h
          exact kVr_ek h1
        · split at h
          · cases h; exact ⟨by show 0 < 2; omega, by show 2 < 30; omega⟩
          · cases h
      · split at h
        · exact kSt_ek h
        · split at h
          · split at h
            · rename_i e1 h1
              cases h
              exact kCh_ek (by omega) h1
            · exact hr _ _ _ h
          · split at h
            · unfold kPs at h
              split at h
              · cases h
              · cases h; exact ⟨by show 0 < 1; omega, by show 1 < 30; omega⟩
            · split at h
              · split at h
                · rename_i e1 h1
                  cases h
                  exact kCh_ek (by omega) h1
                · cases h
              · split at h
                · exact kFs_ek hr _ _ _ _ h
                · exact kBl_ek hr _ _ _ _ h
theorem kDt_ek : ∀ D, kRk (kDt q B n D)
  | 0 => fun x p e h => by cases h; exact ⟨by show 0 < 7; omega, by show 7 < 30; omega⟩
  | D + 1 => fun x p e h => by
    unfold kDt at h
    split at h
    · exact kDb_ek (kDt_ek D) h
    · cases h; exact ⟨by show 0 < 8; omega, by show 8 < 30; omega⟩
theorem kLw_ek {x : Nat} : ∀ f z p e, kLw q B n x f z p = .error e → kEk e
  | 0, z, p, e, h => by cases h
  | f + 1, z, p, e, h => by
    unfold kLw at h
    split at h
    · rename_i e1 h1
      cases h
      exact kDt_ek 32 _ _ _ h1
    · split at h
      · cases h
      · split at h
        · exact kLw_ek f _ _ _ h
        · cases h
theorem kLk_ek {x : Nat} {e : Nat × Nat} (h : kLk q B n x = .error e) : kEk e := by
  unfold kLk at h
  split at h
  · cases h
  · exact kLw_ek _ _ _ _ h
end
/-! a file of rows is packed: the lake -/
theorem kVu_le : ∀ k u, (kVu k u).length ≤ k
  | 0, _ => Nat.le_refl _
  | k + 1, u => by
    unfold kVu
    split
    · show 1 ≤ k + 1; omega
    · rw [List.length_cons]; have := kVu_le k (u / 128); omega
theorem kVb_10 (v : Int64) : (kVb v).length ≤ 10 := kVu_le 10 _
/-- the bytes of a file of rows -/
def yPr (k : Nat) (C : List Nat) : List Nat := List.replicate 11 0 ++ (kVb (Int64.ofNat k) ++ (kVb (Int64.ofNat C.length) ++ (C ++ List.replicate 8 0)))
theorem yPr_len {k : Nat} {C : List Nat} : (yPr k C).length = yWa k C.length := by
  unfold yPr yWa
  simp only [List.length_append, List.length_replicate]
  omega
theorem yPr_pk {x v b w k : Nat} {C : List Nat} : yPk (x, v, b, w, k + 1, C) = yPr k C := by
  unfold yPk
  rw [if_neg (by show ¬ k + 1 = 0; omega)]
  rfl
theorem kBt_rep {k : Nat} : kBt (List.replicate k 0) := fun y hy => by rw [List.eq_of_mem_replicate hy]; omega
theorem yPr_bt {k : Nat} {C : List Nat} (h : kBt C) : kBt (yPr k C) := kBt_a kBt_rep (kBt_a (kBt_vb _) (kBt_a (kBt_vb _) (kBt_a h kBt_rep)))
section
variable {c : Nat} {L : List Nat} {t : aT}
theorem Ob_zeF4 (d : Nat) (hc : isB c) {n : Nat} (hn : n ≤ 100000) : ∀ k z L v, z + k = n → 1 ≤ k → L.length ≤ alen (c + 1) → alen (c + 1) < L.length + k → ∃ L', fBy_putZeros_4 (d + 1) c (nI n) v (nI z) (oB c L t) = rI 0 (oB c L' t) := by
  intro k
  induction k with
  | zero => intro z L v _ h; omega
  | succ k ih =>
    intro z L v hz hk hl hq
    have hnl : ¬ nI n ≤ nI z := by rw [nI_leE (by omega) (by omega)]; omega
    by_cases hf : L.length < alen (c + 1)
    · obtain ⟨L', e⟩ := ih (z + 1) (L ++ [0 % 256]) 1 (by omega) (by omega) (by rw [List.length_append]; show L.length + 1 ≤ _; omega) (by rw [List.length_append]; show _ < L.length + 1 + k; omega)
      refine ⟨L', eBy_putZeros_4 d c _ _ _ _ hc _ ?_⟩
      rw [if_neg hnl, show (0 : Int32) = nI 0 from rfl, Ob_pu d hc hf, cG_I, nI_add1, e]
      rfl
    · have hput := Ob_putF (t := t) d hc (x := 0) (L := L) (by omega)
      by_cases h0 : k = 0
      · refine ⟨L, eBy_putZeros_4 d c _ _ _ _ hc _ ?_⟩
        rw [if_neg hnl, hput, cG_I, nI_add1]
        refine eBy_putZeros_4 d c _ _ _ _ hc _ ?_
        rw [if_pos (show nI n ≤ nI (z + 1) by rw [nI_leE (by omega) (by omega)]; omega), rZ0]
        rfl
      · obtain ⟨L', e⟩ := ih (z + 1) L 0 (by omega) (by omega) hl (by omega)
        refine ⟨L', eBy_putZeros_4 d c _ _ _ _ hc _ ?_⟩
        rw [if_neg hnl, hput, cG_I, nI_add1, e]
        rfl
theorem Ob_zeF {d : Nat} (hd : 1 ≤ d) (hc : isB c) {k : Nat} (hk : k ≤ 100000) (h1 : 1 ≤ k) (hl : L.length ≤ alen (c + 1)) (hq : alen (c + 1) < L.length + k) : ∃ L', fBy_putZeros d c (nI k) (oB c L t) = rI 0 (oB c L' t) := by
  obtain ⟨d, rfl⟩ : ∃ d', d = d' + 1 := ⟨d - 1, by omega⟩
  obtain ⟨L', e⟩ := Ob_zeF4 (t := t) d hc hk k 0 L 1 (by omega) h1 hl hq
  exact ⟨L', eBy_putZeros d c _ _ hc _ e⟩
theorem Lk_pack {b2 : Nat} (hb : b2 = 47 ∨ b2 = 9) {D : List Nat} (hD : lBy b2 D t) (hl : D.length ≤ 4096) {k : Nat} (hk : k < 1000000) (d : Nat) : if yWa k D.length ≤ 4096 then fLk_pack (d + 7) (nI k) b2 t = rI 1 (oB 11 (yPr k D) t) else ∃ L', fLk_pack (d + 7) (nI k) b2 t = rI 0 (oB 11 L' t) := by
  have hB : isB 11 := by unfold isB; decide
  have hB2 : isB b2 := by unfold isB; rcases hb with rfl | rfl <;> decide
  have ha : aSh0 (b2 + 1) = some (.inl (0, alen (b2 + 1))) := by rcases hb with rfl | rfl <;> rfl
  have ha4 : alen (b2 + 1) = 4096 := by rcases hb with rfl | rfl <;> rfl
  have a12 : alen (11 + 1) = 4096 := rfl
  have v1 := kVb_10 (Int64.ofNat k)
  have v2 := kVb_10 (Int64.ofNat D.length)
  have hn : ∀ L : List Nat, gI (oB 11 L t) b2 1 = nI D.length := fun L => by rw [oB_o (by omega) (by omega)]; exact hD.1
  have z1 := Ob_ze (L := []) (t := t) (d := d + 6) (by omega) hB (k := 11) (by omega) (by show 0 + 11 ≤ 4096; omega)
  have z2 := Ob_vi (L := [] ++ List.replicate 11 0) (t := t) (n := d + 6) (by omega) hB (y := Int64.ofNat k) (by show 11 + _ ≤ 4096; omega)
  have z3 := Ob_vi (L := [] ++ List.replicate 11 0 ++ kVb (Int64.ofNat k)) (t := t) (n := d + 6) (by omega) hB (y := Int64.ofNat D.length) (by rw [List.length_append]; show 11 + _ + _ ≤ 4096; omega)
  have len3 : ([] ++ List.replicate 11 0 ++ kVb (Int64.ofNat k) ++ kVb (Int64.ofNat D.length)).length = 11 + (kVb (Int64.ofNat k)).length + (kVb (Int64.ofNat D.length)).length := by
    simp only [List.length_append, List.length_replicate, List.length_nil]
  have go : ∀ r, cG (fBy_putRow (d + 6) 11 (b2 + 1) 0 (nI D.length) (oB 11 ([] ++ List.replicate 11 0 ++ kVb (Int64.ofNat k) ++ kVb (Int64.ofNat D.length)) t)) (kI fun v9 s8 => if v9 = 0 then rI 0 s8 else cG (fBy_putZeros (d + 6) 11 8 s8) (kI fun v11 s10 => if v11 = 0 then rI 0 s10 else rI 1 s10)) = some r → fLk_pack (d + 7) (nI k) b2 t = some r := fun r hr => by
    refine eLk_pack (d + 6) _ _ _ hB2 _ ?_
    rw [wI_eq, oB_nil, show (11 : Int32) = nI 11 from rfl, z1, cG_I, if_neg (by decide), nI_long (by omega), z2, cG_I, if_neg (by decide), hn, nI_long (by omega), z3, cG_I, if_neg (by decide), hn]
    exact hr
  have hwa : yWa k D.length = 19 + (kVb (Int64.ofNat k)).length + (kVb (Int64.ofNat D.length)).length + D.length := rfl
  have hA : ∀ L : List Nat, ∀ i, i < D.length → gI (oB 11 L t) (b2 + 1) (0 + i) = mI (D.getD i 0) := fun L i hi => by rw [oB_o (by omega) (by omega), Nat.zero_add]; exact hD.2.1 i hi
  by_cases hfit : 11 + (kVb (Int64.ofNat k)).length + (kVb (Int64.ofNat D.length)).length + D.length ≤ 4096
  · have z4 := Ob_row (L := [] ++ List.replicate 11 0 ++ kVb (Int64.ofNat k) ++ kVb (Int64.ofNat D.length)) (M := D) (t := t) d hB (a := b2 + 1) (st := 0) (by rw [len3, a12]; omega) ha (by rw [ha4]; omega) (by rw [ha4]; omega) (by omega) (hA _) (fun i hi => kBt_gd hD.2.2.1 i)
    have z4 : fBy_putRow (d + 6) 11 (b2 + 1) 0 (nI D.length) (oB 11 ([] ++ List.replicate 11 0 ++ kVb (Int64.ofNat k) ++ kVb (Int64.ofNat D.length)) t) = _ := z4
    have len4 : ([] ++ List.replicate 11 0 ++ kVb (Int64.ofNat k) ++ kVb (Int64.ofNat D.length) ++ D).length = 11 + (kVb (Int64.ofNat k)).length + (kVb (Int64.ofNat D.length)).length + D.length := by rw [List.length_append, len3]
    by_cases h8 : yWa k D.length ≤ 4096
    · rw [if_pos h8]
      have z5 := Ob_ze (L := [] ++ List.replicate 11 0 ++ kVb (Int64.ofNat k) ++ kVb (Int64.ofNat D.length) ++ D) (t := t) (d := d + 6) (by omega) hB (k := 8) (by omega) (by rw [len4, a12]; omega)
      refine go _ ?_
      rw [z4, cG_I, if_neg (by decide), show (8 : Int32) = nI 8 from rfl, z5, cG_I, if_neg (by decide)]
      have ee : [] ++ List.replicate 11 0 ++ kVb (Int64.ofNat k) ++ kVb (Int64.ofNat D.length) ++ D ++ List.replicate 8 0 = yPr k D := by
        unfold yPr
        simp only [List.append_assoc, List.nil_append]
      rw [ee]
      rfl
    · rw [if_neg h8]
      obtain ⟨L', z5⟩ := Ob_zeF (L := [] ++ List.replicate 11 0 ++ kVb (Int64.ofNat k) ++ kVb (Int64.ofNat D.length) ++ D) (t := t) (d := d + 6) (by omega) hB (k := 8) (by omega) (by omega) (by rw [len4, a12]; omega) (by rw [len4, a12]; omega)
      refine ⟨L', go _ ?_⟩
      rw [z4, cG_I, if_neg (by decide), show (8 : Int32) = nI 8 from rfl, z5, cG_I, if_pos rfl]
      rfl
  · rw [if_neg (by omega)]
    have z4 := Ob_rowF (L := [] ++ List.replicate 11 0 ++ kVb (Int64.ofNat k) ++ kVb (Int64.ofNat D.length)) (t := t) d hB (a := b2 + 1) (st := 0) (k := D.length) (by rw [len3, a12]; omega) (by rw [len3, a12]; omega) ha (by rw [ha4]; omega) (by rw [ha4]; omega)
    have z4 : fBy_putRow (d + 6) 11 (b2 + 1) 0 (nI D.length) (oB 11 ([] ++ List.replicate 11 0 ++ kVb (Int64.ofNat k) ++ kVb (Int64.ofNat D.length)) t) = _ := z4
    refine ⟨[] ++ List.replicate 11 0 ++ kVb (Int64.ofNat k) ++ kVb (Int64.ofNat D.length), go _ ?_⟩
    rw [z4, cG_I, if_pos rfl]
    rfl
end
