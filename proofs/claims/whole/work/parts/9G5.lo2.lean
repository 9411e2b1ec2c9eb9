/-! the lake's Looker: what is no list -/
/-- room for all that may be put -/
def lKo (n : Nat) (p : kB) : Prop := p.1 ≤ n ∧ p.2.2.2.length + n ≤ alen 48 + p.1 ∧ kBt p.2.2.2 ∧ p.2.1 ≤ 2000 ∧ p.2.2.1 ≤ 4000
theorem lKo_go {n : Nat} {p p' : kB} (h : lKo n p) (g : kGo n p p') : lKo n p' := by
  obtain ⟨h1, h2, h3, h4, h5⟩ := h
  obtain ⟨g1, g2, g3, g4, g5, g6, g7, g8, g9, g10⟩ := g
  exact ⟨g2, by omega, g10 h3, g8 h4, g9 h5⟩
theorem isB_47 : isB 47 := by unfold isB; decide
section
variable {A n : Nat} {B : Nat → Nat} {t : aT} {p : kB} {y : Int64}
theorem oK_put (d : Nat) {x : Nat} (hx : x < 256) (hl : p.2.2.2.length < alen 48) : fBy_put d 47 (nI x) (oK p y t) = rI 1 (oK (p.1, p.2.1, p.2.2.1, p.2.2.2 ++ [x]) y t) := Ob_put d isB_47 hx hl
theorem oK_pv {d : Nat} (hd : 1 ≤ d) {v : Int64} (hl : p.2.2.2.length + (kVb v).length ≤ alen 48) : fBy_putVarint d 47 v (oK p y t) = rI 1 (oK (p.1, p.2.1, p.2.2.1, p.2.2.2 ++ kVb v) y t) := Ob_vi hd isB_47 hl
theorem kTp_g {a k i : Nat} (hi : i < k) : (kTp B a k).getD i 0 = B (a + i) := by
  unfold kTp
  simp [List.getD, hi]
theorem oK_row (hin : lIn A B n t) {d : Nat} (hd : 6 ≤ d) {a k : Nat} (hk : a + k ≤ n) (hl : p.2.2.2.length + k ≤ alen 48) : fBy_putRow d 47 A (nI a) (nI k) (oK p y t) = rI 1 (oK (p.1, p.2.1, p.2.2.1, p.2.2.2 ++ kTp B a k) y t) := by
  obtain ⟨d, rfl⟩ : ∃ d', d = d' + 6 := ⟨d - 6, by omega⟩
  have h := Ob_row (c := 47) (L := p.2.2.2) (M := kTp B a k) (t := kO p y t) d isB_47 (a := A) (st := a) (by rw [kTp_len]; exact hl) hin.1.2.2 (by rw [kTp_len]; have := hin.2.2.1.1; omega) hin.2.2.1.2 (by have := hin.1.2.1; omega) (fun i hi => by
    rw [kTp_len] at hi
    rw [kTp_g hi]
    exact oK_b (p := p) (y := y) hin (by omega)) (fun i hi => by
    rw [kTp_len] at hi
    rw [kTp_g hi]
    exact hin.2.2.2.2 _)
  rw [kTp_len] at h
  exact h
theorem Lo_many (hin : lIn A B n t) (ho : lKo n p) {d : Nat} (hd : 7 ≤ d) {v : Int64} (hv : 0 ≤ v.toInt) : lKr t (fLo_manyBytes d v (oK p y t)) (if v.toInt ≤ (n - p.1 : Nat) then .ok (p.1 + v.toInt.toNat, p.2.1, p.2.2.1, p.2.2.2 ++ kTp B p.1 v.toInt.toNat) else .error (1, n)) := by
  obtain ⟨d, rfl⟩ : ∃ d', d = d' + 1 := ⟨d - 1, by omega⟩
  obtain ⟨o1, o2, o3, o4, o5⟩ := ho
  have hA := hin.2.2.1
  have e1 : (nI n - nI p.1).toInt64.toInt = (n - p.1 : Nat) := by
    rw [nI_sub o1, nI_long (by omega), Int64.toInt_ofNat_of_lt (by omega)]
  have hcond : (aLcmp v ((gI (oK p y t) 46 7) - (gI (oK p y t) 46 1)).toInt64 ≤ 0) = (v.toInt ≤ (n - p.1 : Nat)) := by
    rw [aLcmp_le, oK_end hin, oK_at, e1]
  by_cases h : v.toInt ≤ (n - p.1 : Nat)
  · rw [if_pos h]
    refine ⟨y, eLo_manyBytes d _ _ _ ?_⟩
    have e2 : v.toInt32 = nI v.toInt.toNat := v_nat hv (by omega)
    have hrow := oK_row (p := (p.1 + v.toInt.toNat, p.2)) (y := y) hin (d := d) (by omega) (a := p.1) (k := v.toInt.toNat) (by omega) (by show p.2.2.2.length + _ ≤ _; omega)
    rw [if_pos (by rw [hcond]; exact h), wI_eq, oK_at, e2, nI_addE, oK_w1, oK_m hin, hrow, cG_I]
    rfl
  · rw [if_neg h]
    refine lKf_cg (K := fun v5 s4 => rZ v5 s4) (Lo_fail d (p := p) (y := y)) (fun r hr => eLo_manyBytes d _ _ _ ?_) (fun _ => rfl)
    rw [if_neg (by rw [hcond]; exact h), oK_end hin]
    exact hr
theorem Lo_str (hin : lIn A B n t) (ho : lKo n p) {d : Nat} (hd : 8 ≤ d) : lKr t (fLo_countedBytes d (oK p y t)) (kSt B n p) := by
  obtain ⟨d, rfl⟩ : ∃ d', d = d' + 1 := ⟨d - 1, by omega⟩
  have hvi := Lo_vi (y := y) hin (d := d) (by omega) ho.1
  unfold kSt
  cases hk : kVr B n p.1 with
  | error e =>
    rw [hk] at hvi
    exact lKf_cg hvi (fun r hr => eLo_countedBytes d _ _ hr) (fun _ => rfl)
  | ok va =>
    obtain ⟨v, a⟩ := va
    rw [hk] at hvi
    have hvi : fLo_varint d (oK p y t) = rI 1 (oK (a, p.2) v t) := hvi
    have hl := kVr_len hin.2.2.2.2 hk
    have ho2 := ho.2.1
    simp only
    by_cases hneg : v.toInt < 0
    · rw [if_pos hneg]
      refine lKf_cg (K := fun v8 s7 => rZ v8 s7) (Lo_fail d (p := (a, p.2)) (y := v)) (fun r hr => eLo_countedBytes d _ _ ?_) (fun _ => rfl)
      rw [hvi, cG_I, if_pos (by decide), oK_y, if_neg (by rw [aLcmp_ge]; show ¬ (0 : Int) ≤ _; omega), oK_at]
      exact hr
    · rw [if_neg hneg]
      have hput := oK_pv (p := (a, p.2)) (y := v) (t := t) (d := d) (by omega) (v := v) (by show p.2.2.2.length + _ ≤ _; omega)
      have hmb := Lo_many (p := (a, p.2.1, p.2.2.1, p.2.2.2 ++ kVb v)) (y := v) hin ⟨hl.2.2, by show (p.2.2.2 ++ kVb v).length + n ≤ _ + a; rw [List.length_append]; omega, kBt_a ho.2.2.1 (kBt_vb v), ho.2.2.2.1, ho.2.2.2.2⟩ (d := d) (by omega) (v := v) (by omega)
      have go : ∀ r, cG (fLo_manyBytes d v (oK (a, p.2.1, p.2.2.1, p.2.2.2 ++ kVb v) v t)) (kI fun v6 s5 => if v6 = 0 then rI 0 s5 else rI 1 s5) = some r → fLo_countedBytes (d + 1) (oK p y t) = some r := by
        intro r hr
        refine eLo_countedBytes d _ _ ?_
        rw [hvi, cG_I, if_pos (by decide), oK_y, if_pos (by rw [aLcmp_ge]; show (0 : Int) ≤ _; omega), hput, cG_I, if_neg (by decide)]
        exact hr
      show lKr t _ (if v.toInt ≤ (n - a : Nat) then .ok (a + v.toInt.toNat, p.2.1, p.2.2.1, p.2.2.2 ++ (kVb v ++ kTp B a v.toInt.toNat)) else .error (1, n))
      by_cases hle : v.toInt ≤ (n - a : Nat)
      · rw [if_pos hle] at hmb ⊢
        obtain ⟨y', hmb⟩ := hmb
        refine ⟨y', go _ ?_⟩
        rw [hmb, cG_I, if_neg (by decide), ← List.append_assoc]
        rfl
      · rw [if_neg hle] at hmb ⊢
        exact lKf_cg hmb go (fun _ => rfl)
theorem Lo_choice (hin : lIn A B n t) (ho : lKo n p) {d : Nat} (hd : 2 ≤ d) {code k : Nat} (hk : k ≤ 100) : match kCh B n k code p with
    | .ok (p', i) => fLo_choice d (nI code) (nI k) (oK p y t) = rI 1 (oK p' (Int64.ofNat i) t)
    | .error e => lKf t (fLo_choice d (nI code) (nI k) (oK p y t)) e.1 e.2 := by
  obtain ⟨d, rfl⟩ : ∃ d', d = d' + 1 := ⟨d - 1, by omega⟩
  have hvi := Lo_vi (y := y) hin (d := d) (by omega) ho.1
  unfold kCh
  cases hkv : kVr B n p.1 with
  | error e =>
    rw [hkv] at hvi
    exact lKf_cg hvi (fun r hr => eLo_choice d _ _ _ _ hr) (fun _ => rfl)
  | ok va =>
    obtain ⟨v, a⟩ := va
    rw [hkv] at hvi
    have hvi : fLo_varint d (oK p y t) = rI 1 (oK (a, p.2) v t) := hvi
    have hl := kVr_len hin.2.2.2.2 hkv
    have ho2 := ho.2.1
    have ek : (nI k).toInt64.toInt = k := by rw [nI_long (by omega), Int64.toInt_ofNat_of_lt (by omega)]
    have f19 : ∀ r, cG (fLo_fail d (nI code) (nI p.1) (oK (a, p.2) v t)) (kI fun v2 s1 => rZ v2 s1) = some r → fLo_choice_19 (d + 1) (nI code) (nI p.1) (oK (a, p.2) v t) = some r := fun r hr => eLo_choice_19 d _ _ _ _ hr
    simp only
    by_cases hneg : v.toInt < 0
    · rw [if_pos (.inl hneg)]
      refine lKf_cg (K := fun v2 s1 => rZ v2 s1) (Lo_fail d (p := (a, p.2)) (y := v)) (fun r hr => eLo_choice d _ _ _ _ ?_) (fun _ => rfl)
      rw [hvi, cG_I, if_pos (by decide), oK_y, if_pos (by rw [aLcmp_lt]; show _ < (0 : Int); omega), oK_at]
      exact f19 r hr
    · by_cases hbig : (k : Int) ≤ v.toInt
      · rw [if_pos (.inr hbig)]
        refine lKf_cg (K := fun v2 s1 => rZ v2 s1) (Lo_fail d (p := (a, p.2)) (y := v)) (fun r hr => eLo_choice d _ _ _ _ ?_) (fun _ => rfl)
        rw [hvi, cG_I, if_pos (by decide), oK_y, if_neg (by rw [aLcmp_lt]; show ¬ _ < (0 : Int); omega), if_neg (by rw [aLcmp_lt, ek]; omega), oK_at]
        exact f19 r hr
      · rw [if_neg (by omega)]
        have hput := oK_pv (p := (a, p.2)) (y := v) (t := t) (d := d) (by omega) (v := v) (by show p.2.2.2.length + _ ≤ _; omega)
        have ev : Int64.ofNat v.toInt.toNat = v := by
          apply Int64.toInt_inj.mp
          rw [Int64.toInt_ofNat_of_lt (by omega)]
          omega
        show fLo_choice (d + 1) (nI code) (nI k) (oK p y t) = rI 1 (oK (a, p.2.1, p.2.2.1, p.2.2.2 ++ kVb v) (Int64.ofNat v.toInt.toNat) t)
        refine eLo_choice d _ _ _ _ ?_
        rw [hvi, cG_I, if_pos (by decide), oK_y, if_neg (by rw [aLcmp_lt]; show ¬ _ < (0 : Int); omega), if_pos (by rw [aLcmp_lt, ek]; omega), hput, cG_I, ev]
        rfl
end
