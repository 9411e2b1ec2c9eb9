/-! the lake's Looker: a datum, a row -/
section
variable {A n b pb qb m D F : Nat} {B : Nat → Nat} {q : kP} {T : Nat → Nat → Nat} {t : aT} {p : kB} {y : Int64} {rec : kDr}
theorem Lo_truth (hin : lIn A B n t) (ho : lKo n p) {d : Nat} (hd : 1 ≤ d) : lKr t (fLo_truth d (oK p y t)) (if p.1 < n then (if B p.1 ≤ 1 then .ok (p.1 + 1, p.2.1, p.2.2.1, p.2.2.2 ++ [B p.1]) else .error (3, p.1)) else .error (1, n)) := by
  obtain ⟨d, rfl⟩ : ∃ d', d = d' + 1 := ⟨d - 1, by omega⟩
  obtain ⟨o1, o2, o3, o4, o5⟩ := ho
  have hA := hin.2.2.1
  have hB := hin.2.2.2.2
  have hlt : (gI (oK p y t) 46 1 < gI (oK p y t) 46 7) = (p.1 < n) := by rw [oK_at, oK_end hin, nI_ltE (by omega) (by omega)]
  by_cases h : p.1 < n
  · rw [if_pos h]
    have hb1 : (nI (B p.1) ≤ (1 : Int32)) = (B p.1 ≤ 1) := by rw [show (1 : Int32) = nI 1 from rfl, nI_leE (by have := hB p.1; omega) (by omega)]
    have go : ∀ r, (if B p.1 ≤ 1 then cG (fBy_put d 47 (nI (B p.1)) (oK (p.1 + 1, p.2) y t)) (kI fun v4 s3 => rZ v4 s3) else cG (fLo_fail d (nI 3) (nI p.1) (oK p y t)) (kI fun v6 s5 => rZ v6 s5)) = some r → fLo_truth (d + 1) (oK p y t) = some r := by
      intro r hr
      refine eLo_truth d _ _ ?_
      rw [if_pos (by rw [hlt]; exact h), oK_m hin, oK_at, ldI_n (by omega) (by omega), oK_b hin h, mI_and (hB p.1)]
      simp only [hb1]
      rw [wI_eq, nI_add1, oK_w1]
      exact hr
    by_cases h1 : B p.1 ≤ 1
    · rw [if_pos h1] at go ⊢
      refine ⟨y, go _ ?_⟩
      rw [oK_put d (p := (p.1 + 1, p.2)) (by omega) (by show p.2.2.2.length < _; omega), cG_I]
      rfl
    · rw [if_neg h1] at go ⊢
      exact lKf_cg (Lo_fail d) go (fun _ => rfl)
  · rw [if_neg h]
    refine lKf_cg (K := fun v8 s7 => rZ v8 s7) (Lo_fail d (p := p) (y := y)) (fun r hr => eLo_truth d _ _ ?_) (fun _ => rfl)
    rw [if_neg (by rw [hlt]; exact h), oK_end hin]
    exact hr
def kNb (B : Nat → Nat) (n : Nat) (int : Prop) [Decidable int] (p : kB) : kBe := match kVr B n p.1 with
  | .error e => .error e
  | .ok (v, a) => if int ∧ ¬ (-2147483648 ≤ v.toInt ∧ v.toInt ≤ 2147483647) then .error (2, p.1) else .ok (a, p.2.1, p.2.2.1, p.2.2.2 ++ kVb v)
theorem Lo_int (hin : lIn A B n t) (ho : lKo n p) {d : Nat} (hd : 2 ≤ d) : lKr t (fLo_integer d (oK p y t)) (kNb B n True p) := by
  obtain ⟨d, rfl⟩ : ∃ d', d = d' + 1 := ⟨d - 1, by omega⟩
  have hvi := Lo_vi (y := y) (p := p) hin (d := d) (by omega) ho.1
  have ho2 := ho.2.1
  unfold kNb
  cases hk : kVr B n p.1 with
  | error e =>
    rw [hk] at hvi
    exact lKf_cg hvi (fun r hr => eLo_integer d _ _ hr) (fun _ => rfl)
  | ok va =>
    obtain ⟨v, a⟩ := va
    rw [hk] at hvi
    have hvi : fLo_varint d (oK p y t) = rI 1 (oK (a, p.2) v t) := hvi
    have hl := kVr_len hin.2.2.2.2 hk
    have hf := v_fits v
    simp only
    by_cases h : -2147483648 ≤ v.toInt ∧ v.toInt ≤ 2147483647
    · rw [if_neg (fun e => e.2 h)]
      refine ⟨v, eLo_integer d _ _ ?_⟩
      rw [hvi, cG_I, if_pos (by decide), oK_y, if_neg (by rw [hf]; exact fun e => e h), oK_pv (p := (a, p.2)) (by omega) (by show p.2.2.2.length + _ ≤ _; omega), cG_I]
      rfl
    · rw [if_pos ⟨trivial, h⟩]
      refine lKf_cg (K := fun v4 s3 => rZ v4 s3) (Lo_fail d (p := (a, p.2)) (y := v)) (fun r hr => eLo_integer d _ _ ?_) (fun _ => rfl)
      rw [hvi, cG_I, if_pos (by decide), oK_y, if_pos (by rw [hf]; exact h), oK_at]
      exact hr
theorem Lo_dt0 (hK : lKc A B n b pb qb q T m t) (hr : kRg n rec) (hrec : lKd B n b q t D F rec) (hF : 8 ≤ F) (d : Nat) {x x2 : Nat} (hx : x < q.1 1) (h32 : x2 + 1 + D = 32) (ho : lKo n p) : lKr t (fLo_datum (F + d + 3) (nI (lo b x)) (nI x2) (oK p y t)) (if p.2.2.1 < 4000 then kDb q B n rec x (p.1, p.2.1, p.2.2.1 + 1, p.2.2.2) else .error (8, p.1)) := by
  obtain ⟨hin, hv, hI, hcd⟩ := id hK
  have hlx := lV_lo hv hx
  obtain ⟨o1, o2, o3, o4, o5⟩ := ho
  have hn1 := hI.1
  have e32 : nI x2 < 32 := by rw [nI_lit 32, nI_ltE (by omega) (by omega)]; omega
  have eda : (gI (oK p y t) 46 8 < 4000) = (p.2.2.1 < 4000) := by rw [oK_da, nI_lit 4000, nI_ltE (by omega) (by omega)]
  by_cases h4 : p.2.2.1 < 4000
  case neg =>
    rw [if_neg h4]
    refine lKf_cg (K := fun v49 s48 => rZ v49 s48) (Lo_fail (F + d + 2) (p := p) (y := y)) (fun r hr => eLo_datum (F + d + 2) _ _ _ _ ?_) (fun _ => rfl)
    rw [if_pos e32, if_neg (by rw [eda]; exact h4), oK_at]
    exact hr
  rw [if_pos h4]
  have hkd : ∀ p y, gI (oK p y t) 23 (lo b x) = nI (q.2.1 0 x) := fun p y => by rw [oK_o (by omega)]; exact lV_kind hv hI hx
  have hK11 : q.2.1 0 x ≤ 11 ∧ (6 ≤ q.2.1 0 x → 6 ≤ x) := by
    by_cases h : x < 6
    · have := (hI.2.1 x h).1; omega
    · have := (hI.2.2.1 x (by omega) hx).1; omega
  have ho1 : lKo n (p.1, p.2.1, p.2.2.1 + 1, p.2.2.2) := ⟨o1, o2, o3, o4, by show p.2.2.1 + 1 ≤ 4000; omega⟩
  have ew : pI (oK p y t) 46 8 ((gI (oK p y t) 46 8) + 1) = oK (p.1, p.2.1, p.2.2.1 + 1, p.2.2.2) y t := by rw [oK_da, nI_add1, oK_w8]
  generalize hp1 : (p.1, p.2.1, p.2.2.1 + 1, p.2.2.2) = p1 at *
  have e26 : 6 ≤ x → ∀ p y, gI (oK p y t) 26 (lo b x) = nI (q.2.1 7 x) := fun h6 p y => by rw [oK_o (by omega)]; exact (hv.2.2.2.1 x h6 hx).2.2.2.1
  have hcase : q.2.1 0 x = 0 ∨ q.2.1 0 x = 1 ∨ q.2.1 0 x = 2 ∨ q.2.1 0 x = 3 ∨ (q.2.1 0 x = 4 ∨ q.2.1 0 x = 5) ∨ (q.2.1 0 x = 6 ∨ q.2.1 0 x = 7) ∨ q.2.1 0 x = 8 ∨ q.2.1 0 x = 9 ∨ q.2.1 0 x = 10 ∨ q.2.1 0 x = 11 := by omega
  rcases hcase with h | h | h | h | h | h | h | h | h | h
  · have ek : kDb q B n rec x p1 = .ok p1 := by unfold kDb; rw [if_pos h]
    rw [ek]
    refine ⟨y, eLo_datum (F + d + 2) _ _ _ _ ?_⟩
    rw [if_pos e32, if_pos (by rw [eda]; exact h4), wI_eq, ew, ldI_n hlx (by omega), hkd, h, if_pos (by decide)]
    rfl
  · have ek : kDb q B n rec x p1 = (if p1.1 < n then (if B p1.1 ≤ 1 then .ok (p1.1 + 1, p1.2.1, p1.2.2.1, p1.2.2.2 ++ [B p1.1]) else .error (3, p1.1)) else .error (1, n)) := by unfold kDb; rw [if_neg (by omega), if_pos h]
    rw [ek]
    refine lKr_cz (Lo_truth (y := y) hin ho1 (d := F + d + 2) (by omega)) (fun r hr2 => eLo_datum (F + d + 2) _ _ _ _ ?_)
    rw [if_pos e32, if_pos (by rw [eda]; exact h4), wI_eq, ew, ldI_n hlx (by omega), hkd, h, if_neg (by decide), if_pos (by decide)]
    exact hr2
  · have ek : kDb q B n rec x p1 = kNb B n True p1 := by
      unfold kDb kNb
      rw [if_neg (by omega), if_neg (by omega), if_pos (.inl h)]
      cases kVr B n p1.1 with
      | error e => rfl
      | ok va =>
        obtain ⟨v, a⟩ := va
        simp only
        by_cases hc : -2147483648 ≤ v.toInt ∧ v.toInt ≤ 2147483647
        · rw [if_neg (fun e => e.2 hc), if_neg (fun e => e.2 hc)]
        · rw [if_pos ⟨h, hc⟩, if_pos ⟨trivial, hc⟩]
    rw [ek]
    refine lKr_cz (Lo_int (y := y) hin ho1 (d := F + d + 2) (by omega)) (fun r hr2 => eLo_datum (F + d + 2) _ _ _ _ ?_)
    rw [if_pos e32, if_pos (by rw [eda]; exact h4), wI_eq, ew, ldI_n hlx (by omega), hkd, h, if_neg (by decide), if_neg (by decide), if_pos (by decide)]
    exact hr2
  · have ek : kDb q B n rec x p1 = (match kVr B n p1.1 with | .error e => .error e | .ok (v, a) => .ok (a, p1.2.1, p1.2.2.1, p1.2.2.2 ++ kVb v)) := by
      unfold kDb
      rw [if_neg (by omega), if_neg (by omega), if_pos (.inr h)]
      cases kVr B n p1.1 with
      | error e => rfl
      | ok va =>
        obtain ⟨v, a⟩ := va
        simp only
        rw [if_neg (by omega)]
    rw [ek]
    have hvi := Lo_vi (y := y) (p := p1) hin (d := F + d + 2) (by omega) ho1.1
    have go : ∀ r, cG (fLo_varint (F + d + 2) (oK p1 y t)) (kI fun v12 s11 => if v12 = 0 then rI 0 s11 else cG (fBy_putVarint (F + d + 2) 47 (gL s11 46 4) s11) (kI fun v14 s13 => if v14 = 0 then rI 0 s13 else rI 1 s13)) = some r → fLo_datum (F + d + 3) (nI (lo b x)) (nI x2) (oK p y t) = some r := by
      intro r hr2
      refine eLo_datum (F + d + 2) _ _ _ _ ?_
      rw [if_pos e32, if_pos (by rw [eda]; exact h4), wI_eq, ew, ldI_n hlx (by omega), hkd, h, if_neg (by decide), if_neg (by decide), if_neg (by decide), if_pos (by decide)]
      exact hr2
    cases hk : kVr B n p1.1 with
    | error e =>
      rw [hk] at hvi
      exact lKf_cg hvi go (fun _ => rfl)
    | ok va =>
      obtain ⟨v, a⟩ := va
      rw [hk] at hvi
      have hvi : fLo_varint (F + d + 2) (oK p1 y t) = rI 1 (oK (a, p1.2) v t) := hvi
      have hl := kVr_len hin.2.2.2.2 hk
      have ho2 := ho1.2.1
      refine ⟨v, go _ ?_⟩
      rw [hvi, cG_I, if_neg (by decide), oK_y, oK_pv (p := (a, p1.2)) (by omega) (by show p1.2.2.2.length + _ ≤ _; omega), cG_I, if_neg (by decide)]
      rfl
  · have ek : kDb q B n rec x p1 = kSt B n p1 := by unfold kDb; rw [if_neg (by omega), if_neg (by omega), if_neg (by omega), if_pos h]
    rw [ek]
    refine lKr_cz (Lo_str (y := y) hin ho1 (d := F + d + 2) (by omega)) (fun r hr2 => eLo_datum (F + d + 2) _ _ _ _ ?_)
    rw [if_pos e32, if_pos (by rw [eda]; exact h4), wI_eq, ew, ldI_n hlx (by omega), hkd]
    rcases h with h | h
    · rw [h, if_neg (by decide), if_neg (by decide), if_neg (by decide), if_neg (by decide), if_pos (by decide)]
      exact hr2
    · rw [h, if_neg (by decide), if_neg (by decide), if_neg (by decide), if_neg (by decide), if_neg (by decide), if_pos (by decide)]
      exact hr2
  · have h6 := hK11.2 (by omega)
    have ek : kDb q B n rec x p1 = kBl q B n rec x p1.2.2.2.length 2001 0 p1 := by unfold kDb; rw [if_neg (by omega), if_neg (by omega), if_neg (by omega), if_neg (by omega), if_neg (by omega), if_neg (by omega), if_neg (by omega), if_neg (by omega)]
    rw [ek]
    obtain ⟨F0, hF0⟩ : ∃ F0, F + d + 2 = F0 + 6 := ⟨F + d - 4, by omega⟩
    have hbl := Lo_bl hK hr hrec hF d (z := p1.2.2.2.length) h6 hx h h32 2001 0 0 p1 y rfl (Nat.le_refl _) (Nat.zero_le _) ho1 (by have := ho1.2.1; show p1.2.2.2.length + 0 + n ≤ _; omega) (Nat.le_refl _)
    have hbs : lKr t (fLo_blocks (F + d + 2) (nI (lo b x)) (nI x2) (oK p1 y t)) (kBl q B n rec x p1.2.2.2.length 2001 0 p1) := by
      refine lKr_go hbl (fun r hr2 => ?_)
      rw [hF0] at hr2 ⊢
      refine eLo_blocks F0 _ _ _ _ ?_
      rw [oK_n]
      exact hr2
    refine lKr_cz hbs (fun r hr2 => eLo_datum (F + d + 2) _ _ _ _ ?_)
    rw [if_pos e32, if_pos (by rw [eda]; exact h4), wI_eq, ew, ldI_n hlx (by omega), hkd]
    rcases h with h | h
    · rw [h, if_neg (by decide), if_neg (by decide), if_neg (by decide), if_neg (by decide), if_neg (by decide), if_neg (by decide), if_pos (by decide)]
      exact hr2
    · rw [h, if_neg (by decide), if_neg (by decide), if_neg (by decide), if_neg (by decide), if_neg (by decide), if_neg (by decide), if_neg (by decide), if_pos (by decide)]
      exact hr2
  · have h6 := hK11.2 (by omega)
    have h47 := (hcd x h6 hx).1.2.2.2.2 (by omega) (by omega)
    have h732 := (hI.2.2.1 x h6 hx).2.2.2.2.2.2.2
    have ek : kDb q B n rec x p1 = (match kCh B n (q.2.1 4 x) 4 p1 with | .error e => .error e | .ok (p2, i) => rec (q.2.2 1 x i - 1) p2) := by unfold kDb; rw [if_neg (by omega), if_neg (by omega), if_neg (by omega), if_neg (by omega), if_pos h]; cases kCh B n (q.2.1 4 x) 4 p1 <;> rfl
    rw [ek]
    have hch := Lo_choice (y := y) hin ho1 (d := F + d + 2) (by omega) (code := 4) (k := q.2.1 4 x) (by omega)
    have go : ∀ r, cG (fLo_choice (F + d + 2) (nI 4) (nI (q.2.1 4 x)) (oK p1 y t)) (kI fun v30 s29 => if v30 = 0 then rI 0 s29 else cG (fSc_partSchemaOf (F + d + 2) (nI (lo b x)) ((gL s29 46 4).toInt32) s29) (kI fun v32 s31 => cG (fLo_datum (F + d + 2) v32 (nI (x2 + 1)) s31) (kI fun v34 s33 => if v34 = 0 then rI 0 s33 else rI 1 s33))) = some r → fLo_datum (F + d + 3) (nI (lo b x)) (nI x2) (oK p y t) = some r := by
      intro r hr2
      refine eLo_datum (F + d + 2) _ _ _ _ ?_
      rw [if_pos e32, if_pos (by rw [eda]; exact h4), wI_eq, ew, ldI_n hlx (by omega), hkd, h, if_neg (by decide), if_neg (by decide), if_neg (by decide), if_neg (by decide), if_neg (by decide), if_neg (by decide), if_neg (by decide), if_neg (by decide), if_pos (by decide), ldI_n hlx (by omega), e26 h6, ← h47, nI_add1 x2]
      exact hr2
    cases hk : kCh B n (q.2.1 4 x) 4 p1 with
    | error e =>
      rw [hk] at hch
      exact lKf_cg hch go (fun _ => rfl)
    | ok pi =>
      obtain ⟨p2, i⟩ := pi
      rw [hk] at hch
      have hch : fLo_choice (F + d + 2) (nI 4) (nI (q.2.1 4 x)) (oK p1 y t) = rI 1 (oK p2 (Int64.ofNat i) t) := hch
      obtain ⟨hg, hi⟩ := kCh_go hin.2.2.2.2 hk
      obtain ⟨c1, c2⟩ := kCd_p hI hcd h6 hx (by omega) (by omega) hi
      have ho2 := lKo_go ho1 hg
      have hps := lV_ps (oK_V (p := p2) (y := Int64.ofNat i) hv) hI (F + d + 2) h6 hx (by omega) hi c1
      have e5 : (Int64.ofNat i).toInt32 = nI i := by
        rw [← nI_long (by omega)]
        exact Int32.toInt32_toInt64 _
      have hd := hrec (d + 2) (q.2.2 1 x i - 1) p2 (Int64.ofNat i) (x2 + 1) c2 ho2 h32
      have hd : lKr t (fLo_datum (F + d + 2) (nI (lo b (q.2.2 1 x i - 1))) (nI (x2 + 1)) (oK p2 (Int64.ofNat i) t)) (rec (q.2.2 1 x i - 1) p2) := hd
      have go2 : ∀ r, cG (fLo_datum (F + d + 2) (nI (lo b (q.2.2 1 x i - 1))) (nI (x2 + 1)) (oK p2 (Int64.ofNat i) t)) (kI fun v34 s33 => if v34 = 0 then rI 0 s33 else rI 1 s33) = some r → fLo_datum (F + d + 3) (nI (lo b x)) (nI x2) (oK p y t) = some r := by
        intro r hr2
        refine go r ?_
        rw [hch, cG_I, if_neg (by decide), oK_y, e5, hps, cG_I]
        exact hr2
      simp only
      cases hk2 : rec (q.2.2 1 x i - 1) p2 with
      | error e =>
        rw [hk2] at hd
        exact lKf_cg hd go2 (fun _ => rfl)
      | ok p3 =>
        rw [hk2] at hd
        obtain ⟨y3, hd⟩ := hd
        refine ⟨y3, go2 _ ?_⟩
        rw [hd, cG_I, if_neg (by decide)]
        rfl
  · have h6 := hK11.2 (by omega)
    have h8 := (hcd x h6 hx).1.1 h
    have h865 := (hI.2.2.1 x h6 hx).2.2.2.2.2.2.1
    have ek : kDb q B n rec x p1 = kPs B n (q.2.1 8 x - 1) p1 := by unfold kDb; rw [if_neg (by omega), if_neg (by omega), if_neg (by omega), if_neg (by omega), if_neg (by omega), if_pos h]
    rw [ek]
    have e27 : ∀ p y, gI (oK p y t) 27 (lo b x) = nI (q.2.1 8 x - 1) := fun p y => by rw [oK_o (by omega), (hv.2.2.2.1 x h6 hx).2.2.2.2, if_neg (by omega), zI_pos h8]
    have eti : (Int64.ofNat (q.2.1 8 x - 1)).toInt = ((q.2.1 8 x - 1 : Nat) : Int) := Int64.toInt_ofNat_of_lt (by omega)
    have hmb := Lo_many (y := y) hin ho1 (d := F + d + 2) (by omega) (v := Int64.ofNat (q.2.1 8 x - 1)) (by omega)
    have ekp : kPs B n (q.2.1 8 x - 1) p1 = (if (Int64.ofNat (q.2.1 8 x - 1)).toInt ≤ (n - p1.1 : Nat) then .ok (p1.1 + (Int64.ofNat (q.2.1 8 x - 1)).toInt.toNat, p1.2.1, p1.2.2.1, p1.2.2.2 ++ kTp B p1.1 (Int64.ofNat (q.2.1 8 x - 1)).toInt.toNat) else .error (1, n)) := by
      unfold kPs
      rw [eti, Int.toNat_natCast]
      by_cases hle : q.2.1 8 x - 1 ≤ n - p1.1
      · rw [if_pos hle, if_pos (by omega)]
      · rw [if_neg hle, if_neg (by omega)]
    rw [ekp]
    refine lKr_cz hmb (fun r hr2 => eLo_datum (F + d + 2) _ _ _ _ ?_)
    rw [if_pos e32, if_pos (by rw [eda]; exact h4), wI_eq, ew, ldI_n hlx (by omega), hkd, h, if_neg (by decide), if_neg (by decide), if_neg (by decide), if_neg (by decide), if_neg (by decide), if_neg (by decide), if_neg (by decide), if_neg (by decide), if_neg (by decide), if_pos (by decide), ldI_n hlx (by omega), e27, nI_long (by omega)]
    exact hr2
  · have h6 := hK11.2 (by omega)
    have h47 := (hcd x h6 hx).1.2.2.2.2 (by omega) (by omega)
    have h732 := (hI.2.2.1 x h6 hx).2.2.2.2.2.2.2
    have ek : kDb q B n rec x p1 = (match kCh B n (q.2.1 4 x) 5 p1 with | .error e => .error e | .ok (p2, _) => .ok p2) := by unfold kDb; rw [if_neg (by omega), if_neg (by omega), if_neg (by omega), if_neg (by omega), if_neg (by omega), if_neg (by omega), if_pos h]; cases kCh B n (q.2.1 4 x) 5 p1 <;> rfl
    rw [ek]
    have hch := Lo_choice (y := y) hin ho1 (d := F + d + 2) (by omega) (code := 5) (k := q.2.1 4 x) (by omega)
    have go : ∀ r, cG (fLo_choice (F + d + 2) (nI 5) (nI (q.2.1 4 x)) (oK p1 y t)) (kI fun v42 s41 => rZ v42 s41) = some r → fLo_datum (F + d + 3) (nI (lo b x)) (nI x2) (oK p y t) = some r := by
      intro r hr2
      refine eLo_datum (F + d + 2) _ _ _ _ ?_
      rw [if_pos e32, if_pos (by rw [eda]; exact h4), wI_eq, ew, ldI_n hlx (by omega), hkd, h, if_neg (by decide), if_neg (by decide), if_neg (by decide), if_neg (by decide), if_neg (by decide), if_neg (by decide), if_neg (by decide), if_neg (by decide), if_neg (by decide), if_neg (by decide), if_pos (by decide), ldI_n hlx (by omega), e26 h6, ← h47]
      exact hr2
    cases hk : kCh B n (q.2.1 4 x) 5 p1 with
    | error e =>
      rw [hk] at hch
      exact lKf_cg hch go (fun _ => rfl)
    | ok pi =>
      obtain ⟨p2, i⟩ := pi
      rw [hk] at hch
      have hch : fLo_choice (F + d + 2) (nI 5) (nI (q.2.1 4 x)) (oK p1 y t) = rI 1 (oK p2 (Int64.ofNat i) t) := hch
      refine ⟨Int64.ofNat i, go _ ?_⟩
      rw [hch, cG_I]
      rfl
  · have h6 := hK11.2 (by omega)
    have ek : kDb q B n rec x p1 = kFs q rec x (q.2.1 4 x) 0 p1 := by unfold kDb; rw [if_neg (by omega), if_neg (by omega), if_neg (by omega), if_neg (by omega), if_neg (by omega), if_neg (by omega), if_neg (by omega), if_pos h]
    rw [ek]
    have hfi := Lo_fi hK hr hrec (d + 1) (x2 := x2) h6 hx h h32 (q.2.1 4 x) 0 p1 y (by omega) ho1
    have hfs : lKr t (fLo_fields (F + d + 2) (nI (lo b x)) (nI x2) (oK p1 y t)) (kFs q rec x (q.2.1 4 x) 0 p1) := lKr_go hfi (fun r hr2 => eLo_fields (F + d + 1) _ _ _ _ hr2)
    refine lKr_cz hfs (fun r hr2 => eLo_datum (F + d + 2) _ _ _ _ ?_)
    rw [if_pos e32, if_pos (by rw [eda]; exact h4), wI_eq, ew, ldI_n hlx (by omega), hkd, h, if_neg (by decide), if_neg (by decide), if_neg (by decide), if_neg (by decide), if_neg (by decide), if_neg (by decide), if_neg (by decide), if_neg (by decide), if_neg (by decide), if_neg (by decide), if_neg (by decide), if_pos (by decide)]
    exact hr2
/-- a datum, in the lake -/
theorem Lo_dt (hK : lKc A B n b pb qb q T m t) : ∀ D, D ≤ 32 → lKd B n b q t D (3 * D + 9) (kDt q B n D) := by
  intro D
  induction D with
  | zero =>
    intro _ d x p y x2 hx ho h32
    rw [show 3 * 0 + 9 + d = d + 8 + 1 by omega]
    refine lKf_cg (K := fun v51 s50 => rZ v51 s50) (Lo_fail (d + 8) (p := p) (y := y)) (fun r hr => eLo_datum (d + 8) _ _ _ _ ?_) (fun _ => rfl)
    rw [show x2 = 32 by omega, if_neg (by decide), oK_at]
    exact hr
  | succ D ih =>
    intro hD d x p y x2 hx ho h32
    have h := Lo_dt0 (y := y) hK (kDt_go hK.1.2.2.2.2 D) (ih (by omega)) (by omega) d hx (x2 := x2) (by omega) ho
    rw [show 3 * D + 9 + d + 3 = 3 * (D + 1) + 9 + d by omega] at h
    exact h
/-- a row, in the lake -/
theorem Lo_row (hK : lKc A B n b pb qb q T m t) (d : Nat) {x : Nat} (hx : x < q.1 1) (ho : lKo n p) : lKr t (fLo_row (d + 106) (nI (lo b x)) (oK p y t)) (kDt q B n 32 x (p.1, 0, 0, p.2.2.2)) := by
  have h := Lo_dt hK 32 (Nat.le_refl _) d x (p.1, 0, 0, p.2.2.2) y 0 hx ⟨ho.1, ho.2.1, ho.2.2.1, Nat.zero_le _, Nat.zero_le _⟩ rfl
  rw [show 3 * 32 + 9 + d = d + 105 by omega] at h
  refine lKr_cz h (fun r hr => eLo_row (d + 105) _ _ _ ?_)
  rw [wI_eq, wI_eq, show (0 : Int32) = nI 0 from rfl, oK_w8, oK_w9]
  exact hr
end
