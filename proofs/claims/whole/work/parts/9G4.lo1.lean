/-! the lake's Looker: where it stands; numbers, letters -/
theorem aLcmp_ge {x y : Int64} : (0 ≤ aLcmp x y) = (y.toInt ≤ x.toInt) := by
  have h := aLcmp_lt (x := x) (y := y)
  apply propext
  rw [← Int32.not_lt, h]
  omega
theorem v_fits (v : Int64) : (aLcmp v v.toInt32.toInt64 = 0) = (-2147483648 ≤ v.toInt ∧ v.toInt ≤ 2147483647) := by
  have h1 := Int64.le_toInt v
  have h2 := Int64.toInt_lt v
  have h := l_fits (x := v.toInt) (by omega) (by omega)
  rw [Int64.ofInt_toInt] at h
  exact h
theorem v_nat {v : Int64} (h0 : 0 ≤ v.toInt) (h1 : v.toInt < 2147483648) : v.toInt32 = nI v.toInt.toNat := by
  apply Int32.toInt_inj.mp
  rw [nI_toInt (by omega), Int64.toInt_toInt32, Int.bmod_eq_of_le (by omega) (by omega)]
  omega
def kO (p : kB) (y : Int64) (t : aT) : aT := (fun k i => if k = 46 then (if i = 1 then nI p.1 else if i = 8 then nI p.2.2.1 else if i = 9 then nI p.2.1 else t.1 k i) else t.1 k i, fun k i => if k = 46 ∧ i = 4 then y else t.2.1 k i, t.2.2)
/-- a Looker on its way -/
def oK (p : kB) (y : Int64) (t : aT) : aT := oB 47 p.2.2.2 (kO p y t)
/-- but for the Looker's own cells, the same -/
def lKg (t s : aT) : Prop := (∀ k i, k ≠ 46 → k ≠ 47 → k ≠ 48 → gI t k i = gI s k i) ∧ (∀ k i, k ≠ 46 → gL t k i = gL s k i) ∧ t.2.2 = s.2.2 ∧ ∀ i, i = 7 → gI t 46 i = gI s 46 i
def lKf (t : aT) (F : aRs) (k e : Nat) : Prop := ∃ t', F = rI 0 t' ∧ gI t' 46 2 = nI k ∧ gI t' 46 3 = nI e ∧ lKg t' t
def lKr (t : aT) (F : aRs) (x : kBe) : Prop := match x with
  | .ok p => ∃ y, F = rI 1 (oK p y t)
  | .error e => lKf t F e.1 e.2
/-- what a Looker looks at -/
def lIn (A : Nat) (B : Nat → Nat) (n : Nat) (t : aT) : Prop := (gM1 t = A ∧ (A < 46 ∨ 48 < A) ∧ aSh0 A = some (.inl (0, alen A))) ∧ gI t 46 7 = nI n ∧ (n ≤ alen A ∧ alen A < 2147483648) ∧ (∀ i, i < n → gI t A i = mI (B i)) ∧ ∀ i, B i < 256
section
variable {A n : Nat} {B : Nat → Nat} {t : aT} {p : kB} {y : Int64}
theorem kO_I {k i : Nat} : gI (kO p y t) k i = if k = 46 then (if i = 1 then nI p.1 else if i = 8 then nI p.2.2.1 else if i = 9 then nI p.2.1 else gI t k i) else gI t k i := rfl
theorem oK_46 {i : Nat} : gI (oK p y t) 46 i = if i = 1 then nI p.1 else if i = 8 then nI p.2.2.1 else if i = 9 then nI p.2.1 else gI t 46 i := by
  unfold oK
  rw [oB_o (by omega) (by omega), kO_I, if_pos rfl]
theorem oK_o {k i : Nat} (h : k ≠ 46 ∧ k ≠ 47 ∧ k ≠ 48) : gI (oK p y t) k i = gI t k i := by
  unfold oK
  rw [oB_o (by omega) (by omega), kO_I, if_neg h.1]
theorem oK_at : gI (oK p y t) 46 1 = nI p.1 := by rw [oK_46]; rfl
theorem oK_da : gI (oK p y t) 46 8 = nI p.2.2.1 := by rw [oK_46]; rfl
theorem oK_it : gI (oK p y t) 46 9 = nI p.2.1 := by rw [oK_46]; rfl
theorem oK_y : gL (oK p y t) 46 4 = y := rfl
theorem oK_end (h : lIn A B n t) : gI (oK p y t) 46 7 = nI n := by
  rw [oK_46]
  exact h.2.1
theorem oK_b (h : lIn A B n t) {i : Nat} (hi : i < n) : gI (oK p y t) A i = mI (B i) := by
  rw [oK_o (by have := h.1.2.1; omega)]
  exact h.2.2.2.1 i hi
theorem oK_m (h : lIn A B n t) : gM1 (oK p y t) = A := h.1.1
theorem oK_n : gI (oK p y t) 47 1 = nI p.2.2.2.length := oB_n
theorem oK_w1 {a : Nat} : pI (oK p y t) 46 1 (nI a) = oK (a, p.2) y t := by
  refine aT_ext (fun k i => ?_) (fun _ _ => rfl) rfl
  rw [gI_pI]
  by_cases hk : k = 46
  · subst hk
    rw [oK_46, oK_46]
    by_cases hi : i = 1
    · rw [if_pos ⟨rfl, hi⟩, if_pos hi]
    · rw [if_neg (fun e => hi e.2), if_neg hi, if_neg hi]
  · rw [if_neg (fun e => hk e.1)]
    unfold oK
    rw [oB_I, oB_I, kO_I, kO_I, if_neg hk, if_neg hk]
theorem oK_w8 {a : Nat} : pI (oK p y t) 46 8 (nI a) = oK (p.1, p.2.1, a, p.2.2.2) y t := by
  refine aT_ext (fun k i => ?_) (fun _ _ => rfl) rfl
  rw [gI_pI]
  by_cases hk : k = 46
  · subst hk
    rw [oK_46, oK_46]
    by_cases hi : i = 8
    · rw [if_pos ⟨rfl, hi⟩, if_neg (by omega), if_pos hi]
    · rw [if_neg (fun e => hi e.2), if_neg hi, if_neg hi]
  · rw [if_neg (fun e => hk e.1)]
    unfold oK
    rw [oB_I, oB_I, kO_I, kO_I, if_neg hk, if_neg hk]
theorem oK_w9 {a : Nat} : pI (oK p y t) 46 9 (nI a) = oK (p.1, a, p.2.2) y t := by
  refine aT_ext (fun k i => ?_) (fun _ _ => rfl) rfl
  rw [gI_pI]
  by_cases hk : k = 46
  · subst hk
    rw [oK_46, oK_46]
    by_cases hi : i = 9
    · rw [if_pos ⟨rfl, hi⟩, if_neg (by omega), if_neg (by omega), if_pos hi]
    · rw [if_neg (fun e => hi e.2), if_neg hi, if_neg hi]
  · rw [if_neg (fun e => hk e.1)]
    unfold oK
    rw [oB_I, oB_I, kO_I, kO_I, if_neg hk, if_neg hk]
theorem oK_wL {v : Int64} : pL (oK p y t) 46 4 v = oK p v t := by
  refine aT_ext (fun k i => rfl) (fun k i => ?_) rfl
  rw [gL_pL]
  show (if k = 46 ∧ i = 4 then v else (if k = 46 ∧ i = 4 then y else gL t k i)) = (if k = 46 ∧ i = 4 then v else gL t k i)
  by_cases h : k = 46 ∧ i = 4
  · rw [if_pos h, if_pos h]
  · rw [if_neg h, if_neg h, if_neg h]
theorem oK_g : lKg (oK p y t) t := by
  refine ⟨fun k i h1 h2 h3 => oK_o ⟨h1, h2, h3⟩, fun k i h1 => ?_, rfl, fun i hi => ?_⟩
  · show (if k = 46 ∧ i = 4 then y else gL t k i) = _
    rw [if_neg (fun e => h1 e.1)]
  · rw [oK_46, if_neg (by omega), if_neg (by omega), if_neg (by omega)]
theorem Lo_fail (d : Nat) {k e : Nat} : lKf t (fLo_fail d (nI k) (nI e) (oK p y t)) k e := by
  have h : fLo_fail d (nI k) (nI e) (oK p y t) = rI 0 (pI (pI (oK p y t) 46 2 (nI k)) 46 3 (nI e)) := eLo_fail d _ _ _ _ rfl
  have hg := oK_g (p := p) (y := y) (t := t)
  refine ⟨_, h, ?_, ?_, fun k i h1 h2 h3 => ?_, fun k i h1 => ?_, hg.2.2.1, fun i hi => ?_⟩
  · rw [gI_pI, if_neg (by omega), gI_pI, if_pos ⟨rfl, rfl⟩]
  · rw [gI_pI, if_pos ⟨rfl, rfl⟩]
  · rw [gI_pI, if_neg (by omega), gI_pI, if_neg (by omega)]
    exact hg.1 k i h1 h2 h3
  · exact hg.2.1 k i h1
  · rw [gI_pI, if_neg (by omega), gI_pI, if_neg (by omega)]
    exact hg.2.2.2 i hi
/-- a failure goes on -/
theorem lKf_cg {F G : aRs} {k e : Nat} {K : Int32 → aT → aRs} (h : lKf t F k e) (go : ∀ r, cG F (kI K) = some r → G = some r) (hK : ∀ s, K 0 s = rI 0 s) : lKf t G k e := by
  obtain ⟨t', h1, h2, h3, h4⟩ := h
  refine ⟨t', go _ ?_, h2, h3, h4⟩
  rw [h1, cG_I, hK]
  rfl
theorem lKf_go {F G : aRs} {k e : Nat} (h : lKf t F k e) (go : ∀ r, F = some r → G = some r) : lKf t G k e := by
  obtain ⟨t', h1, h2, h3, h4⟩ := h
  exact ⟨t', go _ h1, h2, h3, h4⟩
theorem lKr_go {F G : aRs} {x : kBe} (h : lKr t F x) (go : ∀ r, F = some r → G = some r) : lKr t G x := by
  unfold lKr at h ⊢
  split at h
  · obtain ⟨y, h⟩ := h
    exact ⟨y, go _ h⟩
  · exact lKf_go h go
/-- what comes back from a call is handed on -/
theorem lKr_cz {F G : aRs} {x : kBe} (h : lKr t F x) (go : ∀ r, cG F (kI fun v s => rZ v s) = some r → G = some r) : lKr t G x := by
  unfold lKr at h ⊢
  split at h
  · obtain ⟨y, h⟩ := h
    refine ⟨y, go _ ?_⟩
    rw [h, cG_I]
    rfl
  · exact lKf_cg h go (fun _ => rfl)
def lKv (t : aT) (p : kB) (F : aRs) (x : Except (Nat × Nat) (Int64 × Nat)) : Prop := match x with
  | .ok (v, a) => F = rI 1 (oK (a, p.2) v t)
  | .error e => lKf t F e.1 e.2
theorem Lo_v7 (hin : lIn A B n t) (d : Nat) {fr : Nat} : ∀ f k a u, f + k = 10 → a ≤ n → lKv t p (fLo_varint_7 (d + 1) (nI fr) u (nI k) (oK (a, p.2) y t)) (kVd B n fr f k a u) := by
  obtain ⟨hA1, hA2⟩ := hin.2.2.1
  have hB := hin.2.2.2.2
  intro f
  induction f with
  | zero =>
    intro k a u hk ha
    have go : ∀ r, cG (fLo_fail d (nI 2) (nI fr) (oK (a, p.2) y t)) (kI fun v2 s1 => rZ v2 s1) = some r → fLo_varint_7 (d + 1) (nI fr) u (nI k) (oK (a, p.2) y t) = some r := by
      intro r hr
      refine eLo_varint_7 d _ _ _ _ _ ?_
      rw [show k = 10 by omega, if_pos (by decide)]
      exact hr
    exact lKf_cg (Lo_fail d) go (fun _ => rfl)
  | succ f ih =>
    intro k a u hk ha
    have e10 : ¬ (10 : Int32) ≤ nI k := by rw [nI_lit 10, nI_leE (by omega) (by omega)]; omega
    have e9 : (nI k = 9) = (k = 9) := nI_eqE (b := 9) (by omega) (by omega)
    have eend := oK_end (p := (a, p.2)) (y := y) hin
    unfold kVd
    by_cases han : a < n
    · rw [if_pos han]
      have hbi := oK_b (p := (a, p.2)) (y := y) hin han
      have hb1 : (nI (B a) ≤ (1 : Int32)) = (B a ≤ 1) := by rw [show (1 : Int32) = nI 1 from rfl, nI_leE (by have := hB a; omega) (by omega)]
      have go : ∀ r, (if ¬ k = 9 then fLo_varint_40 (d + 1) (nI fr) u (nI k) (nI (B a)) (oK (a, p.2) y t) else if B a ≤ 1 then fLo_varint_40 (d + 1) (nI fr) u (nI k) (nI (B a)) (oK (a, p.2) y t) else cG (fLo_fail d (nI 2) (nI fr) (oK (a, p.2) y t)) (kI fun v5 s4 => rZ v5 s4)) = some r → fLo_varint_7 (d + 1) (nI fr) u (nI k) (oK (a, p.2) y t) = some r := by
        intro r hr
        refine eLo_varint_7 d _ _ _ _ _ ?_
        rw [if_neg e10, oK_at, eend]
        show (if nI a < nI n then _ else _) = _
        simp (disch := omega) only [nI_ltE]
        rw [if_pos han, oK_m hin, ldI_n (by omega) (by omega), hbi, mI_and (hB a)]
        simp only [e9, hb1]
        exact hr
      have h40 : lKv t p (fLo_varint_40 (d + 1) (nI fr) u (nI k) (nI (B a)) (oK (a, p.2) y t)) (if 128 ≤ B a then kVd B n fr f (k + 1) (a + 1) (kVa u k (B a)) else .ok (kVz (kVa u k (B a)), a + 1)) := by
        have h128 : ((128 : Int32) ≤ nI (B a)) = (128 ≤ B a) := by rw [show (128 : Int32) = nI 128 from rfl, nI_leE (by omega) (by have := hB a; omega)]
        by_cases hb : 128 ≤ B a
        · rw [if_pos hb]
          have ihh := ih (k + 1) (a + 1) (kVa u k (B a)) (by omega) (by omega)
          have go40 : ∀ r, fLo_varint_7 (d + 1) (nI fr) (kVa u k (B a)) (nI (k + 1)) (oK (a + 1, p.2) y t) = some r → fLo_varint_40 (d + 1) (nI fr) u (nI k) (nI (B a)) (oK (a, p.2) y t) = some r := by
            intro r hr
            refine eLo_varint_40 d _ _ _ _ _ _ ?_
            rw [wI_eq, show gI (oK (a, p.2) y t) 46 1 = nI a from oK_at, nI_add1 a, oK_w1]
            simp only [h128]
            rw [if_pos hb, nI_add1]
            exact hr
          unfold lKv at ihh ⊢
          split at ihh
          · exact go40 _ ihh
          · exact lKf_go ihh go40
        · rw [if_neg hb]
          show fLo_varint_40 (d + 1) (nI fr) u (nI k) (nI (B a)) (oK (a, p.2) y t) = rI 1 (oK (a + 1, p.2) (kVz (kVa u k (B a))) t)
          refine eLo_varint_40 d _ _ _ _ _ _ ?_
          rw [wI_eq, show gI (oK (a, p.2) y t) 46 1 = nI a from oK_at, nI_add1 a, oK_w1]
          simp only [h128]
          rw [if_neg hb, wL_eq, oK_wL]
          rfl
      by_cases h9 : k = 9
      · rw [if_neg (fun e => e h9)] at go
        by_cases h1 : B a ≤ 1
        · rw [if_pos h1] at go
          rw [if_neg (by omega)]
          unfold lKv at h40 ⊢
          split at h40
          · exact go _ h40
          · exact lKf_go h40 go
        · rw [if_neg h1] at go
          rw [if_pos ⟨h9, by omega⟩]
          exact lKf_cg (Lo_fail d) go (fun _ => rfl)
      · rw [if_pos h9] at go
        rw [if_neg (by omega)]
        unfold lKv at h40 ⊢
        split at h40
        · exact go _ h40
        · exact lKf_go h40 go
    · rw [if_neg han]
      have go : ∀ r, cG (fLo_fail d (nI 1) (nI n) (oK (a, p.2) y t)) (kI fun v7 s6 => rZ v7 s6) = some r → fLo_varint_7 (d + 1) (nI fr) u (nI k) (oK (a, p.2) y t) = some r := by
        intro r hr
        refine eLo_varint_7 d _ _ _ _ _ ?_
        rw [if_neg e10, oK_at, eend]
        show (if nI a < nI n then _ else _) = _
        simp (disch := omega) only [nI_ltE]
        rw [if_neg han]
        exact hr
      exact lKf_cg (Lo_fail d) go (fun _ => rfl)
theorem Lo_vi (hin : lIn A B n t) {d : Nat} (hd : 1 ≤ d) (hp : p.1 ≤ n) : lKv t p (fLo_varint d (oK p y t)) (kVr B n p.1) := by
  obtain ⟨d, rfl⟩ : ∃ d', d = d' + 1 := ⟨d - 1, by omega⟩
  have h := Lo_v7 (y := y) (p := p) hin d (fr := p.1) 10 0 p.1 0 rfl hp
  have go : ∀ r, fLo_varint_7 (d + 1) (nI p.1) 0 (nI 0) (oK (p.1, p.2) y t) = some r → fLo_varint (d + 1) (oK p y t) = some r := by
    intro r hr
    refine eLo_varint d _ _ ?_
    rw [oK_at]
    exact hr
  unfold kVr
  unfold lKv at h ⊢
  split at h
  · exact go _ h
  · exact lKf_go h go
end
