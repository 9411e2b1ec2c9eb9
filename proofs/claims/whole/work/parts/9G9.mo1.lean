/-! the reference's looking: where it stands; numbers, letters -/
def oM (u : Bool) (p : kB) (t : aT) : aT := (fun k i => if k = 67 then (if i = 23 then nI p.1 else if i = 26 then nI p.2.1 else if i = 27 then nI p.2.2.1 else if i = 22 ∧ u = true then nI p.2.2.2.length else t.1 k i) else if k = 144 ∧ u = true ∧ i < p.2.2.2.length then mI (p.2.2.2.getD i 0) else t.1 k i, t.2)
def mKg (t s : aT) : Prop := (∀ k i, k ≠ 67 → k ≠ 144 → gI t k i = gI s k i) ∧ (∀ k i, gL t k i = gL s k i) ∧ t.2.2 = s.2.2 ∧ ∀ i, i < 22 ∨ 27 < i → gI t 67 i = gI s 67 i
def mKf (t : aT) (F : aRs) (k e : Nat) : Prop := ∃ t', F = rT 0 t' ∧ gI t' 67 24 = nI k ∧ gI t' 67 25 = nI e ∧ mKg t' (pU t)
def mKr (u : Bool) (t : aT) (F : aRs) (x : kBe) : Prop := match x with
  | .ok p => F = rV (oM u p t)
  | .error e => mKf t F e.1 e.2
def mIn (B : Nat → Nat) (n : Nat) (t : aT) : Prop := gI t 67 2 = nI n ∧ n ≤ 4096 ∧ (∀ i, i < n → gI t 68 i = mI (B i)) ∧ ∀ i, B i < 256
/-- room for all that may be put -/
def mKo (n : Nat) (p : kB) : Prop := p.1 ≤ n ∧ p.2.2.2.length + n ≤ 4200 + p.1 ∧ kBt p.2.2.2 ∧ p.2.1 ≤ 2000 ∧ p.2.2.1 ≤ 4000
theorem mKo_go {n : Nat} {p p' : kB} (h : mKo n p) (g : kGo n p p') : mKo n p' := by
  obtain ⟨h1, h2, h3, h4, h5⟩ := h
  obtain ⟨g1, g2, g3, g4, g5, g6, g7, g8, g9, g10⟩ := g
  exact ⟨g2, by omega, g10 h3, g8 h4, g9 h5⟩
/-- the flag that says whether it is put -/
def uF (u : Bool) : Int32 := if u = true then 1 else 0
section
variable {n : Nat} {B : Nat → Nat} {t : aT} {p : kB} {u : Bool}
theorem oM_67 {i : Nat} : gI (oM u p t) 67 i = if i = 23 then nI p.1 else if i = 26 then nI p.2.1 else if i = 27 then nI p.2.2.1 else if i = 22 ∧ u = true then nI p.2.2.2.length else gI t 67 i := rfl
theorem oM_at : gI (oM u p t) 67 23 = nI p.1 := rfl
theorem oM_it : gI (oM u p t) 67 26 = nI p.2.1 := rfl
theorem oM_da : gI (oM u p t) 67 27 = nI p.2.2.1 := rfl
theorem oM_n : gI (oM true p t) 67 22 = nI p.2.2.2.length := rfl
theorem oM_o {k i : Nat} (h : k ≠ 67 ∧ k ≠ 144) : gI (oM u p t) k i = gI t k i := by
  show (if k = 67 then _ else if k = 144 ∧ u = true ∧ i < p.2.2.2.length then _ else t.1 k i) = _
  rw [if_neg h.1, if_neg (fun e => h.2 e.1)]
  rfl
theorem oM_end (h : mIn B n t) : gI (oM u p t) 67 2 = nI n := by
  rw [oM_67, if_neg (by omega), if_neg (by omega), if_neg (by omega), if_neg (by omega)]
  exact h.1
theorem oM_b (h : mIn B n t) {i : Nat} (hi : i < n) : gI (oM u p t) 68 i = mI (B i) := by
  rw [oM_o (by omega)]
  exact h.2.2.1 i hi
theorem oM_k {k i : Nat} (hk : k ≠ 67) : gI (oM u p t) k i = if k = 144 ∧ u = true ∧ i < p.2.2.2.length then mI (p.2.2.2.getD i 0) else gI t k i := by
  show (if k = 67 then _ else _) = _
  rw [if_neg hk]
  rfl
theorem oM_row {i : Nat} (hi : i < p.2.2.2.length) : gI (oM true p t) 144 i = mI (p.2.2.2.getD i 0) := by
  rw [oM_k (by omega), if_pos ⟨rfl, rfl, hi⟩]
theorem oM_f {L : List Nat} : oM false (p.1, p.2.1, p.2.2.1, L) t = oM false p t := by
  refine aT_ext (fun k i => ?_) (fun _ _ => rfl) rfl
  show (if k = 67 then (if i = 23 then nI p.1 else if i = 26 then nI p.2.1 else if i = 27 then nI p.2.2.1 else if i = 22 ∧ false = true then nI L.length else t.1 k i) else if k = 144 ∧ false = true ∧ i < L.length then mI (L.getD i 0) else t.1 k i) = (if k = 67 then (if i = 23 then nI p.1 else if i = 26 then nI p.2.1 else if i = 27 then nI p.2.2.1 else if i = 22 ∧ false = true then nI p.2.2.2.length else t.1 k i) else if k = 144 ∧ false = true ∧ i < p.2.2.2.length then mI (p.2.2.2.getD i 0) else t.1 k i)
  simp
theorem oM_w23 {a : Nat} : pI (oM u p t) 67 23 (nI a) = oM u (a, p.2) t := by
  refine aT_ext (fun k i => ?_) (fun _ _ => rfl) rfl
  rw [gI_pI]
  by_cases hk : k = 67
  · subst hk
    rw [oM_67, oM_67]
    by_cases hi : i = 23
    · rw [if_pos ⟨rfl, hi⟩, if_pos hi]
    · rw [if_neg (fun e => hi e.2), if_neg hi, if_neg hi]
  · rw [if_neg (fun e => hk e.1)]
    show (if k = 67 then _ else if k = 144 ∧ u = true ∧ i < p.2.2.2.length then mI (p.2.2.2.getD i 0) else t.1 k i) = (if k = 67 then _ else if k = 144 ∧ u = true ∧ i < p.2.2.2.length then mI (p.2.2.2.getD i 0) else t.1 k i)
    rw [if_neg hk, if_neg hk]
theorem oM_w26 {a : Nat} : pI (oM u p t) 67 26 (nI a) = oM u (p.1, a, p.2.2) t := by
  refine aT_ext (fun k i => ?_) (fun _ _ => rfl) rfl
  rw [gI_pI]
  by_cases hk : k = 67
  · subst hk
    rw [oM_67, oM_67]
    by_cases hi : i = 26
    · rw [if_pos ⟨rfl, hi⟩, if_neg (by omega), if_pos hi]
    · rw [if_neg (fun e => hi e.2), if_neg hi, if_neg hi]
  · rw [if_neg (fun e => hk e.1)]
    show (if k = 67 then _ else if k = 144 ∧ u = true ∧ i < p.2.2.2.length then mI (p.2.2.2.getD i 0) else t.1 k i) = (if k = 67 then _ else if k = 144 ∧ u = true ∧ i < p.2.2.2.length then mI (p.2.2.2.getD i 0) else t.1 k i)
    rw [if_neg hk, if_neg hk]
theorem oM_w27 {a : Nat} : pI (oM u p t) 67 27 (nI a) = oM u (p.1, p.2.1, a, p.2.2.2) t := by
  refine aT_ext (fun k i => ?_) (fun _ _ => rfl) rfl
  rw [gI_pI]
  by_cases hk : k = 67
  · subst hk
    rw [oM_67, oM_67]
    by_cases hi : i = 27
    · rw [if_pos ⟨rfl, hi⟩, if_neg (by omega), if_neg (by omega), if_pos hi]
    · rw [if_neg (fun e => hi e.2), if_neg hi, if_neg hi]
  · rw [if_neg (fun e => hk e.1)]
    show (if k = 67 then _ else if k = 144 ∧ u = true ∧ i < p.2.2.2.length then mI (p.2.2.2.getD i 0) else t.1 k i) = (if k = 67 then _ else if k = 144 ∧ u = true ∧ i < p.2.2.2.length then mI (p.2.2.2.getD i 0) else t.1 k i)
    rw [if_neg hk, if_neg hk]
theorem oM_put {x : Nat} : pI (pI (oM true p t) 144 p.2.2.2.length (mI x)) 67 22 (nI (p.2.2.2.length + 1)) = oM true (p.1, p.2.1, p.2.2.1, p.2.2.2 ++ [x]) t := by
  have hl : (p.2.2.2 ++ [x]).length = p.2.2.2.length + 1 := by simp
  refine aT_ext (fun k i => ?_) (fun _ _ => rfl) rfl
  rw [gI_pI, gI_pI]
  by_cases hk : k = 67
  · subst hk
    rw [oM_67, oM_67, hl]
    by_cases hi : i = 22
    · rw [if_pos ⟨rfl, hi⟩, if_neg (by omega), if_neg (by omega), if_neg (by omega), if_pos ⟨hi, rfl⟩]
    · have n1 : ¬ (67 = 144 ∧ i = p.2.2.2.length) := by omega
      have n2 : ¬ (i = 22 ∧ true = true) := fun e => hi e.1
      rw [if_neg (fun e => hi e.2), if_neg n1, if_neg n2, if_neg n2]
  · rw [if_neg (fun e => hk e.1)]
    have hr : gI (oM true (p.1, p.2.1, p.2.2.1, p.2.2.2 ++ [x]) t) k i = if k = 144 ∧ i < p.2.2.2.length + 1 then mI ((p.2.2.2 ++ [x]).getD i 0) else gI t k i := by
      show (if k = 67 then _ else if k = 144 ∧ true = true ∧ i < (p.2.2.2 ++ [x]).length then mI ((p.2.2.2 ++ [x]).getD i 0) else t.1 k i) = _
      rw [if_neg hk, hl]
      simp
      rfl
    have hr0 : gI (oM true p t) k i = if k = 144 ∧ i < p.2.2.2.length then mI (p.2.2.2.getD i 0) else gI t k i := by
      show (if k = 67 then _ else if k = 144 ∧ true = true ∧ i < p.2.2.2.length then mI (p.2.2.2.getD i 0) else t.1 k i) = _
      rw [if_neg hk]
      simp
      rfl
    rw [hr, hr0]
    by_cases h1 : k = 144 ∧ i = p.2.2.2.length
    · rw [if_pos h1, if_pos (show k = 144 ∧ i < p.2.2.2.length + 1 by omega), h1.2, getD_r (Nat.le_refl _), Nat.sub_self]
      rfl
    · rw [if_neg h1]
      by_cases h2 : k = 144 ∧ i < p.2.2.2.length
      · rw [if_pos h2, if_pos (show k = 144 ∧ i < p.2.2.2.length + 1 by omega), getD_l h2.2]
      · rw [if_neg h2, if_neg (show ¬ (k = 144 ∧ i < p.2.2.2.length + 1) by omega)]
theorem oM_g : mKg (oM u p t) t := by
  refine ⟨fun k i h1 h2 => oM_o ⟨h1, h2⟩, fun _ _ => rfl, rfl, fun i hi => ?_⟩
  rw [oM_67, if_neg (by omega), if_neg (by omega), if_neg (by omega), if_neg (by omega)]
theorem Mo_fail (d : Nat) {k e : Nat} : mKf t (fMo_failBytes d (nI k) (nI e) (oM u p t)) k e := by
  have h : fMo_failBytes d (nI k) (nI e) (oM u p t) = rT 0 (pU (pI (pI (oM u p t) 67 24 (nI k)) 67 25 (nI e))) := eMo_failBytes d _ _ _ _ rfl
  have hg := oM_g (p := p) (u := u) (t := t)
  have e1 : ∀ s : aT, ∀ k i, gI (pU s) k i = gI s k i := fun _ _ _ => rfl
  refine ⟨_, h, ?_, ?_, fun k i h1 h2 => ?_, fun k i => ?_, ?_, fun i hi => ?_⟩
  · rw [e1, gI_pI, if_neg (by omega), gI_pI, if_pos ⟨rfl, rfl⟩]
  · rw [e1, gI_pI, if_pos ⟨rfl, rfl⟩]
  · rw [e1, e1, gI_pI, if_neg (by omega), gI_pI, if_neg (by omega)]
    exact hg.1 k i h1 h2
  · rfl
  · rfl
  · rw [e1, e1, gI_pI, if_neg (by omega), gI_pI, if_neg (by omega)]
    exact hg.2.2.2 i hi
theorem mKf_cg {F G : aRs} {k e : Nat} {K : Option Value → aT → aRs} (h : mKf t F k e) (go : ∀ r, cG F K = some r → G = some r) : mKf t G k e := by
  obtain ⟨t', h1, h2, h3, h4⟩ := h
  refine ⟨t', go _ ?_, h2, h3, h4⟩
  rw [h1, cG_T]
  rfl
theorem mKf_go {F G : aRs} {k e : Nat} (h : mKf t F k e) (go : ∀ r, F = some r → G = some r) : mKf t G k e := by
  obtain ⟨t', h1, h2, h3, h4⟩ := h
  exact ⟨t', go _ h1, h2, h3, h4⟩
theorem mKr_go {F G : aRs} {x : kBe} (h : mKr u t F x) (go : ∀ r, F = some r → G = some r) : mKr u t G x := by
  unfold mKr at h ⊢
  split at h
  · exact go _ h
  · exact mKf_go h go
/-- what comes back from a call is handed on -/
theorem mKr_cv {F G : aRs} {x : kBe} (h : mKr u t F x) (go : ∀ r, cG F (kV fun s => rV s) = some r → G = some r) : mKr u t G x := by
  unfold mKr at h ⊢
  split at h
  · refine go _ ?_
    rw [h, cG_V]
    rfl
  · exact mKf_cg h go
theorem Mo_byte (hin : mIn B n t) {d : Nat} (hd : 1 ≤ d) (hp : p.1 ≤ n) : (p.1 < n → fMo_byteHere d (oM u p t) = rI (nI (B p.1)) (oM u (p.1 + 1, p.2) t)) ∧ (¬ p.1 < n → mKf t (fMo_byteHere d (oM u p t)) 1 n) := by
  obtain ⟨d, rfl⟩ : ∃ d', d = d' + 1 := ⟨d - 1, by omega⟩
  have hn := hin.2.1
  have hlt : (gI (oM u p t) 67 23 < gI (oM u p t) 67 2) = (p.1 < n) := by rw [oM_at, oM_end hin, nI_ltE (by omega) (by omega)]
  refine ⟨fun h => ?_, fun h => ?_⟩
  · refine eMo_byteHere d _ _ ?_
    rw [if_pos (by rw [hlt]; exact h)]
    refine eMo_byteHere_10 d _ _ ?_
    rw [wI_eq, oM_at, nI_add1, oM_w23, show gI (oM u (p.1 + 1, p.2) t) 67 23 = nI (p.1 + 1) from oM_at, show nI (p.1 + 1) - 1 = nI p.1 from nI_pred _, ldI_n (by omega) (by omega), oM_b hin h, mI_and (hin.2.2.2 _)]
    rfl
  · obtain ⟨t', h1, h2, h3, h4⟩ := Mo_fail d (p := p) (u := u) (t := t) (k := 1) (e := n)
    refine ⟨t', eMo_byteHere d _ _ ?_, h2, h3, h4⟩
    rw [if_neg (by rw [hlt]; exact h), oM_end hin, show (1 : Int32) = nI 1 from rfl, h1, cG_T]
    rfl
def mKv (u : Bool) (t : aT) (p : kB) (F : aRs) (x : Except (Nat × Nat) (Int64 × Nat)) : Prop := match x with
  | .ok (v, a) => F = rL v (oM u (a, p.2) t)
  | .error e => mKf t F e.1 e.2
theorem Mo_v7 (hin : mIn B n t) (d : Nat) {fr : Nat} : ∀ f k a w, f + 1 + k = 10 → a ≤ n → mKv u t p (fMo_varint_7 (d + 2) (nI fr) w (nI k) (oM u (a, p.2) t)) (kVd B n fr (f + 1) k a w) := by
  have hB := hin.2.2.2
  have hn := hin.2.1
  intro f
  induction f with
  | zero =>
    intro k a w hk ha
    have e10 : ¬ (10 : Int32) ≤ nI k := by rw [nI_lit 10, nI_leE (by omega) (by omega)]; omega
    have hby := Mo_byte (p := (a, p.2)) (u := u) hin (d := d + 1) (by omega) ha
    have e9 : nI k = 9 := by rw [show k = 9 by omega]; rfl
    unfold kVd
    by_cases han : a < n
    · rw [if_pos han]
      have hb1 : (nI (B a) ≤ (1 : Int32)) = (B a ≤ 1) := by rw [show (1 : Int32) = nI 1 from rfl, nI_leE (by have := hB a; omega) (by omega)]
      have go : ∀ r, (if B a ≤ 1 then fMo_varint_23 (d + 2) (nI fr) w (nI k) (nI (B a)) (oM u (a + 1, p.2) t) else cG (fMo_failBytes (d + 1) (nI 2) (nI fr) (oM u (a + 1, p.2) t)) (kV fun s3 => fMo_varint_23 (d + 2) (nI fr) w (nI k) (nI (B a)) s3)) = some r → fMo_varint_7 (d + 2) (nI fr) w (nI k) (oM u (a, p.2) t) = some r := by
        intro r hr
        refine eMo_varint_7 (d + 1) _ _ _ _ _ ?_
        have hby1 : fMo_byteHere (d + 1) (oM u (a, p.2) t) = rI (nI (B a)) (oM u (a + 1, p.2) t) := hby.1 han
        rw [if_neg e10, hby1, cG_I, if_neg (fun e => e e9)]
        simp only [hb1]
        exact hr
      by_cases h1 : B a ≤ 1
      · rw [if_pos h1] at go
        rw [if_neg (by omega), if_neg (by omega)]
        refine go _ (eMo_varint_23 (d + 1) _ _ _ _ _ _ ?_)
        have h128 : ¬ (128 : Int32) ≤ nI (B a) := by rw [show (128 : Int32) = nI 128 from rfl, nI_leE (by omega) (by omega)]; omega
        rw [if_neg h128]
        rfl
      · rw [if_neg h1] at go
        rw [if_pos ⟨by omega, by omega⟩]
        exact mKf_cg (Mo_fail (d + 1)) go
    · rw [if_neg han]
      obtain ⟨t', h1, h2, h3, h4⟩ := hby.2 han
      refine ⟨t', eMo_varint_7 (d + 1) _ _ _ _ _ ?_, h2, h3, h4⟩
      rw [if_neg e10, h1, cG_T]
      rfl
  | succ f ih =>
    intro k a w hk ha
    have e10 : ¬ (10 : Int32) ≤ nI k := by rw [nI_lit 10, nI_leE (by omega) (by omega)]; omega
    have hby := Mo_byte (p := (a, p.2)) (u := u) hin (d := d + 1) (by omega) ha
    have e9 : ¬ nI k = 9 := by rw [show (9 : Int32) = nI 9 from rfl, nI_eqE (by omega) (by omega)]; omega
    unfold kVd
    by_cases han : a < n
    · rw [if_pos han, if_neg (by omega)]
      have go : ∀ r, fMo_varint_23 (d + 2) (nI fr) w (nI k) (nI (B a)) (oM u (a + 1, p.2) t) = some r → fMo_varint_7 (d + 2) (nI fr) w (nI k) (oM u (a, p.2) t) = some r := by
        intro r hr
        refine eMo_varint_7 (d + 1) _ _ _ _ _ ?_
        have hby1 : fMo_byteHere (d + 1) (oM u (a, p.2) t) = rI (nI (B a)) (oM u (a + 1, p.2) t) := hby.1 han
        rw [if_neg e10, hby1, cG_I, if_pos e9]
        exact hr
      have h128 : ((128 : Int32) ≤ nI (B a)) = (128 ≤ B a) := by rw [show (128 : Int32) = nI 128 from rfl, nI_leE (by omega) (by have := hB a; omega)]
      by_cases hb : 128 ≤ B a
      · rw [if_pos hb]
        have ihh := ih (k + 1) (a + 1) (kVa w k (B a)) (by omega) (by omega)
        have go2 : ∀ r, fMo_varint_7 (d + 2) (nI fr) (kVa w k (B a)) (nI (k + 1)) (oM u (a + 1, p.2) t) = some r → fMo_varint_7 (d + 2) (nI fr) w (nI k) (oM u (a, p.2) t) = some r := by
          intro r hr
          refine go r (eMo_varint_23 (d + 1) _ _ _ _ _ _ ?_)
          rw [if_pos (by rw [h128]; exact hb), nI_add1]
          exact hr
        unfold mKv at ihh ⊢
        split at ihh
        · exact go2 _ ihh
        · exact mKf_go ihh go2
      · rw [if_neg hb]
        refine go _ (eMo_varint_23 (d + 1) _ _ _ _ _ _ ?_)
        rw [if_neg (by rw [h128]; exact hb)]
        rfl
    · rw [if_neg han]
      obtain ⟨t', h1, h2, h3, h4⟩ := hby.2 han
      refine ⟨t', eMo_varint_7 (d + 1) _ _ _ _ _ ?_, h2, h3, h4⟩
      rw [if_neg e10, h1, cG_T]
      rfl
theorem Mo_vi (hin : mIn B n t) {d : Nat} (hd : 2 ≤ d) (hp : p.1 ≤ n) : mKv u t p (fMo_varint d (oM u p t)) (kVr B n p.1) := by
  obtain ⟨d, rfl⟩ : ∃ d', d = d' + 2 := ⟨d - 2, by omega⟩
  have h : mKv u t p (fMo_varint_7 (d + 2) (nI p.1) 0 (nI 0) (oM u (p.1, p.2) t)) (kVd B n p.1 10 0 p.1 0) := Mo_v7 (u := u) (p := p) hin d (fr := p.1) 9 0 p.1 0 rfl hp
  have go : ∀ r, fMo_varint_7 (d + 2) (nI p.1) 0 (nI 0) (oM u (p.1, p.2) t) = some r → fMo_varint (d + 2) (oM u p t) = some r := by
    intro r hr
    refine eMo_varint (d + 1) _ _ ?_
    rw [oM_at]
    exact hr
  unfold kVr
  unfold mKv at h ⊢
  split at h
  · exact go _ h
  · exact mKf_go h go
end
