/-! look: both sides -/
/-- what a look leaves -/
def yLo (S : yS) (r : Except (Nat × Nat) (Option (Nat × kB))) : Nat × Int32 × yS := match r with
  | .ok (some (k, _)) => (0, nI k, S.spc (-1))
  | .ok none => (0, -34, S.spc (-1))
  | .error e => (0, -(nI e.1), S.spc (nI e.2))
def y_look (x w : Int32) (S : yS) : Nat × Int32 × yS := yGt x w S (1, 0, S) (0, -33, S) (fun n v => yLo S (kLk (yQ (yVd S.fs n v)) (yB S.tp) S.tp.length (yX (yVd S.fs n v))))
section
variable {c : Nat} {S : yS} {s : aT}
/-- the lake's state after a look -/
theorem yLI_lk (hw : yWf S) (h : yLI c S s) {s' : aT} {pc : Int32} (hx : ∀ k i, k < 67 → ¬ (46 ≤ k ∧ k ≤ 48) → ¬ (k = 0 ∧ i = 15) → gI s' k i = gI s k i) (h15 : gI s' 0 15 = pc) : yLI (c + 1) (S.spc pc) s' :=
  yLI_ch (fun k i hk hn => hx k i hk (fun e => hn (by unfold xTw xTr; omega)) (fun e => hn (by unfold xTw; omega))) (by omega) (lBy_fr (fun k i hk => hx k i (by omega) (by omega) (by omega)) h.2.1.1) (lBy_fr (fun k i hk => hx k i (by omega) (by omega) (by omega)) h.2.1.2.1) (lBy_fr (fun k i hk => hx k i (by omega) (by omega) (by omega)) h.2.1.2.2) h15 h
theorem lOp_w {n : Nat} {k i : Nat} (h : k < 46 ∨ 48 < k) (h0 : ¬ (k = 0 ∧ i = 15)) : gI (lOp s n) k i = gI s k i := by
  unfold lOp
  rw [gI_pI, if_neg (by omega), gI_pI, if_neg (by omega)]
  show gI (pI s 0 15 (-1)) k i = _
  rw [gI_pI, if_neg h0]
theorem lOp_15 {n : Nat} : gI (lOp s n) 0 15 = -1 := by
  unfold lOp
  rw [gI_pI, if_neg (by omega), gI_pI, if_neg (by omega)]
  show gI (pI s 0 15 (-1)) 0 15 = _
  rw [gI_pI, if_pos ⟨rfl, rfl⟩]
theorem Lk_look (hw : yWf S) (h : yLI c S s) (d : Nat) (E : Nat → Nat) {n v : Nat} (hd : S.dn = false) (hv : yVf S.fs n v ≠ 0) : yLr c s E (fLk_lookAtTape (d + 108) (nI (lo (yVb S.fs n v) (yX (yVd S.fs n v)))) s) (yLo S (kLk (yQ (yVd S.fs n v)) (yB S.tp) S.tp.length (yX (yVd S.fs n v)))) := by
  have hL := hw.2.2.2.2
  have hsc := h.2.2.2.2.2.1
  rw [yUp_f hd] at hsc
  obtain ⟨a1, a2, a3, a4, a5, a6⟩ := Lk_ver hL hsc hv
  have ht := h.2.1.1
  have hlt := Lk_tape (s := s) (B := yB S.tp) (n := S.tp.length) hw.1.2 ht.1 (fun i hi => ht.2.1 i hi) (yB_bt hw.1.1) a6.1 a6.2.1 a6.2.2.1 d (yVk_r a1).2.2.2.2
  cases hk : kLk (yQ (yVd S.fs n v)) (yB S.tp) S.tp.length (yX (yVd S.fs n v)) with
  | error e =>
    rw [hk] at hlt
    obtain ⟨t', t1, t2, t3, t4⟩ := hlt
    have hx : ∀ k i, (k < 46 ∨ 48 < k) → ¬ (k = 0 ∧ i = 15) → gI (pI t' 0 15 (nI e.2)) k i = gI s k i := fun k i h1 h2 => by
      rw [gI_pI, if_neg (by omega), t4.1 k i (by omega) (by omega) (by omega), lOp_w h1 h2]
    exact yLr_0 ⟨_, t1, yLI_lk hw h (fun k i _ h1 h2 => hx k i (by omega) h2) (by rw [gI_pI, if_pos ⟨rfl, rfl⟩]), fun k i hk => hx k i (by omega) (by omega)⟩
  | ok o =>
    rw [hk] at hlt
    cases o with
    | none =>
      obtain ⟨p, y, t1⟩ := hlt
      have hx : ∀ k i, (k < 46 ∨ 48 < k) → ¬ (k = 0 ∧ i = 15) → gI (oK p y (lOp s S.tp.length)) k i = gI s k i := fun k i h1 h2 => by rw [oK_o (by omega), lOp_w h1 h2]
      exact yLr_0 ⟨_, t1, yLI_lk hw h (fun k i _ h1 h2 => hx k i (by omega) h2) (by rw [oK_o (by omega), lOp_15]), fun k i hk => hx k i (by omega) (by omega)⟩
    | some kp =>
      obtain ⟨k, p⟩ := kp
      obtain ⟨y, t1⟩ := hlt
      have hx : ∀ k i, (k < 46 ∨ 48 < k) → ¬ (k = 0 ∧ i = 15) → gI (oK p y (lOp s S.tp.length)) k i = gI s k i := fun k i h1 h2 => by rw [oK_o (by omega), lOp_w h1 h2]
      exact yLr_0 ⟨_, t1, yLI_lk hw h (fun k i _ h1 h2 => hx k i (by omega) h2) (by rw [oK_o (by omega), lOp_15]), fun k i hk => hx k i (by omega) (by omega)⟩
theorem L_look (hw : yWf S) (h : yLI c S s) (d : Nat) {E : Nat → Nat} (hE : E 1 = 2) (x w : Int32) : yLr c s E (fLk_look (d + 109) x w s) (y_look x w S) := by
  refine yLr_go (Lk_gt hw h (d + 108) hE (K := fun s2 => cG (fSc_rootOf (d + 108) x w s2) (kI fun v4 s3 => cG (fLk_lookAtTape (d + 108) v4 s3) (kI fun v6 s5 => rI v6 s5))) (fun n v hn hv ex ew hd hvf => ?_)) (fun r hr => eLk_look (d + 108) _ _ _ _ hr)
  have hL := hw.2.2.2.2
  have hsc := h.2.2.2.2.2.1
  rw [yUp_f hd] at hsc
  obtain ⟨a1, a2, a3, a4, a5, a6⟩ := Lk_ver hL hsc hvf
  show yLr c s E (cG (fSc_rootOf (d + 108) x w s) _) _
  rw [ex, ew, a4, cG_I]
  have hl := Lk_look hw h d E hd hvf
  unfold yLo at hl ⊢
  split at hl
  all_goals
    unfold yLr at hl ⊢
    rw [if_pos rfl] at hl ⊢
    obtain ⟨s', r1, r2⟩ := hl
    exact ⟨s', by rw [r1, cG_I], r2⟩
def kEr {α : Type} (r : Except (Nat × Nat) α) : Nat := match r with
  | .error _ => 1
  | .ok _ => 0
theorem xMk_er {α : Type} {r : Except (Nat × Nat) α} {s s' : aT} (h : xMk (kEr r) s s') : xMo s s' := ⟨h.1, by
  have := h.2.1
  have e : kEr r ≤ 1 := by
    cases r with
    | error _ => exact Nat.le_refl 1
    | ok _ => exact Nat.zero_le 1
  omega, h.2.2⟩
/-- the reference looks -/
theorem Mo_look (hw : yWf S) (h : yMI S s) (d : Nat) {n v : Nat} (hv : yVf S.fs n v ≠ 0) (u : Bool) (h0 : gI s 67 0 = nI 0) : ∃ s1, fMo_readVersion (d + 104) 91 (nI n) (nI v) s = rV s1 ∧ ∃ s', fMo_lookAtRows (d + 104) 91 (uF u) s1 = rI (yLo S (kLk (yQ (yVd S.fs n v)) (yB S.tp) S.tp.length (yX (yVd S.fs n v)))).2.1 s' ∧ yMI (yLo S (kLk (yQ (yVd S.fs n v)) (yB S.tp) S.tp.length (yX (yVd S.fs n v)))).2.2 s' ∧ gI s' 67 0 = nI 0 ∧ xMk (kEr (kLk (yQ (yVd S.fs n v)) (yB S.tp) S.tp.length (yX (yVd S.fs n v)))) s s' ∧ (∀ k p, kLk (yQ (yVd S.fs n v)) (yB S.tp) S.tp.length (yX (yVd S.fs n v)) = .ok (some (k, p)) → u = true → gI s' 67 22 = nI p.2.2.2.length ∧ ∀ i, i < p.2.2.2.length → gI s' 144 i = mI (p.2.2.2.getD i 0)) := by
  have hL := hw.2.2.2.2
  have hb := (hL.2.2.1 _ ((yVf_iff hL).2 hv).1 ((yVf_iff hL).2 hv).2.1.2).1
  have hrt := (yVk_r hb).2.2.2.2
  obtain ⟨s1, q1, q2, q3, q4, q5, q6⟩ := Mo_rdv hL h hv (.inl rfl) (d + 45)
  have hu1 := Mo_rdvU hL h hv (.inl rfl) (d + 45) q1
  rw [show d + 45 + 59 = d + 104 by omega] at q1
  have h1 : yMI S s1 := yMI_fr (fun k i hk hn => (q2 k i (by
    by_cases e : 91 ≤ k ∧ k < 113
    · exact absurd (show xTm k i by unfold xTm; omega) hn
    · omega)).1) h
  have hK : mKc 91 (yB S.tp) S.tp.length (yQ (yVd S.fs n v)) (yT (yVd S.fs n v)) (yM (yVd S.fs n v)) (mOp s1) := by
    refine ⟨q4.1, ⟨?_, hw.1.2, fun i hi => ?_, yB_bt hw.1.1⟩, ?_, q4.2.2.2.2.1, q4.2.2.2.2.2.1, q4.2.2.2.2.2.2.1⟩
    · unfold mOp
      rw [gI_pI, if_neg (by omega), gI_pI, if_neg (by omega), gI_pI, if_neg (by omega)]
      exact h1.2.1.1
    · rw [mOp_o (by omega)]
      exact h1.2.1.2 i hi
    · exact (mW_frc (fun k i a b => mOp_o (by omega)) (fun _ _ => rfl) q4).2.1
  have hmt := Mo_tape (u := u) (s := s1) hK d hrt q3
  have m67 : ∀ i, i ≠ 23 → i ≠ 22 → i ≠ 3 → gI (mOp s1) 67 i = gI s1 67 i := fun i a b e => by
    unfold mOp
    rw [gI_pI, if_neg (by omega), gI_pI, if_neg (by omega), gI_pI, if_neg (by omega)]
  have m3 : gI (mOp s1) 67 3 = -1 := by unfold mOp; rw [gI_pI, if_pos ⟨rfl, rfl⟩]
  have hs0 : gI s1 67 0 = nI 0 := by rw [(q2 67 0 (by omega)).1]; exact h0
  have fin : ∀ (t : aT) (pc : Int32), (∀ k i, k ≠ 67 → k ≠ 144 → gI t k i = gI s1 k i) → (∀ i, i < 22 → i ≠ 3 → gI t 67 i = gI s1 67 i) → gI t 67 3 = pc → ∀ z, t.2.2.2 ≤ s1.2.2.2 + z → gL t 149 0 = gL s1 149 0 → yMI (S.spc pc) t ∧ gI t 67 0 = nI 0 ∧ xMk z s t := by
    intro t pc g1 g2 g3 z hz hzg
    refine ⟨yMI_ch (s := s1) (tp := S.tp) (pl := S.pl) (ou := S.ou) (fun k i hk hn => ?_) ⟨by rw [g2 2 (by omega) (by omega)]; exact h1.2.1.1, fun i hi => by rw [g1 68 i (by omega) (by omega)]; exact h1.2.1.2 i hi⟩ ⟨by rw [g2 8 (by omega) (by omega)]; exact h1.2.2.1.1, fun i hi => by rw [g1 135 i (by omega) (by omega)]; exact h1.2.2.1.2 i hi⟩ ⟨by rw [g2 10 (by omega) (by omega)]; exact h1.2.2.2.1.1, fun i hi => by rw [g1 136 i (by omega) (by omega)]; exact h1.2.2.2.1.2 i hi⟩ g3 h1, by rw [g2 0 (by omega) (by omega)]; exact hs0, fun k i hk => by rw [g1 k i (by omega) (by omega)]; exact (q2 k i (by omega)).1, by rw [← hu1]; exact hz, by rw [hzg]; exact (q2 149 0 (by omega)).2⟩
    have hn2 : k ≠ 144 ∧ ¬ (k = 67 ∧ (13 < i ∨ i = 3)) := ⟨fun e => hn (by unfold xTn xTm; omega), fun e => hn (by unfold xTn xTm; omega)⟩
    by_cases h67 : k = 67
    · rw [h67]
      exact g2 i (by omega) (by omega)
    · exact g1 k i h67 hn2.1
  refine ⟨s1, q1, ?_⟩
  have oo : ∀ (p : kB) k i, k ≠ 67 → k ≠ 144 → gI (oM u p (mOp s1)) k i = gI s1 k i := fun p k i a b => by
    have e : gI (oM u p (mOp s1)) k i = gI (mOp s1) k i := by
      show (if k = 67 then _ else if k = 144 ∧ u = true ∧ i < p.2.2.2.length then _ else _) = _
      rw [if_neg a, if_neg (fun e => b e.1)]
      rfl
    rw [e, mOp_o a]
  have o67 : ∀ (p : kB) i, i < 22 → gI (oM u p (mOp s1)) 67 i = gI (mOp s1) 67 i := fun p i a => by
    show (if i = 23 then nI p.1 else if i = 26 then nI p.2.1 else if i = 27 then nI p.2.2.1 else if i = 22 ∧ u = true then nI p.2.2.2.length else gI (mOp s1) 67 i) = _
    rw [if_neg (by omega), if_neg (by omega), if_neg (by omega), if_neg (by omega)]
  cases hk : kLk (yQ (yVd S.fs n v)) (yB S.tp) S.tp.length (yX (yVd S.fs n v)) with
  | error e =>
    rw [hk] at hmt
    obtain ⟨t', t1, t2⟩ := hmt
    obtain ⟨f1, f2, f3⟩ := fin (pI t' 67 3 (nI e.2)) (nI e.2) (fun k i a b => by rw [gI_pI, if_neg (by omega), t2.1 k i a b]; exact mOp_o a) (fun i a b => by rw [gI_pI, if_neg (by omega), t2.2.2.2 i (.inl a)]; exact m67 i (by omega) (by omega) b) (by rw [gI_pI, if_pos ⟨rfl, rfl⟩]) 1 (by
      show t'.2.2.2 ≤ _
      rw [t2.2.2.1]
      exact Nat.le_refl _) (by
      show gL t' 149 0 = _
      rw [t2.2.1]
      rfl)
    exact ⟨_, t1, f1, f2, f3, fun k p e => by cases e⟩
  | ok o =>
    rw [hk] at hmt
    cases o with
    | none =>
      obtain ⟨p, t1⟩ := hmt
      obtain ⟨f1, f2, f3⟩ := fin (oM u p (mOp s1)) (-1) (oo p) (fun i a b => by rw [o67 p i a]; exact m67 i (by omega) (by omega) b) (by rw [o67 p 3 (by omega)]; exact m3) 0 (Nat.le_refl _) rfl
      exact ⟨_, t1, f1, f2, f3, fun k p e => by cases e⟩
    | some kp =>
      obtain ⟨k, p⟩ := kp
      have t1 : fMo_lookAtRows (d + 104) 91 (uF u) s1 = rI (nI k) (oM u p (mOp s1)) := hmt
      obtain ⟨f1, f2, f3⟩ := fin (oM u p (mOp s1)) (-1) (oo p) (fun i a b => by rw [o67 p i a]; exact m67 i (by omega) (by omega) b) (by rw [o67 p 3 (by omega)]; exact m3) 0 (Nat.le_refl _) rfl
      refine ⟨_, t1, f1, f2, f3, fun k' p' e hu => ?_⟩
      cases e
      subst hu
      refine ⟨rfl, fun i hi => ?_⟩
      show (if 144 = 144 ∧ true = true ∧ i < p.2.2.2.length then mI (p.2.2.2.getD i 0) else gI (mOp s1) 144 i) = _
      rw [if_pos ⟨rfl, rfl, hi⟩]
theorem M_look (hw : yWf S) (h : yMI S s) (d : Nat) (x w : Int32) : yMr s (fMo_look (d + 105) x w s) (y_look x w S) := by
  have hgo := Mo_go_look hw.2.2.2.2 h (d + 102) (x := x) (w := w)
  rw [show d + 102 + 3 = d + 105 by omega] at hgo
  refine Mo_gt hw h (d + 104) (K := fun s1 => cG (fMo_readVersion (d + 104) 91 x w s1) (kV fun s3 => cN (fMo_lookAtRows (d + 104) 91 0 s3) (kI fun v5 s4 => rI v5 s4))) (fun r hr => hgo r (eMo_look_15 (d + 104) _ _ _ _ _ hr)) (fun n v hn hv ex ew hd hvf => ?_)
  have hy := yMI_0 (v := nI 0) h
  obtain ⟨s1, q1, s', q2, q3, q4, q5, _⟩ := Mo_look hw hy d hvf false (by rw [gI_pI, if_pos ⟨rfl, rfl⟩])
  have e0 : (yLo S (kLk (yQ (yVd S.fs n v)) (yB S.tp) S.tp.length (yX (yVd S.fs n v)))).1 = 0 := by
    unfold yLo
    split <;> rfl
  refine ⟨s', ?_, ?_, q3, xMk_er q5⟩
  · show cG (fMo_readVersion (d + 104) 91 x w _) _ = _
    have q2 : fMo_lookAtRows (d + 104) 91 0 s1 = _ := q2
    rw [ex, ew, q1, cG_V, q2, cN_I]
  · rw [e0]; exact q4
end
