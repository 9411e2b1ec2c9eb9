/-! the reference's Text: an escape, a string -/
theorem cP_of {x : Nat} {vs : List Value} {v : Int32} {K : Int32 → aRs} (h : aPrim x vs = some (.int v)) : cP x vs K = K v := by
  unfold cP; rw [h]
theorem mI_ge0 {x : Nat} (hx : x ≤ 256) : (0 ≤ mI x) = (x < 128) := by
  apply propext
  rw [Int32.le_iff_toInt_le, mI_toInt hx]
  show (0 : Int) ≤ _ ↔ _
  repeat' split
  all_goals omega
theorem mI_nI {x : Nat} (hx : x < 128) : mI x = nI x := by unfold mI; rw [if_pos hx]
theorem eIx_neg {b : Nat} (h : jE1 b = 0) : eIx b = -1 := by
  unfold jE1 at h
  unfold eIx
  repeat (split at h; · simp at h)
  repeat rw [if_neg (by assumption)]
theorem eIx_pos {b : Nat} (h : jE1 b ≠ 0) (t : aT) : ¬ eIx b < 0 ∧ (if ¬ eIx b = 0 then if ¬ eIx b = 1 then if ¬ eIx b = 2 then if ¬ eIx b = 3 then if ¬ eIx b = 4 then if ¬ eIx b = 5 then if ¬ eIx b = 6 then rI 9 t else rI 13 t else rI 10 t else rI 12 t else rI 8 t else rI 47 t else rI 92 t else rI 34 t) = rI (nI (jE1 b)) t := by
  unfold jE1 at h ⊢
  unfold eIx
  repeat' split at h
  all_goals first
    | (exfalso; exact h rfl)
    | (subst_vars; exact ⟨by decide, rfl⟩)
section
variable {c : Nat} {p : jP} {s : aT} {B : Nat → Nat} {n : Nat}
theorem Mt_esc (hc : isT c) (hB : mB0 c s B n) (d : Nat) (hp : p.1 < n) : match jEs B n p.1 with
    | .ok (v1, a1) => fMt_escaped (d + 6) c (mJ c p s) = rI (nI v1) (mJ c (jTo p a1) s)
    | .error e => ∃ a1, fMt_escaped (d + 6) c (mJ c p s) = rT 0 (mX c (jTo p a1) s e) := by
  have hb := jBt_le (n := n) (a := p.1 + 1) hB.2.2.2
  have hl : ∀ d, fMt_look d c (mJ c (jTo p (p.1 + 1)) s) = rI (mI (jBt B n (p.1 + 1))) (mJ c (jTo p (p.1 + 1)) s) := fun d => Mt_look d hc hB hp
  have go : ∀ r, fMt_escaped_20 (d + 6) c (nI p.1) (if jBt B n (p.1 + 1) < 128 then eIx (jBt B n (p.1 + 1)) else -1) (mJ c (jTo p (p.1 + 1)) s) = some r → fMt_escaped (d + 6) c (mJ c p s) = some r := by
    intro r hr
    refine eMt_escaped d c _ hc _ ?_
    rw [wI_eq, mJ_at, nI_add1, mJ_to, hl, cG_I]
    simp only [mI_ge0 hb]
    by_cases h : jBt B n (p.1 + 1) < 128
    · rw [if_pos h] at hr ⊢
      rw [mI_nI h, cP_of (eIx_prim _ h)]
      exact hr
    · rw [if_neg h] at hr ⊢
      exact hr
  unfold jEs
  by_cases h1 : jE1 (jBt B n (p.1 + 1)) ≠ 0
  · rw [if_pos h1]
    have h128 : jBt B n (p.1 + 1) < 128 := by
      rcases Nat.lt_or_ge (jBt B n (p.1 + 1)) 128 with h | h
      · exact h
      · exfalso; apply h1; unfold jE1; repeat rw [if_neg (by omega)]
    simp only
    refine go _ ?_
    rw [if_pos h128]
    refine eMt_escaped_20 d c _ _ _ hc _ ?_
    have h2 := eIx_pos h1 (mJ c (jTo p (p.1 + 2)) s)
    rw [if_neg h2.1, wI_eq, mJ_at]
    simp only [nI_add1, mJ_to]
    exact h2.2
  · rw [if_neg h1]
    have h0 : jE1 (jBt B n (p.1 + 1)) = 0 := by omega
    have e : (if jBt B n (p.1 + 1) < 128 then eIx (jBt B n (p.1 + 1)) else -1) = -1 := by rw [eIx_neg h0]; split <;> rfl
    rw [e] at go
    by_cases h2 : jBt B n (p.1 + 1) = 117
    · rw [if_pos h2]
      have hlt := jBt_lt h2 (by omega)
      have ht : fMt_take (d + 5) c 117 (mJ c (jTo p (p.1 + 1)) s) = rV (mJ c (jTo p (p.1 + 2)) s) := by
        rw [nI_lit 117]
        exact Mt_take1 (p := jTo p (p.1 + 1)) (d + 3) hc hB hp (by omega) h2
      have go2 : ∀ r, fMt_escaped_72 (d + 6) c (nI p.1) (nI 0) (nI (4 - 4)) (mJ c (jTo p (p.1 + 2)) s) = some r → fMt_escaped (d + 6) c (mJ c p s) = some r := by
        intro r hr
        refine go _ ?_
        refine eMt_escaped_20 d c _ _ _ hc _ ?_
        rw [if_pos (by decide), ht, cG_V]
        exact hr
      have h72 := Mt_esc72 (p := p) hc hB d p.1 4 0 (p.1 + 2) (by omega) (by decide) (by omega)
      revert h72
      cases jH4 B n 4 0 (p.1 + 2) with
      | error e => rintro ⟨a1, h⟩; exact ⟨a1, go2 _ h⟩
      | ok q =>
        obtain ⟨v1, a1⟩ := q
        simp only
        intro h
        by_cases h256 : v1 < 256
        · rw [if_pos h256] at h ⊢; exact go2 _ h
        · rw [if_neg h256] at h ⊢; exact ⟨a1, go2 _ h⟩
    · rw [if_neg h2]
      refine ⟨p.1 + 1, go _ ?_⟩
      refine eMt_escaped_20 d c _ _ _ hc _ ?_
      have ht : fMt_take (d + 5) c 117 (mJ c (jTo p (p.1 + 1)) s) = rT 0 (mX c (jTo p (p.1 + 1)) s (p.1 + 1)) := by
        rw [nI_lit 117]
        exact Mt_take0 (p := jTo p (p.1 + 1)) (d + 3) hc hB hp (by omega) h2
      rw [if_pos (by decide), ht, cG_T]
      rfl
theorem mJ_push {l v : Nat} {a m : Nat} {T : Nat → Nat → Nat} {N : Nat → Int} : pI (pI (mJ c (a, m, l, T, N) s) (c + 8) l (mI v)) c 15 (nI (l + 1)) = mJ c (a, m, l + 1, a2 T 6 l v, N) s := by
  refine aT_ext (fun k i => ?_) (fun k i => ?_) rfl
  · simp only [gI_pI]
    simp only [gI, mJ, a2_ite]
    by_cases h0 : k = c
    · subst h0
      by_cases h15 : i = 15 <;> simp [h15]
    · by_cases h8 : k = c + 8
      · subst h8
        by_cases hi : i = l
        · subst hi; simp
        · have e : (i < l + 1) = (i < l) := by apply propext; omega
          simp [hi, e]
      · simp [h0, h8]
  · simp [gL, mJ, pI, a2_ite]
/-- a string's loop: the value v, its first letter at l0 -/
theorem Mt_str17 (hc : isT c) (hB : mB0 c s B n) (d : Nat) {m v l0 : Nat} {N : Nat → Int} (hv : v < m) (hm : m ≤ 4200) : ∀ f a l T, n < a + f → a ≤ n → l0 ≤ l → l ≤ a → T 0 v = 2 → match jSl B n f a l T with
    | .ok (a1, l1, T1) => fMt_string_17 (d + 7) c (nI v) (mJ c (a, m, l, a2 T 2 v (l - l0), N) s) = rI (nI v) (mJ c (a1, m, l1, a2 T1 2 v (l1 - l0), N) s)
    | .error e => ∃ p1, fMt_string_17 (d + 7) c (nI v) (mJ c (a, m, l, a2 T 2 v (l - l0), N) s) = rT 0 (mX c p1 s e) := by
  intro f
  induction f with
  | zero => intro a l T h1 h2; omega
  | succ f ih =>
    intro a l T h1 h2 h3 h4 hT
    have hn := hB.1
    have hb := jBt_le (n := n) (a := a) hB.2.2.2
    have hl : ∀ d, fMt_look d c (mJ c (a, m, l, a2 T 2 v (l - l0), N) s) = rI (mI (jBt B n a)) (mJ c (a, m, l, a2 T 2 v (l - l0), N) s) := fun d => Mt_look d hc hB h2
    have e51 : ∀ b a1 r, b < 256 → a < a1 → a1 ≤ n → fMt_string_17 (d + 7) c (nI v) (mJ c (a1, m, l + 1, a2 (a2 T 6 l b) 2 v (l + 1 - l0), N) s) = some r → fMt_string_51 (d + 7) c (nI v) (nI b) (mJ c (a1, m, l, a2 T 2 v (l - l0), N) s) = some r := by
      intro b a1 r hb ha ha1 hr
      refine eMt_string_51 (d + 6) c _ _ _ hc _ ?_
      rw [mJ_l, stI_n (by show l < 4200; omega) (by omega), nI_byte hb, wI_eq, gI_pI, if_neg (by omega), mJ_l, nI_add1, mJ_push, ldI_n (by omega) (by omega), mJ_Z (by exact hv), stI_n (by omega) (by omega)]
      have e0 : (a, m, l + 1, a2 (a2 T 2 v (l - l0)) 6 l b, N).2.2.2.1 0 v = 2 := by simp [a2_ite, hT]
      have e2 : (a, m, l + 1, a2 (a2 T 2 v (l - l0)) 6 l b, N).2.2.2.1 2 v = l - l0 := by simp [a2_ite]
      have hz : a2 (a2 T 2 v (l - l0)) 6 l b = a2 (a2 T 6 l b) 2 v (l - l0) := by
        funext k i
        simp only [a2_ite]
        by_cases hk : k = 6
        · subst hk; simp
        · simp [hk]
      rw [nI_add1, mJ_setZ (by exact hv) (by simp [a2_ite, hT])]
      simp only [jSe, hz]
      rw [a2_a2]
      have : (if a2 (a2 T 6 l b) 2 v (l - l0) 0 v = 0 then 0 else a2 (a2 T 6 l b) 2 v (l - l0) 2 v) + 1 = l + 1 - l0 := by
        simp [a2_ite, hT]; omega
      rw [this]
      exact hr
    unfold jSl
    by_cases h34 : jBt B n a = 34
    · rw [if_pos h34]
      simp only
      refine eMt_string_17 (d + 6) c _ _ hc _ ?_
      rw [hl, cG_I]
      simp (disch := omega) only [nI_lit 34, mI_eqE]
      rw [if_pos h34, wI_eq, mJ_at, nI_add1, mJ_to]
      rfl
    · rw [if_neg h34]
      by_cases hr : jBt B n a < 32 ∨ 126 < jBt B n a
      · rw [if_pos hr]
        simp only
        refine ⟨(a, m, l, a2 T 2 v (l - l0), N), ?_⟩
        have e33 : fMt_string_33 (d + 7) c (nI v) (mI (jBt B n a)) (mJ c (a, m, l, a2 T 2 v (l - l0), N) s) = rT 0 (mX c (a, m, l, a2 T 2 v (l - l0), N) s a) := by
          refine eMt_string_33 (d + 6) c _ _ _ hc _ ?_
          refine eMt_string_34 (d + 6) c _ _ _ _ hc _ ?_
          rw [mJ_at, Mt_need0 _ hc, cG_T]
          rfl
        refine eMt_string_17 (d + 6) c _ _ hc _ ?_
        rw [hl, cG_I]
        simp (disch := omega) only [nI_lit 34, nI_lit 32, nI_lit 126, mI_eqE, mI_ltE, mI_gtE]
        rw [if_neg h34, hl, cG_I]
        simp (disch := omega) only [mI_eqE, mI_ltE, mI_gtE]
        rw [e33]
        by_cases hx : jBt B n a < 32 ∨ 128 ≤ jBt B n a
        · rw [if_pos hx]; rfl
        · rw [if_neg hx, if_pos (by omega)]; rfl
      · rw [if_neg hr]
        have hlt := jBt_lt (B := B) (n := n) (a := a) rfl (by omega)
        have go : ∀ r, fMt_string_34 (d + 7) c (nI v) (mI (jBt B n a)) 1 (mJ c (a, m, l, a2 T 2 v (l - l0), N) s) = some r → fMt_string_17 (d + 7) c (nI v) (mJ c (a, m, l, a2 T 2 v (l - l0), N) s) = some r := by
          intro r hr2
          refine eMt_string_17 (d + 6) c _ _ hc _ ?_
          rw [hl, cG_I]
          simp (disch := omega) only [nI_lit 34, nI_lit 32, nI_lit 126, mI_eqE, mI_ltE, mI_gtE]
          rw [if_neg h34, hl, cG_I]
          simp (disch := omega) only [mI_eqE, mI_ltE, mI_gtE]
          rw [if_neg (by omega), if_neg (by omega)]
          exact hr2
        by_cases h92 : jBt B n a = 92
        · rw [if_pos h92]
          have hesc := Mt_esc (p := (a, m, l, a2 T 2 v (l - l0), N)) hc hB d hlt
          simp only at hesc
          revert hesc
          cases he : jEs B n a with
          | error e =>
            rintro ⟨a1, h⟩
            refine ⟨jTo (a, m, l, a2 T 2 v (l - l0), N) a1, go _ ?_⟩
            refine eMt_string_34 (d + 6) c _ _ _ _ hc _ ?_
            rw [Mt_need1 _ hc, cG_V]
            simp (disch := omega) only [nI_lit 92, mI_eqE]
            rw [if_neg (by omega), h, cG_T]
            rfl
          | ok q =>
            obtain ⟨b, a1⟩ := q
            simp only
            intro h
            have hj := jEs_ok he
            simp only at hj
            have ih := ih a1 (l + 1) (a2 T 6 l b) (by omega) (by omega) (by omega) (by omega) (by simp [a2_ite, hT])
            have go2 : ∀ r, fMt_string_17 (d + 7) c (nI v) (mJ c (a1, m, l + 1, a2 (a2 T 6 l b) 2 v (l + 1 - l0), N) s) = some r → fMt_string_17 (d + 7) c (nI v) (mJ c (a, m, l, a2 T 2 v (l - l0), N) s) = some r := by
              intro r hr2
              refine go _ ?_
              refine eMt_string_34 (d + 6) c _ _ _ _ hc _ ?_
              rw [Mt_need1 _ hc, cG_V]
              simp (disch := omega) only [nI_lit 92, mI_eqE]
              rw [if_neg (by omega), h, cG_I]
              exact e51 b a1 r hj.1 (by omega) hj.2.2 hr2
            revert ih
            cases jSl B n f a1 (l + 1) (a2 T 6 l b) with
            | error e => rintro ⟨p1, h⟩; exact ⟨p1, go2 _ h⟩
            | ok q =>
              obtain ⟨a2', l2, T2⟩ := q
              simp only
              intro h
              exact go2 _ h
        · rw [if_neg h92]
          have ih := ih (a + 1) (l + 1) (a2 T 6 l (jBt B n a)) (by omega) (by omega) (by omega) (by omega) (by simp [a2_ite, hT])
          have go2 : ∀ r, fMt_string_17 (d + 7) c (nI v) (mJ c (a + 1, m, l + 1, a2 (a2 T 6 l (jBt B n a)) 2 v (l + 1 - l0), N) s) = some r → fMt_string_17 (d + 7) c (nI v) (mJ c (a, m, l, a2 T 2 v (l - l0), N) s) = some r := by
            intro r hr2
            refine go _ ?_
            refine eMt_string_34 (d + 6) c _ _ _ _ hc _ ?_
            rw [Mt_need1 _ hc, cG_V]
            simp (disch := omega) only [nI_lit 92, mI_eqE]
            rw [if_pos h92, wI_eq, mJ_at, nI_add1, mJ_to, mI_nI (by omega)]
            exact e51 _ (a + 1) r (by omega) (by omega) (by omega) hr2
          revert ih
          cases jSl B n f (a + 1) (l + 1) (a2 T 6 l (jBt B n a)) with
          | error e => rintro ⟨p1, h⟩; exact ⟨p1, go2 _ h⟩
          | ok q =>
            obtain ⟨a2', l2, T2⟩ := q
            simp only
            intro h
            exact go2 _ h
end
