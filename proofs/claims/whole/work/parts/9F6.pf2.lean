/-! the lake's PlainForm: parts -/
/-- what is known about the schemas inside -/
def lPw (b : Nat) (q : kP) (t : aT) (c : Nat) (T : Nat → Nat → Nat) (D F : Nat) : Prop := ∀ d x h h' x3 L, kOc q (kTt q D) x h h' → 6 ≤ h → h' ≤ q.1 1 → x3 + D ≤ 16 → L.length + (kPl T q D x h).1.length ≤ alen (c + 1) → fPf_write (F + d) (nI (lo b x)) (nI x3) (oP c L b h t) = rV (oP c (L ++ (kPl T q D x h).1) b h' t)
/-- what a plain form stands on -/
def lPc (b pb qb c : Nat) (q : kP) (t : aT) (T : Nat → Nat → Nat) (m : Nat) : Prop := isO c ∧ gM4 t = c ∧ lV b pb qb q t ∧ kIv T m q ∧ kCd q ∧ ∀ v i, v < m → T 0 v = 2 → i < T 2 v → T 6 (T 5 v + i) < 256
section
variable {b pb qb c : Nat} {q : kP} {t : aT} {T : Nat → Nat → Nat} {m D F : Nat} {L W : List Nat} {h : Nat}
theorem Oq_word {n : Nat} (hn : 6 ≤ n) (hc : isO c) {w : Nat} (hw : sWd w W) (hl : L.length + W.length ≤ alen (c + 1)) : fBy_putWord n c w (oP c L b h t) = rI 1 (oP c (L ++ W) b h t) := by
  obtain ⟨d, rfl⟩ : ∃ d, n = d + 6 := ⟨n - 6, by omega⟩
  exact Op_word d hc hw hl
theorem Pq_quote {n : Nat} (hn : 7 ≤ n) (hc : isO c) (hg : gM4 t = c) {w : Nat} (hw : sWd w W) (hl : L.length + (kQt W).length ≤ alen (c + 1)) : fPf_quote n w (oP c L b h t) = rV (oP c (L ++ kQt W) b h t) := by
  obtain ⟨d, rfl⟩ : ∃ d, n = d + 7 := ⟨n - 7, by omega⟩
  exact Pf_quote d hc hg hw hl
theorem Pq_own {n : Nat} (hn : 7 ≤ n) (hP : lPc b pb qb c q t T m) {x : Nat} (h6 : 6 ≤ x) (hx : x < q.1 1) (h9 : 9 ≤ q.2.1 0 x) (hl : L.length + (kQt (kLe T (q.2.1 1 x - 1))).length ≤ alen (c + 1)) : gI t 24 (lo b x) = nI (qb + q.2.1 9 x) ∧ fPf_writeName n (nI (qb + q.2.1 9 x)) (oP c L b h t) = rV (oP c (L ++ kQt (kLe T (q.2.1 1 x - 1))) b h t) := by
  obtain ⟨d, rfl⟩ : ∃ d, n = d + 7 := ⟨n - 7, by omega⟩
  exact Pf_own d hP.1 hP.2.1 hP.2.2.1 hP.2.2.2.1 hP.2.2.2.2.2 h6 hx h9 hl
theorem Pq_part {n : Nat} (hn : 7 ≤ n) (hP : lPc b pb qb c q t T m) {x i : Nat} (h6 : 6 ≤ x) (hx : x < q.1 1) (h10 : 10 ≤ q.2.1 0 x) (hi : i < q.2.1 4 x) (hl : L.length + (kQt (kLe T (q.2.2 2 x i - 1))).length ≤ alen (c + 1)) : (pb + q.2.1 6 x + i < 10112 ∧ gI t 28 (pb + q.2.1 6 x + i) = nI (qb + q.2.2 4 x i)) ∧ fPf_writeName n (nI (qb + q.2.2 4 x i)) (oP c L b h t) = rV (oP c (L ++ kQt (kLe T (q.2.2 2 x i - 1))) b h t) := by
  obtain ⟨d, rfl⟩ : ∃ d, n = d + 7 := ⟨n - 7, by omega⟩
  exact Pf_part d hP.1 hP.2.1 hP.2.2.1 hP.2.2.2.1 hP.2.2.2.2.2 h6 hx h10 hi hl
theorem lPc_r (hP : lPc b pb qb c q t T m) {x : Nat} (h6 : 6 ≤ x) (hx : x < q.1 1) : lo b x < 5254 ∧ (∀ L h, gI (oP c L b h t) 26 (lo b x) = nI (q.2.1 7 x) ∧ gI (oP c L b h t) 25 (lo b x) = nI (pb + q.2.1 6 x) ∧ gI (oP c L b h t) 23 (lo b x) = nI (q.2.1 0 x) ∧ gI (oP c L b h t) 24 (lo b x) = gI t 24 (lo b x) ∧ gI (oP c L b h t) 27 (lo b x) = gI t 27 (lo b x)) ∧ q.2.1 7 x ≤ 32 := by
  have hc2 := hP.1.2
  have hr := hP.2.2.1.2.2.2.1 x h6 hx
  refine ⟨lV_lo hP.2.2.1 hx, fun L h => ⟨?_, ?_, ?_, ?_, ?_⟩, (hP.2.2.2.1.2.2.1 x h6 hx).2.2.2.2.2.2.2⟩
  · rw [oP_o (by omega)]; exact hr.2.2.2.1
  · rw [oP_o (by omega)]; exact hr.2.2.1
  · rw [oP_o (by omega)]; exact hr.1
  · rw [oP_o (by omega)]
  · rw [oP_o (by omega)]
theorem Pf_sy (hP : lPc b pb qb c q t T m) {n : Nat} (hn : 7 ≤ n) {x : Nat} (h6 : 6 ≤ x) (hx : x < q.1 1) (h10 : q.2.1 0 x = 10) : ∀ k i L, i + k = q.2.1 4 x → L.length + ((if i = 0 ∨ k = 0 then [] else [44]) ++ kPlY T q x k i).length ≤ alen (c + 1) → fPf_writeSymbols_2 (n + 1) (nI (lo b x)) (nI i) (oP c L b h t) = rV (oP c (L ++ ((if i = 0 ∨ k = 0 then [] else [44]) ++ kPlY T q x k i)) b h t) := by
  obtain ⟨hlx, hr, h732⟩ := lPc_r hP h6 hx
  have h47 := (hP.2.2.2.2.1 x h6 hx).1.2.2.2.2 (by omega) (by omega)
  intro k
  induction k with
  | zero =>
    intro i L hi hl
    rw [if_pos (show i = 0 ∨ 0 = 0 from .inr rfl)]
    show _ = rV (oP c (L ++ ([] ++ [])) b h t)
    rw [List.append_nil, List.append_nil]
    refine ePf_writeSymbols_2 n _ _ _ _ ?_
    rw [ldI_n hlx (by omega), (hr L h).1]
    simp (disch := omega) only [nI_leE]
    rw [if_pos (by omega)]
    rfl
  | succ k ih =>
    intro i L hi hl
    have eY : kPlY T q x (k + 1) i = kQt (kLe T (q.2.2 2 x i - 1)) ++ ((if k = 0 then [] else [44]) ++ kPlY T q x k (i + 1)) := rfl
    rw [eY] at hl ⊢
    have ek : (if i + 1 = 0 ∨ k = 0 then [] else [44]) = (if k = 0 then [] else [44] : List Nat) := by
      by_cases e : k = 0
      · rw [if_pos (.inr e), if_pos e]
      · rw [if_neg (by omega), if_neg e]
    have step : ∀ L1 : List Nat, L1.length + (kQt (kLe T (q.2.2 2 x i - 1)) ++ ((if k = 0 then [] else [44]) ++ kPlY T q x k (i + 1))).length ≤ alen (c + 1) → fPf_writeSymbols_16 (n + 1) (nI (lo b x)) (nI i) (oP c L1 b h t) = rV (oP c (L1 ++ (kQt (kLe T (q.2.2 2 x i - 1)) ++ ((if k = 0 then [] else [44]) ++ kPlY T q x k (i + 1)))) b h t) := by
      intro L1 hl1
      rw [List.length_append] at hl1
      have ihh := ih (i + 1) (L1 ++ kQt (kLe T (q.2.2 2 x i - 1))) (by omega) (by rw [ek, List.length_append]; omega)
      rw [ek] at ihh
      obtain ⟨⟨p0, p1⟩, p2⟩ := Pq_part (L := L1) (h := h) hn hP h6 hx (by omega) (show i < q.2.1 4 x by omega) (by omega)
      have hc2 := hP.1.2
      have e28 : gI (oP c L1 b h t) 28 (pb + q.2.1 6 x + i) = nI (qb + q.2.2 4 x i) := by rw [oP_o (by omega)]; exact p1
      refine ePf_writeSymbols_16 n _ _ _ _ ?_
      rw [ldI_n hlx (by omega), (hr L1 h).2.1, nI_addE, ldI_n p0 (by omega), e28, p2, cG_V, nI_add1, ihh, List.append_assoc]
      rfl
    have e0 : (nI i ≤ (0 : Int32)) = (i ≤ 0) := by rw [show (0 : Int32) = nI 0 from rfl, nI_leE (by omega) (by omega)]
    by_cases hi0 : i = 0
    · rw [if_pos (show i = 0 ∨ k + 1 = 0 from .inl hi0), List.nil_append] at hl ⊢
      refine ePf_writeSymbols_2 n _ _ _ _ ?_
      rw [ldI_n hlx (by omega), (hr L h).1]
      simp (disch := omega) only [nI_leE]
      rw [if_neg (by omega)]
      simp only [e0]
      rw [if_pos (show i ≤ 0 by omega)]
      exact step L hl
    · rw [if_neg (show ¬ (i = 0 ∨ k + 1 = 0) by omega)] at hl ⊢
      refine ePf_writeSymbols_2 n _ _ _ _ ?_
      rw [ldI_n hlx (by omega), (hr L h).1]
      simp (disch := omega) only [nI_leE]
      rw [if_neg (by omega)]
      simp only [e0]
      rw [List.length_append] at hl
      have hl : L.length + (1 + (kQt (kLe T (q.2.2 2 x i - 1)) ++ ((if k = 0 then [] else [44]) ++ kPlY T q x k (i + 1))).length) ≤ alen (c + 1) := hl
      rw [if_neg (show ¬ i ≤ 0 by omega), oP_g, hP.2.1, gC_ok hP.1, show (44 : Int32) = nI 44 from rfl, Op_put n hP.1 (by omega) (by omega), cG_I, step (L ++ [44]) (by rw [List.length_append]; show L.length + 1 + _ ≤ _; omega), List.append_assoc]
      rfl
theorem Pf_un (hP : lPc b pb qb c q t T m) (hrec : lPw b q t c T D F) (d : Nat) {x x3 h' : Nat} (h6 : 6 ≤ x) (hx : x < q.1 1) (h8 : q.2.1 0 x = 8) (h16 : x3 + 1 + D ≤ 16) {f : Nat → Nat} (f1 : f (q.2.1 4 x) = h') (hh : h' ≤ q.1 1) (f2 : ∀ i, i < q.2.1 4 x → q.2.2 1 x i ≠ 0 ∧ kOc q (kTt q D) (q.2.2 1 x i - 1) (f i) (f (i + 1))) (f3 : ∀ i, i < q.2.1 4 x → x + 1 ≤ f i ∧ f (i + 1) ≤ h') : ∀ k i L, i + k = q.2.1 4 x → L.length + ((if i = 0 ∨ k = 0 then [] else [44]) ++ ((kPlU q (kPl T q D) x k i (f i)).1 ++ [93])).length ≤ alen (c + 1) → fPf_writeUnion_7 (F + d + 1) (nI (lo b x)) (nI x3) (nI i) (oP c L b (f i) t) = rV (oP c (L ++ ((if i = 0 ∨ k = 0 then [] else [44]) ++ ((kPlU q (kPl T q D) x k i (f i)).1 ++ [93]))) b h' t) := by
  obtain ⟨hlx, hr, h732⟩ := lPc_r hP h6 hx
  have h47 := (hP.2.2.2.2.1 x h6 hx).1.2.2.2.2 (by omega) (by omega)
  intro k
  induction k with
  | zero =>
    intro i L hi hl
    have hl : L.length + ((if i = 0 ∨ 0 = 0 then [] else [44]) ++ ([] ++ [93])).length ≤ alen (c + 1) := hl
    rw [if_pos (show i = 0 ∨ 0 = 0 from .inr rfl)] at hl ⊢
    have hl : L.length + 1 ≤ alen (c + 1) := hl
    refine ePf_writeUnion_7 (F + d) _ _ _ _ _ ?_
    rw [ldI_n hlx (by omega), (hr L (f i)).1]
    simp (disch := omega) only [nI_leE]
    rw [if_pos (by omega), oP_g, hP.2.1, gC_ok hP.1, show (93 : Int32) = nI 93 from rfl, Op_put (F + d) hP.1 (by omega) (by omega), cG_I, show i = q.2.1 4 x by omega, f1]
    rfl
  | succ k ih =>
    intro i L hi hl
    obtain ⟨g1, g2⟩ := f2 i (by omega)
    have g3 := f3 i (by omega)
    have hlat := kPl_lat (T := T) D _ _ _ (by omega) g2
    have eU : (kPlU q (kPl T q D) x (k + 1) i (f i)).1 = (kPl T q D (q.2.2 1 x i - 1) (f i)).1 ++ ((if k = 0 then [] else [44]) ++ (kPlU q (kPl T q D) x k (i + 1) (f (i + 1))).1) := by
      show (kPl T q D (q.2.2 1 x i - 1) (f i)).1 ++ ((if k = 0 then [] else [44]) ++ (kPlU q (kPl T q D) x k (i + 1) (kPl T q D (q.2.2 1 x i - 1) (f i)).2).1) = _
      rw [hlat]
    rw [eU] at hl ⊢
    have ek : (if i + 1 = 0 ∨ k = 0 then [] else [44]) = (if k = 0 then [] else [44] : List Nat) := by
      by_cases e : k = 0
      · rw [if_pos (.inr e), if_pos e]
      · rw [if_neg (by omega), if_neg e]
    generalize hA : (kPl T q D (q.2.2 1 x i - 1) (f i)).1 = A at *
    generalize hB : (kPlU q (kPl T q D) x k (i + 1) (f (i + 1))).1 = B at *
    have step : ∀ L1 : List Nat, L1.length + (A ++ ((if k = 0 then [] else [44]) ++ B) ++ [93]).length ≤ alen (c + 1) → fPf_writeUnion_21 (F + d + 1) (nI (lo b x)) (nI x3) (nI i) (oP c L1 b (f i) t) = rV (oP c (L1 ++ (A ++ ((if k = 0 then [] else [44]) ++ B) ++ [93])) b h' t) := by
      intro L1 hl1
      rw [List.append_assoc, List.length_append] at hl1
      have ihh := ih (i + 1) (L1 ++ A) (by omega) (by rw [ek, hB, List.length_append]; rw [List.append_assoc] at hl1; omega)
      rw [ek, hB] at ihh
      have hps := lV_ps (t := oP c L1 b (f i) t) (oP_V hP.1 hP.2.2.1) hP.2.2.2.1 (F + d) h6 hx (by omega) (show i < q.2.1 4 x by omega) g1
      have hw := hrec d (q.2.2 1 x i - 1) (f i) (f (i + 1)) (x3 + 1) L1 g2 (by omega) (by omega) h16 (by rw [hA]; omega)
      rw [hA] at hw
      refine ePf_writeUnion_21 (F + d) _ _ _ _ _ ?_
      rw [hps, cG_I, nI_add1, hw, cG_V, nI_add1, ihh, List.append_assoc, List.append_assoc, List.append_assoc]
      rfl
    have e0 : (nI i ≤ (0 : Int32)) = (i ≤ 0) := by rw [show (0 : Int32) = nI 0 from rfl, nI_leE (by omega) (by omega)]
    by_cases hi0 : i = 0
    · rw [if_pos (show i = 0 ∨ k + 1 = 0 from .inl hi0), List.nil_append] at hl ⊢
      refine ePf_writeUnion_7 (F + d) _ _ _ _ _ ?_
      rw [ldI_n hlx (by omega), (hr L (f i)).1]
      simp (disch := omega) only [nI_leE]
      rw [if_neg (by omega)]
      simp only [e0]
      rw [if_pos (show i ≤ 0 by omega)]
      exact step L hl
    · rw [if_neg (show ¬ (i = 0 ∨ k + 1 = 0) by omega)] at hl ⊢
      refine ePf_writeUnion_7 (F + d) _ _ _ _ _ ?_
      rw [ldI_n hlx (by omega), (hr L (f i)).1]
      simp (disch := omega) only [nI_leE]
      rw [if_neg (by omega)]
      simp only [e0]
      rw [List.length_append] at hl
      have hl : L.length + (1 + (A ++ ((if k = 0 then [] else [44]) ++ B) ++ [93]).length) ≤ alen (c + 1) := hl
      rw [if_neg (show ¬ i ≤ 0 by omega), oP_g, hP.2.1, gC_ok hP.1, show (44 : Int32) = nI 44 from rfl, Op_put (F + d) hP.1 (by omega) (by omega), cG_I, step (L ++ [44]) (by rw [List.length_append]; show L.length + 1 + _ ≤ _; omega), List.append_assoc]
      rfl
theorem Pf_fi (hP : lPc b pb qb c q t T m) (hrec : lPw b q t c T D F) (hF : 8 ≤ F) (d : Nat) {x x3 h' : Nat} (h6 : 6 ≤ x) (hx : x < q.1 1) (h11 : q.2.1 0 x = 11) (h16 : x3 + 1 + D ≤ 16) {f : Nat → Nat} (f1 : f (q.2.1 4 x) = h') (hh : h' ≤ q.1 1) (f2 : ∀ i, i < q.2.1 4 x → q.2.2 1 x i ≠ 0 ∧ kOc q (kTt q D) (q.2.2 1 x i - 1) (f i) (f (i + 1))) (f3 : ∀ i, i < q.2.1 4 x → x + 1 ≤ f i ∧ f (i + 1) ≤ h') : ∀ k i L, i + k = q.2.1 4 x → L.length + ((if i = 0 ∨ k = 0 then [] else [44]) ++ (kPlF T q (kPl T q D) x k i (f i)).1).length ≤ alen (c + 1) → fPf_writeFields_2 (F + d + 1) (nI (lo b x)) (nI x3) (nI i) (oP c L b (f i) t) = rV (oP c (L ++ ((if i = 0 ∨ k = 0 then [] else [44]) ++ (kPlF T q (kPl T q D) x k i (f i)).1)) b h' t) := by
  obtain ⟨hlx, hr, h732⟩ := lPc_r hP h6 hx
  have h47 := (hP.2.2.2.2.1 x h6 hx).1.2.2.2.2 (by omega) (by omega)
  have hc2 := hP.1.2
  intro k
  induction k with
  | zero =>
    intro i L hi hl
    rw [if_pos (show i = 0 ∨ 0 = 0 from .inr rfl)]
    show _ = rV (oP c (L ++ ([] ++ [])) b h' t)
    rw [List.append_nil, List.append_nil]
    refine ePf_writeFields_2 (F + d) _ _ _ _ _ ?_
    rw [ldI_n hlx (by omega), (hr L (f i)).1]
    simp (disch := omega) only [nI_leE]
    rw [if_pos (by omega), show i = q.2.1 4 x by omega, f1]
    rfl
  | succ k ih =>
    intro i L hi hl
    obtain ⟨g1, g2⟩ := f2 i (by omega)
    have g3 := f3 i (by omega)
    have hlat := kPl_lat (T := T) D _ _ _ (by omega) g2
    have eU : (kPlF T q (kPl T q D) x (k + 1) i (f i)).1 = kPli T q x i (kPl T q D (q.2.2 1 x i - 1) (f i)).1 ++ ((if k = 0 then [] else [44]) ++ (kPlF T q (kPl T q D) x k (i + 1) (f (i + 1))).1) := by
      show kPli T q x i (kPl T q D (q.2.2 1 x i - 1) (f i)).1 ++ ((if k = 0 then [] else [44]) ++ (kPlF T q (kPl T q D) x k (i + 1) (kPl T q D (q.2.2 1 x i - 1) (f i)).2).1) = _
      rw [hlat]
    rw [eU] at hl ⊢
    have ek : (if i + 1 = 0 ∨ k = 0 then [] else [44]) = (if k = 0 then [] else [44] : List Nat) := by
      by_cases e : k = 0
      · rw [if_pos (.inr e), if_pos e]
      · rw [if_neg (by omega), if_neg e]
    generalize hA : (kPl T q D (q.2.2 1 x i - 1) (f i)).1 = A at *
    generalize hB : (kPlF T q (kPl T q D) x k (i + 1) (f (i + 1))).1 = B at *
    have hw27 := sWd_P 27 (by decide)
    have step : ∀ (w : Nat) (W L1 : List Nat), sWd w (W ++ kPw 26) → L1.length + (W ++ (kPli T q x i A ++ ((if k = 0 then [] else [44]) ++ B))).length ≤ alen (c + 1) → fPf_writeFields_16 (F + d + 1) (nI (lo b x)) (nI x3) (nI i) w c (oP c L1 b (f i) t) = rV (oP c (L1 ++ (W ++ (kPli T q x i A ++ ((if k = 0 then [] else [44]) ++ B)))) b h' t) := by
      intro w W L1 hsw hl1
      have eI : kPli T q x i A = kPw 26 ++ (kQt (kLe T (q.2.2 2 x i - 1)) ++ (kPw 27 ++ (A ++ [125]))) := rfl
      rw [eI] at hl1 ⊢
      simp only [List.length_append, List.length_cons, List.length_nil] at hl1
      have ihh := ih (i + 1) (L1 ++ (W ++ kPw 26) ++ kQt (kLe T (q.2.2 2 x i - 1)) ++ kPw 27 ++ A ++ [125]) (by omega) (by
        rw [ek, hB]
        simp only [List.length_append, List.length_cons, List.length_nil]
        omega)
      rw [ek, hB] at ihh
      have w1 : fBy_putWord (F + d) c w (oP c L1 b (f i) t) = rI 1 (oP c (L1 ++ (W ++ kPw 26)) b (f i) t) := Oq_word (by omega) hP.1 hsw (by simp only [List.length_append]; omega)
      obtain ⟨⟨p0, p1⟩, p2⟩ := Pq_part (n := F + d) (L := L1 ++ (W ++ kPw 26)) (h := f i) (by omega) hP h6 hx (by omega) (show i < q.2.1 4 x by omega) (by simp only [List.length_append]; omega)
      have e28 : gI (oP c (L1 ++ (W ++ kPw 26)) b (f i) t) 28 (pb + q.2.1 6 x + i) = nI (qb + q.2.2 4 x i) := by rw [oP_o (by omega)]; exact p1
      have w2 : fBy_putWord (F + d) c 1027 (oP c (L1 ++ (W ++ kPw 26) ++ kQt (kLe T (q.2.2 2 x i - 1))) b (f i) t) = rI 1 (oP c (L1 ++ (W ++ kPw 26) ++ kQt (kLe T (q.2.2 2 x i - 1)) ++ kPw 27) b (f i) t) := Oq_word (by omega) hP.1 hw27 (by simp only [List.length_append]; omega)
      have hps := lV_ps (t := oP c (L1 ++ (W ++ kPw 26) ++ kQt (kLe T (q.2.2 2 x i - 1)) ++ kPw 27) b (f i) t) (oP_V hP.1 hP.2.2.1) hP.2.2.2.1 (F + d) h6 hx (by omega) (show i < q.2.1 4 x by omega) g1
      have hw := hrec d (q.2.2 1 x i - 1) (f i) (f (i + 1)) (x3 + 1) (L1 ++ (W ++ kPw 26) ++ kQt (kLe T (q.2.2 2 x i - 1)) ++ kPw 27) g2 (by omega) (by omega) h16 (by rw [hA]; simp only [List.length_append]; omega)
      rw [hA] at hw
      refine ePf_writeFields_16 (F + d) _ _ _ _ _ _ _ ?_
      rw [gC_ok hP.1, w1, cG_I, ldI_n hlx (by omega), (hr _ _).2.1, nI_addE, ldI_n p0 (by omega), e28, p2, cG_V, oP_g, hP.2.1, gC_ok hP.1, w2, cG_I, hps, cG_I, nI_add1, hw, cG_V, oP_g, hP.2.1, gC_ok hP.1, show (125 : Int32) = nI 125 from rfl, Op_put (F + d) hP.1 (by omega) (by simp only [List.length_append]; omega), cG_I, nI_add1, ihh]
      simp only [List.append_assoc]
      rfl
    have e0 : (nI i ≤ (0 : Int32)) = (i ≤ 0) := by rw [show (0 : Int32) = nI 0 from rfl, nI_leE (by omega) (by omega)]
    by_cases hi0 : i = 0
    · rw [if_pos (show i = 0 ∨ k + 1 = 0 from .inl hi0)] at hl ⊢
      refine ePf_writeFields_2 (F + d) _ _ _ _ _ ?_
      rw [ldI_n hlx (by omega), (hr L (f i)).1]
      simp (disch := omega) only [nI_leE]
      rw [if_neg (by omega)]
      simp only [e0]
      rw [oP_g, hP.2.1, if_pos (show i ≤ 0 by omega)]
      exact step 1026 [] L (sWd_P 26 (by decide)) hl
    · rw [if_neg (show ¬ (i = 0 ∨ k + 1 = 0) by omega)] at hl ⊢
      refine ePf_writeFields_2 (F + d) _ _ _ _ _ ?_
      rw [ldI_n hlx (by omega), (hr L (f i)).1]
      simp (disch := omega) only [nI_leE]
      rw [if_neg (by omega)]
      simp only [e0]
      rw [oP_g, hP.2.1, if_neg (show ¬ i ≤ 0 by omega)]
      exact step 1031 [44] L (sWd_P 31 (by decide)) hl
end
