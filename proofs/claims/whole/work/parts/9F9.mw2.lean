/-! the reference's Text: the plain form -/
def mPw (c : Nat) (q : kP) (t : aT) (T : Nat → Nat → Nat) (D F : Nat) : Prop := ∀ d x h h' L, kOc q (kTt q D) x h h' → 6 ≤ h → h' ≤ q.1 1 → L.length + (kPl T q D x h).1.length ≤ 4200 → fMt_write (F + d) c (nI x) (mP c q L h t) = rV (mP c q (L ++ (kPl T q D x h).1) h' t)
def mPc (c : Nat) (q : kP) (t : aT) (T : Nat → Nat → Nat) (N : Nat → Int) (m l n : Nat) : Prop := isT c ∧ mV c q t ∧ mT c t T N m l ∧ jGt T N m l n ∧ kIv T m q ∧ kCd q ∧ q.1 2 ≤ 2200
/-- a schema's kids, one after the other -/
def kKd (q : kP) (x i : Nat) : Nat := if i < q.2.1 4 x then q.2.2 0 x i + 1 else 0
section
variable {c : Nat} {q : kP} {t : aT} {T : Nat → Nat → Nat} {N : Nat → Int} {m l n D F : Nat} {L W : List Nat} {h : Nat}
theorem mPc_r (hP : mPc c q t T N m l n) {x : Nat} (hx : x < q.1 1) (L : List Nat) (h : Nat) : gI (mP c q L h t) (c + 9) x = nI (q.2.1 0 x) ∧ gI (mP c q L h t) (c + 10) x = zI (q.2.1 1 x) ∧ (6 ≤ x → gI (mP c q L h t) (c + 12) x = zI (kKd q x 0)) := by
  have hr := hP.2.1.2.1 x hx
  refine ⟨?_, ?_, fun h6 => ?_⟩
  · rw [mP_o (by omega)]; exact hr.1
  · rw [mP_o (by omega)]; exact hr.2.1
  · rw [mP_o (by omega), hr.2.2, (hP.2.2.2.2.1.2.2.1 x h6 hx).2.2.1]
    unfold kKd
    by_cases e : q.2.1 4 x = 0
    · rw [if_pos e, if_neg (by omega)]
    · rw [if_neg e, if_pos (by omega)]
theorem mPc_k (hP : mPc c q t T N m l n) {x i : Nat} (h6 : 6 ≤ x) (hx : x < q.1 1) (hi : i < q.2.1 4 x) (L : List Nat) (h : Nat) : q.2.2 0 x i < 2200 ∧ kKd q x i = q.2.2 0 x i + 1 ∧ gI (mP c q L h t) (c + 15) (q.2.2 0 x i) = zI (q.2.2 1 x i) ∧ gI (mP c q L h t) (c + 16) (q.2.2 0 x i) = zI (q.2.2 2 x i) ∧ gI (mP c q L h t) (c + 18) (q.2.2 0 x i) = zI (kKd q x (i + 1)) := by
  have hii := hP.2.2.2.2.1.2.2.2.1 x i h6 hx hi
  have hr := hP.2.1.2.2.2 (q.2.2 0 x i) hii.1.1
  have h22 := hP.2.2.2.2.2.2
  refine ⟨by have := hii.1.1; omega, by unfold kKd; rw [if_pos hi], ?_, ?_, ?_⟩
  · rw [mP_o (by omega), hr.1, hii.2.1.1]
  · rw [mP_o (by omega), hr.2.1, hii.2.1.2.1]
  · rw [mP_o (by omega), hr.2.2.2, hii.2.2.1]
    rfl
theorem kKd_lt (hP : mPc c q t T N m l n) {x : Nat} (h6 : 6 ≤ x) (hx : x < q.1 1) (i : Nat) : kKd q x i < 2147483648 := by
  unfold kKd
  split
  · rename_i hi
    have := (hP.2.2.2.2.1.2.2.2.1 x i h6 hx hi).1.1
    have := hP.2.2.2.2.2.2
    omega
  · omega
theorem Mw_un (hP : mPc c q t T N m l n) (hrec : mPw c q t T D F) (hF : 6 ≤ F) (d : Nat) {x h' : Nat} (h6 : 6 ≤ x) (hx : x < q.1 1) {f : Nat → Nat} (f1 : f (q.2.1 4 x) = h') (hh : h' ≤ q.1 1) (f2 : ∀ i, i < q.2.1 4 x → q.2.2 1 x i ≠ 0 ∧ kOc q (kTt q D) (q.2.2 1 x i - 1) (f i) (f (i + 1))) (f3 : ∀ i, i < q.2.1 4 x → x + 1 ≤ f i ∧ f (i + 1) ≤ h') : ∀ k i L, i + k = q.2.1 4 x → L.length + ((kPlU q (kPl T q D) x k i (f i)).1 ++ [93]).length ≤ 4200 → fMt_write_37 (F + d + 1) c (zI (kKd q x i)) (mP c q L (f i) t) = rV (mP c q (L ++ ((kPlU q (kPl T q D) x k i (f i)).1 ++ [93])) h' t) := by
  have hc := hP.1
  intro k
  induction k with
  | zero =>
    intro i L hi hl
    have hl : L.length + 1 ≤ 4200 := hl
    have ek : kKd q x i = 0 := by unfold kKd; rw [if_neg (by omega)]
    refine eMt_write_37 (F + d) c _ _ hc _ ?_
    rw [ek, if_pos (by decide), Mw_put (by omega) hc (sWd_R (1071, [93]) (by decide)) (by show L.length + 1 ≤ _; omega), cG_V, show i = q.2.1 4 x by omega, f1]
    rfl
  | succ k ih =>
    intro i L hi hl
    obtain ⟨g1, g2⟩ := f2 i (by omega)
    have g3 := f3 i (by omega)
    have hlat := kPl_lat (T := T) D _ _ _ (by omega) g2
    have eU : (kPlU q (kPl T q D) x (k + 1) i (f i)).1 = (kPl T q D (q.2.2 1 x i - 1) (f i)).1 ++ ((if k = 0 then [] else [44]) ++ (kPlU q (kPl T q D) x k (i + 1) (f (i + 1))).1) := by
      show (kPl T q D (q.2.2 1 x i - 1) (f i)).1 ++ ((if k = 0 then [] else [44]) ++ (kPlU q (kPl T q D) x k (i + 1) (kPl T q D (q.2.2 1 x i - 1) (f i)).2).1) = _
      rw [hlat]
    rw [eU] at hl ⊢
    have hx1 := (hP.2.2.2.2.1.2.2.2.1 x i h6 hx (by omega)).2.2.2.1
    have hn1 := hP.2.2.2.2.1.1
    generalize hA : (kPl T q D (q.2.2 1 x i - 1) (f i)).1 = A at *
    generalize hB : (kPlU q (kPl T q D) x k (i + 1) (f (i + 1))).1 = B at *
    simp only [List.length_append, List.length_cons, List.length_nil] at hl
    have hw := hrec d (q.2.2 1 x i - 1) (f i) (f (i + 1)) L g2 (by omega) (by omega) (by rw [hA]; omega)
    rw [hA] at hw
    have ihh := ih (i + 1) (L ++ A ++ (if k = 0 then [] else [44])) (by omega) (by rw [hB]; simp only [List.length_append, List.length_cons, List.length_nil]; omega)
    rw [hB] at ihh
    have hcm : ∀ (w : Nat) (C : List Nat), sWd w C → C = (if k = 0 then [] else [44]) → fMt_write_54 (F + d + 1) c (nI (q.2.2 0 x i)) w (mP c q (L ++ A) (f (i + 1)) t) = rV (mP c q (L ++ (A ++ ((if k = 0 then [] else [44]) ++ B) ++ [93])) h' t) := by
      intro w C hw hC
      have hk := mPc_k hP h6 hx (show i < q.2.1 4 x by omega) (L ++ A ++ C) (f (i + 1))
      refine eMt_write_54 (F + d) c _ _ _ hc _ ?_
      rw [Mw_put (by omega) hc hw (by rw [hC]; simp only [List.length_append]; omega), cG_V, ldI_n hk.1 (by omega), hk.2.2.2.2, hC, ihh]
      simp only [List.append_assoc]
      rfl
    have hk := mPc_k hP h6 hx (show i < q.2.1 4 x by omega) L (f i)
    have hk2 := mPc_k hP h6 hx (show i < q.2.1 4 x by omega) (L ++ A) (f (i + 1))
    refine eMt_write_37 (F + d) c _ _ hc _ ?_
    rw [hk.2.1, zI_S, if_neg (nI_pos (by omega)), ldI_n hk.1 (by omega), hk.2.2.1, zI_pos (by omega), hw, cG_V, ldI_n hk.1 (by omega), hk2.2.2.2.2]
    simp only [zI_lt0 (kKd_lt hP h6 hx (i + 1))]
    by_cases hk0 : k = 0
    · rw [if_pos (by unfold kKd; rw [if_neg (by omega)])]
      exact hcm 1070 [] (sWd_R (1070, []) (by decide)) (by rw [if_pos hk0])
    · rw [if_neg (by unfold kKd; rw [if_pos (by omega)]; omega)]
      exact hcm 1069 [44] (sWd_R (1069, [44]) (by decide)) (by rw [if_neg hk0])
theorem Mw_nm (hP : mPc c q t T N m l n) {k : Nat} (hk : 7 ≤ k) {x : Nat} (h6 : 6 ≤ x) (hx : x < q.1 1) (h9 : 9 ≤ q.2.1 0 x) (hl : L.length + (kQt (kLe T (q.2.1 1 x - 1))).length ≤ 4200) : zI (q.2.1 1 x) = nI (q.2.1 1 x - 1) ∧ fMt_putName k c (nI (q.2.1 1 x - 1)) (mP c q L h t) = rV (mP c q (L ++ kQt (kLe T (q.2.1 1 x - 1))) h t) := by
  have hs := (hP.2.2.2.2.1.2.2.1 x h6 hx).2.1
  rcases hs with hs | ⟨_, h1, h2, h3, h4⟩
  · omega
  · exact ⟨zI_pos h1, Mw_name hP.1 hP.2.2.1 hP.2.2.2.1 hk (by omega) (kNam_w h3).1 hl⟩
theorem Mw_np (hP : mPc c q t T N m l n) {k : Nat} (hk : 7 ≤ k) {x i : Nat} (h6 : 6 ≤ x) (hx : x < q.1 1) (h10 : 10 ≤ q.2.1 0 x) (hi : i < q.2.1 4 x) (hl : L.length + (kQt (kLe T (q.2.2 2 x i - 1))).length ≤ 4200) : zI (q.2.2 2 x i) = nI (q.2.2 2 x i - 1) ∧ fMt_putName k c (nI (q.2.2 2 x i - 1)) (mP c q L h t) = rV (mP c q (L ++ kQt (kLe T (q.2.2 2 x i - 1))) h t) := by
  have hs := (hP.2.2.2.2.1.2.2.2.1 x i h6 hx hi).2.2.2.2.2
  rcases hs with hs | ⟨_, h1, h2, h3, h4⟩
  · omega
  · exact ⟨zI_pos h1, Mw_name hP.1 hP.2.2.1 hP.2.2.2.1 hk (by omega) (kNam_w h3).1 hl⟩
/-- behind a part: the next -/
theorem Mw_121 (hP : mPc c q t T N m l n) {F0 : Nat} (hF : 6 ≤ F0) {x i : Nat} (h6 : 6 ≤ x) (hx : x < q.1 1) {k : Nat} (hi : i + (k + 1) = q.2.1 4 x) {R : aRs} (hl : L.length + 1 ≤ 4200) (ihh : fMt_writeNamed_77 (F0 + 1) c (nI x) (zI (kKd q x (i + 1))) (mP c q (L ++ (if k = 0 then [] else [44])) h t) = R) (hR : ∃ r, R = some r) : fMt_writeNamed_112 (F0 + 1) c (nI x) (nI (q.2.2 0 x i)) (mP c q L h t) = R := by
  obtain ⟨r, rfl⟩ := hR
  have hc := hP.1
  have hcm : ∀ (w : Nat) (C : List Nat), sWd w C → C = (if k = 0 then [] else [44]) → fMt_writeNamed_121 (F0 + 1) c (nI x) (nI (q.2.2 0 x i)) w (mP c q L h t) = some r := by
    intro w C hw hC
    have hk := mPc_k hP h6 hx (show i < q.2.1 4 x by omega) (L ++ C) h
    refine eMt_writeNamed_121 F0 c _ _ _ _ hc _ ?_
    have hlC : C.length ≤ 1 := by rw [hC]; split <;> simp
    rw [Mw_put hF hc hw (by omega), cG_V, ldI_n hk.1 (by omega), hk.2.2.2.2, hC]
    exact ihh
  have hk := mPc_k hP h6 hx (show i < q.2.1 4 x by omega) L h
  refine eMt_writeNamed_112 F0 c _ _ _ hc _ ?_
  rw [ldI_n hk.1 (by omega), hk.2.2.2.2]
  simp only [zI_lt0 (kKd_lt hP h6 hx (i + 1))]
  by_cases hk0 : k = 0
  · rw [if_pos (by unfold kKd; rw [if_neg (by omega)])]
    exact hcm 1070 [] (sWd_R (1070, []) (by decide)) (by rw [if_pos hk0])
  · rw [if_neg (by unfold kKd; rw [if_pos (by omega)]; omega)]
    exact hcm 1069 [44] (sWd_R (1069, [44]) (by decide)) (by rw [if_neg hk0])
theorem Mw_sy (hP : mPc c q t T N m l n) {F0 : Nat} (hF : 7 ≤ F0) {x : Nat} (h6 : 6 ≤ x) (hx : x < q.1 1) (h10 : q.2.1 0 x = 10) : ∀ k i L, i + k = q.2.1 4 x → L.length + (kPlY T q x k i ++ [93, 125]).length ≤ 4200 → fMt_writeNamed_77 (F0 + 1) c (nI x) (zI (kKd q x i)) (mP c q L h t) = rV (mP c q (L ++ (kPlY T q x k i ++ [93, 125])) h t) := by
  have hc := hP.1
  have hn1 := hP.2.2.2.2.1.1
  intro k
  induction k with
  | zero =>
    intro i L hi hl
    have hl : L.length + 2 ≤ 4200 := hl
    have ek : kKd q x i = 0 := by unfold kKd; rw [if_neg (by omega)]
    refine eMt_writeNamed_77 F0 c _ _ _ hc _ ?_
    rw [ek, if_pos (by decide), Mw_put (by omega) hc (sWd_R (1078, [93, 125]) (by decide)) (by show L.length + 2 ≤ _; omega), cG_V]
    rfl
  | succ k ih =>
    intro i L hi hl
    have eY : kPlY T q x (k + 1) i = kQt (kLe T (q.2.2 2 x i - 1)) ++ ((if k = 0 then [] else [44]) ++ kPlY T q x k (i + 1)) := rfl
    rw [eY] at hl ⊢
    simp only [List.length_append, List.length_cons, List.length_nil] at hl
    have ihh := ih (i + 1) (L ++ kQt (kLe T (q.2.2 2 x i - 1)) ++ (if k = 0 then [] else [44])) (by omega) (by simp only [List.length_append, List.length_cons, List.length_nil]; omega)
    have hk := mPc_k hP h6 hx (show i < q.2.1 4 x by omega) L h
    obtain ⟨p1, p2⟩ := Mw_np (L := L) (h := h) hP (k := F0) (by omega) h6 hx (by omega) (show i < q.2.1 4 x by omega) (by omega)
    have h112 := Mw_121 (L := L ++ kQt (kLe T (q.2.2 2 x i - 1))) (h := h) hP (F0 := F0) (by omega) h6 hx hi (by simp only [List.length_append]; omega) ihh ⟨_, rfl⟩
    have hr9 := fun L => (mPc_r hP hx L h).1
    refine eMt_writeNamed_77 F0 c _ _ _ hc _ ?_
    rw [hk.2.1, zI_S, if_neg (nI_pos (by omega)), ldI_n (by omega) (by omega), hr9, h10, if_pos (by decide)]
    refine eMt_writeNamed_88 F0 c _ _ _ hc _ ?_
    rw [ldI_n hk.1 (by omega), hk.2.2.2.1, p1, p2, cG_V, ldI_n (by omega) (by omega), hr9, h10, if_pos (by decide), h112]
    simp only [List.append_assoc]
    rfl
theorem Mw_fi (hP : mPc c q t T N m l n) (hrec : mPw c q t T D F) (hF : 7 ≤ F) (d : Nat) {x h' : Nat} (h6 : 6 ≤ x) (hx : x < q.1 1) (h11 : q.2.1 0 x = 11) {f : Nat → Nat} (f1 : f (q.2.1 4 x) = h') (hh : h' ≤ q.1 1) (f2 : ∀ i, i < q.2.1 4 x → q.2.2 1 x i ≠ 0 ∧ kOc q (kTt q D) (q.2.2 1 x i - 1) (f i) (f (i + 1))) (f3 : ∀ i, i < q.2.1 4 x → x + 1 ≤ f i ∧ f (i + 1) ≤ h') : ∀ k i L, i + k = q.2.1 4 x → L.length + ((kPlF T q (kPl T q D) x k i (f i)).1 ++ [93, 125]).length ≤ 4200 → fMt_writeNamed_77 (F + d + 1) c (nI x) (zI (kKd q x i)) (mP c q L (f i) t) = rV (mP c q (L ++ ((kPlF T q (kPl T q D) x k i (f i)).1 ++ [93, 125])) h' t) := by
  have hc := hP.1
  have hn1 := hP.2.2.2.2.1.1
  intro k
  induction k with
  | zero =>
    intro i L hi hl
    have hl : L.length + 2 ≤ 4200 := hl
    have ek : kKd q x i = 0 := by unfold kKd; rw [if_neg (by omega)]
    refine eMt_writeNamed_77 (F + d) c _ _ _ hc _ ?_
    rw [ek, if_pos (by decide), Mw_put (by omega) hc (sWd_R (1078, [93, 125]) (by decide)) (by show L.length + 2 ≤ _; omega), cG_V, show i = q.2.1 4 x by omega, f1]
    rfl
  | succ k ih =>
    intro i L hi hl
    obtain ⟨g1, g2⟩ := f2 i (by omega)
    have g3 := f3 i (by omega)
    have hlat := kPl_lat (T := T) D _ _ _ (by omega) g2
    have eU : (kPlF T q (kPl T q D) x (k + 1) i (f i)).1 = kPli T q x i (kPl T q D (q.2.2 1 x i - 1) (f i)).1 ++ ((if k = 0 then [] else [44]) ++ (kPlF T q (kPl T q D) x k (i + 1) (f (i + 1))).1) := by
      show kPli T q x i (kPl T q D (q.2.2 1 x i - 1) (f i)).1 ++ ((if k = 0 then [] else [44]) ++ (kPlF T q (kPl T q D) x k (i + 1) (kPl T q D (q.2.2 1 x i - 1) (f i)).2).1) = _
      rw [hlat]
    rw [eU] at hl ⊢
    generalize hA : (kPl T q D (q.2.2 1 x i - 1) (f i)).1 = A at *
    generalize hB : (kPlF T q (kPl T q D) x k (i + 1) (f (i + 1))).1 = B at *
    have eI : kPli T q x i A = kPw 26 ++ (kQt (kLe T (q.2.2 2 x i - 1)) ++ (kPw 27 ++ (A ++ [125]))) := rfl
    rw [eI] at hl ⊢
    simp only [List.length_append, List.length_cons, List.length_nil] at hl
    have hx1 := (hP.2.2.2.2.1.2.2.2.1 x i h6 hx (by omega)).2.2.2.1
    have ihh := ih (i + 1) (L ++ kPw 26 ++ kQt (kLe T (q.2.2 2 x i - 1)) ++ kPw 27 ++ A ++ [125] ++ (if k = 0 then [] else [44])) (by omega) (by rw [hB]; simp only [List.length_append, List.length_cons, List.length_nil]; omega)
    rw [hB] at ihh
    have hk := mPc_k hP h6 hx (show i < q.2.1 4 x by omega)
    obtain ⟨p1, p2⟩ := Mw_np (L := L ++ kPw 26) (h := f i) hP (k := F + d) (by omega) h6 hx (by omega) (show i < q.2.1 4 x by omega) (by simp only [List.length_append]; omega)
    have h112 := Mw_121 (L := L ++ kPw 26 ++ kQt (kLe T (q.2.2 2 x i - 1)) ++ kPw 27 ++ A ++ [125]) (h := f (i + 1)) hP (F0 := F + d) (by omega) h6 hx hi (by simp only [List.length_append, List.length_cons, List.length_nil]; omega) ihh ⟨_, rfl⟩
    have hw := hrec d (q.2.2 1 x i - 1) (f i) (f (i + 1)) (L ++ kPw 26 ++ kQt (kLe T (q.2.2 2 x i - 1)) ++ kPw 27) g2 (by omega) (by omega) (by rw [hA]; simp only [List.length_append]; omega)
    rw [hA] at hw
    have hr9 := fun L h => (mPc_r hP hx L h).1
    refine eMt_writeNamed_77 (F + d) c _ _ _ hc _ ?_
    rw [(hk L (f i)).2.1, zI_S, if_neg (nI_pos (by have := (hk L (f i)).1; omega)), ldI_n (by omega) (by omega), hr9, h11, if_neg (by decide), Mw_put (by omega) hc (sWd_R (1073, kPw 26) (by decide)) (by show L.length + (kPw 26).length ≤ _; omega), cG_V]
    refine eMt_writeNamed_88 (F + d) c _ _ _ hc _ ?_
    rw [ldI_n (hk L (f i)).1 (by omega), (hk _ _).2.2.2.1, p1, p2, cG_V, ldI_n (by omega) (by omega), hr9, h11, if_neg (by decide), Mw_put (by omega) hc (sWd_R (1077, kPw 27) (by decide)) (by simp only [List.length_append]; omega), cG_V, ldI_n (hk L (f i)).1 (by omega), (hk _ _).2.2.1, zI_pos (by omega), hw, cG_V, Mw_put (by omega) hc (sWd_R (1067, [125]) (by decide)) (by simp only [List.length_append, List.length_cons, List.length_nil]; omega), cG_V, h112]
    simp only [List.append_assoc]
    rfl
end
