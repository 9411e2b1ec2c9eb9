/-! the reference's Text: what its writes show; faults; names that are defined; symbols -/
section
variable {c : Nat} {q : kP} {s : aT} {T : Nat → Nat → Nat} {N : Nat → Int} {m l n : Nat}
theorem kPn_o {x r j : Nat} (h : r ≠ 40) : (kPn T x q).2.1 r j = q.2.1 r j := by
  rw [kPn_Q, if_neg (by omega), if_neg (by omega)]
theorem mS_ss {t i x : Nat} (h : q.2.2 0 t i < q.1 2) : pI (mS c q s) (c + 15) (q.2.2 0 t i) (nI x) = mS c (kSs t i x q) s := by
  rw [← zI_S, mS_w15 h]
  refine (mS_ext (q' := kSs t i x q) (q := kQ q 20 (q.2.2 0 t i) (x + 1)) rfl rfl rfl rfl (fun r j hr _ => ?_) (fun r j h1 h2 _ => ?_) (fun j _ => ?_)).symm
  · rw [kSs_Q, kQ_Q]; repeat' rw [if_neg (by omega)]
  · rw [kSs_Q, kQ_Q, if_neg (by omega)]
  · rw [kSs_Q, kQ_Q]; repeat' rw [if_neg (by omega)]
theorem mS_si {t x : Nat} (h : q.2.2 0 t 0 < q.1 2) : pI (mS c q s) (c + 15) (q.2.2 0 t 0) (nI x) = mS c (kSi t x q) s := by
  rw [← zI_S, mS_w15 h]
  refine (mS_ext (q' := kSi t x q) (q := kQ q 20 (q.2.2 0 t 0) (x + 1)) rfl rfl rfl rfl (fun r j hr _ => ?_) (fun r j h1 h2 _ => ?_) (fun j _ => ?_)).symm
  · rw [kSi_Q, kQ_Q]; repeat' rw [if_neg (by omega)]
  · rw [kSi_Q, kQ_Q, if_neg (by omega)]
  · rw [kSi_Q, kQ_Q]; repeat' rw [if_neg (by omega)]
theorem mS_sn {t i x : Nat} (h : q.2.2 0 t i < q.1 2) : pI (mS c q s) (c + 16) (q.2.2 0 t i) (nI x) = mS c (kSn T t i x q) s := by
  rw [← zI_S, mS_w16 h]
  refine (mS_ext (q' := kSn T t i x q) (q := kQ q 21 (q.2.2 0 t i) (x + 1)) rfl rfl rfl rfl (fun r j hr _ => ?_) (fun r j h1 h2 _ => ?_) (fun j _ => ?_)).symm
  · rw [kSn_Q, kQ_Q]; repeat' rw [if_neg (by omega)]
    rw [kPn_Q]; repeat' rw [if_neg (by omega)]
  · rw [kSn_Q, kQ_Q, if_neg (by omega), kPn_o (by omega)]
  · rw [kSn_Q, kQ_Q]; repeat' rw [if_neg (by omega)]
    rw [kPn_Q]; repeat' rw [if_neg (by omega)]
theorem mS_sd {t i dv : Nat} (h : q.2.2 0 t i < q.1 2) : pI (mS c q s) (c + 17) (q.2.2 0 t i) (zI dv) = mS c (kSd t i dv q) s := by
  rw [mS_w17 h]
  refine (mS_ext (q' := kSd t i dv q) (q := kQ q 22 (q.2.2 0 t i) dv) rfl rfl rfl rfl (fun r j hr _ => ?_) (fun r j h1 h2 _ => ?_) (fun j _ => ?_)).symm
  · rw [kSd_Q, kQ_Q]
  · rw [kSd_Q, kQ_Q]
  · rw [kSd_Q, kQ_Q]
theorem mS_nn {t x : Nat} (h : t < q.1 1) : pI (mS c q s) (c + 10) t (nI x) = mS c (kNn T t x q) s := by
  rw [← zI_S, mS_w10 h]
  have hQ : ∀ r j, (kNn T t x q).2.1 r j = if r = 9 ∧ j = t then q.1 6 else if r = 1 ∧ j = t then x + 1 else (kPn T x q).2.1 r j := fun r j => by
    unfold kNn; rw [kQ_Q, kQ_Q]
  refine (mS_ext (q' := kNn T t x q) (q := kQ q 1 t (x + 1)) rfl rfl rfl rfl (fun r j hr _ => ?_) (fun r j h1 h2 _ => ?_) (fun j _ => ?_)).symm
  · rw [hQ, kQ_Q, if_neg (by omega), kPn_o (by omega)]
  · rw [hQ, kQ_Q]; repeat' rw [if_neg (by omega)]
    rw [kPn_Q]; repeat' rw [if_neg (by omega)]
  · rw [hQ, kQ_Q]; repeat' rw [if_neg (by omega)]
    rw [kPn_Q]; repeat' rw [if_neg (by omega)]
theorem mS_ap {t k : Nat} : mS c (kAp t k q) s = mS c q s := by
  refine mS_ext rfl rfl rfl rfl (fun r j hr _ => ?_) (fun r j h1 h2 _ => ?_) (fun j _ => ?_)
  · rw [kAp_Q]; repeat' rw [if_neg (by omega)]
  · rw [kAp_Q]; repeat' rw [if_neg (by omega)]
  · rw [kAp_Q]; repeat' rw [if_neg (by omega)]
theorem mS_fd {t i x dv : Nat} : pI (pI (mS c q s) (c + 19) (q.1 4) (nI (q.2.2 0 t i))) c 29 (nI (q.1 4 + 1)) = mS c (kFd T t i x dv q) s := by
  rw [mS_w19]
  have c1 : ∀ k, k = 0 ∨ k = 1 ∨ k = 2 → (kFd T t i x dv q).1 k = q.1 k := fun k hk => by rw [kFd_1, if_neg (by omega), if_neg (by omega), if_neg (by omega)]
  have r15 : ∀ j, j < q.1 4 + 1 → (kFd T t i x dv q).2.1 15 j = if j = q.1 4 then q.2.2 0 t i else q.2.1 15 j := by
    intro j hj
    by_cases e : j = q.1 4
    · rw [if_pos e]
      unfold kFd
      simp only
      split
      · rw [kC_Q, kQ_Q, kQ_Q, if_neg (by omega), if_pos ⟨rfl, e⟩]
      · rw [kC_Q, kC_Q, kQ_Q, kQ_Q, kQ_Q, kC_Q, kQ_Q, kQ_Q, if_neg (by omega), if_neg (by omega), if_neg (by omega), if_neg (by omega), if_pos ⟨rfl, e⟩]
    · rw [if_neg e, kFd_o (fun _ => by omega) (fun e => by omega)]
  refine (mS_ext (q' := kFd T t i x dv q) (q := kC (kQ q 15 (q.1 4) (q.2.2 0 t i)) 4 (q.1 4 + 1)) (c1 1 (by omega)) (c1 0 (by omega)) (c1 2 (by omega)) (by rw [kFd_1, if_pos rfl]; rfl) (fun r j hr _ => ?_) (fun r j h1 h2 _ => ?_) (fun j hj => ?_)).symm
  · rw [kFd_Q (by omega), kC_Q, kQ_Q, if_neg (by omega)]
  · rw [kFd_Q (by omega), kC_Q, kQ_Q, if_neg (by omega)]
  · have e : (kC (kQ q 15 (q.1 4) (q.2.2 0 t i)) 4 (q.1 4 + 1)).1 4 = q.1 4 + 1 := rfl
    rw [e] at hj
    rw [r15 j hj, kC_Q, kQ_Q]
    by_cases e : j = q.1 4
    · rw [if_pos e, if_pos ⟨rfl, e⟩]
    · rw [if_neg e, if_neg (fun z => e z.2)]
/-- the state when a schema's reading has failed -/
def mFt (c : Nat) (s : aT) (x y : Int32) : aT := pU (pI (pI s c 4 x) c 5 y)
theorem Mt_nd0 (d : Nat) (hc : isT c) (x y : Int32) : fMt_need (d + 1) c 0 x y (mS c q s) = rT 0 (mS c q (mFt c s x y)) := by
  have hf : fMt_fail d c x y (mS c q s) = rT 0 (mS c q (mFt c s x y)) := by
    refine eMt_fail d c x y _ hc _ ?_
    simp only [wI_eq]
    rw [mS_pI (by omega), mS_pI (by omega)]
    rfl
  refine eMt_need d c 0 x y _ hc _ ?_
  rw [if_neg (by decide), hf, cG_T]
  rfl
/-- what a reading must have done -/
def kRm (c : Nat) (s : aT) (F : aRs) (x : kE) : Prop := match x with
  | .ok (q', v) => F = rI (nI v) (mS c q' s)
  | .error (k, e) => ∃ q', F = rT 0 (mS c q' (mFt c s (nI k) (nI e)))
def kRn (c : Nat) (s : aT) (F : aRs) (x : Except (Nat × Nat) kP) : Prop := match x with
  | .ok q' => F = rV (mS c q' s)
  | .error (k, e) => ∃ q', F = rT 0 (mS c q' (mFt c s (nI k) (nI e)))
def kRu (c : Nat) (s : aT) (t : Nat) (F : aRs) (x : Except (Nat × Nat) kP) : Prop := match x with
  | .ok q' => F = rI (nI t) (mS c q' s)
  | .error (k, e) => ∃ q', F = rT 0 (mS c q' (mFt c s (nI k) (nI e)))
theorem kRm_go {F G : aRs} {x : kE} (h : kRm c s F x) (go : ∀ r, F = some r → G = some r) : kRm c s G x := by
  unfold kRm at h ⊢
  split at h
  · exact go _ h
  · obtain ⟨q', h⟩ := h
    exact ⟨q', go _ h⟩
theorem kRn_go {F G : aRs} {x : Except (Nat × Nat) kP} (h : kRn c s F x) (go : ∀ r, F = some r → G = some r) : kRn c s G x := by
  unfold kRn at h ⊢
  split at h
  · exact go _ h
  · obtain ⟨q', h⟩ := h
    exact ⟨q', go _ h⟩
theorem kRu_go {t : Nat} {F G : aRs} {x : Except (Nat × Nat) kP} (h : kRu c s t F x) (go : ∀ r, F = some r → G = some r) : kRu c s t G x := by
  unfold kRu at h ⊢
  split at h
  · exact go _ h
  · obtain ⟨q', h⟩ := h
    exact ⟨q', go _ h⟩
theorem Mt_def2 (d : Nat) (hc : isT c) (hT : mT c s T N m l) (hG : jGt T N m l n) (hI : kIv T m q) {v : Nat} (hv : v < m) (h2 : T 0 v = 2) : ∀ k j, j + k = q.1 1 → 6 ≤ j → fMt_defined_2 (d + 1) c (nI v) (nI j) (mS c q s) = rI (zI (kFr (fun s => !(q.2.1 1 s == 0) && jSm T (q.2.1 1 s - 1) v) k j)) (mS c q s) := by
  have hn : q.1 1 < 140 := by have := hI.1; omega
  have hm := hG.1
  intro k
  induction k with
  | zero =>
    intro j hj _
    refine eMt_defined_2 d c _ _ _ hc _ ?_
    rw [mS_ns]
    simp (disch := omega) only [nI_leE]
    rw [if_pos (by omega)]
    rfl
  | succ k ih =>
    intro j hj h6
    have hs := hI.2.2.1 j h6 (by omega)
    have h22 : ∀ r, fMt_defined_2 (d + 1) c (nI v) (nI (j + 1)) (mS c q s) = some r → fMt_defined_22 (d + 1) c (nI v) (nI j) (mS c q s) = some r := fun r hr => eMt_defined_22 d c _ _ _ hc _ (by rw [nI_add1]; exact hr)
    have ih := ih (j + 1) (by omega) (by omega)
    have ek : kFr (fun s => !(q.2.1 1 s == 0) && jSm T (q.2.1 1 s - 1) v) (k + 1) j = if (!(q.2.1 1 j == 0) && jSm T (q.2.1 1 j - 1) v) = true then j + 1 else kFr (fun s => !(q.2.1 1 s == 0) && jSm T (q.2.1 1 s - 1) v) k (j + 1) := rfl
    rw [ek]
    refine eMt_defined_2 d c _ _ _ hc _ ?_
    rw [mS_ns]
    simp (disch := omega) only [nI_leE]
    rw [if_neg (by omega), ldI_n (by omega) (by omega), mS_10 (by omega)]
    by_cases hz : q.2.1 1 j = 0
    · rw [hz, if_pos (by decide), if_neg (by simp)]
      exact h22 _ ih
    · have hq1 : 0 < q.2.1 1 j ∧ q.2.1 1 j ≤ m ∧ kNam T (q.2.1 1 j - 1) = true := by
        rcases hs.2.1 with g | g
        · exact absurd g.2 hz
        · exact ⟨g.2.1, g.2.2.1, g.2.2.2.1⟩
      have hnm := kNam_w hq1.2.2
      have hsame := Mt_sm d hc (mS_T (q := q) hT) hG (x := q.2.1 1 j - 1) (y := v) (by omega) hv hnm.1 h2
      rw [zI_pos (by omega), if_neg (nI_pos (by omega)), ldI_n (by omega) (by omega), mS_10 (by omega), zI_pos (by omega), hsame, cG_I]
      by_cases hb : jSm T (q.2.1 1 j - 1) v = true
      · rw [if_neg (by rw [hb]; decide), if_pos (by simp [hz, hb]), zI_S]
        rfl
      · rw [if_pos (by rw [if_neg hb]), if_neg (by simp [hb])]
        exact h22 _ ih
theorem Mt_defined (d : Nat) (hc : isT c) (hT : mT c s T N m l) (hG : jGt T N m l n) (hI : kIv T m q) {v : Nat} (hv : v < m) (h2 : T 0 v = 2) : fMt_defined (d + 1) c (nI v) (mS c q s) = rI (zI (kDf T q v)) (mS c q s) := by
  have ha := hI.1
  refine eMt_defined d c _ _ hc _ ?_
  have := Mt_def2 d hc hT hG hI hv h2 (q.1 1 - 6) 6 (by omega) (by omega)
  exact this
/-- a schema's kids, one by one -/
theorem mS_kid {t i : Nat} (hI : kIv T m q) (h6 : 6 ≤ t) (ht : t < q.1 1) (hi : i < q.2.1 4 t) : q.2.2 0 t i < q.1 2 ∧ kPr q t i = q.2.2 0 t i + 1 ∧ gI (mS c q s) (c + 15) (q.2.2 0 t i) = zI (q.2.2 1 t i) ∧ gI (mS c q s) (c + 16) (q.2.2 0 t i) = zI (q.2.2 2 t i) ∧ gI (mS c q s) (c + 17) (q.2.2 0 t i) = zI (q.2.2 3 t i) ∧ gI (mS c q s) (c + 18) (q.2.2 0 t i) = zI (kPr q t (i + 1)) := by
  obtain ⟨⟨a1, a2, a3⟩, ⟨a4, a5, a6⟩, a7, _⟩ := hI.2.2.2.1 t i h6 ht hi
  refine ⟨a1, ?_, ?_, ?_, ?_, ?_⟩
  · unfold kPr; rw [if_pos hi]
  · rw [mS_15 a1, a4]
  · rw [mS_16 a1, a5]
  · rw [mS_17 a1, a6]
  · rw [mS_18 a1, a7]; rfl
theorem mS_kids {t : Nat} (hI : kIv T m q) (h6 : 6 ≤ t) (ht : t < q.1 1) : gI (mS c q s) (c + 12) t = zI (kPr q t 0) := by
  rw [mS_12 ht, (hI.2.2.1 t h6 ht).2.2.1]
  unfold kPr
  by_cases h : q.2.1 4 t = 0
  · rw [if_pos h, if_neg (by omega)]
  · rw [if_neg h, if_pos (by omega)]
theorem Mt_sym7 (d : Nat) (hc : isT c) (hT : mT c s T N m l) (hG : jGt T N m l n) (hI : kIv T m q) (hk2 : q.1 2 ≤ 2200) {v t : Nat} (hv : v < m) (h2 : T 0 v = 2) (h6 : 6 ≤ t) (ht : t < q.1 1) (h10 : 10 ≤ q.2.1 0 t) (h4 : q.2.1 4 t ≤ 32) : ∀ k i, i + k = q.2.1 4 t → fMt_symbol_7 (d + 1) c c (nI v) (nI i) (zI (kPr q t i)) (mS c q s) = rI (zI (kFr (fun i => jSm T (q.2.2 2 t i - 1) v) k i)) (mS c q s) := by
  have hm := hG.1
  intro k
  induction k with
  | zero =>
    intro i hi
    refine eMt_symbol_7 d c c _ _ _ _ hc hc _ ?_
    have e : kPr q t i = 0 := by unfold kPr; rw [if_neg (by omega)]
    rw [e, if_pos (by decide)]
    rfl
  | succ k ih =>
    intro i hi
    have hil : i < q.2.1 4 t := by omega
    obtain ⟨k1, k2, k3, k4, k5, k6⟩ := mS_kid (c := c) (s := s) hI h6 ht hil
    have hb := (hI.2.2.2.1 t i h6 ht hil).2.2.2.2.2
    have hq1 : 0 < q.2.2 2 t i ∧ q.2.2 2 t i ≤ m ∧ kNam T (q.2.2 2 t i - 1) = true := by
      rcases hb with g | g
      · omega
      · exact ⟨g.2.1, g.2.2.1, g.2.2.2.1⟩
    have hnm := kNam_w hq1.2.2
    have hsame := Mt_sm d hc (mS_T (q := q) hT) hG (x := q.2.2 2 t i - 1) (y := v) (by omega) hv hnm.1 h2
    have ek : kFr (fun i => jSm T (q.2.2 2 t i - 1) v) (k + 1) i = if jSm T (q.2.2 2 t i - 1) v = true then i + 1 else kFr (fun i => jSm T (q.2.2 2 t i - 1) v) k (i + 1) := rfl
    refine eMt_symbol_7 d c c _ _ _ _ hc hc _ ?_
    rw [ek, k2, zI_S, if_neg (nI_pos (by omega)), ldI_n (by omega) (by omega), k4, zI_pos (by omega), hsame, cG_I]
    by_cases hb : jSm T (q.2.2 2 t i - 1) v = true
    · rw [if_neg (by rw [hb]; decide), if_pos hb, zI_S]
      rfl
    · rw [if_pos (by rw [if_neg hb]), if_neg hb, ldI_n (by omega) (by omega), k6, nI_add1]
      exact ih (i + 1) (by omega)
theorem Mt_symbol (d : Nat) (hc : isT c) (hT : mT c s T N m l) (hG : jGt T N m l n) (hI : kIv T m q) (hk2 : q.1 2 ≤ 2200) {v t : Nat} (hv : v < m) (h2 : T 0 v = 2) (h6 : 6 ≤ t) (ht : t < q.1 1) (h10 : 10 ≤ q.2.1 0 t) (h4 : q.2.1 4 t ≤ 32) : fMt_symbol (d + 1) c (nI t) c (nI v) (mS c q s) = rI (zI (kPt T q t (q.2.1 4 t) v)) (mS c q s) := by
  have hn : q.1 1 < 140 := by have := hI.1; omega
  refine eMt_symbol d c _ c _ _ hc hc _ ?_
  rw [ldI_n (by omega) (by omega), mS_kids hI h6 ht]
  exact Mt_sym7 d hc hT hG hI hk2 hv h2 h6 ht h10 h4 (q.2.1 4 t) 0 (by omega)
end
