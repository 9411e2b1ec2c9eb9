/-! PURE: a plain form is no longer than its text -/
theorem kSg_sn {g : Nat → Nat} : ∀ k i, kSg g (k + 1) i = kSg g k i + g (i + k)
  | 0, i => by show g i + 0 = 0 + g (i + 0); rw [Nat.add_zero i]; omega
  | k + 1, i => by
    show g i + kSg g (k + 1) (i + 1) = g i + kSg g k (i + 1) + g (i + (k + 1))
    rw [kSg_sn k (i + 1), show i + 1 + k = i + (k + 1) by omega]
    omega
theorem kSg_cg {f g : Nat → Nat} {k i : Nat} (h : ∀ j, i ≤ j → j < i + k → f j = g j) : kSg f k i = kSg g k i :=
  Nat.le_antisymm (kSg_le k i (fun j a b => Nat.le_of_eq (h j a b))) (kSg_le k i (fun j a b => Nat.le_of_eq (h j a b).symm))
def kCo (T : Nat → Nat → Nat) (q : kP) (a t i : Nat) : Nat := if a = 0 then 0 else T 2 (q.2.2 2 t i - 1) + 19
/-- the parts that a schema has so far, and how long they are -/
def kPz (T : Nat → Nat → Nat) (q : kP) (a D t k B : Nat) : Prop := ∃ f : Nat → Nat, f 0 = t + 1 ∧ f k = q.1 1 ∧ (∀ i, i < k → q.2.2 1 t i ≠ 0 ∧ kOc q (kTt q D) (q.2.2 1 t i - 1) (f i) (f (i + 1))) ∧ kSg (fun i => kCo T q a t i + (kPl T q D (q.2.2 1 t i - 1) (f i)).1.length + 1) k 0 ≤ B
section
variable {T : Nat → Nat → Nat} {N : Nat → Int} {m : Nat} {q q' q1 q2 : kP} {a D t k B : Nat}
theorem kPz_up {B' : Nat} (hB : B ≤ B') (h : kPz T q a D t k B) : kPz T q a D t k B' := by
  obtain ⟨f, f0, f1, f2, f3⟩ := h
  exact ⟨f, f0, f1, f2, Nat.le_trans f3 hB⟩
theorem kPz_0 (h : q.1 1 = t + 1) : kPz T q a D t 0 0 := ⟨fun _ => t + 1, rfl, h.symm, fun i hi => by omega, Nat.le_refl _⟩
theorem kPz_fr (h6 : 6 ≤ t) (hn : q'.1 1 = q.1 1) (ht : t < q.1 1) (hr : ∀ r s', r = 0 ∨ r = 1 ∨ r = 4 ∨ r = 7 ∨ r = 8 → t < s' → s' < q.1 1 → q'.2.1 r s' = q.2.1 r s') (h0 : ∀ r x, r = 0 ∨ r = 1 → x < q.1 1 → q'.2.1 r x = q.2.1 r x) (hx : ∀ r s' i, r = 1 ∨ r = 2 → t < s' → s' < q.1 1 → q'.2.2 r s' i = q.2.2 r s' i) (hxt : ∀ r i, r = 1 ∨ r = 2 → i < k → q'.2.2 r t i = q.2.2 r t i) (h : kPz T q a D t k B) : kPz T q' a D t k B := by
  obtain ⟨f, f0, f1, f2, f3⟩ := h
  have hm := kOc_mono (fun a b => kTt_lt D a b) (fun i hi => (f2 i hi).2)
  refine ⟨f, f0, by rw [hn]; exact f1, fun i hi => ?_, ?_⟩
  · have a := hm i 0 (by omega) (by omega)
    have b := hm k (i + 1) (by omega) (Nat.le_refl _)
    have c := kOc_le (fun a b => kTt_lt D a b) (f2 i hi).2
    rw [hxt 1 i (by omega) hi]
    refine ⟨(f2 i hi).1, ?_⟩
    rcases (f2 i hi).2 with ⟨g1, g2, g3⟩ | ⟨g1, g2⟩
    · exact .inl ⟨g1, g2, by rw [h0 0 _ (by omega) (by omega)]; exact g3⟩
    · exact .inr ⟨g1, kTt_fr D _ _ (fun r s' a b c => hr r s' (by omega) (by omega) (by omega)) (fun x hx2 => h0 0 x (by omega) (by omega)) (fun s' j a b => hx 1 s' j (by omega) (by omega) (by omega)) g2⟩
  · have e := kSg_cg (f := fun i => kCo T q' a t i + (kPl T q' D (q'.2.2 1 t i - 1) (f i)).1.length + 1) (g := fun i => kCo T q a t i + (kPl T q D (q.2.2 1 t i - 1) (f i)).1.length + 1) (k := k) (i := 0) (fun i _ hi => by
      have a := hm i 0 (by omega) (by omega)
      have b := hm k (i + 1) (by omega) (Nat.le_refl _)
      have hpl := kPl_fr (T := T) (q := q) (q' := q') D _ _ _ (by omega) (f2 i (by omega)).2 (fun r s' a b c => hr r s' (by omega) (by omega) (by omega)) (fun y hy => h0 1 y (by omega) (by omega)) (fun r s' j a b c => hx r s' j a (by omega) (by omega))
      unfold kCo
      rw [hxt 1 i (by omega) (by omega), hxt 2 i (by omega) (by omega), hpl])
    rw [e]
    exact f3
/-- a reading inside, then one part more -/
theorem kPz_snoc {x w : Nat} (h6 : 6 ≤ t) (ht : t < q.1 1) (h : kPz T q a D t k B) (hF : kFm q q1) (ho : kOc q1 (kTt q1 D) x (q.1 1) (q1.1 1)) (hw : kCo T q2 a t k + (kPl T q1 D x (q.1 1)).1.length + 1 ≤ w) (hn : q2.1 1 = q1.1 1) (hr : ∀ r s', r = 0 ∨ r = 1 ∨ r = 4 ∨ r = 7 ∨ r = 8 → t < s' → s' < q1.1 1 → q2.2.1 r s' = q1.2.1 r s') (h0 : ∀ r y, r = 0 ∨ r = 1 → y < q1.1 1 → q2.2.1 r y = q1.2.1 r y) (hx : ∀ r s' i, r = 1 ∨ r = 2 → t < s' → s' < q1.1 1 → q2.2.2 r s' i = q1.2.2 r s' i) (hxt : ∀ r i, r = 1 ∨ r = 2 → i < k → q2.2.2 r t i = q1.2.2 r t i) (hxk : q2.2.2 1 t k = x + 1) : kPz T q2 a D t (k + 1) (B + w) := by
  have hn1 := hF.1 1 (by omega)
  obtain ⟨f, f0, f1, f2, f3⟩ := h
  have hm := kOc_mono (fun a b => kTt_lt D a b) (fun i hi => (f2 i hi).2)
  have hb : ∀ i, i < k → t + 1 ≤ f i ∧ f (i + 1) ≤ q.1 1 := fun i hi => by
    have a := hm i 0 (by omega) (by omega)
    have b := hm k (i + 1) (by omega) (Nat.le_refl _)
    omega
  have hpf : kPf q2 D t (k + 1) := kPf_snoc ht ⟨f, f0, f1, f2⟩ hF ho hn (fun r s' a b c => hr r s' (by omega) b c) (fun y hy => h0 0 y (by omega) hy) (fun s' i a b => hx 1 s' i (by omega) a b) (fun i hi => hxt 1 i (by omega) hi) hxk
  refine ⟨fun i => if i ≤ k then f i else q1.1 1, by simp [f0], by simp only; rw [if_neg (by omega), hn], fun i hi => ?_, ?_⟩
  · by_cases e : i = k
    · subst e
      rw [hxk]
      refine ⟨by omega, ?_⟩
      simp only [Nat.le_refl, if_true, Nat.add_sub_cancel]
      rw [if_neg (by omega), f1]
      have c := kOc_le (fun a b => kTt_lt D a b) ho
      rcases ho with ⟨g1, g2, g3⟩ | ⟨g1, g2⟩
      · exact .inl ⟨g1, g2, by rw [h0 0 x (by omega) (by omega)]; exact g3⟩
      · exact .inr ⟨g1, kTt_fr D _ _ (fun r s' a b c => hr r s' (by omega) (by omega) (by omega)) (fun y hy => h0 0 y (by omega) (by omega)) (fun s' j a b => hx 1 s' j (by omega) (by omega) (by omega)) g2⟩
    · have hik : i < k := by omega
      have hbi := hb i hik
      have c := kOc_le (fun a b => kTt_lt D a b) (f2 i hik).2
      rw [hxt 1 i (by omega) hik, hF.2.2 1 t i ht]
      refine ⟨(f2 i hik).1, ?_⟩
      simp only
      rw [if_pos (show i ≤ k by omega), if_pos (show i + 1 ≤ k by omega)]
      rcases (f2 i hik).2 with ⟨g1, g2, g3⟩ | ⟨g1, g2⟩
      · exact .inl ⟨g1, g2, by rw [h0 0 _ (by omega) (by omega), kFm_r hF (by omega) (by omega)]; exact g3⟩
      · refine .inr ⟨g1, kTt_fr D _ _ (fun r s' a b c => ?_) (fun y hy => ?_) (fun s' j a b => ?_) g2⟩
        · rw [hr r s' (by omega) (by omega) (by omega), kFm_r hF (by omega) (by omega)]
        · rw [h0 0 y (by omega) (by omega), kFm_r hF (by omega) (by omega)]
        · rw [hx 1 s' j (by omega) (by omega) (by omega), hF.2.2 1 s' j (by omega)]
  · rw [kSg_sn]
    have e := kSg_cg (f := fun i => kCo T q2 a t i + (kPl T q2 D (q2.2.2 1 t i - 1) (if i ≤ k then f i else q1.1 1)).1.length + 1) (g := fun i => kCo T q a t i + (kPl T q D (q.2.2 1 t i - 1) (f i)).1.length + 1) (k := k) (i := 0) (fun i _ hi => by
      have hik : i < k := by omega
      have hbi := hb i hik
      have hpl := kPl_fr (T := T) (q := q) (q' := q2) D _ _ _ (by omega) (f2 i hik).2 (fun r s' a b c => by rw [hr r s' (by omega) (by omega) (by omega), kFm_r hF (by omega) (by omega)]) (fun y hy => by rw [h0 1 y (by omega) (by omega), kFm_r hF (by omega) (by omega)]) (fun r s' j a b c => by rw [hx r s' j a (by omega) (by omega), hF.2.2 r s' j (by omega)])
      unfold kCo
      rw [if_pos (show i ≤ k by omega), hxt 1 i (by omega) hik, hxt 2 i (by omega) hik, hF.2.2 1 t i ht, hF.2.2 2 t i ht, hpl])
    rw [e]
    have hpl := kPl_fr (T := T) (q := q1) (q' := q2) D x (q.1 1) (q1.1 1) (by omega) ho (fun r s' a b c => hr r s' (by omega) (by omega) (by omega)) (fun y hy => h0 1 y (by omega) hy) (fun r s' j a b c => hx r s' j a (by omega) c)
    simp only [Nat.zero_add, Nat.le_refl, if_true]
    rw [hxk, Nat.add_sub_cancel, f1, hpl]
    omega
/-- a reading leaves a plain form that is shorter than what was paid -/
def kRp (T : Nat → Nat → Nat) (N : Nat → Int) (m D : Nat) (rec : kR) : Prop := ∀ v br q q' x, kIv T m q → jVb T N m v → rec v br q = .ok (q', x) → (kPl T q' D x (q.1 1)).1.length + 1 ≤ kWv T v
theorem kUl_pl {rec : kR} (hrec : kRe T N m rec) (hrt : kRt T N m D rec) (hrp : kRp T N m D rec) {q0 : kP} {s e : Nat} : ∀ k lo cur q q' B B', jTl T (jVe T N m) k lo e cur → kLo T m q0 s q → q.2.1 0 s = 8 → q.2.1 4 s + k ≤ q.2.1 7 s → kPz T q 0 D s (q.2.1 4 s) B → B + jSw T e ≤ B' + jSw T lo → kUl T rec s k cur q = .ok q' → kPz T q' 0 D s (q'.2.1 4 s) B' := by
  intro k
  induction k with
  | zero =>
    intro lo cur q q' B B' hc hl h8 h7 hp hB h
    cases h
    have : lo = e := hc.2
    subst this
    exact kPz_up (by omega) hp
  | succ k ih =>
    intro lo cur q q' B B' hc hl h8 h7 hp hB h
    obtain ⟨hcur, e1, hP, hc⟩ := hc
    subst hcur
    unfold kUl at h
    rw [Nat.add_sub_cancel] at h
    split at h
    · cases h
    · rename_i q1 x hr
      have hok := hrec.1 _ _ _ _ _ hl.1 hP.1 hr
      have hoc := hrt _ _ _ _ _ hl.1 hP.1 hr
      have hpl := hrp _ _ _ _ _ hl.1 hP.1 hr
      obtain ⟨o1, o2, o3, _⟩ := hok
      obtain ⟨hl1, hr1, hx1⟩ := kLo_fm hl o1 o2
      have hw := kWv_eq (T := T) (v := lo) (jVb_lt hP.1).1
      rw [← hP.2] at hw
      split at h
      · have e4 := hr1 4 (by omega)
        have hts := hl.2.2.1
        have hun := kLo_un (x := x) hl1 (by rw [hr1 0 (by omega)]; exact h8) (by rw [e4, hr1 7 (by omega)]; omega) o3
        have hR : ∀ r s', r = 0 ∨ r = 1 ∨ r = 4 ∨ r = 7 ∨ r = 8 → s ≠ s' ∨ r ≠ 4 → (kSs s (q1.2.1 4 s) x (kAk s q1)).2.1 r s' = q1.2.1 r s' := fun r s' a b => by rw [kSs_Q, if_neg (by omega), if_neg (by omega), kAk_r (by omega) (by omega)]
        have hX : ∀ r s' i, r = 1 ∨ r = 2 → s' ≠ s ∨ i ≠ q1.2.1 4 s → (kSs s (q1.2.1 4 s) x (kAk s q1)).2.2 r s' i = q1.2.2 r s' i := fun r s' i _ a => by rw [kSs_X, if_neg (by omega), kAk_Xo a]
        have hXk : (kSs s (q1.2.1 4 s) x (kAk s q1)).2.2 1 s (q.2.1 4 s) = x + 1 := by rw [kSs_X, if_pos ⟨rfl, rfl, e4.symm⟩]
        have hp2 : kPz T (kSs s (q1.2.1 4 s) x (kAk s q1)) 0 D s (q.2.1 4 s + 1) (B + kWv T lo) := kPz_snoc hts.2.1 hts.2.2 hp o2 hoc.1 (by show 0 + _ + 1 ≤ _; omega) rfl (fun r s' a b c => hR r s' a (by omega)) (fun r y a _ => hR r y (by omega) (by omega)) (fun r s' i a b _ => hX r s' i a (by omega)) (fun r i a hi => hX r s i a (by omega)) hXk
        exact ih e1 _ _ _ (B + kWv T lo) B' hc hun.1 (by rw [hun.2.2 0 (by omega) (by omega), hr1 0 (by omega)]; exact h8) (by rw [hun.2.1, hun.2.2 7 (by omega) (by omega), e4, hr1 7 (by omega)]; omega) (by rw [hun.2.1]; rw [e4] at hp2 ⊢; exact hp2) (by omega) h
      · cases h
theorem kFl_pl {rec : kR} (hrec : kRe T N m rec) (hrt : kRt T N m D rec) (hrp : kRp T N m D rec) {q0 : kP} {s e : Nat} : ∀ k lo cur q q' B B', jTl T (jVe T N m) k lo e cur → kLo T m q0 s q → q.2.1 0 s = 11 → q.2.1 4 s + k ≤ q.2.1 7 s → kPz T q 1 D s (q.2.1 4 s) B → B + jSw T e ≤ B' + jSw T lo → kFl T rec s k cur q = .ok q' → kPz T q' 1 D s (q'.2.1 4 s) B' ∧ q'.2.1 1 s = q.2.1 1 s ∧ q'.2.1 4 s = q.2.1 4 s + k := by
  intro k
  induction k with
  | zero =>
    intro lo cur q q' B B' hc hl h8 h7 hp hB h
    cases h
    have : lo = e := hc.2
    subst this
    exact ⟨kPz_up (by omega) hp, rfl, rfl⟩
  | succ k ih =>
    intro lo cur q q' B B' hc hl h8 h7 hp hB h
    obtain ⟨hcur, e1, hP, hc⟩ := hc
    subst hcur
    unfold kFl at h
    rw [Nat.add_sub_cancel] at h
    split at h
    case isFalse => cases h
    rename_i h0
    split at h
    case isFalse => cases h
    rename_i hnm
    split at h
    case isFalse => cases h
    rename_i hn
    split at h
    case isFalse => cases h
    rename_i hty
    split at h
    · cases h
    · rename_i q1 x hr
      have m1 := kMb_ok hP.1 h0 hnm.1
      have m2 := kMb_ok hP.1 h0 hty
      have hlt1 := jVb_lt m1.1
      have hdm := kMb_le (W := kWs 18) hP.1 h0
      have hg3 := kGm_3 (W1 := kWs 15) (W2 := kWs 12) (W3 := kWs 18) hP.1 h0 (by decide) (by decide) (by decide)
      rw [m1.2.2, m2.2.2] at hg3
      have l15 : (kWs 15).length = 4 := rfl
      have l12 : (kWs 12).length = 4 := rfl
      have hnw := kNam_w hn.1
      have hwn := kWv_eq (T := T) hlt1.1
      have hw := kWv_eq (T := T) (v := lo) (jVb_lt hP.1).1
      rw [← hP.2] at hw
      generalize kMb T lo (kWs 18) = dv at *
      generalize kMb T lo (kWs 15) = nm at *
      generalize kMb T lo (kWs 12) = ty at *
      have hsy := (kLo_sy (dv := dv) hl (by omega) (by omega) (show nm - 1 < m by omega) hn.1 hdm).2
      have hok := hrec.1 _ _ _ _ _ hsy.1.1 m2.1 hr
      have hoc := hrt _ _ _ _ _ hsy.1.1 m2.1 hr
      have hpl := hrp _ _ _ _ _ hsy.1.1 m2.1 hr
      obtain ⟨o1, o2, o3, _⟩ := hok
      obtain ⟨hl1, hr1, hx1⟩ := kLo_fm hsy.1 o1 o2
      have e4 := hr1 4 (by omega)
      have hts := hl.2.2.1
      have hss := kLo_ss (i := q.2.1 4 s) (x := x) hl1 (by rw [hr1 0 (by omega), hsy.2.2 0 (by omega) (by omega)]; omega) (by rw [e4, hsy.2.1]; omega) o3
      have hfd := kLo_fd (x := x) (dv := dv) (i := q.2.1 4 s) hss.1
      have rows : ∀ r, r = 0 ∨ r = 7 ∨ r = 1 → (kFd T s (q.2.1 4 s) x dv (kSs s (q.2.1 4 s) x q1)).2.1 r s = q.2.1 r s := by
        intro r hr
        rw [kFd_Q (by omega), hss.2 r (by omega), hr1 r (by omega), hsy.2.2 r (by omega) (by omega)]
      have row4 : (kFd T s (q.2.1 4 s) x dv (kSs s (q.2.1 4 s) x q1)).2.1 4 s = q.2.1 4 s + 1 := by
        rw [kFd_Q (by omega), hss.2 4 (by omega), e4, hsy.2.1]
      have hd1 : (kSd s (q.2.1 4 s) dv (kSn T s (q.2.1 4 s) (nm - 1) (kAk s q))).1 1 = q.1 1 := rfl
      have hdR : ∀ r s', r = 0 ∨ r = 1 ∨ r = 4 ∨ r = 7 ∨ r = 8 → s' ≠ s ∨ r ≠ 4 → (kSd s (q.2.1 4 s) dv (kSn T s (q.2.1 4 s) (nm - 1) (kAk s q))).2.1 r s' = q.2.1 r s' := fun r s' a b => by
        rw [kSd_Q, if_neg (by omega), kSn_Q, if_neg (by omega), if_neg (by omega), kPn_Q, if_neg (by omega), if_neg (by omega), kAk_r (by omega) (by omega)]
      have hdX : ∀ r s' i, r = 1 ∨ r = 2 → s' ≠ s ∨ i ≠ q.2.1 4 s → (kSd s (q.2.1 4 s) dv (kSn T s (q.2.1 4 s) (nm - 1) (kAk s q))).2.2 r s' i = q.2.2 r s' i := fun r s' i _ a => by
        rw [kSd_X, if_neg (by omega), kSn_X, if_neg (by omega), if_neg (by omega), kAk_Xo a]
      have hpd : kPz T (kSd s (q.2.1 4 s) dv (kSn T s (q.2.1 4 s) (nm - 1) (kAk s q))) 1 D s (q.2.1 4 s) B := kPz_fr hts.2.1 hd1 hts.2.2 (fun r s' a b c => hdR r s' a (by omega)) (fun r x a _ => hdR r x (by omega) (by omega)) (fun r s' i a b c => hdX r s' i a (by omega)) (fun r i a hi => hdX r s i a (by omega)) hp
      have c1 : (kFd T s (q.2.1 4 s) x dv (kSs s (q.2.1 4 s) x q1)).1 1 = q1.1 1 := by rw [kFd_1, if_neg (by omega), if_neg (by omega), if_neg (by omega)]; rfl
      have x2 : (kFd T s (q.2.1 4 s) x dv (kSs s (q.2.1 4 s) x q1)).2.2 2 s (q.2.1 4 s) = nm - 1 + 1 := by
        rw [kFd_X, kSs_X, if_neg (by omega), hx1, kSd_X, if_neg (by omega), kSn_X, if_neg (by omega), if_pos ⟨rfl, rfl, rfl⟩]
      have hco : kCo T (kFd T s (q.2.1 4 s) x dv (kSs s (q.2.1 4 s) x q1)) 1 s (q.2.1 4 s) = T 2 (nm - 1) + 19 := by
        unfold kCo
        rw [if_neg (by omega), x2, Nat.add_sub_cancel]
      have hp2 : kPz T (kFd T s (q.2.1 4 s) x dv (kSs s (q.2.1 4 s) x q1)) 1 D s (q.2.1 4 s + 1) (B + kWv T lo) := kPz_snoc (q := kSd s (q.2.1 4 s) dv (kSn T s (q.2.1 4 s) (nm - 1) (kAk s q))) (x := x) hts.2.1 hts.2.2 hpd o2 hoc.1 (by rw [hco]; omega) c1 (fun r s' a b c => by rw [kFd_Q (by omega), kSs_Q, if_neg (by omega), if_neg (by omega)]) (fun r y a _ => by rw [kFd_Q (by omega), kSs_Q, if_neg (by omega), if_neg (by omega)]) (fun r s' i a b _ => by rw [kFd_X, kSs_X, if_neg (by omega)]) (fun r i a hi => by rw [kFd_X, kSs_X, if_neg (by omega)]) (by rw [kFd_X, kSs_X, if_pos ⟨rfl, rfl, rfl⟩])
      obtain ⟨i1, i2, i3⟩ := ih e1 _ _ _ (B + kWv T lo) B' hc hfd (by rw [rows 0 (by omega)]; exact h8) (by rw [row4, rows 7 (by omega)]; omega) (by rw [row4]; exact hp2) (by omega) h
      exact ⟨i1, by rw [i2, rows 1 (by omega)], by rw [i3, row4]; omega⟩
theorem kYl_pl {s e : Nat} : ∀ k lo cur q q' B B', jTl T (jVe T N m) k lo e cur → kSg (fun i => T 2 (q.2.2 2 s i - 1) + 3) (q.2.1 4 s) 0 ≤ B → B + jSw T e ≤ B' + jSw T lo → kYl T s k cur q = .ok q' → kSg (fun i => T 2 (q'.2.2 2 s i - 1) + 3) (q'.2.1 4 s) 0 ≤ B' ∧ q'.2.1 1 s = q.2.1 1 s := by
  intro k
  induction k with
  | zero =>
    intro lo cur q q' B B' hc hp hB h
    cases h
    have : lo = e := hc.2
    subst this
    exact ⟨by omega, rfl⟩
  | succ k ih =>
    intro lo cur q q' B B' hc hp hB h
    obtain ⟨hcur, e1, hP, hc⟩ := hc
    subst hcur
    unfold kYl at h
    rw [Nat.add_sub_cancel] at h
    have hlt := jVb_lt hP.1
    have hw := kWv_eq (T := T) (v := lo) hlt.1
    rw [← hP.2] at hw
    split at h
    · rename_i hn
      have hnw := kNam_w hn.1
      have r4 : (kSn T s (q.2.1 4 s) lo (kAk s q)).2.1 4 s = q.2.1 4 s + 1 := by rw [kSn_r (by omega), kAk_4]
      have r1 : (kSn T s (q.2.1 4 s) lo (kAk s q)).2.1 1 s = q.2.1 1 s := by rw [kSn_Q, if_neg (by omega), if_neg (by omega), kPn_Q, if_neg (by omega), if_neg (by omega), kAk_r (by omega) (by omega)]
      have ih := ih e1 _ _ _ (B + (T 2 lo + 3)) B' hc ?_ (by omega) h
      · exact ⟨ih.1, by rw [ih.2, r1]⟩
      · rw [r4, kSg_sn]
        have e := kSg_cg (f := fun i => T 2 ((kSn T s (q.2.1 4 s) lo (kAk s q)).2.2 2 s i - 1) + 3) (g := fun i => T 2 (q.2.2 2 s i - 1) + 3) (k := q.2.1 4 s) (i := 0) (fun i _ hi => by
          rw [kSn_X, if_neg (by omega), if_neg (by omega), kAk_Xo (.inr (by omega))])
        rw [e]
        simp only [Nat.zero_add]
        rw [kSn_X, if_neg (by omega), if_pos ⟨rfl, rfl, rfl⟩, Nat.add_sub_cancel]
        omega
    · cases h
theorem kPlY_len {x : Nat} : ∀ k i, (kPlY T q x k i).length + (if k = 0 then 0 else 1) = kSg (fun j => T 2 (q.2.2 2 x j - 1) + 3) k i
  | 0, _ => rfl
  | k + 1, i => by
    have ih := kPlY_len (x := x) k (i + 1)
    unfold kPlY
    show _ = (T 2 (q.2.2 2 x i - 1) + 3) + kSg (fun j => T 2 (q.2.2 2 x j - 1) + 3) k (i + 1)
    rw [← ih, List.length_append, List.length_append, kQt_len, kLe_len, if_neg (show ¬ k + 1 = 0 by omega)]
    by_cases hk : k = 0
    · rw [if_pos hk, if_pos hk]
      show _ + (0 + _) + 1 = _
      omega
    · rw [if_neg hk, if_neg hk]
      show _ + (1 + _) + 1 = _
      omega
end
