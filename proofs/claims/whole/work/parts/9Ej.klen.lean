/-! PURE: how many letters a default takes -/
theorem kVb_n {x t : Nat} (hx : x ≤ 8191) (ht : 0 < t) (h : 2 * x < 128 ^ t) : (kVb (Int64.ofNat x)).length ≤ t := by
  unfold kVb
  refine kVu_len 10 t _ ht ?_
  have e : (Int64.ofNat x).toInt = x := Int64.toInt_ofNat_of_lt (by omega)
  rw [zz_nat, e, if_pos (by omega)]
  omega
theorem kVb_0 : (kVb 0).length = 1 := by decide +kernel
def kSg (f : Nat → Nat) : Nat → Nat → Nat
  | 0, _ => 0
  | k + 1, i => f i + kSg f k (i + 1)
theorem kSg_le {f g : Nat → Nat} : ∀ k i, (∀ j, i ≤ j → j < i + k → f j ≤ g j) → kSg f k i ≤ kSg g k i
  | 0, _, _ => Nat.le_refl _
  | k + 1, i, h => by
    have h1 := h i (Nat.le_refl _) (by omega)
    have h2 := kSg_le k (i + 1) (fun j a b => h j (by omega) (by omega))
    show f i + kSg f k (i + 1) ≤ g i + kSg g k (i + 1)
    omega
theorem kSg_one {p : Nat → Bool} {W : Nat} {g : Nat → Nat} : ∀ k i, (∀ a b, i ≤ a → a < b → b < i + k → ¬ (p a = true ∧ p b = true)) → kSg (fun j => if p j = true then W else g j) k i ≤ W + kSg g k i
  | 0, _, _ => Nat.zero_le _
  | k + 1, i, h => by
    show (if p i = true then W else g i) + kSg (fun j => if p j = true then W else g j) k (i + 1) ≤ W + (g i + kSg g k (i + 1))
    by_cases hp : p i = true
    · rw [if_pos hp]
      have := kSg_le (f := fun j => if p j = true then W else g j) (g := g) k (i + 1) (fun j a b => by
        show (if p j = true then W else g j) ≤ g j
        rw [if_neg (fun e => h i j (Nat.le_refl _) (by omega) (by omega) ⟨hp, e⟩)]
        exact Nat.le_refl _)
      omega
    · rw [if_neg hp]
      have := kSg_one (p := p) (W := W) (g := g) k (i + 1) (fun a b h1 h2 h3 => h a b (by omega) h2 (by omega))
      omega
section
variable {T : Nat → Nat → Nat} {N : Nat → Int} {m l n : Nat} {q : kP} {fit : Nat → Nat → Nat} {R : Nat → Nat → List Nat} {D : Nat}
theorem kSg_0 {f : Nat → Nat} (h : ∀ j, f j = 0) : ∀ k i, kSg f k i = 0
  | 0, _ => rfl
  | k + 1, i => by show f i + kSg f k (i + 1) = 0; rw [h, kSg_0 h k (i + 1)]
theorem jMs {t : Nat → Nat → Bool} {K : Nat} (hd : ∀ u a b, a < b → b < K → ¬ (t a u = true ∧ t b u = true)) {e : Nat} : ∀ k lo cur, jTm T (jVe T N m) k lo e cur → jSw T lo + kSg (fun i => kG T (t i) k cur) K 0 ≤ jSw T e
  | 0, lo, cur, h => by
    have h1 : cur = 0 := h.1
    have h2 : lo = e := h.2
    subst h1 h2
    rw [kSg_0 (f := fun i => kG T (t i) 0 0) (fun j => rfl)]
    exact Nat.le_refl _
  | k + 1, lo, cur, h => by
    obtain ⟨h1, h2, h3, e1, h4, h5⟩ := h
    subst h1
    have ih := jMs hd k e1 _ h5
    have a1 := jVe_lt _ _ h4
    have hw := kWv_eq (T := T) (v := lo + 1) (by rw [← h4.2]; exact a1)
    rw [← h4.2] at hw
    have hs : jSw T (lo + 1) = jSw T lo + jWt T lo := rfl
    have he : (fun i => kG T (t i) (k + 1) (lo + 1)) = fun i => if t i lo = true then jWt T lo + kWv T (lo + 1) else kG T (t i) k (T 4 (lo + 1)) := funext fun i => kG_s h3
    rw [he]
    have h1 := kSg_one (p := fun i => t i lo) (W := jWt T lo + kWv T (lo + 1)) (g := fun i => kG T (t i) k (T 4 (lo + 1))) K 0 (fun a b _ hab hb => hd lo a b hab (by omega))
    omega
theorem kWtA_len {r : Nat → List Nat} {f : Nat → Nat} {e : Nat} (hR : ∀ w, jVd T N m D w → f w = 0 → (r w).length ≤ 2 * kWv T w) : ∀ k lo cur, jTl T (jVf T N m D) k lo e cur → kFiA T f k cur = 0 → (kWtA T r k cur).length + 2 * jSw T lo ≤ 2 * jSw T e
  | 0, lo, cur, h, _ => by
    have h2 : lo = e := h.2
    subst h2
    show 0 + 2 * jSw T lo ≤ _
    omega
  | k + 1, lo, cur, h, hf => by
    obtain ⟨hcur, e1, hP, hch⟩ := h
    subst hcur
    have hlt := jVd_lt hP.1
    have hw := kWv_eq (T := T) hlt.1
    rw [← hP.2] at hw
    have hf : (if f lo = 0 then kFiA T f k (T 4 lo) else f lo) = 0 := hf
    by_cases hz : f lo = 0
    case neg => rw [if_neg hz] at hf; exact absurd hf hz
    rw [if_pos hz] at hf
    have h1 := hR _ hP.1 hz
    have h2 := kWtA_len hR k e1 _ hch hf
    show (r lo ++ kWtA T r k (T 4 lo)).length + _ ≤ _
    rw [List.length_append]
    omega
theorem kWtM_len {r : Nat → List Nat} {f : Nat → Nat} {e : Nat} (hG : jGt T N m l n) (he : e ≤ m) (hR : ∀ w, jVd T N m D w → f w = 0 → (r w).length ≤ 2 * kWv T w) : ∀ k lo cur, jTm T (jVf T N m D) k lo e cur → kFiM T f k cur = 0 → (kWtM T r k cur).length + 2 * jSw T lo ≤ 2 * jSw T e
  | 0, lo, cur, h, _ => by
    have h2 : lo = e := h.2
    subst h2
    show 0 + 2 * jSw T lo ≤ _
    omega
  | k + 1, lo, cur, h, hf => by
    obtain ⟨hcur, hk0, hk4, e1, hP, hch⟩ := h
    subst hcur
    have hlt := jVd_lt hP.1
    have hw := kWv_eq (T := T) hlt.1
    rw [← hP.2] at hw hlt
    have hle := jTm_lt jVf_lt _ _ _ _ hch
    have hs := jGt_s hG (u := lo) (by omega) hk0
    have hwt : jSw T (lo + 1) = jSw T lo + (T 2 lo + 3) := by
      show jSw T lo + jWt T lo = _
      unfold jWt
      rw [if_pos hk0]
    have ef : kFiM T f (k + 1) (lo + 1) = if f (lo + 1) = 0 then kFiM T f k (T 4 (lo + 1)) else f (lo + 1) := by
      show (if f (T 4 (lo + 1 - 1) - 1) = 0 then kFiM T f k (T 4 (T 4 (lo + 1 - 1) - 1)) else f (T 4 (lo + 1 - 1) - 1)) = _
      rw [Nat.add_sub_cancel, hk4, show lo + 2 - 1 = lo + 1 from rfl]
    have ek : kWtM T r (k + 1) (lo + 1) = (kVb (Int64.ofNat (T 2 lo)) ++ kLe T lo) ++ (r (lo + 1) ++ kWtM T r k (T 4 (lo + 1))) := by
      show (kVb (Int64.ofNat (T 2 (lo + 1 - 1))) ++ kLe T (lo + 1 - 1)) ++ (r (T 4 (lo + 1 - 1) - 1) ++ kWtM T r k (T 4 (T 4 (lo + 1 - 1) - 1))) = _
      rw [Nat.add_sub_cancel, hk4, show lo + 2 - 1 = lo + 1 from rfl]
    rw [ef] at hf
    by_cases hz : f (lo + 1) = 0
    case neg => rw [if_neg hz] at hf; exact absurd hf hz
    rw [if_pos hz] at hf
    have h1 := hR _ hP.1 hz
    have h2 := kWtM_len hG he hR k e1 _ hch hf
    have h3 := kVb_n (x := T 2 lo) (t := 2) (by omega) (by omega) (by omega)
    rw [ek, List.length_append, List.length_append, List.length_append, kLe_len]
    omega
theorem kG_ml {v : Nat} {t : Nat → Bool} (hv : jVb T N m v) (h0 : T 0 v = 0) (hn : kMv T t v ≠ 0) : kWv T (kMv T t v - 1) ≤ kG T t (T 2 v / 2) (T 3 v) := by
  unfold kG
  unfold kMv at hn ⊢
  by_cases hz : jFd T t (T 2 v / 2) (T 3 v) = 0
  · rw [if_pos hz] at hn; exact absurd rfl hn
  · rw [if_neg hz, if_neg hz]
    omega
theorem jSm_tr {x y z : Nat} (h1 : jSm T x y = true) (h2 : jSm T x z = true) : jSm T y z = true := by
  unfold jSm at h1 h2 ⊢
  simp only [decide_eq_true_eq] at h1 h2 ⊢
  exact ⟨by omega, fun i hi => by rw [← h1.2 i (by omega), h2.2 i (by omega)]⟩
theorem kWtF_len {v y : Nat} (hb : jVb T N m v) (hv : jVd T N m (D + 1) v) (h0 : T 0 v = 0) (hR : ∀ w i, jVd T N m D w → i < q.2.1 4 y → fit w (q.2.2 1 y i - 1) = 0 → (R w (q.2.2 1 y i - 1)).length ≤ 2 * kWv T w) : ∀ k i, i + k ≤ q.2.1 4 y → kFiF T q fit v y k i = 0 → (kWtF T q R v y k i).length ≤ 2 * kSg (fun i => kG T (fun u => jSm T u (q.2.2 2 y i - 1)) (T 2 v / 2) (T 3 v)) k i
  | 0, _, _, _ => Nat.zero_le _
  | k + 1, i, hi, hf => by
    have ih := kWtF_len hb hv h0 hR k (i + 1) (by omega)
    have hf : (if kMl T v (q.2.2 2 y i - 1) = 0 then v + 1 else if fit (kMl T v (q.2.2 2 y i - 1) - 1) (q.2.2 1 y i - 1) = 0 then kFiF T q fit v y k (i + 1) else fit (kMl T v (q.2.2 2 y i - 1) - 1) (q.2.2 1 y i - 1)) = 0 := hf
    show ((if kMl T v (q.2.2 2 y i - 1) = 0 then [] else R (kMl T v (q.2.2 2 y i - 1) - 1) (q.2.2 1 y i - 1)) ++ kWtF T q R v y k (i + 1)).length ≤ 2 * (kG T (fun u => jSm T u (q.2.2 2 y i - 1)) (T 2 v / 2) (T 3 v) + kSg (fun i => kG T (fun u => jSm T u (q.2.2 2 y i - 1)) (T 2 v / 2) (T 3 v)) k (i + 1))
    by_cases hz : kMl T v (q.2.2 2 y i - 1) = 0
    · rw [if_pos hz] at hf; omega
    rw [if_neg hz] at hf ⊢
    have hg : kWv T (kMl T v (q.2.2 2 y i - 1) - 1) ≤ kG T (fun u => jSm T u (q.2.2 2 y i - 1)) (T 2 v / 2) (T 3 v) := kG_ml hb h0 hz
    by_cases hz3 : fit (kMl T v (q.2.2 2 y i - 1) - 1) (q.2.2 1 y i - 1) = 0
    case neg => rw [if_neg hz3] at hf; exact absurd hf hz3
    rw [if_pos hz3] at hf
    have h1 := hR (kMl T v (q.2.2 2 y i - 1) - 1) i (kMv_d hv h0 hz) (by omega) hz3
    have h2 := ih hf
    rw [List.length_append]
    omega
theorem kWtF_all {v y : Nat} (hds : kDs T q y) (h11 : q.2.1 0 y = 11) (hb : jVb T N m v) (hv : jVd T N m (D + 1) v) (h0 : T 0 v = 0) (hR : ∀ w i, jVd T N m D w → i < q.2.1 4 y → fit w (q.2.2 1 y i - 1) = 0 → (R w (q.2.2 1 y i - 1)).length ≤ 2 * kWv T w) (hf : kFiF T q fit v y (q.2.1 4 y) 0 = 0) : (kWtF T q R v y (q.2.1 4 y) 0).length + 4 ≤ 2 * kWv T v := by
  have h1 := kWtF_len hb hv h0 hR _ 0 (by omega) hf
  obtain ⟨k, hk, h⟩ := jVb_o hb h0
  have hlt := jVb_lt hb
  have hw := kWv_eq (T := T) hlt.1
  have h2 : 2 ≤ jWt T v := jWt_2 v (by omega)
  have hm := jMs (K := q.2.1 4 y) (t := fun i u => jSm T u (q.2.2 2 y i - 1)) (fun u a b hab hbk e => by
    have h3 := hds h11 a b hab hbk
    rw [jSm_tr e.1 e.2] at h3
    cases h3) k _ _ h
  rw [show k = T 2 v / 2 by omega] at hm
  omega
/-- a default takes at most twice what it has paid, less one -/
theorem kWtB_len (hG : jGt T N m l n) (hdn : kDn T q) (hI : kIv T m q) (hcd : kCd q) {v y : Nat} (hb : jVb T N m v) (hy : y < q.1 1) (h8 : q.2.1 0 y ≠ 8) (hf : kFtB T N q fit v y = 0) (hz : 2 ≤ T 0 v ∨ ∃ D, jVd T N m (D + 1) v ∧ ∀ w x, jVd T N m D w → x < q.1 1 → fit w x = 0 → (R w x).length ≤ 2 * kWv T w) : (kWtB T N q R v y).length + 1 ≤ 2 * kWv T v := by
  have hm := hG.1
  have hl := hG.2.1
  have hlt := jVb_lt hb
  have hkv := jVb_k hb
  have hw := kWv_eq (T := T) hlt.1
  have hw2 := jVb_w2 hb
  have hn := hI.1
  have hK : q.2.1 0 y ≤ 11 ∧ (6 ≤ q.2.1 0 y → 6 ≤ y) := by
    by_cases h : y < 6
    · have := (hI.2.1 y h).1; omega
    · have := (hI.2.2.1 y (by omega) hy).1; omega
  have hin := kFtB_in hf
  have hws : T 0 v = 2 → jWt T v = T 2 v + 3 ∧ T 2 v ≤ 4096 := fun h => by
    have := jGt_s hG (u := v) (by omega) h
    unfold jWt
    rw [if_pos h]
    exact ⟨rfl, by omega⟩
  have hwn : T 0 v = 3 → jWt T v = T 2 v + 1 := fun h => by
    unfold jWt
    rw [if_neg (by omega), if_pos h]
  have hwl : T 0 v ≤ 1 → 2 ≤ jWt T v := fun h => jWt_2 v (by omega)
  have hcase : q.2.1 0 y = 0 ∨ q.2.1 0 y = 1 ∨ (q.2.1 0 y = 2 ∨ q.2.1 0 y = 3) ∨ (q.2.1 0 y = 4 ∨ q.2.1 0 y = 5) ∨ q.2.1 0 y = 6 ∨ q.2.1 0 y = 7 ∨ q.2.1 0 y = 9 ∨ q.2.1 0 y = 10 ∨ q.2.1 0 y = 11 := by omega
  rcases hcase with h | h | h | h | h | h | h | h | h
  · have ek : kWtB T N q R v y = [] := by unfold kWtB; rw [if_pos h]
    rw [ek]
    show 0 + 1 ≤ _
    omega
  · have ek : kWtB T N q R v y = [if T 0 v = 4 then 1 else 0] := by unfold kWtB; rw [if_neg (by omega), if_pos h]
    rw [ek]
    show 1 + 1 ≤ _
    omega
  · have ek : kWtB T N q R v y = kVb (Int64.ofInt (N v)) := by unfold kWtB; rw [if_neg (by omega), if_neg (by omega), if_pos h]
    have h3 := (kFtB_ok hf (by omega) (by omega) (by omega)).1 h
    have hnum := jVb_num hb h3
    have habs := jVb_abs hb h3
    have hlen := kVb_len hnum.1 hnum.2 habs.1 habs.2
    have := hwn h3
    rw [ek]
    omega
  · have ek : kWtB T N q R v y = kVb (Int64.ofNat (T 2 v)) ++ kLe T v := by unfold kWtB; rw [if_neg (by omega), if_neg (by omega), if_neg (by omega), if_pos h]
    have h2 := (kFtB_ok hf (by omega) (by omega) (by omega)).2.1 (by omega)
    have h3 := hws h2
    have h4 := kVb_n (x := T 2 v) (t := 2) (by omega) (by omega) (by omega)
    rw [ek, List.length_append, kLe_len]
    omega
  · have ek : kWtB T N q R v y = (if T 2 v = 0 then [] else kVb (Int64.ofNat (T 2 v))) ++ (kWtA T (fun w => R w (q.2.2 1 y 0 - 1)) (T 2 v) (T 3 v) ++ kVb 0) := by unfold kWtB; rw [if_neg (by omega), if_neg (by omega), if_neg (by omega), if_neg (by omega), if_pos h]
    obtain ⟨a, hfi⟩ := hin.1 h
    rcases hz with hz | ⟨D, hvd, hR⟩
    · omega
    have hy6 := hK.2 (by omega)
    have hnd := hcd y hy6 hy
    have h41 := hnd.1.2.2.1 (.inl h)
    have hx0 := hnd.2 (by omega) (by omega) 0 (by omega)
    have hx1 := (hI.2.2.2.1 y 0 hy6 hy (by omega)).2.2.2.1
    have h2 := jVb_2le hG hb a
    have hA := kWtA_len (f := fun w => fit w (q.2.2 1 y 0 - 1)) (r := fun w => R w (q.2.2 1 y 0 - 1)) (fun w hw hz => hR w _ hw (by omega) hz) _ _ _ (jVd_l hvd a) hfi
    have hc : (if T 2 v = 0 then [] else kVb (Int64.ofNat (T 2 v))).length ≤ 2 := by
      split
      · exact Nat.zero_le _
      · exact kVb_n (t := 2) (by omega) (by omega) (by omega)
    have := hwl (by omega)
    rw [ek, List.length_append, List.length_append, kVb_0]
    omega
  · have ek : kWtB T N q R v y = (if T 2 v / 2 = 0 then [] else kVb (Int64.ofNat (T 2 v / 2))) ++ (kWtM T (fun w => R w (q.2.2 1 y 0 - 1)) (T 2 v / 2) (T 3 v) ++ kVb 0) := by unfold kWtB; rw [if_neg (by omega), if_neg (by omega), if_neg (by omega), if_neg (by omega), if_neg (by omega), if_pos h]
    obtain ⟨a, hfi⟩ := hin.2.1 h
    rcases hz with hz | ⟨D, hvd, hR⟩
    · omega
    have hy6 := hK.2 (by omega)
    have hnd := hcd y hy6 hy
    have h41 := hnd.1.2.2.1 (.inr h)
    have hx0 := hnd.2 (by omega) (by omega) 0 (by omega)
    have hx1 := (hI.2.2.2.1 y 0 hy6 hy (by omega)).2.2.2.1
    obtain ⟨k', hk', hch'⟩ := jVb_o hb a
    have hl' := jTm_len hch'
    obtain ⟨k, hk2, hch⟩ := jVd_o hvd a
    rw [show k = T 2 v / 2 by omega] at hch
    have hA := kWtM_len (f := fun w => fit w (q.2.2 1 y 0 - 1)) (r := fun w => R w (q.2.2 1 y 0 - 1)) hG hlt.2 (fun w hw hz => hR w _ hw (by omega) hz) _ _ _ hch hfi
    have hc : (if T 2 v / 2 = 0 then [] else kVb (Int64.ofNat (T 2 v / 2))).length ≤ 2 := by
      split
      · exact Nat.zero_le _
      · exact kVb_n (t := 2) (by omega) (by omega) (by omega)
    have := hwl (by omega)
    rw [ek, List.length_append, List.length_append, kVb_0]
    omega
  · have ek : kWtB T N q R v y = kLe T v := by unfold kWtB; rw [if_neg (by omega), if_neg (by omega), if_neg (by omega), if_neg (by omega), if_neg (by omega), if_neg (by omega), if_pos h]
    have h2 := (kFtB_ok hf (by omega) (by omega) (by omega)).2.1 (by omega)
    have h3 := hws h2
    rw [ek, kLe_len]
    omega
  · have ek : kWtB T N q R v y = kVb (Int64.ofNat (kPt T q y (q.2.1 4 y) v - 1)) := by unfold kWtB; rw [if_neg (by omega), if_neg (by omega), if_neg (by omega), if_neg (by omega), if_neg (by omega), if_neg (by omega), if_neg (by omega), if_pos h]
    have h6 := hK.2 (by omega)
    have h732 := (hI.2.2.1 y h6 hy).2.2.2.2.2.2.2
    have h47 := (hcd y h6 hy).1.2.2.2.2 (by omega) (by omega)
    have hp0 := (kFtB_ok hf (by omega) (by omega) (by omega)).2.2.2 h
    have hpb2 : kPt T q y (q.2.1 4 y) v ≤ 32 := by
      have := kFr_1 _ _ hp0
      unfold kPt at hp0 ⊢
      omega
    have h4 := kVb_n (x := kPt T q y (q.2.1 4 y) v - 1) (t := 1) (by omega) (by omega) (by omega)
    rw [ek]
    omega
  · have ek : kWtB T N q R v y = kWtF T q R v y (q.2.1 4 y) 0 := by unfold kWtB; rw [if_neg (by omega), if_neg (by omega), if_neg (by omega), if_neg (by omega), if_neg (by omega), if_neg (by omega), if_neg (by omega), if_neg (by omega)]
    obtain ⟨a, hfi⟩ := hin.2.2 h
    rcases hz with hz | ⟨D, hvd, hR⟩
    · omega
    have hy6 := hK.2 (by omega)
    have hF := kWtF_all (hdn.2 y hy6 hy).1 h hb hvd a (fun w i hw hi hz => hR w _ hw (by
      have := (hI.2.2.2.1 y i hy6 hy hi).2.2.2.1
      omega) hz) hfi
    rw [ek]
    omega
theorem kWt_len (hG : jGt T N m l n) (hdn : kDn T q) (hI : kIv T m q) (hcd : kCd q) : ∀ D, D ≤ 24 → ∀ v x, jVd T N m D v → x < q.1 1 → kFit T N q D v x = 0 → (kWt T N q D v x).length ≤ 2 * kWv T v := by
  have hu : ∀ x, (if q.2.1 0 x = 8 then kVb 0 else []).length ≤ 1 := fun x => by
    split
    · rw [kVb_0]; exact Nat.le_refl _
    · exact Nat.zero_le _
  intro D
  induction D with
  | zero =>
    intro hD v x hv hx hf
    obtain ⟨hy, hy8⟩ := kFb_ok hI hcd hx
    have h1 := kWtB_len (R := fun _ _ => []) (fit := fun _ _ => 0) hG hdn hI hcd (jVd_b (by omega) hv) hy hy8 hf (.inl (jVd_0 hv))
    have h2 := hu x
    show ((if q.2.1 0 x = 8 then kVb 0 else []) ++ kWtB T N q (fun _ _ => []) v (kFb q x)).length ≤ _
    rw [List.length_append]
    omega
  | succ D ih =>
    intro hD v x hv hx hf
    obtain ⟨hy, hy8⟩ := kFb_ok hI hcd hx
    have h1 := kWtB_len (R := kWt T N q D) (fit := kFit T N q D) hG hdn hI hcd (jVd_b hD hv) hy hy8 hf (.inr ⟨D, hv, ih (by omega)⟩)
    have h2 := hu x
    show ((if q.2.1 0 x = 8 then kVb 0 else []) ++ kWtB T N q (kWt T N q D) v (kFb q x)).length ≤ _
    rw [List.length_append]
    omega
end
