/-! PURE: looking at stored data: the same wherever they stand -/
def kAg (e e' : Nat) (M put put' : List Nat) (r r' : kBe) : Prop := match r, r' with
  | .ok p, .ok p' => (p.1 = e ∧ p'.1 = e') ∧ (p.2.1 = p'.2.1 ∧ p.2.2.1 = p'.2.2.1) ∧ p.2.2.2 = put ++ M ∧ p'.2.2.2 = put' ++ M
  | .error _, .error _ => True
  | .ok _, .error _ => False
  | .error _, .ok _ => False
theorem kAg_ok {e e' it da : Nat} {M put put' : List Nat} : kAg e e' M put put' (.ok (e, it, da, put ++ M)) (.ok (e', it, da, put' ++ M)) := ⟨⟨rfl, rfl⟩, ⟨rfl, rfl⟩, rfl, rfl⟩
section
variable {q : kP} {B B' : Nat → Nat} {n n' : Nat} {T : Nat → Nat → Nat} {m : Nat}
theorem kTp_ap {a k j : Nat} : kTp B a (k + j) = kTp B a k ++ kTp B (a + k) j := by
  unfold kTp
  rw [List.range_add, List.map_append, List.map_map]
  congr 1
  apply List.map_congr_left
  intro i _
  show B (a + (k + i)) = B (a + k + i)
  rw [Nat.add_assoc]
theorem kTp_sp {a b e : Nat} (h1 : a ≤ b) (h2 : b ≤ e) : kTp B a (e - a) = kTp B a (b - a) ++ kTp B b (e - b) := by
  have := kTp_ap (B := B) (a := a) (k := b - a) (j := e - b)
  rw [show b - a + (e - b) = e - a by omega, show a + (b - a) = b by omega] at this
  exact this
theorem kTp_0 {a : Nat} : kTp B a 0 = [] := rfl
def kAgR (q : kP) (B : Nat → Nat) (n : Nat) (B' : Nat → Nat) (n' E : Nat) (rec rec' : kDr) : Prop := ∀ x a e a' it da put put', x < q.1 1 → kWr q B n E x a e → kLz B' a' (kTp B a (e - a)) → a' + (e - a) ≤ n' → kAg e (a' + (e - a)) (kTp B a (e - a)) put put' (rec x (a, it, da, put)) (rec' x (a', it, da, put'))
theorem kSeq_le {P : Nat → Nat → Nat → Prop} (h : ∀ i a e, P i a e → a ≤ e) : ∀ k i a e, kSeq P k i a e → a ≤ e
  | 0, _, a, e, hs => by rw [show e = a from hs]; exact Nat.le_refl _
  | k + 1, i, a, e, ⟨b, h1, h2⟩ => Nat.le_trans (h _ _ _ h1) (kSeq_le h k _ _ _ h2)
theorem kFs_ag {E : Nat} {rec rec' : kDr} (hr : kAgR q B n B' n' E rec rec') {x : Nat} (hp : ∀ i, i < q.2.1 4 x → kPx q x i < q.1 1) : ∀ k i a e a' it da put put', i + k ≤ q.2.1 4 x → kSeq (fun i a e => kWr q B n E (kPx q x i) a e) k i a e → kLz B' a' (kTp B a (e - a)) → a' + (e - a) ≤ n' → kAg e (a' + (e - a)) (kTp B a (e - a)) put put' (kFs q rec x k i (a, it, da, put)) (kFs q rec' x k i (a', it, da, put'))
  | 0, i, a, e, a', it, da, put, put', _, hs, hl, hn => by
    have e0 : e = a := hs
    subst e0
    rw [Nat.sub_self, Nat.add_zero, kTp_0]
    have := kAg_ok (e := e) (e' := a') (it := it) (da := da) (M := []) (put := put) (put' := put')
    rw [List.append_nil, List.append_nil] at this
    exact this
  | k + 1, i, a, e, a', it, da, put, put', hik, hs, hl, hn => by
    obtain ⟨b, h1, h2⟩ := hs
    have l1 := (kWr_le h1).1
    have l2 := kSeq_le (fun i a e h => (kWr_le h).1) _ _ _ _ h2
    rw [kTp_sp l1 l2] at hl ⊢
    have g1 := hr (kPx q x i) a b a' it da put put' (hp i (by omega)) h1 (kLz_l hl) (by omega)
    unfold kFs
    cases hk : rec (q.2.2 1 x i - 1) (a, it, da, put) with
    | error e1 =>
      have hk : rec (kPx q x i) (a, it, da, put) = .error e1 := hk
      rw [hk] at g1
      cases hk' : rec' (q.2.2 1 x i - 1) (a', it, da, put') with
      | error e2 => exact trivial
      | ok p' =>
        have hk' : rec' (kPx q x i) (a', it, da, put') = .ok p' := hk'
        rw [hk'] at g1
        exact g1.elim
    | ok p =>
      have hk : rec (kPx q x i) (a, it, da, put) = .ok p := hk
      rw [hk] at g1
      cases hk' : rec' (q.2.2 1 x i - 1) (a', it, da, put') with
      | error e2 =>
        have hk' : rec' (kPx q x i) (a', it, da, put') = .error e2 := hk'
        rw [hk'] at g1
        exact g1.elim
      | ok p' =>
        have hk' : rec' (kPx q x i) (a', it, da, put') = .ok p' := hk'
        rw [hk'] at g1
        obtain ⟨p1, p2, p3, p4⟩ := p
        obtain ⟨p1', p2', p3', p4'⟩ := p'
        obtain ⟨⟨c1, c2⟩, ⟨c3, c4⟩, c5, c6⟩ := g1
        have c1 : p1 = b := c1
        have c2 : p1' = a' + (b - a) := c2
        have c3 : p2 = p2' := c3
        have c4 : p3 = p3' := c4
        have c5 : p4 = put ++ kTp B a (b - a) := c5
        have c6 : p4' = put' ++ kTp B a (b - a) := c6
        subst c1 c2 c3 c4 c5 c6
        have hl2 := kLz_r hl
        rw [kTp_len] at hl2
        have g2 := kFs_ag hr hp k (i + 1) p1 e (a' + (p1 - a)) p2 p3 (put ++ kTp B a (p1 - a)) (put' ++ kTp B a (p1 - a)) (by omega) h2 hl2 (by omega)
        rw [show a' + (p1 - a) + (e - p1) = a' + (e - a) by omega] at g2
        show kAg _ _ _ _ _ (kFs q rec x k (i + 1) _) (kFs q rec' x k (i + 1) _)
        cases hz : kFs q rec x k (i + 1) (p1, p2, p3, put ++ kTp B a (p1 - a)) with
        | error e3 =>
          rw [hz] at g2
          cases hz' : kFs q rec' x k (i + 1) (a' + (p1 - a), p2, p3, put' ++ kTp B a (p1 - a)) with
          | error e4 => exact trivial
          | ok _ => rw [hz'] at g2; exact g2.elim
        | ok r =>
          rw [hz] at g2
          cases hz' : kFs q rec' x k (i + 1) (a' + (p1 - a), p2, p3, put' ++ kTp B a (p1 - a)) with
          | error e4 => rw [hz'] at g2; exact g2.elim
          | ok r' =>
            rw [hz'] at g2
            obtain ⟨d1, d2, d3, d4⟩ := g2
            exact ⟨d1, d2, by rw [d3, List.append_assoc], by rw [d4, List.append_assoc]⟩
theorem kSt_ag (hB : ∀ i, B i < 256) {a e a' it da : Nat} {put put' : List Nat} (h : kSs2 B n a e) (hl : kLz B' a' (kTp B a (e - a))) (hn : a' + (e - a) ≤ n') : kAg e (a' + (e - a)) (kTp B a (e - a)) put put' (kSt B n (a, it, da, put)) (kSt B' n' (a', it, da, put')) := by
  obtain ⟨v, b, h1, h2, h3, h4⟩ := h
  have hle := kNu_le hB h1
  rw [kTp_sp (show a ≤ b by omega) (show b ≤ e by omega)] at hl ⊢
  have h1' := kNu_l2 hB h1 (kLz_l hl) (n' := n') (by omega)
  have hl2 := kLz_r hl
  rw [kTp_len] at hl2
  unfold kSt
  have e1 : kVr B n (a, it, da, put).1 = .ok (v, b) := h1.1
  have e2 : kVr B' n' (a', it, da, put').1 = .ok (v, a' + (b - a)) := h1'.1
  rw [e1, e2]
  simp only
  have ev : v.toInt.toNat = e - b := by omega
  rw [if_neg (by omega), if_pos (by omega), if_neg (by omega), if_pos (by omega), ev, h1.2]
  have et : kTp B' (a' + (b - a)) (e - b) = kTp B b (e - b) := by
    apply List.ext_getElem?
    intro i
    by_cases hi : i < e - b
    · have := hl2 i (by rw [kTp_len]; exact hi)
      rw [kTp_gd hi] at this
      have g1 := kTp_gd (B := B') (a := a' + (b - a)) hi
      have g2 := kTp_gd (B := B) (a := b) hi
      unfold kTp
      rw [List.getElem?_map, List.getElem?_map, List.getElem?_range hi]
      show some (B' (a' + (b - a) + i)) = some (B (b + i))
      rw [this]
    · rw [List.getElem?_eq_none (by rw [kTp_len]; omega), List.getElem?_eq_none (by rw [kTp_len]; omega)]
  rw [et, show b + (e - b) = e by omega, show a' + (b - a) + (e - b) = a' + (e - a) by omega]
  exact kAg_ok
theorem kIm_ag (hB : ∀ i, B i < 256) {E : Nat} {rec rec' : kDr} (hr : kAgR q B n B' n' E rec rec') {x a e a' it da : Nat} {put put' : List Nat} (hp : kPx q x 0 < q.1 1) (h : ∃ g, (if q.2.1 0 x = 7 then kSs2 B n a g else g = a) ∧ kWr q B n E (kPx q x 0) g e) (hl : kLz B' a' (kTp B a (e - a))) (hn : a' + (e - a) ≤ n') : kAg e (a' + (e - a)) (kTp B a (e - a)) put put' (kIm q B n rec x (a, it, da, put)) (kIm q B' n' rec' x (a', it, da, put')) := by
  obtain ⟨g, h1, h2⟩ := h
  have l2 := (kWr_le h2).1
  unfold kIm
  by_cases h7 : q.2.1 0 x = 7
  · rw [if_pos h7] at h1
    rw [if_pos h7, if_pos h7]
    have l1 := (kSs2_le hB h1).1
    rw [kTp_sp (show a ≤ g by omega) l2] at hl ⊢
    have g1 := kSt_ag hB (n' := n') (it := it) (da := da) (put := put) (put' := put') h1 (kLz_l hl) (by omega)
    cases hk : kSt B n (a, it, da, put) with
    | error e1 =>
      rw [hk] at g1
      cases hk' : kSt B' n' (a', it, da, put') with
      | error e2 => exact trivial
      | ok p' => rw [hk'] at g1; exact g1.elim
    | ok p =>
      rw [hk] at g1
      cases hk' : kSt B' n' (a', it, da, put') with
      | error e2 => rw [hk'] at g1; exact g1.elim
      | ok p' =>
        rw [hk'] at g1
        obtain ⟨p1, p2, p3, p4⟩ := p
        obtain ⟨p1', p2', p3', p4'⟩ := p'
        obtain ⟨⟨c1, c2⟩, ⟨c3, c4⟩, c5, c6⟩ := g1
        have c1 : p1 = g := c1
        have c2 : p1' = a' + (g - a) := c2
        have c3 : p2 = p2' := c3
        have c4 : p3 = p3' := c4
        have c5 : p4 = put ++ kTp B a (g - a) := c5
        have c6 : p4' = put' ++ kTp B a (g - a) := c6
        subst c1 c2 c3 c4 c5 c6
        have hl2 := kLz_r hl
        rw [kTp_len] at hl2
        have g2 := hr (kPx q x 0) p1 e (a' + (p1 - a)) p2 p3 (put ++ kTp B a (p1 - a)) (put' ++ kTp B a (p1 - a)) hp h2 hl2 (by omega)
        rw [show a' + (p1 - a) + (e - p1) = a' + (e - a) by omega] at g2
        show kAg _ _ _ _ _ (rec (kPx q x 0) _) (rec' (kPx q x 0) _)
        cases hz : rec (kPx q x 0) (p1, p2, p3, put ++ kTp B a (p1 - a)) with
        | error e3 =>
          rw [hz] at g2
          cases hz' : rec' (kPx q x 0) (a' + (p1 - a), p2, p3, put' ++ kTp B a (p1 - a)) with
          | error e4 => exact trivial
          | ok _ => rw [hz'] at g2; exact g2.elim
        | ok r =>
          rw [hz] at g2
          cases hz' : rec' (kPx q x 0) (a' + (p1 - a), p2, p3, put' ++ kTp B a (p1 - a)) with
          | error e4 => rw [hz'] at g2; exact g2.elim
          | ok r' =>
            rw [hz'] at g2
            obtain ⟨d1, d2, d3, d4⟩ := g2
            exact ⟨d1, d2, by rw [d3, List.append_assoc], by rw [d4, List.append_assoc]⟩
  · rw [if_neg h7] at h1
    rw [if_neg h7, if_neg h7]
    subst h1
    exact hr (kPx q x 0) g e a' it da put put' hp h2 hl hn
theorem kIs2_ag (hB : ∀ i, B i < 256) {E : Nat} {rec rec' : kDr} (hr : kAgR q B n B' n' E rec rec') {x : Nat} (hp : kPx q x 0 < q.1 1) : ∀ k i a e a' it da put put', kSeq (fun _ a e => ∃ g, (if q.2.1 0 x = 7 then kSs2 B n a g else g = a) ∧ kWr q B n E (kPx q x 0) g e) k i a e → kLz B' a' (kTp B a (e - a)) → a' + (e - a) ≤ n' → kAg e (a' + (e - a)) (kTp B a (e - a)) put put' (kIs2 q B n rec x k (a, it, da, put)) (kIs2 q B' n' rec' x k (a', it, da, put'))
  | 0, i, a, e, a', it, da, put, put', hs, hl, hn => by
    have e0 : e = a := hs
    subst e0
    rw [Nat.sub_self, Nat.add_zero, kTp_0]
    have := kAg_ok (e := e) (e' := a') (it := it) (da := da) (M := []) (put := put) (put' := put')
    rw [List.append_nil, List.append_nil] at this
    exact this
  | k + 1, i, a, e, a', it, da, put, put', hs, hl, hn => by
    obtain ⟨b, h1, h2⟩ := hs
    have hPle : ∀ a e, (∃ g, (if q.2.1 0 x = 7 then kSs2 B n a g else g = a) ∧ kWr q B n E (kPx q x 0) g e) → a ≤ e := fun a e h => by
      obtain ⟨g, g1, g2⟩ := h
      have := (kWr_le g2).1
      by_cases h7 : q.2.1 0 x = 7
      · rw [if_pos h7] at g1
        have := (kSs2_le hB g1).1
        omega
      · rw [if_neg h7] at g1
        omega
    have l1 := hPle _ _ h1
    have l2 := kSeq_le (fun i a e h => hPle a e h) _ _ _ _ h2
    rw [kTp_sp l1 l2] at hl ⊢
    have g1 := kIm_ag hB hr hp (it := it) (da := da) (put := put) (put' := put') h1 (kLz_l hl) (by omega)
    unfold kIs2
    cases hk : kIm q B n rec x (a, it, da, put) with
    | error e1 =>
      rw [hk] at g1
      cases hk' : kIm q B' n' rec' x (a', it, da, put') with
      | error e2 => exact trivial
      | ok p' => rw [hk'] at g1; exact g1.elim
    | ok p =>
      rw [hk] at g1
      cases hk' : kIm q B' n' rec' x (a', it, da, put') with
      | error e2 => rw [hk'] at g1; exact g1.elim
      | ok p' =>
        rw [hk'] at g1
        obtain ⟨p1, p2, p3, p4⟩ := p
        obtain ⟨p1', p2', p3', p4'⟩ := p'
        obtain ⟨⟨c1, c2⟩, ⟨c3, c4⟩, c5, c6⟩ := g1
        have c1 : p1 = b := c1
        have c2 : p1' = a' + (b - a) := c2
        have c3 : p2 = p2' := c3
        have c4 : p3 = p3' := c4
        have c5 : p4 = put ++ kTp B a (b - a) := c5
        have c6 : p4' = put' ++ kTp B a (b - a) := c6
        subst c1 c2 c3 c4 c5 c6
        have hl2 := kLz_r hl
        rw [kTp_len] at hl2
        have g2 := kIs2_ag hB hr hp k (i + 1) p1 e (a' + (p1 - a)) p2 p3 (put ++ kTp B a (p1 - a)) (put' ++ kTp B a (p1 - a)) h2 hl2 (by omega)
        rw [show a' + (p1 - a) + (e - p1) = a' + (e - a) by omega] at g2
        show kAg _ _ _ _ _ (kIs2 q B n rec x k _) (kIs2 q B' n' rec' x k _)
        cases hz : kIs2 q B n rec x k (p1, p2, p3, put ++ kTp B a (p1 - a)) with
        | error e3 =>
          rw [hz] at g2
          cases hz' : kIs2 q B' n' rec' x k (a' + (p1 - a), p2, p3, put' ++ kTp B a (p1 - a)) with
          | error e4 => exact trivial
          | ok _ => rw [hz'] at g2; exact g2.elim
        | ok r =>
          rw [hz] at g2
          cases hz' : kIs2 q B' n' rec' x k (a' + (p1 - a), p2, p3, put' ++ kTp B a (p1 - a)) with
          | error e4 => rw [hz'] at g2; exact g2.elim
          | ok r' =>
            rw [hz'] at g2
            obtain ⟨d1, d2, d3, d4⟩ := g2
            exact ⟨d1, d2, by rw [d3, List.append_assoc], by rw [d4, List.append_assoc]⟩
theorem kFn_e {cnt e it da : Nat} {put M : List Nat} : kFn put.length cnt (e, it, da, put ++ M) = (e, it, da, put ++ ((if cnt = 0 then [] else kVb (Int64.ofNat cnt)) ++ (M ++ [0]))) := by
  unfold kFn
  show (e, it, da, (put ++ M).take put.length ++ ((if cnt = 0 then [] else kVb (Int64.ofNat cnt)) ++ ((put ++ M).drop put.length ++ [0]))) = _
  rw [List.take_left, List.drop_left]
theorem kBl_ag (hB : ∀ i, B i < 256) {E : Nat} {rec rec' : kDr} (hr : kAgR q B n B' n' E rec rec') {x a e a' it da : Nat} {put put' : List Nat} {f : Nat} (hp : kPx q x 0 < q.1 1) (h : ∃ k a1, k ≤ 100000 ∧ kNu B n a (Int64.ofNat k) a1 ∧ (k = 0 → e = a1) ∧ (k ≠ 0 → ∃ e1, kSeq (fun _ a e => ∃ g, (if q.2.1 0 x = 7 then kSs2 B n a g else g = a) ∧ kWr q B n E (kPx q x 0) g e) k 0 a1 e1 ∧ kNu B n e1 0 e)) (hl : kLz B' a' (kTp B a (e - a))) (hn : a' + (e - a) ≤ n') : kAg e (a' + (e - a)) (kTp B a (e - a)) put put' (kBl q B n rec x put.length (f + 2) 0 (a, it, da, put)) (kBl q B' n' rec' x put'.length (f + 2) 0 (a', it, da, put')) := by
  obtain ⟨k, a1, k1, k2, k3, k4⟩ := h
  have hle := kNu_le hB k2
  have hv : (Int64.ofNat k).toInt = (k : Int) := ofN_t (by omega)
  have e1 : kVr B n (a, it, da, put).1 = .ok (Int64.ofNat k, a1) := k2.1
  by_cases k0 : k = 0
  · have e2 := k3 k0
    subst e2
    subst k0
    have k2' := kNu_l2 hB k2 hl hn
    have e2 : kVr B' n' (a', it, da, put').1 = .ok (Int64.ofNat 0, a' + (e - a)) := k2'.1
    unfold kBl
    rw [e1, e2]
    simp only
    rw [if_pos (by rw [hv]; rfl), if_pos (by rw [hv]; rfl)]
    have z1 := kFn_e (cnt := 0) (e := e) (it := it) (da := da) (put := put) (M := [])
    have z2 := kFn_e (cnt := 0) (e := a' + (e - a)) (it := it) (da := da) (put := put') (M := [])
    rw [List.append_nil] at z1 z2
    rw [z1, z2, if_pos rfl, k2.2]
    exact kAg_ok
  · obtain ⟨e1', s1, s2⟩ := k4 k0
    have hPle : ∀ a e, (∃ g, (if q.2.1 0 x = 7 then kSs2 B n a g else g = a) ∧ kWr q B n E (kPx q x 0) g e) → a ≤ e := fun a e h => by
      obtain ⟨g, g1, g2⟩ := h
      have := (kWr_le g2).1
      by_cases h7 : q.2.1 0 x = 7
      · rw [if_pos h7] at g1
        have := (kSs2_le hB g1).1
        omega
      · rw [if_neg h7] at g1
        omega
    have l1 := kSeq_le (fun i a e h => hPle a e h) _ _ _ _ s1
    have l2 := kNu_le hB s2
    have hsp : kTp B a (e - a) = kTp B a (a1 - a) ++ (kTp B a1 (e1' - a1) ++ kTp B e1' (e - e1')) := by
      rw [kTp_sp (show a ≤ a1 by omega) (show a1 ≤ e by omega), kTp_sp l1 (show e1' ≤ e by omega)]
    rw [hsp] at hl ⊢
    have hlA := kLz_l hl
    have hlB := kLz_r hl
    have hlC := kLz_l hlB
    have hlD := kLz_r hlB
    rw [kTp_len] at hlB hlC hlD
    rw [kTp_len] at hlD
    have k2' := kNu_l2 hB k2 hlA (n' := n') (by omega)
    have e2 : kVr B' n' (a', it, da, put').1 = .ok (Int64.ofNat k, a' + (a1 - a)) := k2'.1
    have s2' := kNu_l2 hB s2 hlD (n' := n') (by omega)
    rw [show f + 2 = f + 1 + 1 from rfl]
    unfold kBl
    rw [e1, e2]
    simp only
    have na : (Int64.ofNat k).toInt.natAbs = k := by rw [hv]; rfl
    rw [if_neg (show ¬ (Int64.ofNat k).toInt = 0 by rw [hv]; omega), if_neg (show ¬ (Int64.ofNat k).toInt = 0 by rw [hv]; omega), na]
    by_cases h2000 : 2000 < it + k
    · rw [if_pos h2000, if_pos h2000]
      exact trivial
    · rw [if_neg h2000, if_neg h2000]
      have t1 : ∀ B n a, kTo B n (Int64.ofNat k) a = .ok (Int64.ofNat k, a) := fun B n a => by unfold kTo; rw [if_neg (by rw [hv]; omega)]
      rw [t1, t1]
      simp only
      have g1 := kIs2_ag hB hr hp k 0 a1 e1' (a' + (a1 - a)) (it + k) da put put' s1 hlC (by omega)
      cases hk : kIs2 q B n rec x k (a1, it + k, da, put) with
      | error er =>
        rw [hk] at g1
        cases hk' : kIs2 q B' n' rec' x k (a' + (a1 - a), it + k, da, put') with
        | error e2 => exact trivial
        | ok p' => rw [hk'] at g1; exact g1.elim
      | ok p =>
        rw [hk] at g1
        cases hk' : kIs2 q B' n' rec' x k (a' + (a1 - a), it + k, da, put') with
        | error e2 => rw [hk'] at g1; exact g1.elim
        | ok p' =>
          rw [hk'] at g1
          obtain ⟨p1, p2, p3, p4⟩ := p
          obtain ⟨p1', p2', p3', p4'⟩ := p'
          obtain ⟨⟨c1, c2⟩, ⟨c3, c4⟩, c5, c6⟩ := g1
          have c1 : p1 = e1' := c1
          have c2 : p1' = a' + (a1 - a) + (e1' - a1) := c2
          have c3 : p2 = p2' := c3
          have c4 : p3 = p3' := c4
          have c5 : p4 = put ++ kTp B a1 (e1' - a1) := c5
          have c6 : p4' = put' ++ kTp B a1 (e1' - a1) := c6
          subst c1 c2 c3 c4 c5 c6
          simp only
          rw [if_neg (fun e => by rw [hv] at e; omega), if_neg (fun e => by rw [hv] at e; omega)]
          unfold kBl
          have f1 : kVr B n (p1, p2, p3, put ++ kTp B a1 (p1 - a1)).1 = .ok (0, e) := s2.1
          have f2 : kVr B' n' (a' + (a1 - a) + (p1 - a1), p2, p3, put' ++ kTp B a1 (p1 - a1)).1 = .ok (0, a' + (a1 - a) + (p1 - a1) + (e - p1)) := s2'.1
          rw [f1, f2]
          simp only
          rw [if_pos (show (0 : Int64).toInt = 0 from rfl), if_pos (show (0 : Int64).toInt = 0 from rfl)]
          have z1 := kFn_e (cnt := k) (e := e) (it := p2) (da := p3) (put := put) (M := kTp B a1 (p1 - a1))
          have z2 := kFn_e (cnt := k) (e := a' + (e - a)) (it := p2) (da := p3) (put := put') (M := kTp B a1 (p1 - a1))
          rw [Nat.zero_add, show a' + (a1 - a) + (p1 - a1) + (e - p1) = a' + (e - a) by omega, z1, z2, if_neg k0, k2.2, s2.2]
          exact kAg_ok
theorem kDt_ag (hB : ∀ i, B i < 256) (hI : kIv T m q) (hcd : kCd q) : ∀ E D, kAgR q B n B' n' E (kDt q B n D) (kDt q B' n' D)
  | 0, D => fun _ _ _ _ _ _ _ _ _ h _ _ => h.elim
  | E + 1, 0 => fun _ _ _ _ _ _ _ _ _ _ _ _ => trivial
  | E + 1, D + 1 => fun x a e a' it da put put' hx hw hl hn => by
    have ih := kDt_ag hB hI hcd E D
    have hki := kKi hI hx
    have hle := kWr_le hw
    have hcnt : 6 ≤ x → 8 ≤ q.2.1 0 x → q.2.1 0 x ≠ 9 → q.2.1 4 x ≤ 32 := fun x6 h8 h9 => by
      have h47 := (hcd x x6 hx).1.2.2.2.2 h8 h9
      have h732 := (hI.2.2.1 x x6 hx).2.2.2.2.2.2.2
      omega
    unfold kDt
    show kAg _ _ _ _ _ (if da < 4000 then kDb q B n (kDt q B n D) x (a, it, da + 1, put) else .error (8, a)) (if da < 4000 then kDb q B' n' (kDt q B' n' D) x (a', it, da + 1, put') else .error (8, a'))
    by_cases h4 : da < 4000
    · rw [if_pos h4, if_pos h4]
      unfold kDb
      by_cases c0 : q.2.1 0 x = 0
      · rw [if_pos c0, if_pos c0]
        have e0 := hw.2.1 c0
        subst e0
        rw [Nat.sub_self, Nat.add_zero, kTp_0]
        have := kAg_ok (e := e) (e' := a') (it := it) (da := da + 1) (M := []) (put := put) (put' := put')
        rw [List.append_nil, List.append_nil] at this
        exact this
      rw [if_neg c0, if_neg c0]
      by_cases c1 : q.2.1 0 x = 1
      · rw [if_pos c1, if_pos c1]
        have e1 := hw.2.2.1 c1
        subst e1
        rw [show a + 1 - a = 1 by omega] at hl hn ⊢
        have hb := hl 0 (by rw [kTp_len]; omega)
        rw [kTp_gd (by omega), Nat.add_zero, Nat.add_zero] at hb
        have et : kTp B a 1 = [B a] := by unfold kTp; rfl
        show kAg _ _ _ _ _ (if a < n then (if B a ≤ 1 then .ok (a + 1, it, da + 1, put ++ [B a]) else .error (3, a)) else .error (1, n)) (if a' < n' then (if B' a' ≤ 1 then .ok (a' + 1, it, da + 1, put' ++ [B' a']) else .error (3, a')) else .error (1, n'))
        rw [if_pos (show a < n by omega), if_pos (show a' < n' by omega), hb, et]
        by_cases hb1 : B a ≤ 1
        · rw [if_pos hb1, if_pos hb1]
          exact kAg_ok
        · rw [if_neg hb1, if_neg hb1]
          exact trivial
      rw [if_neg c1, if_neg c1]
      by_cases c2 : q.2.1 0 x = 2 ∨ q.2.1 0 x = 3
      · rw [if_pos c2, if_pos c2]
        obtain ⟨v, hv⟩ := hw.2.2.2.1 c2
        have hv' := kNu_l2 hB hv hl hn
        have e1 : kVr B n (a, it, da + 1, put).1 = .ok (v, e) := hv.1
        have e2 : kVr B' n' (a', it, da + 1, put').1 = .ok (v, a' + (e - a)) := hv'.1
        rw [e1, e2]
        simp only
        by_cases hr : q.2.1 0 x = 2 ∧ ¬ (-2147483648 ≤ v.toInt ∧ v.toInt ≤ 2147483647)
        · rw [if_pos hr, if_pos hr]
          exact trivial
        · rw [if_neg hr, if_neg hr, hv.2]
          exact kAg_ok
      rw [if_neg c2, if_neg c2]
      by_cases c4 : q.2.1 0 x = 4 ∨ q.2.1 0 x = 5
      · rw [if_pos c4, if_pos c4]
        exact kSt_ag hB (hw.2.2.2.2.1 c4) hl hn
      rw [if_neg c4, if_neg c4]
      by_cases c8 : q.2.1 0 x = 8
      · rw [if_pos c8, if_pos c8]
        obtain ⟨i, a1, i1, i2, i3⟩ := hw.2.2.2.2.2.1 c8
        have x6 := hki.2.mp (by omega)
        have hc32 := hcnt x6 (by omega) (by omega)
        have hpi := (kPx_lt hI hcd x6 hx (by omega) (by omega) (i := i) i1).2
        have l1 := kNu_le hB i2
        have l2 := (kWr_le i3).1
        rw [kTp_sp (show a ≤ a1 by omega) l2] at hl ⊢
        have i2' := kNu_l2 hB i2 (kLz_l hl) (n' := n') (by omega)
        have hl2 := kLz_r hl
        rw [kTp_len] at hl2
        by_cases hi : i < 2147483648
        · have hvi : (Int64.ofNat i).toInt = (i : Int) := ofN_t hi
          have hc : ∀ (B : Nat → Nat) n a put e1, kVr B n a = .ok (Int64.ofNat i, e1) → kCh B n (q.2.1 4 x) 4 (a, it, da + 1, put) = .ok ((e1, it, da + 1, put ++ kVb (Int64.ofNat i)), i) := fun B n a put e1 h => by
            unfold kCh
            have h : kVr B n (a, it, da + 1, put).1 = .ok (Int64.ofNat i, e1) := h
            rw [h]
            simp only
            rw [if_neg (by rw [hvi]; omega), hvi]
            rfl
          rw [hc B n a put a1 i2.1, hc B' n' a' put' _ i2'.1]
          simp only
          have g2 := ih (kPx q x i) a1 e (a' + (a1 - a)) it (da + 1) (put ++ kVb (Int64.ofNat i)) (put' ++ kVb (Int64.ofNat i)) hpi i3 hl2 (by omega)
          rw [show a' + (a1 - a) + (e - a1) = a' + (e - a) by omega] at g2
          rw [i2.2]
          show kAg _ _ _ _ _ (kDt q B n D (kPx q x i) _) (kDt q B' n' D (kPx q x i) _)
          cases hz : kDt q B n D (kPx q x i) (a1, it, da + 1, put ++ kVb (Int64.ofNat i)) with
          | error e3 =>
            rw [hz] at g2
            cases hz' : kDt q B' n' D (kPx q x i) (a' + (a1 - a), it, da + 1, put' ++ kVb (Int64.ofNat i)) with
            | error e4 => exact trivial
            | ok _ => rw [hz'] at g2; exact g2.elim
          | ok r =>
            rw [hz] at g2
            cases hz' : kDt q B' n' D (kPx q x i) (a' + (a1 - a), it, da + 1, put' ++ kVb (Int64.ofNat i)) with
            | error e4 => rw [hz'] at g2; exact g2.elim
            | ok r' =>
              rw [hz'] at g2
              obtain ⟨d1, d2, d3, d4⟩ := g2
              exact ⟨d1, d2, by rw [d3, List.append_assoc], by rw [d4, List.append_assoc]⟩
        · omega
      rw [if_neg c8, if_neg c8]
      by_cases c9 : q.2.1 0 x = 9
      · rw [if_pos c9, if_pos c9]
        have e1 := hw.2.2.2.2.2.2.1 c9
        subst e1
        unfold kPs
        show kAg _ _ _ _ _ (if q.2.1 8 x - 1 ≤ n - a then .ok (a + (q.2.1 8 x - 1), it, da + 1, put ++ kTp B a (q.2.1 8 x - 1)) else .error (1, n)) (if q.2.1 8 x - 1 ≤ n' - a' then .ok (a' + (q.2.1 8 x - 1), it, da + 1, put' ++ kTp B' a' (q.2.1 8 x - 1)) else .error (1, n'))
        rw [show a + (q.2.1 8 x - 1) - a = q.2.1 8 x - 1 by omega] at hl hn ⊢
        have et : kTp B' a' (q.2.1 8 x - 1) = kTp B a (q.2.1 8 x - 1) := by
          unfold kTp
          apply List.map_congr_left
          intro i hi
          have hi := List.mem_range.mp hi
          have := hl i (by rw [kTp_len]; exact hi)
          rw [this, kTp_gd hi]
        rw [if_pos (by omega), if_pos (by omega), et]
        exact kAg_ok
      rw [if_neg c9, if_neg c9]
      by_cases c10 : q.2.1 0 x = 10
      · rw [if_pos c10, if_pos c10]
        obtain ⟨i, i1, i2⟩ := hw.2.2.2.2.2.2.2.1 c10
        have x6 := hki.2.mp (by omega)
        have hc32 := hcnt x6 (by omega) (by omega)
        have i2' := kNu_l2 hB i2 hl hn
        by_cases hi : i < 2147483648
        · have hvi : (Int64.ofNat i).toInt = (i : Int) := ofN_t hi
          have hc : ∀ (B : Nat → Nat) n a put e1, kVr B n a = .ok (Int64.ofNat i, e1) → kCh B n (q.2.1 4 x) 5 (a, it, da + 1, put) = .ok ((e1, it, da + 1, put ++ kVb (Int64.ofNat i)), i) := fun B n a put e1 h => by
            unfold kCh
            have h : kVr B n (a, it, da + 1, put).1 = .ok (Int64.ofNat i, e1) := h
            rw [h]
            simp only
            rw [if_neg (by rw [hvi]; omega), hvi]
            rfl
          rw [hc B n a put e i2.1, hc B' n' a' put' _ i2'.1]
          simp only
          rw [i2.2]
          exact kAg_ok
        · omega
      rw [if_neg c10, if_neg c10]
      by_cases c11 : q.2.1 0 x = 11
      · rw [if_pos c11, if_pos c11]
        have x6 := hki.2.mp (by omega)
        exact kFs_ag ih (fun i hi => (kPx_lt hI hcd x6 hx (by omega) (by omega) (i := i) hi).2) _ _ _ _ _ _ _ _ _ (by omega) (hw.2.2.2.2.2.2.2.2.1 c11) hl hn
      rw [if_neg c11, if_neg c11]
      by_cases c67 : q.2.1 0 x = 6 ∨ q.2.1 0 x = 7
      · have x6 := hki.2.mp (by omega)
        have h14 : q.2.1 4 x = 1 := (hcd x x6 hx).1.2.2.1 c67
        exact kBl_ag (f := 1999) hB ih (kPx_lt hI hcd x6 hx (by omega) (by omega) (i := 0) (by omega)).2 (hw.2.2.2.2.2.2.2.2.2 c67) hl hn
      · omega
    · rw [if_neg h4, if_neg h4]
      exact trivial
end
