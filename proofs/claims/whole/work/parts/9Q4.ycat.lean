/-! PURE: rows, one behind the other; looking at them -/
section
variable {q : kP} {B B' : Nat → Nat} {n n' : Nat}
theorem kSeq_z {P P' : Nat → Nat → Nat → Prop} (hP : ∀ i a e, P i a e → a ≤ e) : ∀ k i, (∀ j a a' e', i ≤ j → j < i + k → P j a a → P' j a' e' → e' = a') → ∀ a a' e', kSeq P k i a a → kSeq P' k i a' e' → e' = a'
  | 0, _, _, _, _, _, _, h => h
  | k + 1, i, hz, a, a', e', ⟨b, h1, h2⟩, ⟨b', g1, g2⟩ => by
    have l1 := hP _ _ _ h1
    have l2 := kSeq_le hP _ _ _ _ h2
    have e : b = a := by omega
    subst e
    rw [kSeq_z hP k (i + 1) (fun j a a' e' u1 u2 => hz j a a' e' (by omega) (by omega)) _ _ _ h2 g2, hz i _ _ _ (Nat.le_refl _) (by omega) h1 g1]
/-- data of no bytes: then none of this schema has any -/
theorem kWr_z {T : Nat → Nat → Nat} {m : Nat} (hB : ∀ i, B i < 256) (hI : kIv T m q) (hcd : kCd q) : ∀ E E' x a a' e', x < q.1 1 → kWr q B n E x a a → kWr q B' n' E' x a' e' → e' = a'
  | 0, _, _, _, _, _, _, h, _ => h.elim
  | E + 1, 0, _, _, _, _, _, _, h => h.elim
  | E + 1, E' + 1, x, a, a', e', hx, h, h' => by
    have hki := kKi hI hx
    have c : q.2.1 0 x = 0 ∨ q.2.1 0 x = 1 ∨ (q.2.1 0 x = 2 ∨ q.2.1 0 x = 3) ∨ (q.2.1 0 x = 4 ∨ q.2.1 0 x = 5) ∨ (q.2.1 0 x = 6 ∨ q.2.1 0 x = 7) ∨ q.2.1 0 x = 8 ∨ q.2.1 0 x = 9 ∨ q.2.1 0 x = 10 ∨ q.2.1 0 x = 11 := by omega
    rcases c with c | c | c | c | c | c | c | c | c
    · exact h'.2.1 c
    · have := h.2.2.1 c; omega
    · obtain ⟨v, hv⟩ := h.2.2.2.1 c
      have := kNu_le hB hv; omega
    · have := kSs2_le hB (h.2.2.2.2.1 c); omega
    · obtain ⟨k, a1, k1, k2, k3, k4⟩ := h.2.2.2.2.2.2.2.2.2 c
      have l1 := kNu_le hB k2
      exfalso
      by_cases k0 : k = 0
      · have := k3 k0
        clear k4
        omega
      · obtain ⟨e1, s1, s2⟩ := k4 k0
        have l2 := kNu_le hB s2
        have l3 := kSeq_le (fun i a e hh => by
          obtain ⟨g, g1, g2⟩ := hh
          have := (kWr_le g2).1
          by_cases h7 : q.2.1 0 x = 7
          · rw [if_pos h7] at g1
            have := kSs2_le hB g1
            omega
          · rw [if_neg h7] at g1
            omega) _ _ _ _ s1
        clear k4
        omega
    · obtain ⟨i, a1, i1, i2, i3⟩ := h.2.2.2.2.2.1 c
      have l1 := kNu_le hB i2
      have l2 := (kWr_le i3).1
      omega
    · have e1 := h.2.2.2.2.2.2.1 c
      have e2 := h'.2.2.2.2.2.2.1 c
      omega
    · obtain ⟨i, i1, i2⟩ := h.2.2.2.2.2.2.2.1 c
      have l1 := kNu_le hB i2
      omega
    · exact kSeq_z (P := fun i a e => kWr q B n E (kPx q x i) a e) (P' := fun i a e => kWr q B' n' E' (kPx q x i) a e) (fun i a e hh => (kWr_le hh).1) _ 0 (fun j a a' e' _ u2 g1 g2 => kWr_z hB hI hcd E E' _ a a' e' (kPx_lt hI hcd (hki.2.mp (by omega)) hx (by omega) (by omega) (by omega)).2 g1 g2) _ _ _ (h.2.2.2.2.2.2.2.2.1 c) (h'.2.2.2.2.2.2.2.2.1 c)
end
/-- rows, one behind the other -/
def yCat (Ms : Nat → List Nat) : Nat → List Nat
  | 0 => []
  | k + 1 => yCat Ms k ++ Ms k
theorem yCat_le (Ms : Nat → List Nat) : ∀ j k, (yCat Ms k).length ≤ (yCat Ms (k + j)).length
  | 0, k => Nat.le_refl _
  | j + 1, k => by
    have ih := yCat_le Ms j k
    have e : yCat Ms (k + (j + 1)) = yCat Ms (k + j) ++ Ms (k + j) := rfl
    rw [e, List.length_append]
    omega
theorem yCat_at (Ms : Nat → List Nat) : ∀ j k i, i < (yCat Ms k).length → (yCat Ms (k + j)).getD i 0 = (yCat Ms k).getD i 0
  | 0, k, i, _ => rfl
  | j + 1, k, i, hi => by
    have e : yCat Ms (k + (j + 1)) = yCat Ms (k + j) ++ Ms (k + j) := rfl
    have := yCat_le Ms j k
    rw [e, getD_l (by omega), yCat_at Ms j k i hi]
/-- row i in the whole -/
theorem yCat_r (Ms : Nat → List Nat) {N i : Nat} (hi : i < N) {B : Nat → Nat} {off : Nat} (h : kLz B off (yCat Ms N)) : kLz B (off + (yCat Ms i).length) (Ms i) := fun j hj => by
  have e : (yCat Ms (i + 1)).length = (yCat Ms i).length + (Ms i).length := List.length_append
  have h1 := yCat_le Ms (N - (i + 1)) (i + 1)
  have h2 := yCat_at Ms (N - (i + 1)) (i + 1) ((yCat Ms i).length + j) (by omega)
  rw [show i + 1 + (N - (i + 1)) = N by omega] at h1 h2
  rw [show off + (yCat Ms i).length + j = off + ((yCat Ms i).length + j) by omega, h _ (by omega), h2]
  show (yCat Ms i ++ Ms i).getD _ 0 = _
  rw [getD_r (by omega), show (yCat Ms i).length + j - (yCat Ms i).length = j by omega]
theorem yCat_bt {Ms : Nat → List Nat} : ∀ k, (∀ i, i < k → kBt (Ms i)) → kBt (yCat Ms k)
  | 0, _ => kBt_n
  | k + 1, h => kBt_a (yCat_bt k (fun i hi => h i (by omega))) (h k (by omega))
/-- a row can be looked at -/
def yLok (q : kP) (y : Nat) (M : List Nat) : Bool := match kDt q (yB M) M.length 32 y (0, 0, 0, []) with
  | .ok _ => true
  | .error _ => false
theorem kTp_all (M : List Nat) : kTp (yB M) 0 M.length = M := by
  apply List.ext_getElem?
  intro i
  by_cases hi : i < M.length
  · unfold kTp yB
    rw [List.getElem?_map, List.getElem?_range hi]
    show some (M.getD (0 + i) 0) = _
    rw [Nat.zero_add, List.getD_eq_getElem?_getD, List.getElem?_eq_getElem hi]
    rfl
  · rw [List.getElem?_eq_none (by rw [kTp_len]; omega), List.getElem?_eq_none (by omega)]
section
variable {q : kP} {T : Nat → Nat → Nat} {m y : Nat}
/-- a row alone, and the same row elsewhere -/
theorem yLok_at (hI : kIv T m q) (hcd : kCd q) (hy : y < q.1 1) {E : Nat} {M : List Nat} (hM : kBt M) (hw : kWz q E y M) {B : Nat → Nat} {n a' : Nat} (hl : kLz B a' M) (hn : a' + M.length ≤ n) (put : List Nat) : if yLok q y M = true then ∃ it da, kDt q B n 32 y (a', 0, 0, put) = .ok (a' + M.length, it, da, put ++ M) else ∃ e, kDt q B n 32 y (a', 0, 0, put) = .error e := by
  have hw0 := hw (yB M) M.length 0 (fun j hj => by rw [Nat.zero_add]; rfl) (by omega)
  rw [Nat.zero_add] at hw0
  have ha := kDt_ag (yB_bt hM) hI hcd E 32 (B' := B) (n' := n) y 0 M.length a' 0 0 [] put hy hw0 (by rw [Nat.sub_zero, kTp_all]; exact hl) (by omega)
  rw [Nat.sub_zero, kTp_all] at ha
  unfold yLok
  cases hk : kDt q (yB M) M.length 32 y (0, 0, 0, []) with
  | error e1 =>
    rw [hk] at ha
    cases hk' : kDt q B n 32 y (a', 0, 0, put) with
    | error e2 => exact ⟨e2, rfl⟩
    | ok p => rw [hk'] at ha; exact ha.elim
  | ok p =>
    rw [hk] at ha
    cases hk' : kDt q B n 32 y (a', 0, 0, put) with
    | error e2 => rw [hk'] at ha; exact ha.elim
    | ok p' =>
      rw [hk'] at ha
      obtain ⟨p1, p2, p3, p4⟩ := p'
      obtain ⟨⟨c1, c2⟩, ⟨c3, c4⟩, c5, c6⟩ := ha
      have c2 : p1 = a' + M.length := c2
      have c6 : p4 = put ++ M := c6
      subst c2 c6
      exact ⟨p2, p3, rfl⟩
/-- the row is stored -/
theorem yLok_wq (hI : kIv T m q) (hcd : kCd q) (hy : y < q.1 1) {E : Nat} {M : List Nat} (hM : kBt M) (hw : kWz q E y M) (hok : yLok q y M = true) {B : Nat → Nat} {n off : Nat} (hl : kLz B off M) (hn : off + M.length ≤ n) : kWq q B n 32 y off (off + M.length) := by
  have h1 := yLok_at hI hcd hy hM hw (B := yB M) (n := M.length) (a' := 0) (fun j hj => by rw [Nat.zero_add]; rfl) (by omega) []
  rw [if_pos hok] at h1
  obtain ⟨it, da, h1⟩ := h1
  have := kDt_pu (yB_bt hM) 32 y (0, 0, 0, []) _ (Nat.zero_le _) (Nat.zero_le _) h1 B n off (by show off + ([] ++ M).length ≤ n; rw [List.nil_append]; exact hn) (fun i _ hi => by
    have hi : i < M.length := hi
    show B (off + i) = ([] ++ M).getD i 0
    rw [List.nil_append]
    exact hl i hi)
  exact this
/-- all rows, looked at one behind the other -/
theorem kLw_cat (hI : kIv T m q) (hcd : kCd q) (hy : y < q.1 1) {E N : Nat} {Ms : Nat → List Nat} (hM : ∀ i, i < N → kBt (Ms i) ∧ kWz q E y (Ms i) ∧ 0 < (Ms i).length) : ∀ k i f z p, i + k = N → 1 ≤ k → k ≤ f → p.1 = (yCat Ms i).length → if ∀ j, j < N → i ≤ j → yLok q y (Ms j) = true then ∃ p', kLw q (yB (yCat Ms N)) (yCat Ms N).length y f z p = .ok (some (z + k, p')) else ∃ e, kLw q (yB (yCat Ms N)) (yCat Ms N).length y f z p = .error e := by
  intro k
  induction k with
  | zero => intro i f z p _ h; omega
  | succ k ih =>
    intro i f z p hi _ hf hp
    obtain ⟨f, rfl⟩ : ∃ f', f = f' + 1 := ⟨f - 1, by omega⟩
    obtain ⟨m1, m2, m3⟩ := hM i (by omega)
    have ee : (yCat Ms (i + 1)).length = (yCat Ms i).length + (Ms i).length := List.length_append
    have hle := yCat_le Ms (N - (i + 1)) (i + 1)
    rw [show i + 1 + (N - (i + 1)) = N by omega] at hle
    have hl := yCat_r Ms (N := N) (i := i) (by omega) (B := yB (yCat Ms N)) (off := 0) (fun j hj => by rw [Nat.zero_add]; rfl)
    rw [Nat.zero_add] at hl
    have hat := yLok_at hI hcd hy m1 m2 (B := yB (yCat Ms N)) (n := (yCat Ms N).length) (a' := (yCat Ms i).length) hl (by omega) p.2.2.2
    by_cases hok : yLok q y (Ms i) = true
    · rw [if_pos hok] at hat
      obtain ⟨it, da, hat⟩ := hat
      have ek : kLw q (yB (yCat Ms N)) (yCat Ms N).length y (f + 1) z p = if (yCat Ms i).length + (Ms i).length < (yCat Ms N).length then kLw q (yB (yCat Ms N)) (yCat Ms N).length y f (z + 1) ((yCat Ms i).length + (Ms i).length, it, da, p.2.2.2 ++ Ms i) else .ok (some (z + 1, ((yCat Ms i).length + (Ms i).length, it, da, p.2.2.2 ++ Ms i))) := by
        have e0 : kLw q (yB (yCat Ms N)) (yCat Ms N).length y (f + 1) z p = (match kDt q (yB (yCat Ms N)) (yCat Ms N).length 32 y (p.1, 0, 0, p.2.2.2) with
          | .error e => .error e
          | .ok p1 => if p1.1 = p.1 then .ok none else if p1.1 < (yCat Ms N).length then kLw q (yB (yCat Ms N)) (yCat Ms N).length y f (z + 1) p1 else .ok (some (z + 1, p1))) := rfl
        rw [e0, hp, hat]
        show (if (yCat Ms i).length + (Ms i).length = (yCat Ms i).length then _ else _) = _
        rw [if_neg (show ¬ (yCat Ms i).length + (Ms i).length = (yCat Ms i).length by omega)]
      rw [ek]
      by_cases h0 : k = 0
      · subst h0
        have eN : (yCat Ms N).length = (yCat Ms i).length + (Ms i).length := by rw [← ee, show i + 1 = N by omega]
        rw [if_pos (fun j hj hij => by rw [show j = i by omega]; exact hok), if_neg (show ¬ (yCat Ms i).length + (Ms i).length < (yCat Ms N).length by omega)]
        exact ⟨_, rfl⟩
      · have e2 : (yCat Ms (i + 1 + 1)).length = (yCat Ms (i + 1)).length + (Ms (i + 1)).length := List.length_append
        have h3 := (hM (i + 1) (by omega)).2.2
        have hle2 := yCat_le Ms (N - (i + 1 + 1)) (i + 1 + 1)
        rw [show i + 1 + 1 + (N - (i + 1 + 1)) = N by omega] at hle2
        rw [if_pos (show (yCat Ms i).length + (Ms i).length < (yCat Ms N).length by omega)]
        have ih' := ih (i + 1) f (z + 1) ((yCat Ms i).length + (Ms i).length, it, da, p.2.2.2 ++ Ms i) (by omega) (by omega) (by omega) ee.symm
        by_cases hall : ∀ j, j < N → i ≤ j → yLok q y (Ms j) = true
        · rw [if_pos hall]
          rw [if_pos (fun j hj hij => hall j hj (by omega))] at ih'
          obtain ⟨p', h'⟩ := ih'
          exact ⟨p', by rw [h', show z + 1 + k = z + (k + 1) by omega]⟩
        · rw [if_neg hall]
          rw [if_neg (fun e => hall (fun j hj hij => by
            by_cases ej : j = i
            · rw [ej]; exact hok
            · exact e j hj (by omega)))] at ih'
          exact ih'
    · rw [if_neg hok] at hat
      rw [if_neg (fun e => hok (e i (by omega) (Nat.le_refl _)))]
      obtain ⟨e, hat⟩ := hat
      refine ⟨e, ?_⟩
      unfold kLw
      rw [hp, hat]
/-- all rows have bytes, if there is one -/
theorem yCat_pos (hI : kIv T m q) (hcd : kCd q) (hy : y < q.1 1) {E N : Nat} {Ms : Nat → List Nat} (hM : ∀ i, i < N → kBt (Ms i) ∧ kWz q E y (Ms i)) (hT : 0 < (yCat Ms N).length) : (∀ i, i < N → 0 < (Ms i).length) ∧ N ≤ (yCat Ms N).length := by
  have hw : ∀ i, i < N → kWr q (yB (Ms i)) (Ms i).length E y 0 (Ms i).length := fun i hi => by
    have := (hM i hi).2 (yB (Ms i)) (Ms i).length 0 (fun j hj => by rw [Nat.zero_add]; rfl) (by omega)
    rw [Nat.zero_add] at this
    exact this
  have hall2 : ∀ i, i < N → 0 < (Ms i).length := by
    intro i hi
    rcases Nat.eq_zero_or_pos (Ms i).length with h0 | h0
    · exfalso
      have hz := hw i hi
      rw [h0] at hz
      have : ∀ k, k ≤ N → (yCat Ms k).length = 0 := by
        intro k
        induction k with
        | zero => intro _; rfl
        | succ k ih =>
          intro hk
          have e : (yCat Ms (k + 1)).length = (yCat Ms k).length + (Ms k).length := List.length_append
          have := kWr_z (yB_bt (hM i hi).1) hI hcd E E y 0 0 (Ms k).length hy hz (hw k (by omega))
          rw [e, ih (by omega)]
          omega
      have := this N (Nat.le_refl _)
      omega
    · exact h0
  refine ⟨hall2, ?_⟩
  have : ∀ k, k ≤ N → k ≤ (yCat Ms k).length := by
    intro k
    induction k with
    | zero => intro _; exact Nat.zero_le _
    | succ k ih =>
      intro hk
      have e : (yCat Ms (k + 1)).length = (yCat Ms k).length + (Ms k).length := List.length_append
      have := ih (by omega)
      have := hall2 k (by omega)
      omega
  exact this N (Nat.le_refl _)
theorem yCat_rw (hI : kIv T m q) (hcd : kCd q) (hy : y < q.1 1) {E N : Nat} {Ms : Nat → List Nat} (hM : ∀ i, i < N → kBt (Ms i) ∧ kWz q E y (Ms i)) (hok : ∀ i, i < N → yLok q y (Ms i) = true) (hN : N ≤ (yCat Ms N).length) : yRw (yCat Ms N) q y N := by
  refine ⟨hN, fun i => (yCat Ms i).length, rfl, rfl, fun i hi B n off hb hn => ?_⟩
  have e : (yCat Ms (i + 1)).length = (yCat Ms i).length + (Ms i).length := List.length_append
  have hle := yCat_le Ms (N - (i + 1)) (i + 1)
  rw [show i + 1 + (N - (i + 1)) = N by omega] at hle
  have := yLok_wq hI hcd hy (hM i hi).1 (hM i hi).2 (hok i hi) (B := B) (n := n) (off := off + (yCat Ms i).length) (yCat_r Ms hi hb) (by omega)
  show kWq q B n 32 y (off + (yCat Ms i).length) (off + (yCat Ms (i + 1)).length)
  rw [e, ← Nat.add_assoc]
  exact this
end
