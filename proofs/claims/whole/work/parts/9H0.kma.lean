/-! PURE: matching -/
/-- a name's letters, in the pool -/
def kNm (q : kP) (a : Nat) : List Nat := (List.range (q.2.1 40 a)).map (fun i => q.2.1 40 (a + 1 + i))
theorem kNm_len {q : kP} {a : Nat} : (kNm q a).length = q.2.1 40 a := by unfold kNm; rw [List.length_map, List.length_range]
theorem kNm_at {q : kP} {a i : Nat} (h : i < q.2.1 40 a) : (kNm q a).getD i 0 = q.2.1 40 (a + 1 + i) := by
  unfold kNm
  rw [List.getD_eq_getElem?_getD, List.getElem?_map, List.getElem?_range h]
  rfl
def kSnm (q1 : kP) (a1 : Nat) (q2 : kP) (a2 : Nat) : Bool := decide (q1.2.1 40 a1 = q2.2.1 40 a2 ∧ ∀ i, i < q1.2.1 40 a1 → q1.2.1 40 (a1 + 1 + i) = q2.2.1 40 (a2 + 1 + i))
abbrev kSix (a b : Nat) : Prop := a = b ∨ a = 2 ∧ b = 3 ∨ (a = 4 ∨ a = 5) ∧ (b = 4 ∨ b = 5)
/-- two schemas that are not unions are alike, but for what is inside -/
def kAi (q1 q2 : kP) (x y : Nat) : Bool := decide (if q1.2.1 0 x < 6 then kSix (q1.2.1 0 x) (q2.2.1 0 y) else q1.2.1 0 x = q2.2.1 0 y ∧ (q1.2.1 0 x = 9 → q1.2.1 8 x = q2.2.1 8 y) ∧ (8 ≤ q1.2.1 0 x → kSnm q1 (q1.2.1 9 x) q2 (q2.2.1 9 y) = true))
/-- a schema's part -/
abbrev kPx (q : kP) (x i : Nat) : Nat := q.2.2 1 x i - 1
def kMs (q1 q2 : kP) : Nat → Nat → Nat → Bool
  | 0, x, y => if q1.2.1 0 x = 8 ∨ q2.2.1 0 y = 8 then true else false
  | D + 1, x, y => if q1.2.1 0 x = 8 ∨ q2.2.1 0 y = 8 then true else if kAi q1 q2 x y = true then (if q1.2.1 0 x = 6 ∨ q1.2.1 0 x = 7 then kMs q1 q2 D (kPx q1 x 0) (kPx q2 y 0) else true) else false
/-- the first branch that matches (one more) -/
def kBf (q1 q2 : kP) (x y : Nat) : Nat := kFr (fun i => kMs q1 q2 17 x (kPx q2 y i)) (q2.2.1 4 y) 0
/-- the part of x that has the name of y's part j (one more) -/
def kPk (q1 q2 : kP) (x y j : Nat) : Nat := kFr (fun i => kSnm q1 (q1.2.2 4 x i) q2 (q2.2.2 4 y j)) (q1.2.1 4 x) 0
/-- the reader's fields -/
def kAf (q1 q2 : kP) (x y : Nat) : Nat → Nat → Option (List (Nat × Nat))
  | 0, _ => some []
  | k + 1, j => if kPk q1 q2 x y j = 0 then (if q2.2.2 3 y j = 0 then none else kAf q1 q2 x y k (j + 1)) else (kAf q1 q2 x y k (j + 1)).map (fun L => (kPx q1 x (kPk q1 q2 x y j - 1), kPx q2 y j) :: L)
/-- every symbol of x is one of y -/
def kSy (q1 q2 : kP) (x y : Nat) : Nat → Nat → Bool
  | 0, _ => true
  | k + 1, i => if kPk q2 q1 y x i = 0 then false else kSy q1 q2 x y k (i + 1)
/-- each branch of a union -/
def kUa (q1 : kP) (x y : Nat) : Nat → Nat → List (Nat × Nat)
  | 0, _ => []
  | k + 1, i => (kPx q1 x i, y) :: kUa q1 x y k (i + 1)
/-- what a pair asks; none: it does not fit -/
def kPq (q1 q2 : kP) (x y : Nat) : Option (List (Nat × Nat)) :=
  if q1.2.1 0 x = 8 then some (kUa q1 x y (q1.2.1 4 x) 0)
  else if q2.2.1 0 y = 8 then (if kBf q1 q2 x y = 0 then none else some [(x, kPx q2 y (kBf q1 q2 x y - 1))])
  else if kAi q1 q2 x y = true then
    (if q1.2.1 0 x = 6 ∨ q1.2.1 0 x = 7 then some [(kPx q1 x 0, kPx q2 y 0)]
    else if q1.2.1 0 x = 10 then (if q2.2.1 8 y ≠ 0 ∨ kSy q1 q2 x y (q1.2.1 4 x) 0 = true then some [] else none)
    else if q1.2.1 0 x = 11 then kAf q1 q2 x y (q2.2.1 4 y) 0
    else some [])
  else none
/-- pairs that are asked, each once -/
def kAs (L : List (Nat × Nat)) (p : Nat × Nat) : List (Nat × Nat) := if p ∈ L then L else L ++ [p]
def kAsl (L : List (Nat × Nat)) (M : List (Nat × Nat)) : List (Nat × Nat) := M.foldl kAs L
def kFa (q1 q2 : kP) : Nat → Nat → List (Nat × Nat) → Bool
  | 0, _, _ => true
  | f + 1, z, L => if L.length ≤ z then true else match kPq q1 q2 (L.getD z (0, 0)).1 (L.getD z (0, 0)).2 with
    | none => false
    | some M => kFa q1 q2 f (z + 1) (kAsl L M)
def kFits (q1 q2 : kP) (x y : Nat) : Bool := kFa q1 q2 17957 0 [(x, y)]
/-! how many pairs -/
def kPr2 (n1 n2 : Nat) (L : List (Nat × Nat)) : Prop := L.Nodup ∧ ∀ p, p ∈ L → p.1 < n1 ∧ p.2 < n2
theorem nd_len : ∀ n (L : List Nat), L.Nodup → (∀ x, x ∈ L → x < n) → L.length ≤ n
  | 0, L, _, h => by
    cases L with
    | nil => exact Nat.le_refl _
    | cons a L => exact absurd (h a (List.mem_cons_self)) (Nat.not_lt_zero _)
  | n + 1, L, hn, h => by
    by_cases hm : n ∈ L
    · have h1 := nd_len n (L.erase n) (hn.erase n) (fun x hx => by
        have hx2 := (hn.mem_erase_iff).mp hx
        have := h x hx2.2
        omega)
      have := List.length_erase_of_mem hm
      have : 0 < L.length := List.length_pos_of_mem hm
      omega
    · have := nd_len n L hn (fun x hx => by
        have := h x hx
        have : x ≠ n := fun e => hm (e ▸ hx)
        omega)
      omega
theorem kPr2_code {n1 n2 K : Nat} {L : List (Nat × Nat)} (h : kPr2 n1 n2 L) (h2 : n2 ≤ K) : (L.map (fun p => p.1 * K + p.2)).Nodup ∧ ∀ x, x ∈ L.map (fun p => p.1 * K + p.2) → x < n1 * K := by
  have inj : ∀ p p' : Nat × Nat, p.2 < K → p'.2 < K → p.1 * K + p.2 = p'.1 * K + p'.2 → p = p' := by
    intro p p' a b e
    have e1 : p.1 = p'.1 := by
      have h1 : (p.1 * K + p.2) / K = p.1 := by rw [Nat.mul_comm, Nat.mul_add_div (by omega), Nat.div_eq_of_lt a]; rfl
      have h2 : (p'.1 * K + p'.2) / K = p'.1 := by rw [Nat.mul_comm, Nat.mul_add_div (by omega), Nat.div_eq_of_lt b]; rfl
      rw [← h1, ← h2, e]
    have e2 : p.2 = p'.2 := by rw [e1] at e; omega
    exact Prod.ext e1 e2
  obtain ⟨hn, hm⟩ := h
  refine ⟨?_, fun x hx => ?_⟩
  · induction L with
    | nil => exact List.nodup_nil
    | cons a L ih =>
      rw [List.map_cons, List.nodup_cons]
      rw [List.nodup_cons] at hn
      refine ⟨fun hin => ?_, ih hn.2 (fun p hp => hm p (List.mem_cons_of_mem _ hp))⟩
      obtain ⟨b, hb, he⟩ := List.mem_map.mp hin
      have ha := hm a List.mem_cons_self
      have hb2 := hm b (List.mem_cons_of_mem _ hb)
      have := inj b a (by omega) (by omega) he
      rw [this] at hb
      exact hn.1 hb
  · obtain ⟨p, hp, rfl⟩ := List.mem_map.mp hx
    have h3 := hm p hp
    calc p.1 * K + p.2 < p.1 * K + K := by omega
      _ = (p.1 + 1) * K := by rw [Nat.add_mul, Nat.one_mul]
      _ ≤ n1 * K := Nat.mul_le_mul_right _ h3.1
theorem kPr2_len {n1 n2 K : Nat} {L : List (Nat × Nat)} (h : kPr2 n1 n2 L) (h2 : n2 ≤ K) : L.length ≤ n1 * K := by
  have hc := kPr2_code h h2
  have := nd_len _ _ hc.1 hc.2
  rw [List.length_map] at this
  exact this
theorem kAs_pr {n1 n2 : Nat} {L : List (Nat × Nat)} {p : Nat × Nat} (h : kPr2 n1 n2 L) (h1 : p.1 < n1) (h2 : p.2 < n2) : kPr2 n1 n2 (kAs L p) := by
  unfold kAs
  split
  · exact h
  · rename_i hm
    refine ⟨List.nodup_append.mpr ⟨h.1, List.nodup_cons.mpr ⟨by simp, List.nodup_nil⟩, fun a ha b hb e => ?_⟩, fun r hr => ?_⟩
    · rw [List.mem_singleton] at hb
      exact hm (by rw [← hb, ← e]; exact ha)
    · rcases List.mem_append.mp hr with e | e
      · exact h.2 r e
      · rw [List.mem_singleton] at e
        rw [e]; exact ⟨h1, h2⟩
theorem kAsl_pr {n1 n2 : Nat} : ∀ (M L : List (Nat × Nat)), kPr2 n1 n2 L → (∀ p, p ∈ M → p.1 < n1 ∧ p.2 < n2) → kPr2 n1 n2 (kAsl L M)
  | [], _, h, _ => h
  | p :: M, L, h, hm => kAsl_pr M (kAs L p) (kAs_pr h (hm p List.mem_cons_self).1 (hm p List.mem_cons_self).2) (fun r hr => hm r (List.mem_cons_of_mem _ hr))
/-- how far lists and maps go down -/
def kRo (q : kP) : Nat → Nat → Prop
  | 0, x => ¬ (q.2.1 0 x = 6 ∨ q.2.1 0 x = 7)
  | D + 1, x => q.2.1 0 x = 6 ∨ q.2.1 0 x = 7 → kRo q D (kPx q x 0)
theorem kRo_n {q : kP} {x : Nat} (h : ¬ (q.2.1 0 x = 6 ∨ q.2.1 0 x = 7)) : ∀ D, kRo q D x
  | 0 => h
  | _ + 1 => fun e => absurd e h
theorem kRo_up {q : kP} : ∀ D x, kRo q D x → kRo q (D + 1) x
  | 0, _, h => fun e => absurd e h
  | D + 1, _, h => fun e => kRo_up D _ (h e)
theorem kTt_rw {q : kP} (h6 : ∀ s, s < 6 → q.2.1 0 s = s) : ∀ D s e, kTt q D s e → kRo q D s ∧ ∀ t, s ≤ t → t < e → kRo q D t
  | 0, s, e, h => h.elim
  | D + 1, s, e, h => by
    obtain ⟨hn, h⟩ := h
    rcases h with ⟨hk, he⟩ | ⟨hk, f, f0, f1, f2⟩
    · have hs : kRo q (D + 1) s := kRo_n (by omega) _
      exact ⟨hs, fun t h1 h2 => by rw [show t = s by omega]; exact hs⟩
    · have hs : kRo q (D + 1) s := by
        intro hr
        have h4 := hn.2.2.1 hr
        obtain ⟨_, hoc⟩ := f2 0 (by omega)
        rcases hoc with ⟨_, _, hx⟩ | ⟨hx, ht⟩
        · refine kRo_n (x := q.2.2 1 s 0 - 1) ?_ _
          rcases hx with hx | hx
          · have := h6 _ hx; omega
          · omega
        · show kRo q D (q.2.2 1 s 0 - 1)
          rw [hx]
          exact (kTt_rw h6 D _ _ ht).1
      refine ⟨hs, fun t h1 h2 => ?_⟩
      by_cases e0 : t = s
      · rw [e0]; exact hs
      · have key : ∀ k, k ≤ q.2.1 4 s → t < f k → kRo q (D + 1) t := by
          intro k
          induction k with
          | zero => intro _ hlt; omega
          | succ k ih =>
            intro hk2 hlt
            by_cases hlt2 : t < f k
            · exact ih (by omega) hlt2
            · obtain ⟨_, hoc⟩ := f2 k (by omega)
              rcases hoc with ⟨_, hc, _⟩ | ⟨hx, ht⟩
              · omega
              · exact kRo_up _ _ ((kTt_rw h6 D _ _ ht).2 t (by omega) hlt)
        exact key _ (Nat.le_refl _) (by omega)
/-- every schema of a text -/
theorem kRo_16 {T : Nat → Nat → Nat} {N : Nat → Int} {m n : Nat} {q : kP} {x : Nat} (h : kGd T N m n q x) : ∀ t, t < q.1 1 → kRo q 16 t := by
  intro t ht
  have h6 : ∀ s, s < 6 → q.2.1 0 s = s := fun s hs => (h.1.2.1 s hs).1
  by_cases h5 : t < 6
  · exact kRo_n (by have := h6 t h5; omega) _
  · rcases h.2.2.2.2.2.1 with ⟨_, hc, _⟩ | ⟨_, hc⟩
    · omega
    · exact (kTt_rw h6 16 _ _ hc).2 t (by omega) ht
