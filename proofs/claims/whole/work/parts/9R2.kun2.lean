/-! PURE: schemas with the same plain form are the same -/
def kPlW (T : Nat → Nat → Nat) (q : kP) (rec : Nat → Nat → List Nat × Nat) (x : Nat) : List Nat := if q.2.1 0 x = 9 then kPw 28 ++ kDg (q.2.1 8 x - 1) else if q.2.1 0 x = 10 then kPw 29 ++ (kPlY T q x (q.2.1 4 x) 0 ++ [93]) else kPw 30 ++ ((kPlF T q rec x (q.2.1 4 x) 0 (x + 1)).1 ++ [93])
section
variable {T : Nat → Nat → Nat} {q : kP} {rec : Nat → Nat → List Nat × Nat} {x : Nat}
theorem kPlB_67 (h : q.2.1 0 x = 6 ∨ q.2.1 0 x = 7) : (kPlB T q rec x).1 = kPw 24 ++ (kQt (kWs (q.2.1 0 x)) ++ ([44] ++ (kPw (if q.2.1 0 x = 6 then 23 else 25) ++ ((rec (q.2.2 1 x 0 - 1) (x + 1)).1 ++ [125])))) := by
  unfold kPlB
  rw [if_pos h]
theorem kPlB_8 (h : q.2.1 0 x = 8) : (kPlB T q rec x).1 = [91] ++ ((kPlU q rec x (q.2.1 4 x) 0 (x + 1)).1 ++ [93]) := by
  unfold kPlB
  rw [if_neg (by omega), if_pos h]
theorem kPlB_n (h : 9 ≤ q.2.1 0 x) : (kPlB T q rec x).1 = kPln T q x (kPlW T q rec x) := by
  unfold kPlB kPlW
  rw [if_neg (by omega), if_neg (by omega)]
  split
  · rfl
  · split <;> rfl
theorem kPlB_s {Z : List Nat} (h6 : 6 ≤ q.2.1 0 x) : (q.2.1 0 x = 6 ∨ q.2.1 0 x = 7) ∧ ((kPlB T q rec x).1 ++ Z).getD 0 0 = 123 ∧ ((kPlB T q rec x).1 ++ Z).getD 2 0 = 116 ∨ q.2.1 0 x = 8 ∧ ((kPlB T q rec x).1 ++ Z).getD 0 0 = 91 ∨ 9 ≤ q.2.1 0 x ∧ ((kPlB T q rec x).1 ++ Z).getD 0 0 = 123 ∧ ((kPlB T q rec x).1 ++ Z).getD 2 0 = 110 := by
  have c : (q.2.1 0 x = 6 ∨ q.2.1 0 x = 7) ∨ q.2.1 0 x = 8 ∨ 9 ≤ q.2.1 0 x := by omega
  rcases c with c | c | c
  · refine .inl ⟨c, ?_, ?_⟩ <;> rw [kPlB_67 c] <;> rfl
  · refine .inr (.inl ⟨c, ?_⟩)
    rw [kPlB_8 c]
    rfl
  · refine .inr (.inr ⟨c, ?_, ?_⟩) <;> rw [kPlB_n c] <;> rfl
end
section
variable {T1 T2 : Nat → Nat → Nat} {q1 q2 : kP} {m1 m2 : Nat}
theorem kHq_S {c : Nat} (h : kHq T1 q1 T2 q2 c) (h1 : 9 ≤ q1.2.1 0 c ↔ 9 ≤ q2.2.1 0 c) (h2 : 9 ≤ q1.2.1 0 c → kLe T1 (q1.2.1 1 c - 1) = kLe T2 (q2.2.1 1 c - 1)) : kHq T1 q1 T2 q2 (c + 1) := fun x h6 hx => by
  by_cases e : x = c
  · rw [e]; exact ⟨h1, h2⟩
  · exact h x h6 (by omega)
theorem kPln_inj {x : Nat} {W1 W2 Z1 Z2 : List Nat} (n1 : kNam T1 (q1.2.1 1 x - 1) = true) (n2 : kNam T2 (q2.2.1 1 x - 1) = true) (k1 : 9 ≤ q1.2.1 0 x ∧ q1.2.1 0 x ≤ 11) (k2 : 9 ≤ q2.2.1 0 x ∧ q2.2.1 0 x ≤ 11) (h : kPln T1 q1 x W1 ++ Z1 = kPln T2 q2 x W2 ++ Z2) : kLe T1 (q1.2.1 1 x - 1) = kLe T2 (q2.2.1 1 x - 1) ∧ q1.2.1 0 x = q2.2.1 0 x ∧ W1 ++ 125 :: Z1 = W2 ++ 125 :: Z2 := by
  unfold kPln at h
  simp only [List.append_assoc] at h
  obtain ⟨e1, h⟩ := kQt_inj (kLe_nq n1) (kLe_nq n2) (List.append_cancel_left h)
  obtain ⟨e2, h⟩ := kQt_inj (kWs_nq _ (by omega)) (kWs_nq _ (by omega)) (List.append_cancel_left h)
  exact ⟨e1, kWs_ij _ (by omega) _ (by omega) (by omega) (by omega) e2, h⟩
/-- both stand here first -/
theorem kPlB_inj (hI1 : kIv T1 m1 q1) (hU1 : kUq T1 q1) (hI2 : kIv T2 m2 q2) (hU2 : kUq T2 q2) {D c c1 c2 : Nat} {Z1 Z2 : List Nat} (hr : kRq T1 q1 T2 q2 D) (t1 : kTt q1 (D + 1) c c1) (t2 : kTt q2 (D + 1) c c2) (h6 : 6 ≤ c) (l1 : c1 ≤ q1.1 1) (l2 : c2 ≤ q2.1 1) (hH : kHq T1 q1 T2 q2 c) (h : (kPlB T1 q1 (kPl T1 q1 D) c).1 ++ Z1 = (kPlB T2 q2 (kPl T2 q2 D) c).1 ++ Z2) : c1 = c2 ∧ Z1 = Z2 ∧ kHq T1 q1 T2 q2 c1 ∧ ∀ x, c ≤ x → x < c1 → kEx q1 q2 x := by
  have lt1 := kTt_lt _ _ _ t1
  have lt2 := kTt_lt _ _ _ t2
  have i1 := hI1.2.2.1 c h6 (by omega)
  have i2 := hI2.2.2.1 c h6 (by omega)
  have g1 := i1.1
  have g2 := i2.1
  have s1 := kPlB_s (T := T1) (q := q1) (rec := kPl T1 q1 D) (x := c) (Z := Z1) g1.1
  have s2 := kPlB_s (T := T2) (q := q2) (rec := kPl T2 q2 D) (x := c) (Z := Z2) g2.1
  rw [← h] at s2
  have nd1 := t1.1
  have nd2 := t2.1
  have b1 := kTt_b t1
  have b2 := kTt_b t2
  have cls : (q1.2.1 0 c = 6 ∨ q1.2.1 0 c = 7) ∧ (q2.2.1 0 c = 6 ∨ q2.2.1 0 c = 7) ∨ (q1.2.1 0 c = 8 ∧ q2.2.1 0 c = 8) ∨ (9 ≤ q1.2.1 0 c ∧ 9 ≤ q2.2.1 0 c) := by
    rcases s1 with ⟨a, a1, a2⟩ | ⟨a, a1⟩ | ⟨a, a1, a2⟩ <;> rcases s2 with ⟨b, b1, b2⟩ | ⟨b, b1⟩ | ⟨b, b1, b2⟩
    · exact .inl ⟨a, b⟩
    · rw [a1] at b1; omega
    · rw [a2] at b2; omega
    · rw [a1] at b1; omega
    · exact .inr (.inl ⟨a, b⟩)
    · rw [a1] at b1; omega
    · rw [a2] at b2; omega
    · rw [a1] at b1; omega
    · exact .inr (.inr ⟨a, b⟩)
  clear s1 s2
  rcases cls with ⟨k1, k2⟩ | ⟨k1, k2⟩ | ⟨k1, k2⟩
  · -- a list or a map
    rw [kPlB_67 k1, kPlB_67 k2] at h
    simp only [List.append_assoc] at h
    obtain ⟨e1, h⟩ := kQt_inj (kWs_nq _ (by omega)) (kWs_nq _ (by omega)) (List.append_cancel_left h)
    have ek := kWs_ij _ (by omega) _ (by omega) (by omega) (by omega) e1
    have h := List.append_cancel_left h
    rw [← ek] at h
    have h := List.append_cancel_left h
    have n1 := nd1.2.2.1 k1
    have n2 := nd2.2.2.1 k2
    rcases b1 with b1 | ⟨_, f1, p1, p2, p3, p4⟩
    · omega
    rcases b2 with b2 | ⟨_, f2, r1, r2, r3, r4⟩
    · omega
    rw [n1] at p2 p3
    rw [n2] at r2 r3
    obtain ⟨u1, u2⟩ := p3 0 (by omega)
    obtain ⟨v1, v2⟩ := r3 0 (by omega)
    rw [p1, show (0 : Nat) + 1 = 1 from rfl, p2] at u2
    rw [r1, show (0 : Nat) + 1 = 1 from rfl, r2] at v2
    obtain ⟨e2, e3, e4, e5, e6⟩ := hr _ _ _ _ _ _ _ u2 v2 (by omega) l1 l2 (kHq_S hH (by omega) (fun e => by omega)) h
    refine ⟨e3, (List.cons.inj e4).2, e5, fun x x1 x2 => ?_⟩
    by_cases e : x = c
    · rw [e]
      refine ⟨ek, fun _ => by omega, fun e => by omega, fun _ _ i hi => ?_⟩
      rw [show i = 0 by omega]
      omega
    · exact e6 x (by omega) x2
  · -- a union
    rw [kPlB_8 k1, kPlB_8 k2] at h
    simp only [List.append_assoc] at h
    have h := List.append_cancel_left h
    have n1 := (nd1.2.2.2.1 k1).1
    have n2 := (nd2.2.2.2.1 k2).1
    rcases b1 with b1 | ⟨_, f1, p1, p2, p3, p4⟩
    · omega
    rcases b2 with b2 | ⟨_, f2, r1, r2, r3, r4⟩
    · omega
    obtain ⟨a1, ea1⟩ : ∃ a1, q1.2.1 4 c = a1 + 1 := ⟨q1.2.1 4 c - 1, by omega⟩
    obtain ⟨a2, ea2⟩ : ∃ a2, q2.2.1 4 c = a2 + 1 := ⟨q2.2.1 4 c - 1, by omega⟩
    rw [ea1] at p2 p3 p4 h
    rw [ea2] at r2 r3 r4 h
    have hu := kU_inj (x := c) hr a1 a2 0 f1 f2 Z1 Z2 (fun j _ j2 => ⟨(p3 j (by omega)).1, (p3 j (by omega)).2, by have := (p4 j (by omega)).1; omega, by have := (p4 j (by omega)).2; omega⟩) (fun j _ j2 => ⟨(r3 j (by omega)).1, (r3 j (by omega)).2, by have := (r4 j (by omega)).1; omega, by have := (r4 j (by omega)).2; omega⟩) (by rw [p1, r1]) (by rw [p1]; exact kHq_S hH (by omega) (fun e => by omega)) (by rw [p1, r1]; exact h)
    rw [Nat.zero_add, Nat.zero_add, p2, r2, p1] at hu
    obtain ⟨e1, e2, e3, e4, e5, e6⟩ := hu
    refine ⟨e2, e3, e4, fun x x1 x2 => ?_⟩
    by_cases e : x = c
    · rw [e]
      exact ⟨by omega, fun _ => by omega, fun e => by omega, fun _ _ i hi => e6 i (by omega) (by omega)⟩
    · exact e5 x (by omega) x2
  · -- a name
    obtain ⟨n1, n2, n3⟩ := kNm_of hI1 hU1 h6 (by omega) k1
    obtain ⟨w1, w2, w3⟩ := kNm_of hI2 hU2 h6 (by omega) k2
    rw [kPlB_n k1, kPlB_n k2] at h
    obtain ⟨e1, ek, h⟩ := kPln_inj n2 w2 ⟨k1, g1.2⟩ ⟨k2, g2.2⟩ h
    have hS := kHq_S hH (by omega) (fun _ => e1)
    unfold kPlW at h
    rw [← ek] at h
    by_cases k9 : q1.2.1 0 c = 9
    · rw [if_pos k9, if_pos k9] at h
      simp only [List.append_assoc] at h
      have z1 := nd1.1 k9
      have z2 := nd2.1 (by omega)
      have y1 := i1.2.2.2.2.2.2.1
      have y2 := i2.2.2.2.2.2.2.1
      obtain ⟨e2, e3⟩ := kDg_inj (by omega) (by omega) (List.append_cancel_left h)
      rcases b1 with b1 | b1
      · rcases b2 with b2 | b2
        · refine ⟨by omega, e3, by rw [b1.2]; exact hS, fun x x1 x2 => ?_⟩
          rw [show x = c by omega]
          exact ⟨ek, fun e => absurd k9 e, fun _ => by omega, fun e => absurd k9 e⟩
        · omega
      · omega
    · rw [if_neg k9, if_neg k9] at h
      by_cases k10 : q1.2.1 0 c = 10
      · rw [if_pos k10, if_pos k10] at h
        simp only [List.append_assoc] at h
        have z1 := (nd1.2.1 k10).1
        have z2 := (nd2.2.1 (by omega)).1
        have nm1 : ∀ j, j < q1.2.1 4 c → kNam T1 (q1.2.2 2 c j - 1) = true := fun j hj => by
          rcases (hI1.2.2.2.1 c j h6 (by omega) hj).2.2.2.2.2 with e | e
          · omega
          · exact e.2.2.2.1
        have nm2 : ∀ j, j < q2.2.1 4 c → kNam T2 (q2.2.2 2 c j - 1) = true := fun j hj => by
          rcases (hI2.2.2.2.1 c j h6 (by omega) hj).2.2.2.2.2 with e | e
          · omega
          · exact e.2.2.2.1
        obtain ⟨a1, ea1⟩ : ∃ a1, q1.2.1 4 c = a1 + 1 := ⟨q1.2.1 4 c - 1, by omega⟩
        obtain ⟨a2, ea2⟩ : ∃ a2, q2.2.1 4 c = a2 + 1 := ⟨q2.2.1 4 c - 1, by omega⟩
        rw [ea1, ea2] at h
        obtain ⟨e2, e3⟩ := kY_inj (x := c) a1 a2 0 _ _ (fun j _ j2 => nm1 j (by omega)) (fun j _ j2 => nm2 j (by omega)) (List.append_cancel_left h)
        rcases b1 with b1 | b1
        · rcases b2 with b2 | b2
          · refine ⟨by omega, (List.cons.inj e3).2, by rw [b1.2]; exact hS, fun x x1 x2 => ?_⟩
            rw [show x = c by omega]
            exact ⟨ek, fun _ => by omega, fun e => absurd e k9, fun _ e => absurd k10 e⟩
          · omega
        · omega
      · rw [if_neg k10, if_neg k10] at h
        simp only [List.append_assoc] at h
        have nm1 : ∀ j, j < q1.2.1 4 c → kNam T1 (q1.2.2 2 c j - 1) = true := fun j hj => by
          rcases (hI1.2.2.2.1 c j h6 (by omega) hj).2.2.2.2.2 with e | e
          · omega
          · exact e.2.2.2.1
        have nm2 : ∀ j, j < q2.2.1 4 c → kNam T2 (q2.2.2 2 c j - 1) = true := fun j hj => by
          rcases (hI2.2.2.2.1 c j h6 (by omega) hj).2.2.2.2.2 with e | e
          · omega
          · exact e.2.2.2.1
        rcases b1 with b1 | ⟨_, f1, p1, p2, p3, p4⟩
        · omega
        rcases b2 with b2 | ⟨_, f2, r1, r2, r3, r4⟩
        · omega
        have hu := kF_inj (x := c) hr (q1.2.1 4 c) (q2.2.1 4 c) 0 f1 f2 _ _ (fun j _ j2 => ⟨nm1 j (by omega), (p3 j (by omega)).1, (p3 j (by omega)).2, by have := (p4 j (by omega)).1; omega, by have := (p4 j (by omega)).2; omega⟩) (fun j _ j2 => ⟨nm2 j (by omega), (r3 j (by omega)).1, (r3 j (by omega)).2, by have := (r4 j (by omega)).1; omega, by have := (r4 j (by omega)).2; omega⟩) (by rw [p1, r1]) (by rw [p1]; exact hS) (by rw [p1, r1]; exact List.append_cancel_left h)
        rw [Nat.zero_add, Nat.zero_add, p2, r2, p1] at hu
        obtain ⟨e2, e3, e4, e5, e6, e7⟩ := hu
        refine ⟨e3, (List.cons.inj e4).2, e5, fun x x1 x2 => ?_⟩
        by_cases e : x = c
        · rw [e]
          exact ⟨ek, fun _ => e2, fun e => absurd e k9, fun _ _ i hi => e7 i (by omega) (by omega)⟩
        · exact e6 x (by omega) x2
theorem kPl_inj (hI1 : kIv T1 m1 q1) (hU1 : kUq T1 q1) (hI2 : kIv T2 m2 q2) (hU2 : kUq T2 q2) : ∀ D, kRq T1 q1 T2 q2 D := by
  have oo : ∀ D x1 x2 c c1 c2 Z1 Z2, (x1 < c ∧ c1 = c ∧ (x1 < 6 ∨ 9 ≤ q1.2.1 0 x1)) → (x2 < c ∧ c2 = c ∧ (x2 < 6 ∨ 9 ≤ q2.2.1 0 x2)) → c1 ≤ q1.1 1 → c2 ≤ q2.1 1 → kHq T1 q1 T2 q2 c → (kPl T1 q1 D x1 c).1 ++ Z1 = (kPl T2 q2 D x2 c).1 ++ Z2 → x1 = x2 ∧ c1 = c2 ∧ Z1 = Z2 ∧ kHq T1 q1 T2 q2 c1 ∧ ∀ x, c ≤ x → x < c1 → kEx q1 q2 x := by
    intro D x1 x2 c c1 c2 Z1 Z2 a b l1 l2 hH h
    rw [kOld_pl a.1, kOld_pl b.1] at h
    obtain ⟨e1, e2⟩ := kQt_inj (kOld_nq hI1 hU1 (by omega) a.2.2) (kOld_nq hI2 hU2 (by omega) b.2.2) h
    refine ⟨kOld_inj hI1 hU1 hI2 hU2 hH a.1 b.1 (by omega) (by omega) (by omega) a.2.2 b.2.2 e1, by omega, e2, by rw [a.2.1]; exact hH, fun x x1 x2 => by omega⟩
  intro D
  induction D with
  | zero =>
    intro x1 x2 c c1 c2 Z1 Z2 o1 o2 h6 l1 l2 hH h
    rcases o1 with o1 | o1
    · rcases o2 with o2 | o2
      · exact oo 0 _ _ _ _ _ _ _ o1 o2 l1 l2 hH h
      · exact o2.2.elim
    · exact o1.2.elim
  | succ D ih =>
    intro x1 x2 c c1 c2 Z1 Z2 o1 o2 h6 l1 l2 hH h
    rcases o1 with o1 | ⟨rfl, o1⟩
    · rcases o2 with o2 | ⟨rfl, o2⟩
      · exact oo (D + 1) _ _ _ _ _ _ _ o1 o2 l1 l2 hH h
      · exfalso
        have lt2 := kTt_lt _ _ _ o2
        have g2 := (hI2.2.2.1 x2 h6 (by omega)).1
        have s2 := kPlB_s (T := T2) (q := q2) (rec := kPl T2 q2 D) (x := x2) (Z := Z2) g2.1
        rw [kOld_pl o1.1, kPl_new h6 (by omega)] at h
        rw [← h] at s2
        have e0 : (kQt (kOld T1 q1 x1) ++ Z1).getD 0 0 = 34 := rfl
        rw [e0] at s2
        omega
    · have lt1 := kTt_lt _ _ _ o1
      rcases o2 with o2 | ⟨rfl, o2⟩
      · exfalso
        have g1 := (hI1.2.2.1 x1 h6 (by omega)).1
        have s1 := kPlB_s (T := T1) (q := q1) (rec := kPl T1 q1 D) (x := x1) (Z := Z1) g1.1
        rw [kOld_pl o2.1, kPl_new h6 (by omega)] at h
        rw [h] at s1
        have e0 : (kQt (kOld T2 q2 x2) ++ Z2).getD 0 0 = 34 := rfl
        rw [e0] at s1
        omega
      · rw [kPl_new h6 (by omega), kPl_new h6 (by omega)] at h
        obtain ⟨e1, e2, e3, e4⟩ := kPlB_inj hI1 hU1 hI2 hU2 ih o1 o2 h6 l1 l2 hH h
        exact ⟨rfl, e1, e2, e3, e4⟩
/-- stored data of the one are of the other -/
theorem kWq_tr (hI1 : kIv T1 m1 q1) (hI2 : kIv T2 m2 q2) (hcd : kCd q1) (hE : ∀ x, 6 ≤ x → x < q1.1 1 → kEx q1 q2 x) {B : Nat → Nat} {n : Nat} : ∀ D x a e, x < q1.1 1 → kWq q1 B n D x a e → kWq q2 B n D x a e
  | 0, _, _, _, _, h => h.elim
  | D + 1, x, a, e, hx, h => by
    have hki := kKi hI1 hx
    have ek : q1.2.1 0 x = q2.2.1 0 x := by
      by_cases h6 : x < 6
      · rw [(hI1.2.1 x h6).1, (hI2.2.1 x h6).1]
      · exact (hE x (by omega) hx).1
    have h6 : 6 ≤ q1.2.1 0 x → 6 ≤ x := hki.2.mp
    have ih := fun i a e => kWq_tr hI1 hI2 hcd hE (B := B) (n := n) D (kPx q1 x i) a e
    have kp : 6 ≤ q1.2.1 0 x → q1.2.1 0 x ≠ 9 → q1.2.1 0 x ≠ 10 → ∀ i, i < q1.2.1 4 x → kPx q1 x i = kPx q2 x i ∧ kPx q1 x i < q1.1 1 := fun g g9 g10 i hi => by
      refine ⟨?_, (kPx_lt hI1 hcd (h6 g) hx g9 g10 hi).2⟩
      show q1.2.2 1 x i - 1 = q2.2.2 1 x i - 1
      rw [(hE x (h6 g) hx).2.2.2 g9 g10 i hi]
    have kc : 6 ≤ q1.2.1 0 x → q1.2.1 0 x ≠ 9 → q1.2.1 4 x = q2.2.1 4 x := fun g g9 => (hE x (h6 g) hx).2.1 g9
    obtain ⟨h1, h2, h3, h4, h5, h8, h9, h10, h11, h67⟩ := h
    refine ⟨h1, fun c => h2 (by omega), fun c => h3 (by omega), fun c => h4 (by omega), fun c => h5 (by omega), fun c => ?_, fun c => ?_, fun c => ?_, fun c => ?_, fun c => ?_⟩
    · obtain ⟨i, a1, i1, i2, i3⟩ := h8 (by omega)
      obtain ⟨p1, p2⟩ := kp (by omega) (by omega) (by omega) i i1
      refine ⟨i, a1, by rw [← kc (by omega) (by omega)]; exact i1, i2, ?_⟩
      rw [← p1]
      exact ih i _ _ p2 i3
    · rw [← (hE x (h6 (by omega)) hx).2.2.1 (by omega)]
      exact h9 (by omega)
    · obtain ⟨i, i1, i2⟩ := h10 (by omega)
      exact ⟨i, by rw [← kc (by omega) (by omega)]; exact i1, i2⟩
    · obtain ⟨f, f0, f1, f2⟩ := h11 (by omega)
      have e4 := kc (by omega) (by omega)
      refine ⟨f, f0, by rw [← e4]; exact f1, fun i hi => ?_⟩
      rw [← e4] at hi
      obtain ⟨p1, p2⟩ := kp (by omega) (by omega) (by omega) i hi
      rw [← p1]
      exact ih i _ _ p2 (f2 i hi)
    · have n1 : q1.2.1 4 x = 1 := ((hcd x (h6 (by omega)) hx).1).2.2.1 (by omega)
      obtain ⟨p1, p2⟩ := kp (by omega) (by omega) (by omega) 0 (by omega)
      obtain ⟨k, a1, k1, k2, k3, k4⟩ := h67 (by omega)
      refine ⟨k, a1, k1, k2, k3, fun k0 => ?_⟩
      obtain ⟨f, g, f0, f1, f2⟩ := k4 k0
      refine ⟨f, g, f0, f1, fun i hi => ?_⟩
      obtain ⟨u1, u2⟩ := f2 i hi
      rw [ek] at u1
      rw [← p1]
      exact ⟨u1, ih 0 _ _ p2 u2⟩
end
/-! versions with the same plain form -/
section
variable {C1 C2 : List Nat}
theorem yVk_uq (h : yVk C1) : kUq (yT C1) (yQ C1) ∧ kOc (yQ C1) (kTt (yQ C1) 16) (yX C1) 6 ((yQ C1).1 1) := by
  obtain ⟨g1, g2, g3, g4, g5⟩ := yVk_g h
  have hs := kVe_sq (T := yT C1) (N := yN C1) (q0 := (yRd C1).2.1)
  refine ⟨kUq_op (q := (yRd C1).2.1) (hs.2.2.1 1 (by omega)) (fun t => by rw [show (yQ C1).2.1 1 t = (kVe (yT C1) (yN C1) (yRd C1).2.1).2.1 1 t from rfl, hs.2.1 1 (by omega)]) (kSo_u 16 _ _ _ _ _ kUq_0 g4), ?_⟩
  have ho := g2.2.2.2.2.2.1
  have e1 : (yQ C1).1 1 = (yRd C1).2.1.1 1 := hs.2.2.1 1 (by omega)
  rw [e1]
  exact kOc_sq hs ho
/-- rows of the one are rows of the other -/
theorem yRw_pf (h1 : yVk C1) (h2 : yVk C2) (he : yPf C1 = yPf C2) {C : List Nat} {k : Nat} (h : yRw C (yQ C1) (yX C1) k) : yRw C (yQ C2) (yX C2) k := by
  obtain ⟨u1, o1⟩ := yVk_uq h1
  obtain ⟨u2, o2⟩ := yVk_uq h2
  obtain ⟨i1, c1, x1⟩ := yVk_iv h1
  obtain ⟨i2, c2, x2⟩ := yVk_iv h2
  have hp := kPl_inj i1 u1 i2 u2 16 _ _ 6 _ _ [] [] o1 o2 (Nat.le_refl _) (Nat.le_refl _) (Nat.le_refl _) (fun x a b => by omega) (by rw [List.append_nil, List.append_nil]; exact he)
  obtain ⟨e1, e2, e3, e4, e5⟩ := hp
  obtain ⟨hk, g, g0, g1, g2⟩ := h
  refine ⟨hk, g, g0, g1, fun i hi B n off hb hn => ?_⟩
  rw [← e1]
  exact kWq_tr i1 i2 c1 e5 32 _ _ _ x1 (g2 i hi B n off hb hn)
end
