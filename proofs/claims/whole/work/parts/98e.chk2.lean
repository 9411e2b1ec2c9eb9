/-! a method's instructions are looked through -/
def jCk (q : aMI) (pc x : Nat) (off : Int) : Bool := match (mCd q)[x]? with
  | some e' => decide ((pc : Int) + off = (e'.1 : Int))
  | none => false
def enCk (o : Nat) (q : aMI) (en : aEn) : Bool := decide (decode (mB q) en.1 = .ok (en.2.1, en.2.2.1)) && (match en.2.1 with
  | .goto off => jCk q en.1 en.2.2.2.1 off
  | .if_icmp _ off => jCk q en.1 en.2.2.2.1 off
  | .ifCond _ off => jCk q en.1 en.2.2.2.1 off
  | .getfield i => (tfW o).any (fun t => t.1 == i && (t.2.1 == en.2.2.2.1 && t.2.2.1 == en.2.2.2.2))
  | .putfield i => (tpW o).any (fun t => t.1 == i && (t.2.1 == en.2.2.2.1 && t.2.2.1 == en.2.2.2.2))
  | .ldc i => (tcW o).any (fun t => t.1 == i && (t.2.1 == en.2.2.2.1 && (t.2.2.1 == en.2.2.2.2 && !(t.2.2.1 == 2))))
  | .ldc_w i => (tcW o).any (fun t => t.1 == i && (t.2.1 == en.2.2.2.1 && (t.2.2.1 == en.2.2.2.2 && !(t.2.2.1 == 2))))
  | .ldc2_w i => (tcW o).any (fun t => t.1 == i && (t.2.1 == en.2.2.2.1 && (t.2.2.1 == en.2.2.2.2 && t.2.2.1 == 2)))
  | .invokevirtual i => (en.2.2.2.1 == 999) || (tvW o).any (fun t => t.1 == i && (t.2.1 == en.2.2.2.1 && t.2.2.1 == en.2.2.2.2))
  | .invokestatic i => (en.2.2.2.1 == 999) || (tsW o).any (fun t => t.1 == i && t.2.1 == en.2.2.2.1)
  | .new i => !(en.2.2.2.2 == 7) || (tnW o).any (fun t => t.1 == i && (t.2.1 == en.2.2.2.1 && dCk (mB q) en.1 i t.2.2.1 t.2.2.2.1))
  | _ => true)
def cdCk (o : Nat) (q : aMI) : List aEn → Bool
  | [] => true
  | en :: es => enCk o q en && ((match es with | e' :: _ => decide (e'.1 = en.1 + en.2.2.1) | [] => true) && cdCk o q es)
theorem cdCk_at {o : Nat} {q : aMI} : ∀ (es : List aEn), cdCk o q es = true → ∀ (k : Nat) (en : aEn), es[k]? = some en → enCk o q en = true ∧ ∀ e', es[k + 1]? = some e' → e'.1 = en.1 + en.2.2.1
  | [], _, _, _, h => by cases h
  | en :: es, h, 0, en', he => by
    unfold cdCk at h
    rw [Bool.and_eq_true, Bool.and_eq_true] at h
    cases he
    refine ⟨h.1, fun e' he' => ?_⟩
    cases es with
    | nil => cases he'
    | cons e2 es => cases he'; exact of_decide_eq_true h.2.1
  | en :: es, h, k + 1, en', he => by
    unfold cdCk at h
    rw [Bool.and_eq_true, Bool.and_eq_true] at h
    exact cdCk_at es h.2.2 k en' he
/-- the constant pools' tables are right -/
def tabF : Prop := (∀ o, ∀ t ∈ tfW o, fCk (oN o) t = true) ∧ (∀ o, ∀ t ∈ tpW o, pCk (oN o) t = true) ∧ (∀ o, ∀ t ∈ tcW o, cCk (oN o) t = true) ∧ (∀ o, ∀ t ∈ tvW o, vCk (oN o) t = true) ∧ (∀ o, ∀ t ∈ tsW o, sCk (oN o) t = true) ∧ ∀ o, ∀ t ∈ tnW o, nCk (oN o) t = true
theorem enCk_ok (T : tabF) {o : Nat} {q : aMI} (ho : (mY q).cls = oN o) {k : Nat} {en : aEn} (h : enCk o q en = true) (hn : ∀ e', (mCd q)[k + 1]? = some e' → e'.1 = en.1 + en.2.2.1) : enF aTB aSh0 aFk0 q k en := by
  obtain ⟨pc, ins, len, x, y⟩ := en
  unfold enCk at h
  rw [Bool.and_eq_true, decide_eq_true_eq] at h
  obtain ⟨hd, h⟩ := h
  dsimp only at hd h
  have hj : ∀ off : Int, jCk q pc x off = true → ∃ e', (mCd q)[x]? = some e' ∧ (pc : Int) + off = (e'.1 : Int) := fun off hj => by
    unfold jCk at hj
    split at hj
    · rename_i e' he'
      exact ⟨e', he', of_decide_eq_true hj⟩
    · cases hj
  have fin : eF aSh0 aFk0 (mY q).cls ins x y → (∀ off : Int, (ins = .goto off ∨ (∃ z, ins = .if_icmp z off) ∨ ∃ z, ins = .ifCond z off) → jCk q pc x off = true) → cF aTB (mY q).cls (mB q) (pc, ins, len, x, y) → enF aTB aSh0 aFk0 q k (pc, ins, len, x, y) := fun h1 h2 h3 => ⟨hd, h1, hn, fun off hz => hj off (h2 off hz), h3⟩
  rw [ho] at fin
  have none_j : (∀ off, ins ≠ .goto off) → (∀ z off, ins ≠ .if_icmp z off) → (∀ z off, ins ≠ .ifCond z off) → ∀ off : Int, (ins = .goto off ∨ (∃ z, ins = .if_icmp z off) ∨ ∃ z, ins = .ifCond z off) → jCk q pc x off = true := fun g1 g2 g3 off hz => by
    rcases hz with hz | ⟨z, hz⟩ | ⟨z, hz⟩
    · exact absurd hz (g1 off)
    · exact absurd hz (g2 z off)
    · exact absurd hz (g3 z off)
  obtain ⟨T1, T2, T3, T4, T5, T6⟩ := T
  cases ins with
  | goto off => exact fin trivial (fun off' hz => by rcases hz with hz | ⟨z, hz⟩ | ⟨z, hz⟩ <;> cases hz; exact h) trivial
  | if_icmp c off => exact fin trivial (fun off' hz => by rcases hz with hz | ⟨z, hz⟩ | ⟨z, hz⟩ <;> cases hz; exact h) trivial
  | ifCond c off => exact fin trivial (fun off' hz => by rcases hz with hz | ⟨z, hz⟩ | ⟨z, hz⟩ <;> cases hz; exact h) trivial
  | getfield i =>
    obtain ⟨t, ht, hz⟩ := List.any_eq_true.mp h
    simp only [Bool.and_eq_true, beq_iff_eq] at hz
    obtain ⟨rfl, rfl, rfl⟩ := hz
    exact fin (fCk_ok (T1 o t ht)) (none_j (fun _ h => by cases h) (fun _ _ h => by cases h) (fun _ _ h => by cases h)) trivial
  | putfield i =>
    obtain ⟨t, ht, hz⟩ := List.any_eq_true.mp h
    simp only [Bool.and_eq_true, beq_iff_eq] at hz
    obtain ⟨rfl, rfl, rfl⟩ := hz
    exact fin (pCk_ok (T2 o t ht)) (none_j (fun _ h => by cases h) (fun _ _ h => by cases h) (fun _ _ h => by cases h)) trivial
  | ldc i =>
    obtain ⟨t, ht, hz⟩ := List.any_eq_true.mp h
    simp only [Bool.and_eq_true, beq_iff_eq, Bool.not_eq_true', beq_eq_false_iff_ne] at hz
    obtain ⟨rfl, rfl, rfl, h2⟩ := hz
    exact fin (cCk_ok1 (T3 o t ht) h2) (none_j (fun _ h => by cases h) (fun _ _ h => by cases h) (fun _ _ h => by cases h)) trivial
  | ldc_w i =>
    obtain ⟨t, ht, hz⟩ := List.any_eq_true.mp h
    simp only [Bool.and_eq_true, beq_iff_eq, Bool.not_eq_true', beq_eq_false_iff_ne] at hz
    obtain ⟨rfl, rfl, rfl, h2⟩ := hz
    exact fin (cCk_ok1 (T3 o t ht) h2) (none_j (fun _ h => by cases h) (fun _ _ h => by cases h) (fun _ _ h => by cases h)) trivial
  | ldc2_w i =>
    obtain ⟨t, ht, hz⟩ := List.any_eq_true.mp h
    simp only [Bool.and_eq_true, beq_iff_eq] at hz
    obtain ⟨rfl, rfl, rfl, h2⟩ := hz
    exact fin ⟨h2, cCk_ok2 (T3 o t ht) h2⟩ (none_j (fun _ h => by cases h) (fun _ _ h => by cases h) (fun _ _ h => by cases h)) trivial
  | invokevirtual i =>
    rw [Bool.or_eq_true] at h
    rcases h with h | h
    · exact fin trivial (none_j (fun _ h => by cases h) (fun _ _ h => by cases h) (fun _ _ h => by cases h)) (Or.inl (by simpa using h))
    obtain ⟨t, ht, hz⟩ := List.any_eq_true.mp h
    simp only [Bool.and_eq_true, beq_iff_eq] at hz
    obtain ⟨rfl, rfl, rfl⟩ := hz
    exact fin trivial (none_j (fun _ h => by cases h) (fun _ _ h => by cases h) (fun _ _ h => by cases h)) (vCk_ok (T4 o t ht))
  | invokestatic i =>
    rw [Bool.or_eq_true] at h
    rcases h with h | h
    · exact fin trivial (none_j (fun _ h => by cases h) (fun _ _ h => by cases h) (fun _ _ h => by cases h)) (Or.inl (by simpa using h))
    obtain ⟨t, ht, hz⟩ := List.any_eq_true.mp h
    simp only [Bool.and_eq_true, beq_iff_eq] at hz
    obtain ⟨rfl, rfl⟩ := hz
    exact fin trivial (none_j (fun _ h => by cases h) (fun _ _ h => by cases h) (fun _ _ h => by cases h)) (sCk_ok (T5 o t ht))
  | new i =>
    refine fin trivial (none_j (fun _ h => by cases h) (fun _ _ h => by cases h) (fun _ _ h => by cases h)) ?_
    intro h7
    have h7' : y = 7 := h7
    subst h7'
    rw [Bool.or_eq_true] at h
    rcases h with h | h
    · cases h
    · obtain ⟨t, ht, hz⟩ := List.any_eq_true.mp h
      simp only [Bool.and_eq_true, beq_iff_eq] at hz
      obtain ⟨rfl, rfl, hdk⟩ := hz
      exact nCk_ok (len := len) (y := 7) (T6 o t ht) hdk rfl
  | _ => exact fin trivial (none_j (fun _ h => by cases h) (fun _ _ h => by cases h) (fun _ _ h => by cases h)) trivial
