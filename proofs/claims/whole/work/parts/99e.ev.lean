/-! the machine as functions: ev, and what a text of a method's piece says of it (only from the text to the machine) -/
abbrev aM5 : Type := Nat × Nat × Nat × Nat × Nat
/-- a state: ints, longs, the five references that change, the exceptions made so far -/
abbrev aT : Type := (Nat → Nat → Int32) × (Nat → Nat → Int64) × aM5 × Nat
def Rof (M : aM5) (k f : Nat) : Nat := if k = 13 ∧ f = 11 then M.1 else if k = 46 ∧ f = 6 then M.2.1 else if k = 52 ∧ f = 5 then M.2.2.1 else if k = 52 ∧ f = 6 then M.2.2.2.1 else if k = 41 ∧ f = 3 then M.2.2.2.2 else aR0 k f
def toH (s : aT) : aH := (s.1, s.2.1, Rof s.2.2.1)
def gI (s : aT) (k i : Nat) : Int32 := s.1 k i
def gL (s : aT) (k i : Nat) : Int64 := s.2.1 k i
def gM0 (s : aT) : Nat := s.2.2.1.1
def gM1 (s : aT) : Nat := s.2.2.1.2.1
def gM2 (s : aT) : Nat := s.2.2.1.2.2.1
def gM3 (s : aT) : Nat := s.2.2.1.2.2.2.1
def gM4 (s : aT) : Nat := s.2.2.1.2.2.2.2
def gU (s : aT) : Nat := s.2.2.2
def pI (s : aT) (k i : Nat) (v : Int32) : aT := (a2 s.1 k i v, s.2.1, s.2.2.1, s.2.2.2)
def pL (s : aT) (k i : Nat) (v : Int64) : aT := (s.1, a2 s.2.1 k i v, s.2.2.1, s.2.2.2)
def pM0 (s : aT) (v : Nat) : aT := (s.1, s.2.1, (v, s.2.2.1.2), s.2.2.2)
def pM1 (s : aT) (v : Nat) : aT := (s.1, s.2.1, (s.2.2.1.1, v, s.2.2.1.2.2), s.2.2.2)
def pM2 (s : aT) (v : Nat) : aT := (s.1, s.2.1, (s.2.2.1.1, s.2.2.1.2.1, v, s.2.2.1.2.2.2), s.2.2.2)
def pM3 (s : aT) (v : Nat) : aT := (s.1, s.2.1, (s.2.2.1.1, s.2.2.1.2.1, s.2.2.1.2.2.1, v, s.2.2.1.2.2.2.2), s.2.2.2)
def pM4 (s : aT) (v : Nat) : aT := (s.1, s.2.1, (s.2.2.1.1, s.2.2.1.2.1, s.2.2.1.2.2.1, s.2.2.1.2.2.2.1, v), s.2.2.2)
def pA (s : aT) (k : Nat) (g : Nat → Int32) : aT := (a1 s.1 k g, s.2.1, s.2.2.1, s.2.2.2)
def pU (s : aT) : aT := (s.1, s.2.1, s.2.2.1, s.2.2.2 + 1)
abbrev aRs : Type := Option (aOut × aT)
def aRT (d : Nat) (q : aMI) (k : Nat) (L : List (Nat × Value)) (st : List Value) (s : aT) (r : aOut × aT) : Prop := ∃ u, aR d q k L st (toH s) (r.1, toH r.2, u) ∧ r.2.2.2.2 = s.2.2.2 + u
theorem toH_inj {s s' : aT} (h : toH s = toH s') (hu : s.2.2.2 = s'.2.2.2) : s = s' := by
  obtain ⟨H, G, ⟨a, b, c, d, e⟩, u⟩ := s
  obtain ⟨H', G', ⟨a', b', c', d', e'⟩, u'⟩ := s'
  unfold toH at h
  simp only [Prod.mk.injEq] at h
  obtain ⟨rfl, rfl, h3⟩ := h
  have h4 : u = u' := hu
  subst h4
  have e0 : a = a' := congrFun (congrFun h3 13) 11
  have e1 : b = b' := congrFun (congrFun h3 46) 6
  have e2 : c = c' := congrFun (congrFun h3 52) 5
  have e3 : d = d' := congrFun (congrFun h3 52) 6
  have e4 : e = e' := congrFun (congrFun h3 41) 3
  subst e0 e1 e2 e3 e4
  rfl
theorem aR_det {d : Nat} {q : aMI} {k : Nat} {L : List (Nat × Value)} {st : List Value} {h : aH} {r r' : aOut × aH × Nat} (h1 : aR d q k L st h r) (h2 : aR d q k L st h r') : r = r' := by
  obtain ⟨n1, g1⟩ := h1
  obtain ⟨n2, g2⟩ := h2
  have e1 := aEx_le (Nat.le_max_left n1 n2) g1
  have e2 := aEx_le (Nat.le_max_right n1 n2) g2
  rw [e1] at e2
  exact Option.some.inj e2
theorem aRT_det {d : Nat} {q : aMI} {k : Nat} {L : List (Nat × Value)} {st : List Value} {s : aT} {r r' : aOut × aT} (h1 : aRT d q k L st s r) (h2 : aRT d q k L st s r') : r = r' := by
  obtain ⟨u1, g1, f1⟩ := h1
  obtain ⟨u2, g2, f2⟩ := h2
  have h := aR_det g1 g2
  simp only [Prod.mk.injEq] at h
  obtain ⟨h1, h2, h3⟩ := h
  obtain ⟨o, t⟩ := r
  obtain ⟨o', t'⟩ := r'
  have e1 : o = o' := h1
  subst e1
  rw [toH_inj (s := t) (s' := t') h2 (by rw [f1, f2, h3])]
noncomputable def ev (d : Nat) (q : aMI) (k : Nat) (L : List (Nat × Value)) (st : List Value) (s : aT) : aRs := @dite _ (∃ r, aRT d q k L st s r) (Classical.propDecidable _) (fun hx => some (Classical.choose hx)) (fun _ => none)
theorem ev_of {d : Nat} {q : aMI} {k : Nat} {L : List (Nat × Value)} {st : List Value} {s : aT} {r : aOut × aT} (h : aRT d q k L st s r) : ev d q k L st s = some r := by
  have hx : ∃ r, aRT d q k L st s r := ⟨r, h⟩
  unfold ev
  rw [dif_pos hx, aRT_det (Classical.choose_spec hx) h]
theorem ev_get {d : Nat} {q : aMI} {k : Nat} {L : List (Nat × Value)} {st : List Value} {s : aT} {r : aOut × aT} (h : ev d q k L st s = some r) : aRT d q k L st s r := by
  unfold ev at h
  split at h
  · rename_i hx
    have := Classical.choose_spec hx
    rw [Option.some.inj h] at this
    exact this
  · cases h
/-! the texts' words -/
def rI (v : Int32) (s : aT) : aRs := some (.inl (some (.int v)), s)
def rZ (v : Int32) (s : aT) : aRs := if v = 0 ∨ v = 1 then some (.inl (some (.int v)), s) else none
def rL (v : Int64) (s : aT) : aRs := some (.inl (some (.long v)), s)
def rA (v : Nat) (s : aT) : aRs := some (.inl (some (.ref v)), s)
def rV (s : aT) : aRs := some (.inl none, s)
def rX (E : Nat) (s : aT) : aRs := some (.inr E, pU s)
def alen (a : Nat) : Nat := match aSh0 a with | some (.inl (0, n)) => n | _ => 0
def ldI (n : Nat) (s : aT) (a : Nat) (i : Int32) (K : Int32 → aRs) : aRs := if ¬ i < 0 ∧ i.toNatClampNeg < n then K (gI s a i.toNatClampNeg) else none
def ldL (n : Nat) (s : aT) (a : Nat) (i : Int32) (K : Int64 → aRs) : aRs := if ¬ i < 0 ∧ i.toNatClampNeg < n then K (gL s a i.toNatClampNeg) else none
def stI (n : Nat) (s : aT) (a : Nat) (i : Int32) (v : Int32) (K : aT → aRs) : aRs := if ¬ i < 0 ∧ i.toNatClampNeg < n then K (pI s a i.toNatClampNeg v) else none
def stL (n : Nat) (s : aT) (a : Nat) (i : Int32) (v : Int64) (K : aT → aRs) : aRs := if ¬ i < 0 ∧ i.toNatClampNeg < n then K (pL s a i.toNatClampNeg v) else none
def wI (s : aT) (k f : Nat) (v : Int32) (K : aT → aRs) : aRs := K (pI s k f v)
def wZ (s : aT) (k f : Nat) (v : Int32) (K : aT → aRs) : aRs := if v = 0 ∨ v = 1 then K (pI s k f v) else none
def wL (s : aT) (k f : Nat) (v : Int64) (K : aT → aRs) : aRs := K (pL s k f v)
def wM (s : aT) (K : aT → aRs) : aRs := K s
/-- System.arraycopy between rows of bytes -/
def cpB (s : aT) (a0 : Nat) (sp : Int32) (a : Nat) (dp n : Int32) (K : aT → aRs) : aRs := if ¬ sp < 0 ∧ ¬ dp < 0 ∧ ¬ n < 0 ∧ sp.toNatClampNeg + n.toNatClampNeg ≤ alen a0 ∧ dp.toNatClampNeg + n.toNatClampNeg ≤ alen a ∧ ∀ i, i < n.toNatClampNeg → fits .byte (.int (gI s a0 (sp.toNatClampNeg + i))) = true then K (pA s a (va_cpy (gI s a0) (gI s a) sp.toNatClampNeg dp.toNatClampNeg n.toNatClampNeg)) else none
/-- a call: goes on, or throws on -/
def cG (F : aRs) (K : Option Value → aT → aRs) : aRs := match F with | some (.inl rv, s1) => K rv s1 | some (.inr E, s1) => some (.inr E, s1) | none => none
/-- a call that must not throw -/
def cN (F : aRs) (K : Option Value → aT → aRs) : aRs := match F with | some (.inl rv, s1) => K rv s1 | _ => none
/-- a call under a handler -/
def cC (F : aRs) (K : Option Value → aT → aRs) (J : aT → aRs) : aRs := match F with | some (.inl rv, s1) => K rv s1 | some (.inr 0, s1) => J s1 | _ => none
def kI (K : Int32 → aT → aRs) : Option Value → aT → aRs := fun rv s1 => match rv with | some (.int v) => K v s1 | _ => none
def kL (K : Int64 → aT → aRs) : Option Value → aT → aRs := fun rv s1 => match rv with | some (.long v) => K v s1 | _ => none
def kA (K : Nat → aT → aRs) : Option Value → aT → aRs := fun rv s1 => match rv with | some (.ref v) => K v s1 | _ => none
def kV (K : aT → aRs) : Option Value → aT → aRs := fun rv s1 => match rv with | none => K s1 | _ => none
/-- an object of a class -/
def gC (c ci : Nat) (F : aRs) : aRs := if aSh0 c = some (.inr ci) then F else none
def cP (x : Nat) (vs : List Value) (K : Int32 → aRs) : aRs := match aPrim x vs with | some (.int v) => K v | _ => none
def cQ (x : Nat) (vs : List Value) (K : Int64 → aRs) : aRs := match aPrim x vs with | some (.long v) => K v | _ => none
/-! the rules -/
section EV
variable {d : Nat} {q : aMI} {k : Nat} {L : List (Nat × Value)} {st : List Value} {s : aT} {r : aOut × aT} {pc x y len : Nat}
theorem ev_seg (n : Nat) {k' : Nat} {L' : List (Nat × Value)} {st' : List Value} (hs : aSeg q n (k, L, st, toH s) = some (k', L', st', toH s)) (kk : ev d q k' L' st' s = some r) : ev d q k L st s = some r := by
  obtain ⟨u, h1, h2⟩ := ev_get kk
  exact ev_of ⟨u, aR_seg n hs h1, h2⟩
theorem ev_st {st' : List Value} (e : st = st') (kk : ev d q k L st' s = some r) : ev d q k L st s = some r := e ▸ kk
theorem ev_step1 {ins : Instr} {L' : List (Nat × Value)} {st' : List Value} {s' : aT} (he : (mCd q)[k]? = some (pc, ins, len, x, y)) (hsp : aSpec ins = false) (hs : aS1 aSh0 aFk0 ins len x y (mL q) L st (toH s) = some (false, L', st', toH s')) (hu : s'.2.2.2 = s.2.2.2) (kk : ev d q (k + 1) L' st' s' = some r) : ev d q k L st s = some r := by
  obtain ⟨u, h1, h2⟩ := ev_get kk
  exact ev_of ⟨u, aR_step he hsp hs h1, by rw [h2, hu]⟩
theorem ev_br {P : Prop} [Decidable P] {ins : Instr} {L' : List (Nat × Value)} {st' : List Value} {A B : aRs} (hr : (if P then A else B) = some r) (he : (mCd q)[k]? = some (pc, ins, len, x, y)) (hsp : aSpec ins = false) (hs : aS1 aSh0 aFk0 ins len x y (mL q) L st (toH s) = some (decide P, L', st', toH s)) (kt : A = some r → ev d q x L' st' s = some r) (kf : B = some r → ev d q (k + 1) L' st' s = some r) : ev d q k L st s = some r := by
  by_cases hp : P
  · rw [if_pos hp] at hr
    obtain ⟨u, h1, h2⟩ := ev_get (kt hr)
    exact ev_of ⟨u, aR_br he hsp hs (fun _ => h1) (fun h => absurd hp h), h2⟩
  · rw [if_neg hp] at hr
    obtain ⟨u, h1, h2⟩ := ev_get (kf hr)
    exact ev_of ⟨u, aR_br he hsp hs (fun h => absurd h hp) (fun _ => h1), h2⟩
theorem ev_getI {c kd : Nat} {i : Nat} (he : (mCd q)[k]? = some (pc, .getfield i, 3, x, y)) (hsh : aSh0 c = some (.inr x)) (hk : (aFk0 x)[y]? = some kd) (h2 : kd = 0 ∨ kd = 3) (kk : ev d q (k + 1) L (.int (gI s c y) :: st) s = some r) : ev d q k L (.ref c :: st) s = some r := by
  refine ev_step1 he rfl ?_ rfl kk
  simp only [aS1, hsh, if_pos, hk]
  rcases h2 with rfl | rfl <;> rfl
theorem ev_getR {c v : Nat} {i : Nat} (he : (mCd q)[k]? = some (pc, .getfield i, 3, x, y)) (hsh : aSh0 c = some (.inr x)) (hk : (aFk0 x)[y]? = some 2) (hv : Rof s.2.2.1 c y = v) (kk : ev d q (k + 1) L (.ref v :: st) s = some r) : ev d q k L (.ref c :: st) s = some r := by
  refine ev_step1 he rfl ?_ rfl kk
  simp only [aS1, hsh, if_pos, hk]
  rw [← hv]
  rfl
theorem ev_putI {c : Nat} {i : Nat} {v : Int32} {K : aT → aRs} (hr : wI s c y v K = some r) (he : (mCd q)[k]? = some (pc, .putfield i, 3, x, y)) (hsh : aSh0 c = some (.inr x)) (hk : (aFk0 x)[y]? = some 0) (kk : ∀ s1, K s1 = some r → ev d q (k + 1) L st s1 = some r) : ev d q k L (.int v :: .ref c :: st) s = some r := by
  refine ev_step1 he rfl ?_ (s' := pI s c y v) rfl (kk _ hr)
  simp only [aS1, hsh, if_pos, hk]
  rfl
theorem ev_putZ {c : Nat} {i : Nat} {v : Int32} {K : aT → aRs} (hr : wZ s c y v K = some r) (he : (mCd q)[k]? = some (pc, .putfield i, 3, x, y)) (hsh : aSh0 c = some (.inr x)) (hk : (aFk0 x)[y]? = some 3) (kk : ∀ s1, K s1 = some r → ev d q (k + 1) L st s1 = some r) : ev d q k L (.int v :: .ref c :: st) s = some r := by
  unfold wZ at hr
  split at hr
  · rename_i hv
    refine ev_step1 he rfl ?_ (s' := pI s c y v) rfl (kk _ hr)
    simp only [aS1, hsh, if_pos, hk, aPut]
    rw [if_pos hv]
    rfl
  · cases hr
theorem ev_putL {c : Nat} {i : Nat} {v : Int64} {K : aT → aRs} (hr : wL s c y v K = some r) (he : (mCd q)[k]? = some (pc, .putfield i, 3, x, y)) (hsh : aSh0 c = some (.inr x)) (hk : (aFk0 x)[y]? = some 1) (kk : ∀ s1, K s1 = some r → ev d q (k + 1) L st s1 = some r) : ev d q k L (.long v :: .ref c :: st) s = some r := by
  refine ev_step1 he rfl ?_ (s' := pL s c y v) rfl (kk _ hr)
  simp only [aS1, hsh, if_pos, hk]
  rfl
theorem a2_R (M M' : aM5) (c f v : Nat) (h : ∀ k i, Rof M' k i = if k = c ∧ i = f then v else Rof M k i) : a2 (Rof M) c f v = Rof M' := by
  funext k i
  rw [h]
  unfold a2
  by_cases h1 : k = c
  · by_cases h2 : i = f <;> simp [h1, h2]
  · simp [h1]
theorem ev_putM {c v : Nat} {i : Nat} {K : aT → aRs} {s' : aT} (hr : wM s' K = some r) (he : (mCd q)[k]? = some (pc, .putfield i, 3, x, y)) (hsh : aSh0 c = some (.inr x)) (hk : (aFk0 x)[y]? = some 2) (hs' : (s'.1, s'.2.1, s'.2.2.2) = (s.1, s.2.1, s.2.2.2)) (hM : a2 (Rof s.2.2.1) c y v = Rof s'.2.2.1) (kk : ∀ s1, K s1 = some r → ev d q (k + 1) L st s1 = some r) : ev d q k L (.ref v :: .ref c :: st) s = some r := by
  simp only [Prod.mk.injEq] at hs'
  refine ev_step1 he rfl ?_ (s' := s') hs'.2.2 (kk _ hr)
  simp only [aS1, hsh, if_pos, hk, aPut]
  unfold toH
  rw [hs'.1, hs'.2.1, ← hM]
theorem ev_ldI {n a : Nat} {i : Int32} {K : Int32 → aRs} (hr : ldI n s a i K = some r) (he : (mCd q)[k]? = some (pc, .iaload, 1, x, y)) (hsh : aSh0 a = some (.inl (1, n))) (kk : ∀ v, K v = some r → ev d q (k + 1) L (.int v :: st) s = some r) : ev d q k L (.int i :: .ref a :: st) s = some r := by
  unfold ldI at hr
  split at hr
  · rename_i hv
    refine ev_step1 he rfl ?_ (s' := s) rfl (kk _ hr)
    simp only [aS1, hsh]
    rw [if_pos trivial, if_pos hv]
    rfl
  · cases hr
theorem ev_ldB {n a : Nat} {i : Int32} {K : Int32 → aRs} (hr : ldI n s a i K = some r) (he : (mCd q)[k]? = some (pc, .baload, 1, x, y)) (hsh : aSh0 a = some (.inl (0, n))) (kk : ∀ v, K v = some r → ev d q (k + 1) L (.int v :: st) s = some r) : ev d q k L (.int i :: .ref a :: st) s = some r := by
  unfold ldI at hr
  split at hr
  · rename_i hv
    refine ev_step1 he rfl ?_ (s' := s) rfl (kk _ hr)
    simp only [aS1, hsh]
    rw [if_pos trivial, if_pos hv]
    rfl
  · cases hr
theorem ev_ldZ {n a : Nat} {i : Int32} {K : Int32 → aRs} (hr : ldI n s a i K = some r) (he : (mCd q)[k]? = some (pc, .baload, 1, x, y)) (hsh : aSh0 a = some (.inl (3, n))) (kk : ∀ v, K v = some r → ev d q (k + 1) L (.int v :: st) s = some r) : ev d q k L (.int i :: .ref a :: st) s = some r := by
  unfold ldI at hr
  split at hr
  · rename_i hv
    refine ev_step1 he rfl ?_ (s' := s) rfl (kk _ hr)
    simp only [aS1, hsh]
    rw [if_pos trivial, if_pos hv]
    rfl
  · cases hr
theorem alen_sh {a i : Nat} (h : i < alen a) : aSh0 a = some (.inl (0, alen a)) := by
  unfold alen at h ⊢
  split at h
  · rename_i n hn
    rw [hn]
  · omega
theorem ev_ldX {a : Nat} {i : Int32} {K : Int32 → aRs} (hr : ldI (alen a) s a i K = some r) (he : (mCd q)[k]? = some (pc, .baload, 1, x, y)) (kk : ∀ v, K v = some r → ev d q (k + 1) L (.int v :: st) s = some r) : ev d q k L (.int i :: .ref a :: st) s = some r := by
  by_cases hv : ¬ i < 0 ∧ i.toNatClampNeg < alen a
  · exact ev_ldB hr he (alen_sh hv.2) kk
  · unfold ldI at hr
    rw [if_neg hv] at hr
    cases hr
theorem ev_ldL {n a : Nat} {i : Int32} {K : Int64 → aRs} (hr : ldL n s a i K = some r) (he : (mCd q)[k]? = some (pc, .laload, 1, x, y)) (hsh : aSh0 a = some (.inl (2, n))) (kk : ∀ v, K v = some r → ev d q (k + 1) L (.long v :: st) s = some r) : ev d q k L (.int i :: .ref a :: st) s = some r := by
  unfold ldL at hr
  split at hr
  · rename_i hv
    refine ev_step1 he rfl ?_ (s' := s) rfl (kk _ hr)
    simp only [aS1, hsh]
    rw [if_pos trivial, if_pos hv]
    rfl
  · cases hr
theorem ev_stI {n a : Nat} {i v : Int32} {K : aT → aRs} (hr : stI n s a i v K = some r) (he : (mCd q)[k]? = some (pc, .iastore, 1, x, y)) (hsh : aSh0 a = some (.inl (1, n))) (kk : ∀ s1, K s1 = some r → ev d q (k + 1) L st s1 = some r) : ev d q k L (.int v :: .int i :: .ref a :: st) s = some r := by
  unfold stI at hr
  split at hr
  · rename_i hv
    refine ev_step1 he rfl ?_ (s' := pI s a i.toNatClampNeg v) rfl (kk _ hr)
    simp only [aS1, hsh]
    rw [if_pos trivial, if_pos hv]
    rfl
  · cases hr
theorem ev_stB {n a : Nat} {i v : Int32} {K : aT → aRs} (hr : stI n s a i (vp_nar .byte v) K = some r) (he : (mCd q)[k]? = some (pc, .bastore, 1, x, y)) (hsh : aSh0 a = some (.inl (0, n))) (kk : ∀ s1, K s1 = some r → ev d q (k + 1) L st s1 = some r) : ev d q k L (.int v :: .int i :: .ref a :: st) s = some r := by
  unfold stI at hr
  split at hr
  · rename_i hv
    refine ev_step1 he rfl ?_ (s' := pI s a i.toNatClampNeg (vp_nar .byte v)) rfl (kk _ hr)
    simp only [aS1, hsh]
    rw [if_pos trivial, if_pos hv]
    rfl
  · cases hr
theorem ev_stX {a : Nat} {i v : Int32} {K : aT → aRs} (hr : stI (alen a) s a i (vp_nar .byte v) K = some r) (he : (mCd q)[k]? = some (pc, .bastore, 1, x, y)) (kk : ∀ s1, K s1 = some r → ev d q (k + 1) L st s1 = some r) : ev d q k L (.int v :: .int i :: .ref a :: st) s = some r := by
  by_cases hv : ¬ i < 0 ∧ i.toNatClampNeg < alen a
  · exact ev_stB hr he (alen_sh hv.2) kk
  · unfold stI at hr
    rw [if_neg hv] at hr
    cases hr
theorem ev_stZ {n a : Nat} {i v : Int32} {K : aT → aRs} (hr : stI n s a i (vp_nar .boolean v) K = some r) (he : (mCd q)[k]? = some (pc, .bastore, 1, x, y)) (hsh : aSh0 a = some (.inl (3, n))) (kk : ∀ s1, K s1 = some r → ev d q (k + 1) L st s1 = some r) : ev d q k L (.int v :: .int i :: .ref a :: st) s = some r := by
  unfold stI at hr
  split at hr
  · rename_i hv
    refine ev_step1 he rfl ?_ (s' := pI s a i.toNatClampNeg (vp_nar .boolean v)) rfl (kk _ hr)
    simp only [aS1, hsh]
    rw [if_pos trivial, if_pos hv]
    rfl
  · cases hr
theorem ev_stL {n a : Nat} {i : Int32} {v : Int64} {K : aT → aRs} (hr : stL n s a i v K = some r) (he : (mCd q)[k]? = some (pc, .lastore, 1, x, y)) (hsh : aSh0 a = some (.inl (2, n))) (kk : ∀ s1, K s1 = some r → ev d q (k + 1) L st s1 = some r) : ev d q k L (.long v :: .int i :: .ref a :: st) s = some r := by
  unfold stL at hr
  split at hr
  · rename_i hv
    refine ev_step1 he rfl ?_ (s' := pL s a i.toNatClampNeg v) rfl (kk _ hr)
    simp only [aS1, hsh]
    rw [if_pos trivial, if_pos hv]
    rfl
  · cases hr
theorem ev_alen {a : Nat} {K : aRs} (hr : K = some r) {t n : Nat} (he : (mCd q)[k]? = some (pc, .arraylength, 1, x, y)) (hsh : aSh0 a = some (.inl (t, n))) (ht : t < 4) (kk : K = some r → ev d q (k + 1) L (.int (Int32.ofNat n) :: st) s = some r) : ev d q k L (.ref a :: st) s = some r := by
  refine ev_step1 he rfl ?_ (s' := s) rfl (kk hr)
  simp only [aS1, hsh]
  rw [if_pos trivial, if_pos ht]
end EV
