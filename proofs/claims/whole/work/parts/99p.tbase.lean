/-! texts: how their words run -/
def rT (E : Nat) (s : aT) : aRs := some (.inr E, s)
theorem rX_eq (E : Nat) (s : aT) : rX E s = rT E (pU s) := rfl
theorem cG_I (v : Int32) (s : aT) (K : Int32 → aT → aRs) : cG (rI v s) (kI K) = K v s := rfl
theorem cG_L (v : Int64) (s : aT) (K : Int64 → aT → aRs) : cG (rL v s) (kL K) = K v s := rfl
theorem cG_A (v : Nat) (s : aT) (K : Nat → aT → aRs) : cG (rA v s) (kA K) = K v s := rfl
theorem cG_V (s : aT) (K : aT → aRs) : cG (rV s) (kV K) = K s := rfl
theorem cG_T (E : Nat) (s : aT) (K : Option Value → aT → aRs) : cG (rT E s) K = rT E s := rfl
theorem cN_I (v : Int32) (s : aT) (K : Int32 → aT → aRs) : cN (rI v s) (kI K) = K v s := rfl
theorem cN_L (v : Int64) (s : aT) (K : Int64 → aT → aRs) : cN (rL v s) (kL K) = K v s := rfl
theorem cN_A (v : Nat) (s : aT) (K : Nat → aT → aRs) : cN (rA v s) (kA K) = K v s := rfl
theorem cN_V (s : aT) (K : aT → aRs) : cN (rV s) (kV K) = K s := rfl
theorem cC_I (v : Int32) (s : aT) (K : Int32 → aT → aRs) (J : aT → aRs) : cC (rI v s) (kI K) J = K v s := rfl
theorem cC_V (s : aT) (K : aT → aRs) (J : aT → aRs) : cC (rV s) (kV K) J = K s := rfl
theorem cC_T (s : aT) (K : Option Value → aT → aRs) (J : aT → aRs) : cC (rT 0 s) K J = J s := rfl
theorem wI_eq (s : aT) (k f : Nat) (v : Int32) (K : aT → aRs) : wI s k f v K = K (pI s k f v) := rfl
theorem wL_eq (s : aT) (k f : Nat) (v : Int64) (K : aT → aRs) : wL s k f v K = K (pL s k f v) := rfl
theorem wM_eq (s : aT) (K : aT → aRs) : wM s K = K s := rfl
theorem wZ0 (s : aT) (k f : Nat) (K : aT → aRs) : wZ s k f 0 K = K (pI s k f 0) := if_pos (.inl rfl)
theorem wZ1 (s : aT) (k f : Nat) (K : aT → aRs) : wZ s k f 1 K = K (pI s k f 1) := if_pos (.inr rfl)
theorem rZ0 (s : aT) : rZ 0 s = rI 0 s := if_pos (.inl rfl)
theorem rZ1 (s : aT) : rZ 1 s = rI 1 s := if_pos (.inr rfl)
theorem ldI_n {n j : Nat} {s : aT} {a : Nat} {K : Int32 → aRs} (hj : j < n) (hn : n ≤ 2147483648) : ldI n s a (nI j) K = K (gI s a j) := by
  unfold ldI
  rw [if_pos ⟨nI_pos (by omega), by rw [nI_clamp (by omega)]; exact hj⟩, nI_clamp (by omega)]
theorem ldL_n {n j : Nat} {s : aT} {a : Nat} {K : Int64 → aRs} (hj : j < n) (hn : n ≤ 2147483648) : ldL n s a (nI j) K = K (gL s a j) := by
  unfold ldL
  rw [if_pos ⟨nI_pos (by omega), by rw [nI_clamp (by omega)]; exact hj⟩, nI_clamp (by omega)]
theorem stI_n {n j : Nat} {s : aT} {a : Nat} {v : Int32} {K : aT → aRs} (hj : j < n) (hn : n ≤ 2147483648) : stI n s a (nI j) v K = K (pI s a j v) := by
  unfold stI
  rw [if_pos ⟨nI_pos (by omega), by rw [nI_clamp (by omega)]; exact hj⟩, nI_clamp (by omega)]
theorem stL_n {n j : Nat} {s : aT} {a : Nat} {v : Int64} {K : aT → aRs} (hj : j < n) (hn : n ≤ 2147483648) : stL n s a (nI j) v K = K (pL s a j v) := by
  unfold stL
  rw [if_pos ⟨nI_pos (by omega), by rw [nI_clamp (by omega)]; exact hj⟩, nI_clamp (by omega)]
/-! numbers -/
theorem nI_leE {a b : Nat} (ha : a < 2147483648) (hb : b < 2147483648) : (nI a ≤ nI b) = (a ≤ b) := by
  apply propext
  constructor
  · intro h
    rcases Nat.lt_or_ge b a with h1 | h1
    · exact absurd h (nI_ge h1 ha)
    · exact h1
  · intro h; exact nI_le h hb
theorem nI_ltE {a b : Nat} (ha : a < 2147483648) (hb : b < 2147483648) : (nI a < nI b) = (a < b) := by
  apply propext
  constructor
  · intro h
    rcases Nat.lt_or_ge a b with h1 | h1
    · exact h1
    · exact absurd h (nI_nlt h1 ha)
  · intro h; exact nI_lt h hb
theorem nI_eqE {a b : Nat} (ha : a < 2147483648) (hb : b < 2147483648) : (nI a = nI b) = (a = b) := by
  apply propext
  constructor
  · intro h
    have := congrArg Int32.toNatClampNeg h
    rw [nI_clamp ha, nI_clamp hb] at this
    exact this
  · intro h; rw [h]
theorem nI_lit (k : Nat) : (OfNat.ofNat k : Int32) = nI k := rfl
theorem nI_addE (a b : Nat) : nI a + nI b = nI (a + b) := (Int32.ofNat_add a b).symm
theorem nI_add1 (a : Nat) : nI a + 1 = nI (a + 1) := (nI_succ a).symm
theorem nI_sub {a b : Nat} (h : b ≤ a) : nI a - nI b = nI (a - b) := pk_sub h
/-- an id: one more than the place, 0 for NONE -/
def zI (x : Nat) : Int32 := nI x - 1
theorem zI_0 : zI 0 = -1 := by decide
theorem zI_S (x : Nat) : zI (x + 1) = nI x := nI_pred x
theorem zI_pos {x : Nat} (h : 0 < x) : zI x = nI (x - 1) := by
  obtain ⟨y, rfl⟩ : ∃ y, x = y + 1 := ⟨x - 1, by omega⟩
  rw [zI_S]; rfl
theorem zI_lt0 {x : Nat} (h : x < 2147483648) : (zI x < 0) = (x = 0) := by
  rcases Nat.eq_zero_or_pos x with h0 | h0
  · subst h0
    rw [zI_0]
    simp
  · rw [zI_pos h0]
    have := nI_pos (n := x - 1) (by omega)
    simp [this]; omega
theorem zI_eqE {x y : Nat} (hx : x < 2147483648) (hy : y < 2147483648) : (zI x = zI y) = (x = y) := by
  apply propext
  constructor
  · intro h
    unfold zI at h
    have h2 : nI x = nI y := by
      have := congrArg (· + (1 : Int32)) h
      simpa [Int32.sub_add_cancel] using this
    rwa [nI_eqE hx hy] at h2
  · intro h; rw [h]
theorem m1_z : (-1 : Int32) = zI 0 := by decide
/-- what the reference sees at a place: a byte, or -1 -/
def mI (x : Nat) : Int32 := if x < 128 then nI x else if x < 256 then nI x - nI 256 else -1
/-- what the lake sees -/
def uI (x : Nat) : Int32 := if x < 256 then nI x else -1
theorem mI_toInt {x : Nat} (h : x ≤ 256) : (mI x).toInt = if x < 128 then (x : Int) else if x < 256 then (x : Int) - 256 else -1 := by
  unfold mI
  split
  · exact nI_toInt (by omega)
  · split
    · exact pk_sub_toInt (by omega) (by omega)
    · rfl
theorem uI_toInt {x : Nat} (h : x ≤ 256) : (uI x).toInt = if x < 256 then (x : Int) else -1 := by
  unfold uI
  split
  · exact nI_toInt (by omega)
  · rfl
theorem mI_eqE {x k : Nat} (hx : x ≤ 256) (hk : k < 128) : (mI x = nI k) = (x = k) := by
  apply propext
  rw [← Int32.toInt_inj, mI_toInt hx, nI_toInt (by omega)]
  repeat' split
  all_goals omega
theorem mI_ltE {x k : Nat} (hx : x ≤ 256) (hk : k < 128) : (mI x < nI k) = (x < k ∨ 128 ≤ x) := by
  apply propext
  rw [Int32.lt_iff_toInt_lt, mI_toInt hx, nI_toInt (by omega)]
  repeat' split
  all_goals omega
theorem mI_gtE {x k : Nat} (hx : x ≤ 256) (hk : k < 128) : (nI k < mI x) = (k < x ∧ x < 128) := by
  apply propext
  rw [Int32.lt_iff_toInt_lt, mI_toInt hx, nI_toInt (by omega)]
  repeat' split
  all_goals omega
theorem uI_eqE {x k : Nat} (hx : x ≤ 256) (hk : k < 256) : (uI x = nI k) = (x = k) := by
  apply propext
  rw [← Int32.toInt_inj, uI_toInt hx, nI_toInt (by omega)]
  repeat' split
  all_goals omega
theorem uI_ltE {x k : Nat} (hx : x ≤ 256) (hk : k < 256) : (uI x < nI k) = (x < k ∨ x = 256) := by
  apply propext
  rw [Int32.lt_iff_toInt_lt, uI_toInt hx, nI_toInt (by omega)]
  repeat' split
  all_goals omega
theorem uI_gtE {x k : Nat} (hx : x ≤ 256) (hk : k < 256) : (nI k < uI x) = (k < x ∧ x ≠ 256) := by
  apply propext
  rw [Int32.lt_iff_toInt_lt, uI_toInt hx, nI_toInt (by omega)]
  repeat' split
  all_goals omega
theorem mI_and {x : Nat} (h : x < 256) : mI x &&& 255 = nI x := by
  revert x
  decide +kernel
theorem nI_byte {x : Nat} (h : x < 256) : vp_nar .byte (nI x).toInt8.toInt32 = mI x := by
  revert x
  decide +kernel
theorem mI_byte {x : Nat} (h : x < 256) : vp_nar .byte (mI x).toInt8.toInt32 = mI x := by
  revert x
  decide +kernel
theorem jBt_le {B : Nat → Nat} {n a : Nat} (hB : ∀ i, B i < 256) : jBt B n a ≤ 256 := by
  unfold jBt
  split
  · exact Nat.le_of_lt (hB a)
  · omega
/-! states -/
theorem gI_pI (s : aT) (k i : Nat) (v : Int32) (k' i' : Nat) : gI (pI s k i v) k' i' = if k' = k ∧ i' = i then v else gI s k' i' := a2_ite ..
theorem gI_pL (s : aT) (k i : Nat) (v : Int64) (k' i' : Nat) : gI (pL s k i v) k' i' = gI s k' i' := rfl
theorem gL_pI (s : aT) (k i : Nat) (v : Int32) (k' i' : Nat) : gL (pI s k i v) k' i' = gL s k' i' := rfl
theorem gL_pL (s : aT) (k i : Nat) (v : Int64) (k' i' : Nat) : gL (pL s k i v) k' i' = if k' = k ∧ i' = i then v else gL s k' i' := a2_ite ..
theorem aT_ext {s t : aT} (h1 : ∀ k i, gI s k i = gI t k i) (h2 : ∀ k i, gL s k i = gL t k i) (h3 : s.2.2 = t.2.2) : s = t := by
  obtain ⟨a, b, c⟩ := s
  obtain ⟨a', b', c'⟩ := t
  have e1 : a = a' := funext fun k => funext fun i => h1 k i
  have e2 : b = b' := funext fun k => funext fun i => h2 k i
  have e3 : c = c' := h3
  rw [e1, e2, e3]
theorem pI_self {s : aT} {k i : Nat} {v : Int32} (h : gI s k i = v) : pI s k i v = s := by
  refine aT_ext (fun k' i' => ?_) (fun _ _ => rfl) rfl
  rw [gI_pI]
  split
  · rename_i hh
    rw [hh.1, hh.2, h]
  · rfl
theorem pI_pI (s : aT) (k i : Nat) (v w : Int32) : pI (pI s k i v) k i w = pI s k i w := by
  refine aT_ext (fun k' i' => ?_) (fun _ _ => rfl) rfl
  simp only [gI_pI]
  split <;> rfl
