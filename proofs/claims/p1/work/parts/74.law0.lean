/-! THE LAW'S BODY: what holds in it, rows for its script and its compares -/
def lB (p : Program) (l : Launch) (s : State) (m : MethodId) (c : Code) (b L : Nat) (xs : Nat → Int32) (D : va_G) (kA : Nat → ClassId) (kS : Nat → Nat) (A : Nat → Prop) : Prop :=
  l.flags = flags0 ∧ p.tables.exec = Jvm.exec ∧ c.code = code ∧ c.maxLocals = 8 ∧ s.vm.findClass "RecordLakeLaw" = some m.cls ∧ (∀ w ∈ gW, w.before #[Value.ref b] s = true) ∧ va_K D vC (tK kA) s ∧ xN s ∧ xNo s ∧ xC kS A s s.heap ∧ va_X b L xs s s.heap ∧ b < s.heap.size ∧ (∀ q, s.heap.size ≤ q → A q) ∧ ¬ A b
section XbLaw
variable {p : Program} {l : Launch} {e : Env} {R : Room} {s : State} {m : MethodId} {args : Array Value} {below : List Frame} {meth : Method} {c : Code} {H : Heap} {locs : List Loc} {cells slots : Nat} {Q : State → Prop}
variable {cc : ByteArray} {pc : Nat} {ls : Array Slot} {rest : List Value} {A : Nat → Prop} {H0 : Heap}
theorem xb_sld (hx : p.tables.exec = Jvm.exec) (hb : c.code = cc) {b L : Nat} {xs : Nat → Int32} (hX : va_X b L xs s H0) (hbl : b < H0.size) (hbA : ¬ A b) (hS : va_S A H0 H locs) {k : Nat} (hk : k < L) (hL : L < 2 ^ 31) (hdg : decode cc pc = .ok (.iaload, 1))
    (kk : W p l e R s m args below meth c H locs cells slots Q (F0 m (pc + 1) ls (.int (xs k) :: rest))) : W p l e R s m args below meth c H locs cells slots Q (F0 m pc ls (.int (nI k) :: .ref b :: rest)) :=
  va_sld hx hb hX hbl hbA hS (vp_in_nI hk hL) hdg (by rw [nI_clamp (Nat.lt_trans hk hL)]; exact kk)
theorem xl_cmp (hx : p.tables.exec = Jvm.exec) (hb : c.code = cc) {a b : Int64} (h : a = b) (hdg : decode cc pc = .ok (.lcmp, 1))
    (kk : W p l e R s m args below meth c H locs cells slots Q (F0 m (pc + 1) ls (.int 0 :: rest))) : W p l e R s m args below meth c H locs cells slots Q (F0 m pc ls (.long b :: .long a :: rest)) := by
  subst h
  intro T hT X
  obtain ⟨t, a1, b1⟩ := kk T hT X
  refine ⟨t, ?_, b1⟩
  have hd : decode c.code pc = .ok (.lcmp, 1) := by rw [hb]; exact hdg
  jvm_step X.here [X.here.top, hx, hd]
  exact a1
end XbLaw
theorem by_num_1 {n : Nat} {v : Int64} : ∀ (k : Nat) {u : Nat × (Nat → Int32)}, u.1 + k ≤ n → (by_num n u v k).1 = u.1 + k
  | 0, _, _ => rfl
  | k + 1, u, h => by
    have h1 : (by_put n u (by_sh v k)).1 = u.1 + 1 := by
      unfold by_put
      rw [if_pos (by omega)]
    show (by_num n (by_put n u (by_sh v k)) v k).1 = u.1 + (k + 1)
    rw [by_num_1 k (by rw [h1]; omega), h1]
    omega
theorem lk_feed_1 {u : Nat × (Nat → Int32)} {a b c d e : Int32} (h : u.1 ≤ 4076) : (lk_feed u a b c d e).1 = u.1 + 20 := by
  unfold lk_feed
  have h1 : (by_num 4096 u a.toInt64 4).1 = u.1 + 4 := by_num_1 4 (by omega)
  have h2 : (by_num 4096 (by_num 4096 u a.toInt64 4) b.toInt64 4).1 = u.1 + 8 := by rw [by_num_1 4 (by rw [h1]; omega), h1]
  have h3 : (by_num 4096 (by_num 4096 (by_num 4096 u a.toInt64 4) b.toInt64 4) c.toInt64 4).1 = u.1 + 12 := by rw [by_num_1 4 (by rw [h2]; omega), h2]
  have h4 : (by_num 4096 (by_num 4096 (by_num 4096 (by_num 4096 u a.toInt64 4) b.toInt64 4) c.toInt64 4) d.toInt64 4).1 = u.1 + 16 := by rw [by_num_1 4 (by rw [h3]; omega), h3]
  rw [by_num_1 4 (by rw [h4]; omega), h4]
theorem i_34 {x : Int32} (h : ¬ x < 4) : 3 < x := by
  have h1 := Int32.not_lt.mp h
  rw [Int32.le_iff_toInt_le] at h1
  rw [Int32.lt_iff_toInt_lt]
  have e3 : (3 : Int32).toInt = 3 := by decide
  have e4 : (4 : Int32).toInt = 4 := by decide
  omega
theorem i_43 {x : Int32} (h : x < 4) : ¬ 3 < x := by
  intro h1
  rw [Int32.lt_iff_toInt_lt] at h h1
  have e3 : (3 : Int32).toInt = 3 := by decide
  have e4 : (4 : Int32).toInt = 4 := by decide
  omega
theorem i_sub {x : Int32} (h : x < 0 ∨ ¬ x < 4) : x < 0 ∨ 3 < x := h.imp id i_34
theorem i_mo0 {x : Int32} (h : x < 0 ∨ ¬ x < 4) : mo_in x 0 3 = 0 := by
  unfold mo_in
  rcases h with h | h
  · rw [if_pos h]
  · by_cases h0 : x < 0
    · rw [if_pos h0]
    · rw [if_neg h0, if_pos (i_34 h)]
theorem i_mo1 {x : Int32} (h : ¬ x < 0) (h2 : x < 4) : ¬ mo_in x 0 3 = 0 := by
  unfold mo_in
  rw [if_neg h, if_neg (i_43 h2)]
  decide
theorem i_nk {k : Nat} (h : k < 4) : ¬ nI k < 0 ∧ nI k < 4 ∧ ¬ 3 < nI k := by
  rcases (show k = 0 ∨ k = 1 ∨ k = 2 ∨ k = 3 by omega) with rfl | rfl | rfl | rfl <;> decide
