/-! calls over the machine's whole world -/
def aQ (D : va_G) (kA : Nat → ClassId) (w : va_W) (A : Nat → Prop) (rv : Option Value) : Array Value → State → Outcome → State → Prop := fun _ st oc t => oc = .returned rv ∧ (va_P D vC w t.heap ∧ va_K D vC (tK kA) t ∧ va_D A w) ∧ va_F A st t
def eN (E : Nat) : String := if E = 0 then "java/lang/IllegalStateException" else if E = 1 then "java/lang/IllegalArgumentException" else "java/lang/IndexOutOfBoundsException"
abbrev aX (D : va_G) (kA : Nat → ClassId) (w : va_W) (A : Nat → Prop) (E : Nat) : Array Value → State → Outcome → State → Prop := xt_Q (eN E) (fun _ : Unit => True) (xB D vC (tK kA) (fun _ => w) A) A
section ASim2
variable {sh : aSh} {fk : aFk} {nC : Nat} {kA : Nat → ClassId} {ad : Nat → Nat}
variable {p : Program} {l : Launch} {e : Env} {R : Room} {s : State} {m : MethodId} {args : Array Value} {below : List Frame} {meth : Method} {c : Code} {H : Heap} {locs : List Loc} {cells slots : Nat} {Q : State → Prop}
variable {cc : ByteArray} {pc : Nat} {ls : Array Slot} {rest st0 : List Value} {D : va_G} {kS : Nat → Nat} {A : Nat → Prop}
theorem aW_addr {h : aH} {k : Nat} {q : Nat × va_E} (hk : (aW sh fk nC kA ad h)[k]? = some q) : q.1 = ad k ∧ k < nC := by
  have hlt : k < nC := by
    have := (List.getElem?_eq_some_iff.mp hk).1
    unfold aW at this
    simpa using this
  rw [aW_get hlt] at hk
  cases hk
  exact ⟨rfl, hlt⟩
theorem aW_D {h h1 : aH} (hD : va_D A (aW sh fk nC kA ad h)) : va_D A (aW sh fk nC kA ad h1) := by
  refine ⟨fun i j p q hp hq e => ?_, fun k q hk => ?_⟩
  · obtain ⟨p1, p2⟩ := aW_addr hp
    obtain ⟨q1, q2⟩ := aW_addr hq
    exact hD.1 i j _ _ (aW_get p2) (aW_get q2) (show ad i = ad j by rw [← p1, ← q1, e])
  · obtain ⟨q1, q2⟩ := aW_addr hk
    rw [q1]
    exact hD.2 k _ (aW_get q2)
theorem aW_free {h : aH} (hD : va_D A (aW sh fk nC kA ad h)) (hS : va_S A s.heap H locs) (hA : ∀ q, s.heap.size ≤ q → A q) : ∀ q, va_A (aW sh fk nC kA ad h) H.size q → A q := by
  intro q hq
  rcases hq with ⟨k, e, hk⟩ | hq
  · exact hD.2 k _ hk
  · exact hA q (Nat.le_trans hS.1 hq)
theorem xa_pre {h : aH} {vs : List Value} (hK : va_K D vC (tK kA) s) (hN : xN s) (hC : xC kS A s s.heap) (hP : va_P D vC (aW sh fk nC kA ad h) H) (hD : va_D A (aW sh fk nC kA ad h)) (hS : va_S A s.heap H locs) (hA : ∀ q, s.heap.size ≤ q → A q) :
    PreS s H (xPre D vC (tK kA) kS vs (aW sh fk nC kA ad h) H.size) vs :=
  ⟨xc_blind, fun U hU hW => ⟨rfl, by rw [hU], by rw [hU]; exact hP, va_K.moved hW.alike hK, hD.weaken (fun _ _ _ _ => trivial), hN.warm hW, by rw [hU]; exact ((hC.kept hS.2.1).narrow (aW_free hD hS hA)).warm hW⟩⟩
theorem xa_preV {h : aH} {r ci : Nat} {q : vw_C} {As : List Value} (hK : va_K D vC (tK kA) s) (hN : xN s) (hC : xC kS A s s.heap) (hP : va_P D vC (aW sh fk nC kA ad h) H) (hD : va_D A (aW sh fk nC kA ad h)) (hS : va_S A s.heap H locs) (hA : ∀ q, s.heap.size ≤ q → A q) (hr : r < nC) (hs : sh r = some (.inr ci)) (hq : vC[ci]? = some q) :
    PreV s H q.1 (ad r) (xPre D vC (tK kA) kS (.ref (ad r) :: As) (aW sh fk nC kA ad h) H.size) As := by
  have hcell : (aW sh fk nC kA ad h)[r]? = some (ad r, .inr (ci, aFs ad h r 0 (fk ci))) := by rw [aW_get hr]; unfold aCell; rw [hs]
  exact ⟨xc_blind, va_recv hK hP hq hcell, (xa_pre hK hN hC hP hD hS hA).2⟩
theorem xa_S {A1 : Nat → Prop} {t T' : State} {L : List Loc} (hS : va_S A s.heap H locs) (hF : ∀ q, A1 q → A q) (hz : H.size ≤ t.heap.size) (hk : ∀ q : Nat, q < H.size → ¬ A1 q → t.heap[q]? = H[q]?) (e1 : T'.heap = t.heap) (hL : ∀ q ∈ L, A1 q.base) : va_S A s.heap T'.heap (locs ++ L) :=
  ⟨Nat.le_trans hS.1 (by rw [e1]; exact hz), fun q h1 h2 => by rw [e1, hk q (Nat.lt_of_lt_of_le h1 hS.1) (fun z => h2 (hF q z))]; exact hS.2.1 q h1 h2, fun q hq => by
    rcases List.mem_append.mp hq with h | h
    · exact hS.2.2 q h
    · exact hF _ (hL q h)⟩
theorem xa_ret {h h1 : aH} {rv : Option Value} {mc ms : Nat} {a : Array Value} (hr : va_Run p l e R s m args below meth c H locs cells slots mc ms (F0 m pc ls st0) rest (aQ D kA (aW sh fk nC kA ad h1) (va_A (aW sh fk nC kA ad h) H.size) rv a) (va_A (aW sh fk nC kA ad h) H.size))
    (hD : va_D A (aW sh fk nC kA ad h)) (hS : va_S A s.heap H locs) (hA : ∀ q, s.heap.size ≤ q → A q)
    (kk : ∀ (H1 : Heap) (locs1 : List Loc), va_P D vC (aW sh fk nC kA ad h1) H1 → va_D A (aW sh fk nC kA ad h1) → va_S A s.heap H1 locs1 → W p l e R s m args below meth c H1 locs1 (cells + mc) (slots + ms) Q (F0 m (pc + 3) ls (rv.toList ++ rest))) : W p l e R s m args below meth c H locs cells slots Q (F0 m pc ls st0) := by
  have hFc := aW_free hD hS hA
  intro T hT X
  obtain ⟨v, st₀, t, T', L, h0, X', hL, e1, e2, ⟨hv, ⟨hP1, hK1, hD1⟩, hz, hk⟩, st⟩ := hr T hT X
  cases hv
  rw [h0] at hz hk
  obtain ⟨t2, a1, b1⟩ := kk T'.heap (locs ++ L) (by rw [e1]; exact hP1) (aW_D hD) (xa_S hS hFc hz hk e1 hL) T' rfl X'
  exact ⟨t2, st t2 a1, b1⟩
theorem xa_out {h h1 : aH} {E mc ms : Nat} {a : Array Value} (hr : xt_Run p l e R s m args below meth c H locs cells slots mc ms (F0 m pc ls st0) rest (aX D kA (aW sh fk nC kA ad h1) (va_A (aW sh fk nC kA ad h) H.size) E a) (va_A (aW sh fk nC kA ad h) H.size))
    (hK : va_K D vC (tK kA) s) (hD : va_D A (aW sh fk nC kA ad h)) (hS : va_S A s.heap H locs) (hA : ∀ q, s.heap.size ≤ q → A q) (hout : c.exceptionTable.toList = []) (hlocks : meth.locks = false) :
    W p l e R s m args below meth c H locs cells slots (xt_MQ below (aX D kA (aW sh fk nC kA ad h1) A E) args s (cells + mc) (slots + ms) A) (F0 m pc ls st0) := by
  have hFc := aW_free hD hS hA
  refine xt_leave hr hS (fun q _ h => hFc q h) hFc (by rw [hout]; intro z hz; cases hz) hlocks (fun q h => h) (fun u x t H1 locs1 ht hvm hw hB hob hz1 hk1 hS1 t2 ht2 hW2 => ?_)
  obtain ⟨hP1, hK1, hD1⟩ := hB
  rw [ht] at hP1
  exact ⟨⟨(), x, rfl, trivial, ⟨by rw [ht2]; exact hP1, va_K.moved hW2.alike hK, aW_D hD⟩, by rw [ht2]; exact hob.moved (hvm.symm.trans hW2.alike)⟩, hS1.F ht2⟩
theorem xa_cat {h h1 : aH} {E mc ms hpc : Nat} {a : Array Value} (hr : xt_Run p l e R s m args below meth c H locs cells slots mc ms (F0 m pc ls st0) rest (aX D kA (aW sh fk nC kA ad h1) (va_A (aW sh fk nC kA ad h) H.size) E a) (va_A (aW sh fk nC kA ad h) H.size))
    (hD : va_D A (aW sh fk nC kA ad h)) (hS : va_S A s.heap H locs) (hA : ∀ q, s.heap.size ≤ q → A q) (hlead : xt_Leads p l e R s m args below meth c (eN E) pc c.exceptionTable.toList hpc)
    (kk : ∀ (x : Nat) (H1 : Heap) (locs1 : List Loc), va_P D vC (aW sh fk nC kA ad h1) H1 → va_D A (aW sh fk nC kA ad h1) → va_S A s.heap H1 locs1 → W p l e R s m args below meth c H1 locs1 (cells + mc) (slots + ms) Q (F0 m hpc ls [.ref x])) : W p l e R s m args below meth c H locs cells slots Q (F0 m pc ls st0) := by
  have hFc := aW_free hD hS hA
  refine xt_catch hr hS (fun q _ h => hFc q h) hFc hlead (fun u x t H1 locs1 ht hvm hw hB hob hz1 hk1 hS1 => ?_)
  obtain ⟨hP1, hK1, hD1⟩ := hB
  rw [ht] at hP1
  exact kk x H1 locs1 hP1 (aW_D hD) hS1
theorem lv_args_map (ad : Nat → Nat) : ∀ (vs : List Value) (i : Nat), cvL ad (lv_args i vs) = lv_args i (vs.map (cvA ad))
  | [], _ => rfl
  | v :: vs, i => by
    show (i, cvA ad v) :: cvL ad (lv_args (if v.category = 2 then i + 2 else i + 1) vs) = (i, cvA ad v) :: lv_args (if (cvA ad v).category = 2 then i + 2 else i + 1) (vs.map (cvA ad))
    rw [lv_args_map ad vs, cvA_cat]
theorem lg_sl_map (ad : Nat → Nat) (vs : List Value) : (lg_sl (vs.map (cvA ad))).length = (lg_sl vs).length := by
  induction vs with
  | nil => rfl
  | cons v vs ih =>
    cases v <;> simp_all [lg_sl, cvA, Value.category]
theorem aCat_map (ad : Nat → Nat) (st : List Value) : ((st.map (cvA ad)).map fun v => v.category).sum = aCat st := by
  unfold aCat
  rw [List.map_map]
  congr 1
  apply List.map_congr_left
  intro v _
  exact cvA_cat ad v
end ASim2
