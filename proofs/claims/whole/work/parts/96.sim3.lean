/-! THE SIMULATION: what the machine answers, the JVM does -/
/-- what an instruction that calls or throws names -/
def cF (TB : Nat → Option aMI) (own : String) (bytes : ByteArray) (en : aEn) : Prop := match en.2.1 with
  | .invokevirtual i => en.2.2.2.1 = 999 ∨ (en.2.2.2.1 = 900 ∧ Cond.methodLink own i ⟨"java/lang/String", "length", "()I"⟩ ∈ gW) ∨ (en.2.2.2.1 = 901 ∧ Cond.methodLink own i ⟨"java/lang/String", "charAt", "(I)C"⟩ ∈ gW) ∨ (en.2.2.2.1 = 902 ∧ Cond.methodLink own i ⟨"java/lang/String", "indexOf", "(I)I"⟩ ∈ gW) ∨ (¬ 900 ≤ en.2.2.2.1 ∧ ∀ q', TB en.2.2.2.1 = some q' → (Cond.methodLink own i (mY q') ∈ gW ∨ (mHs q' = [] ∧ 100 ≤ en.2.2.2.2 ∧ ∃ host, Cond.methodLinkNest own i (mY q') host ∈ nW)) ∧ ∃ qc : vw_C, vC[en.2.2.2.2 % 100]? = some qc ∧ qc.1 = (mY q').cls)
  | .invokestatic i => en.2.2.2.1 = 999 ∨ (en.2.2.2.1 = 910 ∧ Cond.methodLink own i Lib.Math.min.name ∈ gW) ∨ (en.2.2.2.1 = 911 ∧ Cond.methodLink own i Lib.Math.max.name ∈ gW) ∨ (en.2.2.2.1 = 912 ∧ Cond.methodLink own i Lib.MathLoose.abs_long.x ∈ gW) ∨ (en.2.2.2.1 = 920 ∧ Cond.methodLink own i arraycopyName ∈ gW) ∨ (¬ 900 ≤ en.2.2.2.1 ∧ ∀ q', TB en.2.2.2.1 = some q' → Cond.methodLink own i (mY q') ∈ gW ∧ mHs q' = [])
  | .new i => en.2.2.2.2 = 7 → Cond.classLink own i (eN en.2.2.2.1) ∈ gW ∧ Cond.initialized (eN en.2.2.2.1) ∈ gW ∧ Bundle.fit (eN en.2.2.2.1) = true ∧ ∃ (ix ik j ln : Nat) (li : Instr) (tx : String), xE_ok own ik (eN en.2.2.2.1) ∧ sW[j]? = some (own, ix, tx) ∧ decode bytes en.1 = .ok (.new i, 3) ∧ decode bytes (en.1 + 3) = .ok (.dup, 1) ∧ ((decode bytes (en.1 + 3 + 1) = .ok (.ldc ix, 2) ∧ decode bytes (en.1 + 3 + 1 + 2) = .ok (.invokespecial ik, 3) ∧ decode bytes (en.1 + 3 + 1 + 2 + 3) = .ok (.athrow, 1)) ∨ (decode bytes (en.1 + 3 + 1) = .ok (.ldc_w ix, 3) ∧ decode bytes (en.1 + 3 + 1 + 3) = .ok (.invokespecial ik, 3) ∧ decode bytes (en.1 + 3 + 1 + 3 + 3) = .ok (.athrow, 1)))
  | _ => True
def enF (TB : Nat → Option aMI) (sh : aSh) (fk : aFk) (q : aMI) (k : Nat) (en : aEn) : Prop :=
  decode (mB q) en.1 = .ok (en.2.1, en.2.2.1) ∧ eF sh fk (mY q).cls en.2.1 en.2.2.2.1 en.2.2.2.2 ∧ (∀ e', (mCd q)[k + 1]? = some e' → e'.1 = en.1 + en.2.2.1) ∧
  (∀ off : Int, (en.2.1 = .goto off ∨ (∃ z, en.2.1 = .if_icmp z off) ∨ ∃ z, en.2.1 = .ifCond z off) → ∃ e', (mCd q)[en.2.2.2.1]? = some e' ∧ (en.1 : Int) + off = (e'.1 : Int)) ∧ cF TB (mY q).cls (mB q) en
/-- a handler: the class it takes, where it goes on -/
def hF (q : aMI) (z : Nat × Nat × Nat × Nat × Nat × Nat) : Prop := z.2.2.2.1 ≠ 0 ∧ Cond.classLink (mY q).cls z.2.2.2.1 (eN 0) ∈ gW ∧ Cond.castable (eN 0) (eN 0) ∈ nW ∧ z.2.2.2.2.2 < mL q ∧ ∃ ln, (decode (mB q) z.2.2.1 = .ok (.astore z.2.2.2.2.2, ln) ∧ ln = 2 ∨ (∃ w : Fin 4, decode (mB q) z.2.2.1 = .ok (.astore_n w, ln) ∧ w.val = z.2.2.2.2.2 ∧ ln = 1)) ∧ ∀ e', (mCd q)[z.2.2.2.2.1 + 1]? = some e' → e'.1 = z.2.2.1 + ln
def mF (TB : Nat → Option aMI) (sh : aSh) (fk : aFk) (q : aMI) : Prop :=
  plainName (mY q).cls = true ∧ ((mHs q = [] ∧ Cond.code (mY q) (mB q) (mL q) (mR q) ∈ gW) ∨ (mHs q ≠ [] ∧ Cond.codeWith (mY q) (mB q) (mL q) (mR q) (mHh q) ∈ gW)) ∧ Cond.initialized (mY q).cls ∈ gW ∧
  (mSt q = true → Cond.static (mY q) ∈ gW) ∧ (mSt q = false → Cond.instanceMethod (mY q) ∈ gW ∧ Cond.selects (mY q).cls (mY q) (mY q) ∈ gW) ∧
  ((mY q).cls ≠ "java/lang/invoke/MethodHandle" ∧ (mY q).cls ≠ "java/lang/invoke/VarHandle" ∧ (parseMethodDescriptor (mY q).desc).map (fun d => d.parameters.length) = some (mNp q)) ∧ mL q ≤ 40 ∧ (∀ e, (mCd q)[0]? = some e → e.1 = 0) ∧
  (∀ z ∈ mHs q, hF q z) ∧ ∀ (k : Nat) (e : aEn), (mCd q)[k]? = some e → enF TB sh fk q k e
/-- what holds in the body of the method q -/
def aCtx (p : Program) (l : Launch) (s : State) (m : MethodId) (args : Array Value) (meth : Method) (c : Code) (q : aMI) (A : Nat → Prop) (D : va_G) (kA : Nat → ClassId) (kS : Nat → Nat) : Prop :=
  l.flags = flags0 ∧ p.tables.exec = Jvm.exec ∧ c.code = mB q ∧ c.maxLocals = mL q ∧ meth.sig.returnType = mR q ∧ s.vm.findClass (mY q).cls = some m.cls ∧ (∀ w ∈ gW, w.before args s = true) ∧ meth.locks = false ∧
  c.exceptionTable.toList.map (fun h => (h.startPc, h.endPc, h.handlerPc, h.catchType)) = mHh q ∧ va_K D vC (tK kA) s ∧ xN s ∧ xC kS A s s.heap ∧ (∀ z, s.heap.size ≤ z → A z)
def aEnd (D : va_G) (kA : Nat → ClassId) (ad : Nat → Nat) (w : va_W) (A : Nat → Prop) (below : List Frame) (args : Array Value) (s : State) (mc ms : Nat) (o : aOut) : State → Prop := match o with
  | .inl rv => MQ below (aQ D kA w A (rv.map (cvA ad))) args s mc ms A
  | .inr E => xt_MQ below (aX D kA w A E) args s mc ms A
def aSB (TB : Nat → Option aMI) (sh : aSh) (fk : aFk) (nC : Nat) (kA : Nat → ClassId) (ad kS : Nat → Nat) (D : va_G) (n : Nat) : Prop :=
  ∀ (d : Nat) (q : aMI) (k : Nat) (L : List (Nat × Value)) (st : List Value) (h : aH) (o : aOut) (h' : aH) (u : Nat), aEx TB sh fk n d q k L st h = some (o, h', u) → mF TB sh fk q →
  ∀ (p : Program) (l : Launch) (e : Env) (R : Room) (s : State) (m : MethodId) (args : Array Value) (below : List Frame) (meth : Method) (c : Code) (A : Nat → Prop), aCtx p l s m args meth c q A D kA kS →
  ∀ (H : Heap) (locs : List Loc) (ls : Array Slot) (cells slots pc : Nat), (∀ e, (mCd q)[k]? = some e → e.1 = pc) → va_P D vC (aW sh fk nC kA ad h) H → va_D A (aW sh fk nC kA ad h) → va_S A s.heap H locs → lv_has ls (mL q) (cvL ad L) →
  d + 6 ≤ R.frames → 82 + 60 * d ≤ R.locals → cells + u ≤ R.cells → slots + 6 * u ≤ R.slots →
  W p l e R s m args below meth c H locs cells slots (aEnd D kA ad (aW sh fk nC kA ad h') A below args s (cells + u) (slots + 6 * u) o) (F0 m pc ls (st.map (cvA ad)))
def aWs (q : aMI) : List Cond := (if (mHs q).isEmpty then Cond.code (mY q) (mB q) (mL q) (mR q) else Cond.codeWith (mY q) (mB q) (mL q) (mR q) (mHh q)) :: gW
abbrev aRm (d u : Nat) : Room := { frames := d + 6, cells := u, slots := 6 * u, locals := 82 + 60 * d }
section ASim3
variable {TB : Nat → Option aMI} {sh : aSh} {fk : aFk} {nC : Nat} {kA : Nat → ClassId} {ad kS : Nat → Nat} {D : va_G}
set_option maxHeartbeats 4000000 in
/-- a method that returns, by its run -/
theorem met_of {n : Nat} (SB : aSB TB sh fk nC kA ad kS D n) {l : Launch} (hfl : l.flags = flags0) {d : Nat} {q : aMI} {vs : List Value} {h h' : aH} {rv : Option Value} {u : Nat} (sz : Nat) (hq : mF TB sh fk q) (hx : aEx TB sh fk n d q 0 (lv_args 0 vs) [] h = some (.inl rv, h', u)) (hlen : (lg_sl vs).length ≤ mL q) (hh : mHs q = []) :
    Met l (mY q) (Cond.code (mY q) (mB q) (mL q) (mR q) :: gW) (aRm d u) (xPre D vC (tK kA) kS (vs.map (cvA ad)) (aW sh fk nC kA ad h) sz) (aQ D kA (aW sh fk nC kA ad h') (va_A (aW sh fk nC kA ad h) sz) (rv.map (cvA ad))) u (6 * u) (va_A (aW sh fk nC kA ad h) sz) := by
  refine Met.ofW (cc := mB q) (maxL := mL q) (ret := mR q) hq.1 rfl ?_
  intro p e s m args below meth c s₁ B hml hv
  obtain ⟨rfl, hsz, hP, hK, hD0, hN, hC⟩ := hv
  subst hsz
  have hts := atoms_spec (ws := Cond.code (mY q) (mB q) (mL q) (mR q) :: gW) B.pre
  have hg : ∀ w ∈ gW, w.before _ s = true := fun w h => hts w (List.mem_cons_of_mem _ h)
  have hown : s.vm.findClass (mY q).cls = some m.cls := findClass_of_methodNamed B.named
  have hemp : c.exceptionTable.isEmpty = true := B.noHandlers (hts _ List.mem_cons_self)
  have htab : c.exceptionTable.toList = [] := List.eq_nil_of_length_eq_zero (by simpa [Array.isEmpty] using hemp)
  have hD := hD0.self (sz := s.heap.size)
  have hl := lv_entry (vs.map (cvA ad)) (n := mL q) (by rw [lg_sl_map]; exact hlen)
  rw [← lv_args_map] at hl
  rw [lg_entry_eq]
  have hb := B.bytes
  have hfin := SB d q 0 (lv_args 0 vs) [] h (.inl rv) h' u hx hq p l e (headSpec (Cond.code (mY q) (mB q) (mL q) (mR q) :: gW) (aRm d u)).room s m (vs.map (cvA ad)).toArray below meth c (va_A (aW sh fk nC kA ad h) s.heap.size) ⟨hfl, B.exec, hb, hml, B.returns, hown, hg, B.notSynchronized, by unfold mHh; rw [htab, hh]; rfl, hK, hN, hC, fun z h => Or.inr h⟩ s.heap [] _ 0 0 0 (fun e he => hq.2.2.2.2.2.2.2.1 e he) hP hD va_S.rf hl (Nat.le_refl _) (Nat.le_refl _) (Nat.le_of_eq (Nat.zero_add u)) (Nat.le_of_eq (Nat.zero_add (6 * u)))
  rw [Nat.zero_add, Nat.zero_add] at hfin
  exact hfin
set_option maxHeartbeats 4000000 in
theorem met_ofH {n : Nat} (SB : aSB TB sh fk nC kA ad kS D n) {l : Launch} (hfl : l.flags = flags0) {d : Nat} {q : aMI} {vs : List Value} {h h' : aH} {rv : Option Value} {u : Nat} (sz : Nat) (hq : mF TB sh fk q) (hx : aEx TB sh fk n d q 0 (lv_args 0 vs) [] h = some (.inl rv, h', u)) (hlen : (lg_sl vs).length ≤ mL q) :
    Met l (mY q) (Cond.codeWith (mY q) (mB q) (mL q) (mR q) (mHh q) :: gW) (aRm d u) (xPre D vC (tK kA) kS (vs.map (cvA ad)) (aW sh fk nC kA ad h) sz) (aQ D kA (aW sh fk nC kA ad h') (va_A (aW sh fk nC kA ad h) sz) (rv.map (cvA ad))) u (6 * u) (va_A (aW sh fk nC kA ad h) sz) := by
  refine va_MetW (cc := mB q) (maxL := mL q) (ret := mR q) (hh := mHh q) hq.1 rfl ?_
  intro p e s m args below meth c s₁ B hml hv
  obtain ⟨rfl, hsz, hP, hK, hD0, hN, hC⟩ := hv
  subst hsz
  have hts := atoms_spec (ws := Cond.codeWith (mY q) (mB q) (mL q) (mR q) (mHh q) :: gW) B.pre
  have hg : ∀ w ∈ gW, w.before _ s = true := fun w h => hts w (List.mem_cons_of_mem _ h)
  have hown : s.vm.findClass (mY q).cls = some m.cls := findClass_of_methodNamed B.named
  have htab := xt_table B (hts _ List.mem_cons_self)
  have hD := hD0.self (sz := s.heap.size)
  have hl := lv_entry (vs.map (cvA ad)) (n := mL q) (by rw [lg_sl_map]; exact hlen)
  rw [← lv_args_map] at hl
  rw [lg_entry_eq]
  have hb := B.bytes
  have hfin := SB d q 0 (lv_args 0 vs) [] h (.inl rv) h' u hx hq p l e (headSpec (Cond.codeWith (mY q) (mB q) (mL q) (mR q) (mHh q) :: gW) (aRm d u)).room s m (vs.map (cvA ad)).toArray below meth c (va_A (aW sh fk nC kA ad h) s.heap.size) ⟨hfl, B.exec, hb, hml, B.returns, hown, hg, B.notSynchronized, htab, hK, hN, hC, fun z h => Or.inr h⟩ s.heap [] _ 0 0 0 (fun e he => hq.2.2.2.2.2.2.2.1 e he) hP hD va_S.rf hl (Nat.le_refl _) (Nat.le_refl _) (Nat.le_of_eq (Nat.zero_add u)) (Nat.le_of_eq (Nat.zero_add (6 * u)))
  rw [Nat.zero_add, Nat.zero_add] at hfin
  exact hfin
set_option maxHeartbeats 4000000 in
/-- a method that throws, by its run -/
theorem xmet_of {n : Nat} (SB : aSB TB sh fk nC kA ad kS D n) {l : Launch} (hfl : l.flags = flags0) {d : Nat} {q : aMI} {vs : List Value} {h h' : aH} {E u : Nat} (sz : Nat) (hq : mF TB sh fk q) (hx : aEx TB sh fk n d q 0 (lv_args 0 vs) [] h = some (.inr E, h', u)) (hlen : (lg_sl vs).length ≤ mL q) (hh : mHs q = []) :
    xt_Met l (mY q) (Cond.code (mY q) (mB q) (mL q) (mR q) :: gW) (aRm d u) (xPre D vC (tK kA) kS (vs.map (cvA ad)) (aW sh fk nC kA ad h) sz) (aX D kA (aW sh fk nC kA ad h') (va_A (aW sh fk nC kA ad h) sz) E) u (6 * u) (va_A (aW sh fk nC kA ad h) sz) := by
  refine xt_ofW (cc := mB q) (maxL := mL q) (ret := mR q) hq.1 rfl ?_
  intro p e s m args below meth c s₁ B hml hemp hv
  obtain ⟨rfl, hsz, hP, hK, hD0, hN, hC⟩ := hv
  subst hsz
  have hts := atoms_spec (ws := Cond.code (mY q) (mB q) (mL q) (mR q) :: gW) B.pre
  have hg : ∀ w ∈ gW, w.before _ s = true := fun w h => hts w (List.mem_cons_of_mem _ h)
  have hown : s.vm.findClass (mY q).cls = some m.cls := findClass_of_methodNamed B.named
  have hD := hD0.self (sz := s.heap.size)
  have hl := lv_entry (vs.map (cvA ad)) (n := mL q) (by rw [lg_sl_map]; exact hlen)
  rw [← lv_args_map] at hl
  rw [lg_entry_eq]
  have hb := B.bytes
  have hfin := SB d q 0 (lv_args 0 vs) [] h (.inr E) h' u hx hq p l e (headSpec (Cond.code (mY q) (mB q) (mL q) (mR q) :: gW) (aRm d u)).room s m (vs.map (cvA ad)).toArray below meth c (va_A (aW sh fk nC kA ad h) s.heap.size) ⟨hfl, B.exec, hb, hml, B.returns, hown, hg, B.notSynchronized, by unfold mHh; rw [hemp, hh]; rfl, hK, hN, hC, fun z h => Or.inr h⟩ s.heap [] _ 0 0 0 (fun e he => hq.2.2.2.2.2.2.2.1 e he) hP hD va_S.rf hl (Nat.le_refl _) (Nat.le_refl _) (Nat.le_of_eq (Nat.zero_add u)) (Nat.le_of_eq (Nat.zero_add (6 * u)))
  rw [Nat.zero_add, Nat.zero_add] at hfin
  exact hfin
/-! the ends of a method, and the throw of a new exception with ldc_w after something was written -/
variable {p : Program} {l : Launch} {e : Env} {R : Room} {s : State} {m : MethodId} {args : Array Value} {below : List Frame} {meth : Method} {c : Code} {H : Heap} {locs : List Loc} {cells slots : Nat} {Q : State → Prop}
variable {cc : ByteArray} {pc : Nat} {ls : Array Slot} {A : Nat → Prop}
theorem xt_newRw {S : Type} {E own tx : String} {ic ix ik q nL : Nat} {names : List String} {cl : List vw_C} {tys : List (ClassId × FieldType)} {post : S → Prop} {wf : S → va_W} {free : Addr → Prop} (hx : p.tables.exec = Jvm.exec) (hb : c.code = cc) (hfl : l.flags = flags0) (hown : s.vm.findClass own = some m.cls) (hfit : Bundle.fit E = true) (hnm : ∀ n ∈ names, Bundle.fit n = true)
    (hok : ∀ a ∈ Bundle.ownAtoms own ik E names, a ∈ gW ∨ a ∈ nW ∨ a ∈ sC) (hg : ∀ w ∈ gW, w.before args s = true) (hN : xN s) (hC : xC kS A s s.heap) (hcl : Cond.classLink own ic E ∈ gW) (hini : Cond.initialized E ∈ gW) (hstr : vk_R own ix tx q s) (hml : c.maxLocals = nL) (hls : ls.size = nL) (hemp : c.exceptionTable.toList = []) (hlocks : meth.locks = false)
    (hRf : names.length + 3 < R.frames) (hRl : 1 + (13 * (names.length + 1) + 42) ≤ R.locals) (hRc : cells + 1 ≤ R.cells) (hRs : slots + 6 ≤ R.slots)
    (d1 : decode cc pc = .ok (.new ic, 3)) (d2 : decode cc (pc + 3) = .ok (.dup, 1)) (d3 : decode cc (pc + 3 + 1) = .ok (.ldc_w ix, 3)) (d4 : decode cc (pc + 3 + 1 + 3) = .ok (.invokespecial ik, 3)) (d5 : decode cc (pc + 3 + 1 + 3 + 3) = .ok (.athrow, 1))
    (hK : va_K D cl tys s) (u : S) (hu : post u) (hP : va_P D cl (wf u) H) (hD : va_D A (wf u)) (hS : va_S A s.heap H locs) (hfr : ∀ q, A q → free q) :
    W p l e R s m args below meth c H locs cells slots (xt_MQ below (xt_Q E post (xB D cl tys wf A) A) args s (cells + 1) (slots + 6) free) (F0 m pc ls []) := by
  refine xr_throws (R2 := { frames := R.frames, cells := 1, slots := 6, locals := R.locals }) hS hfr (Nat.le_refl _) (Nat.le_refl _) hRc hRs (fun s2 h2 hW => ?_)
  have hg2 : ∀ w ∈ gW, w.before args s2 = true := fun w hw => word_at hW (gw_good hw) (hg w hw)
  have hC2 : xC kS A s2 s2.heap := by rw [h2]; exact (hC.kept hS.2.1).warm hW
  have hN2 := hN.warm hW
  refine xt_new1 (D := D) hx hb hfl (by rw [hW.alike.findClass]; exact hown) hfit hnm (fun a ha => ?_) (hg2 _ hcl) (hg2 _ hini) (hstr.warm hW) hml hls hemp hlocks hRf hRl (Nat.le_refl _) (Nat.le_refl _) d1 d2 d3 d4 d5 (va_K.moved hW.alike hK) u hu (by rw [h2]; exact hP) hD
  rcases hok a ha with h1 | h1 | h1
  · exact hg2 a h1
  · exact hN2.use h1
  · exact hC2.use h1
theorem aHd_lead {q : aMI} (hown : s.vm.findClass (mY q).cls = some m.cls) (hg : ∀ w ∈ gW, w.before args s = true) (hN : xN s) : ∀ (es : List ExceptionTableEntry) (hs : List (Nat × Nat × Nat × Nat × Nat × Nat)), es.map (fun h => (h.startPc, h.endPc, h.handlerPc, h.catchType)) = hs.map (fun z => (z.1, z.2.1, z.2.2.1, z.2.2.2.1)) → (∀ z ∈ hs, hF q z) → ∀ z, aHd hs pc = some z → xt_Leads p l e R s m args below meth c (eN 0) pc es z.2.2.1
  | [], [], _, _, z, h => by cases h
  | [], _ :: _, h, _, _, _ => by cases h
  | _ :: _, [], h, _, _, _ => by cases h
  | x :: es, y :: hs, h, hz, z, hf => by
    simp only [List.map_cons, List.cons.injEq, Prod.mk.injEq] at h
    obtain ⟨⟨h1, h2, h3, h4⟩, h5⟩ := h
    unfold aHd at hf
    rw [List.find?_cons] at hf
    obtain ⟨g1, g2, g3, -⟩ := hz y List.mem_cons_self
    cases hc : (decide (y.1 ≤ pc) && decide (pc < y.2.1)) with
    | true =>
      rw [hc] at hf
      cases hf
      have hcov : covers x pc = true := by simp only [covers, h1, h2]; exact hc
      have hl := xt_Leads.hit (R := R) (p := p) (l := l) (e := e) (below := below) (meth := meth) (c := c) (es := es) (E := eN 0) (name := eN 0) hown hcov (by rw [h4]; exact g1) (by rw [h4]; exact hg _ g2) (hN.use g3)
      rw [h3] at hl
      exact hl
    | false =>
      rw [hc] at hf
      have hcov : covers x pc = false := by simp only [covers, h1, h2]; exact hc
      exact xt_Leads.skip hcov (aHd_lead hown hg hN es hs h5 (fun w hw => hz w (List.mem_cons_of_mem _ hw)) z hf)
end ASim3
