/-! A START SET ANEW in the midst of a method: behind it the library's rows that speak of a method's first state can be used; the throw of a new exception after something was written -/
section XtRebase
variable {p : Program} {l : Launch} {e : Env} {R R2 : Room} {s : State} {m : MethodId} {args : Array Value} {below : List Frame} {meth : Method} {c : Code} {T : State} {H : Heap} {locs : List Loc} {cells slots : Nat} {Q : State → Prop}
theorem xr_stand (X : Stand p l e R s m args below meth c T locs cells slots) (hf : R2.frames ≤ R.frames) (hlo : R2.locals ≤ R.locals) (hc : cells + R2.cells ≤ R.cells) (hs : slots + R2.slots ≤ R.slots) :
    Stand p l e R2 (T.setFrames (.invoking m args :: below)) m args below meth c T [] 0 0 := by
  have hcur : T.cur < T.threads.size := State.cur_lt_of_top X.here.top
  have hF : (T.setFrames (.invoking m args :: below)).frames = .invoking m args :: below := State.frames_setFrames _ hcur
  have hm : T.vm.method? m = some meth := by rw [X.warmed.alike.method?]; exact X.method
  refine ⟨X.admits, X.cas, X.clock, hF, ?_, ?_, hm, X.code, X.here, X.tail, State.WarmedH.refl T, ?_, ?_, ?_⟩
  · obtain ⟨r1, r2, r3, r4⟩ := State.hasRoom_stack X.room
    have r5 := State.hasRoom_real X.room
    have h := X.room
    simp only [State.hasRoom, Bool.and_eq_true, decide_eq_true_eq] at h
    rw [State.localsInUse_invoking X.frames X.method X.code] at r3 r4 r5
    rw [X.frames, List.length_cons] at r1 r2
    have hU : (T.setFrames (.invoking m args :: below)).localsInUse = stackWeight below + vmFrameWords + (c.maxLocals + 11) := State.localsInUse_invoking hF (meth := meth) hm X.code
    simp only [State.hasRoom, Bool.and_eq_true, decide_eq_true_eq, hF, hU, List.length_cons, State.stackLimits_setFrames, State.stackBytes_setFrames, X.limits, X.bytes]
    refine ⟨⟨⟨⟨by omega, by omega, by omega, by omega, by omega, h.1.1.1.2.2.2.2.2⟩, ?_⟩, ?_⟩, X.book⟩
    · have h1 := h.1.1.2
      have h2 := X.heapSize
      show T.heap.size + R2.cells ≤ e.platform.maxCells
      omega
    · have h1 := h.1.2
      have h2 := X.used
      show T.slotsUsed + R2.slots ≤ e.platform.maxSlots
      omega
  · have h := X.hears
    have hv := X.warmed.alike
    show State.hears _ m below = true
    unfold State.hears at h ⊢
    cases below with
    | nil =>
      dsimp only at h ⊢
      rw [show (T.setFrames [.invoking m args]).vm = T.vm from rfl, hv.method?]; exact h
    | cons f r =>
      cases f with
      | java g =>
        have e9 : ∀ U : State, U.code? g.method = (U.vm.method? g.method).bind (·.code) := fun U => by
          unfold State.code? Vm.method?
          cases U.vm.classes[g.method.cls]? <;> rfl
        dsimp only at h ⊢
        rw [e9] at h ⊢
        rw [show (T.setFrames (.invoking m args :: .java g :: r)).vm = T.vm from rfl, hv.method?]; exact h
      | native _ => rfl
      | proc _ => rfl
      | _ =>
        dsimp only at h ⊢
        rw [show ∀ fs, (T.setFrames fs).vm = T.vm from fun _ => rfl, hv.method?]; exact h
  · rw [State.stackLimits_setFrames]
  · rw [State.stackBytes_setFrames]
  · refine ⟨?_, Nat.le_refl _, Nat.le_refl _, ?_, ?_, fun a c hc => ⟨c, hc, rfl, rfl, fun i _ => rfl⟩⟩
    · have h1 : T.setFrames T.frames = T := by
        obtain ⟨g0, hg0⟩ := Option.isSome_iff_exists.mp X.here.top
        obtain ⟨r, hr⟩ := State.topJava?_eq_some.mp hg0
        obtain ⟨t, ht, -⟩ := State.frames_cons hr
        exact State.setFrames_self ht
      show T = { ((T.setFrames (.invoking m args :: below)).setFrames T.frames) with heap := T.heap, slotsUsed := T.slotsUsed }
      rw [State.setFrames_setFrames, h1]
    · show T.slotsUsed = T.slotsUsed + ((T.heap.toList.drop T.heap.size).map (·.slots.size)).sum
      have : T.heap.toList.drop T.heap.size = [] := List.drop_eq_nil_of_le (by simp)
      rw [this]; rfl
    · show ((T.heap.toList.drop T.heap.size).map (·.slots.size)).sum ≤ 0
      have : T.heap.toList.drop T.heap.size = [] := List.drop_eq_nil_of_le (by simp)
      rw [this]; exact Nat.le_refl _
end XtRebase
section XtNewR
variable {p : Program} {l : Launch} {e : Env} {R R2 : Room} {s : State} {m : MethodId} {args : Array Value} {below : List Frame} {meth : Method} {c : Code} {T : State} {H : Heap} {locs : List Loc} {cells slots : Nat} {Q : State → Prop}
variable {cc : ByteArray} {pc : Nat} {ls : Array Slot} {st : List Value} {D : va_G} {cl : List vw_C} {A : Nat → Prop} {tys : List (ClassId × FieldType)}
/-- a start set anew before a road that throws -/
theorem xr_throws {S : Type} {E : String} {post : S → Prop} {B : S → State → Prop} {free : Addr → Prop} {mc ms : Nat} (hS : va_S A s.heap H locs) (hfr : ∀ q, A q → free q) (hf : R2.frames ≤ R.frames) (hlo : R2.locals ≤ R.locals) (hc : cells + R2.cells ≤ R.cells) (hs : slots + R2.slots ≤ R.slots)
    (kk : ∀ s2 : State, s2.heap = H → s.WarmedH s2.vm → W p l e R2 s2 m args below meth c s2.heap [] 0 0 (xt_MQ below (xt_Q E post B A) args s2 mc ms free) (F0 m pc ls st)) :
    W p l e R s m args below meth c H locs cells slots (xt_MQ below (xt_Q E post B A) args s (cells + mc) (slots + ms) free) (F0 m pc ls st) := by
  intro T hT X
  have X2 := xr_stand (R2 := R2) X hf hlo hc hs
  obtain ⟨t, a1, o, b1, b2, ⟨b3, b4⟩, L, ⟨b5, b6, b7⟩, b8⟩ := kk (T.setFrames (.invoking m args :: below)) hT X.warmed T rfl X2
  have hT' : (T.setFrames (.invoking m args :: below)).heap = H := hT
  refine ⟨t, a1, o, b1, b2, ⟨b3, Nat.le_trans hS.1 (by rw [← hT']; exact b4.1), fun q h1 h2 => ?_⟩, locs ++ L, ⟨b5, State.WarmedH.trans X.warmed b6, ?_⟩, fun q hq => ?_⟩
  · rw [b4.2 q (by rw [hT']; exact Nat.lt_of_lt_of_le h1 hS.1) h2, hT']
    exact hS.2.1 q h1 h2
  · have h9 : T.sameButNew ({ t with vm := T.vm } : State) L mc ms := by
      obtain ⟨q1, q2, q3, q4, q5, q6⟩ := b7
      refine ⟨?_, q2, q3, q4, q5, q6⟩
      refine Eq.trans q1 ?_
      rw [State.setFrames_setFrames]
      rfl
    exact X.same.trans (h9.setVm s.vm)
  · rcases List.mem_append.mp hq with h | h
    · exact hfr _ (hS.2.2 q h)
    · exact b8 q h
/-- new E(text) thrown after something was written -/
theorem xt_newR {S : Type} {E own tx : String} {ic ix ik q nL : Nat} {names : List String} {kS : Nat → Nat} {post : S → Prop} {wf : S → va_W} {free : Addr → Prop} (hx : p.tables.exec = Jvm.exec) (hb : c.code = cc) (hfl : l.flags = flags0) (hown : s.vm.findClass own = some m.cls) (hfit : Bundle.fit E = true) (hnm : ∀ n ∈ names, Bundle.fit n = true)
    (hok : ∀ a ∈ Bundle.ownAtoms own ik E names, a ∈ gW ∨ a ∈ nW ∨ a ∈ sC) (hg : ∀ w ∈ gW, w.before args s = true) (hN : xN s) (hC : xC kS A s s.heap) (hcl : Cond.classLink own ic E ∈ gW) (hini : Cond.initialized E ∈ gW) (hstr : vk_R own ix tx q s) (hml : c.maxLocals = nL) (hls : ls.size = nL) (hemp : c.exceptionTable.toList = []) (hlocks : meth.locks = false)
    (hRf : names.length + 3 < R.frames) (hRl : 1 + (13 * (names.length + 1) + 42) ≤ R.locals) (hRc : cells + 1 ≤ R.cells) (hRs : slots + 6 ≤ R.slots)
    (d1 : decode cc pc = .ok (.new ic, 3)) (d2 : decode cc (pc + 3) = .ok (.dup, 1)) (d3 : decode cc (pc + 3 + 1) = .ok (.ldc ix, 2)) (d4 : decode cc (pc + 3 + 1 + 2) = .ok (.invokespecial ik, 3)) (d5 : decode cc (pc + 3 + 1 + 2 + 3) = .ok (.athrow, 1))
    (hK : va_K D cl tys s) (u : S) (hu : post u) (hP : va_P D cl (wf u) H) (hD : va_D A (wf u)) (hS : va_S A s.heap H locs) (hfr : ∀ q, A q → free q) :
    W p l e R s m args below meth c H locs cells slots (xt_MQ below (xt_Q E post (xB D cl tys wf A) A) args s (cells + 1) (slots + 6) free) (F0 m pc ls []) := by
  refine xr_throws (R2 := { frames := R.frames, cells := 1, slots := 6, locals := R.locals }) hS hfr (Nat.le_refl _) (Nat.le_refl _) hRc hRs (fun s2 h2 hW => ?_)
  have hg2 : ∀ w ∈ gW, w.before args s2 = true := fun w hw => word_at hW (gw_good hw) (hg w hw)
  have hC2 : xC kS A s2 s2.heap := by rw [h2]; exact (hC.kept hS.2.1).warm hW
  have hN2 := hN.warm hW
  refine xt_new0 (D := D) hx hb hfl (by rw [hW.alike.findClass]; exact hown) hfit hnm (fun a ha => ?_) (hg2 _ hcl) (hg2 _ hini) (hstr.warm hW) hml hls hemp hlocks hRf hRl (Nat.le_refl _) (Nat.le_refl _) d1 d2 d3 d4 d5 (va_K.moved hW.alike hK) u hu (by rw [h2]; exact hP) hD
  rcases hok a ha with h1 | h1 | h1
  · exact hg2 a h1
  · exact hN2.use h1
  · exact hC2.use h1
end XtNewR
