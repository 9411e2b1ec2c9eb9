/-! A NEW EXCEPTION IS THROWN before anything was written: new, dup, ldc, invokespecial, athrow -/
section XtNew
variable {p : Program} {l : Launch} {e : Env} {R : Room} {s : State} {m : MethodId} {args : Array Value} {below : List Frame} {meth : Method} {c : Code} {H : Heap} {locs : List Loc} {cells slots : Nat} {Q : State → Prop}
variable {cc : ByteArray} {pc : Nat} {ls : Array Slot} {D : va_G} {cl : List vw_C} {A : Nat → Prop} {tys : List (ClassId × FieldType)}
theorem xt_new0 {S : Type} {E own tx : String} {ic ix ik q nL : Nat} {names : List String} {post : S → Prop} {wf : S → va_W} {free : Addr → Prop} (hx : p.tables.exec = Jvm.exec) (hb : c.code = cc) (hfl : l.flags = flags0) (hown : s.vm.findClass own = some m.cls) (hfit : Bundle.fit E = true) (hnm : ∀ n ∈ names, Bundle.fit n = true)
    (hat : ∀ a ∈ Bundle.ownAtoms own ik E names, a.before args s = true) (hcl : (Cond.classLink own ic E).before args s = true) (hini : (Cond.initialized E).before args s = true) (hstr : vk_R own ix tx q s) (hml : c.maxLocals = nL) (hls : ls.size = nL) (hemp : c.exceptionTable.toList = []) (hlocks : meth.locks = false)
    (hRf : names.length + 3 < R.frames) (hRl : 1 + (13 * (names.length + 1) + 42) ≤ R.locals) (hRc : 1 ≤ R.cells) (hRs : 6 ≤ R.slots)
    (d1 : decode cc pc = .ok (.new ic, 3)) (d2 : decode cc (pc + 3) = .ok (.dup, 1)) (d3 : decode cc (pc + 3 + 1) = .ok (.ldc ix, 2)) (d4 : decode cc (pc + 3 + 1 + 2) = .ok (.invokespecial ik, 3)) (d5 : decode cc (pc + 3 + 1 + 2 + 3) = .ok (.athrow, 1))
    (hK : va_K D cl tys s) (u : S) (hu : post u) (hP : va_P D cl (wf u) s.heap) (hD : va_D A (wf u)) :
    W p l e R s m args below meth c s.heap [] 0 0 (xt_MQ below (xt_Q E post (xB D cl tys wf A) A) args s 1 6 free) (F0 m pc ls []) := by
  obtain ⟨cC, kC0, hfc, -⟩ := Cond.instantiable_spec (hat (.instantiable E 6) (by simp [Bundle.ownAtoms]))
  refine W.newcK hx hb hown hcl (hat (.instantiable E 6) (by simp [Bundle.ownAtoms])) hini rfl d1 (by omega) (by omega) hfc rfl fun H1 kC hkC e1 z1 o1 => ?_
  refine W.eq (g2 := F0 m (pc + 3) ls [.ref s.heap.size]) rfl ?_
  refine W.widen (k := 1) (n := 6) (Nat.le_refl _) (Nat.le_refl _) ?_
  refine lv_dup hx hb d2 rfl ?_
  refine va_ldcS hx hb hown hstr d3 ?_
  intro T hT X
  have htr : e.platform.stackTraces = false := Launch.traces_off hfl X.admits
  obtain ⟨U, hsteps, hrun, hend, hW, hsame, ce, hce, K⟩ := X.ctorThrowS hx htr (own := own) (cls := E) (names := names) (ic := ik) hown hfit hnm hat (fun y hy => by cases hy)
    hfc hkC (a := s.heap.size) (by rw [hT]; exact e1) (Nat.le_refl _) (msg := .ref q) rfl
    (g := F0 m (pc + 3 + 1 + 2) ls [.ref q, .ref s.heap.size, .ref s.heap.size]) rfl (by rw [hml]; exact hls) rfl rfl (rest := []) rfl
    (by rw [hb]; exact d4) (by rw [hb]; exact d5) (by rw [hemp]; intro z hz; cases hz) hRf (by simpa [JFrame.monitorRoom, Value.category] using hRl) hlocks
  have hkeep : ∀ (a : Nat) (cell : Cell), s.heap[a]? = some cell → U.heap[a]? = some cell := fun a cell h => hsame.old_cell h
  refine ⟨U, hsteps, .threw s.heap.size, hrun, hend, ⟨⟨u, s.heap.size, rfl, hu, ⟨?_, va_K.moved hW.alike hK, hD⟩, ⟨ce, hce, by rw [hW.alike.findClass]; exact K.cls, by rw [K.vm]; rfl⟩⟩, hsame.2.1, fun a ha _ => ?_⟩, [], ⟨⟨_, rfl⟩, hW, hsame⟩, fun y hy => by cases hy⟩
  · refine hP.kept (fun k x hk => ?_)
    have hlt : x.1 < s.heap.size := (hP k x hk).lt
    have h1 : s.heap[x.1]? = some s.heap[x.1] := Array.getElem?_eq_getElem hlt
    rw [h1]
    exact hkeep _ _ h1
  · have h1 : s.heap[a]? = some s.heap[a] := Array.getElem?_eq_getElem ha
    rw [h1]
    exact hkeep _ _ h1
end XtNew
