/-! what the machine does on its world, the JVM does -/
theorem a2_at {α : Type} (f : Nat → Nat → α) (k i : Nat) (v : α) : a2 f k i v k = fun i' => if i' = i then v else f k i' := if_pos rfl
theorem a2_ne {α : Type} {f : Nat → Nat → α} {k i j : Nat} {v : α} (h : j ≠ k) : a2 f k i v j = f j := if_neg h
theorem a2_upd (f : Nat → Nat → Int32) (k i : Nat) (v : Int32) : a2 f k i v k = upd (f k) i v := a2_at f k i v
theorem a2_updL (f : Nat → Nat → Int64) (k i : Nat) (v : Int64) : a2 f k i v k = vp_updL (f k) i v := a2_at f k i v
theorem aFs_get (ad : Nat → Nat) (h : aH) (k : Nat) : ∀ (ks : List Nat) (i f : Nat), (aFs ad h k i ks)[f]? = (ks[f]?).map (fun kd => cvA ad (aGet h k (i + f) kd))
  | [], _, _ => rfl
  | kd :: ks, i, 0 => rfl
  | kd :: ks, i, f + 1 => by
    show (aFs ad h k (i + 1) ks)[f]? = (ks[f]?).map (fun kd => cvA ad (aGet h k (i + (f + 1)) kd))
    rw [aFs_get ad h k ks (i + 1) f, show i + 1 + f = i + (f + 1) by omega]
theorem aFs_len (ad : Nat → Nat) (h : aH) (k : Nat) : ∀ (ks : List Nat) (i : Nat), (aFs ad h k i ks).length = ks.length
  | [], _ => rfl
  | kd :: ks, i => by show (aFs ad h k (i + 1) ks).length + 1 = ks.length + 1; rw [aFs_len ad h k ks (i + 1)]
/-- what a field's kind says of its value -/
theorem aPut_get {h h' : aH} {k f kd : Nat} {v : Value} (hp : aPut h k f kd v = some h') : aGet h' k f kd = v ∧ (∀ g kd', g ≠ f → aGet h' k g kd' = aGet h k g kd') ∧ (∀ j, j ≠ k → h'.1 j = h.1 j ∧ h'.2.1 j = h.2.1 j ∧ h'.2.2 j = h.2.2 j) := by
  unfold aPut at hp
  split at hp
  · cases hp
    refine ⟨by simp [aGet, a2], fun g kd' hg => ?_, fun j hj => ⟨a2_ne hj, rfl, rfl⟩⟩
    unfold aGet; split <;> simp [a2, hg]
  · cases hp
    refine ⟨by simp [aGet, a2], fun g kd' hg => ?_, fun j hj => ⟨rfl, a2_ne hj, rfl⟩⟩
    unfold aGet; split <;> simp [a2, hg]
  · cases hp
    refine ⟨by simp [aGet, a2], fun g kd' hg => ?_, fun j hj => ⟨rfl, rfl, a2_ne hj⟩⟩
    unfold aGet; split <;> simp [a2, hg]
  · split at hp
    · cases hp
      refine ⟨by simp [aGet, a2], fun g kd' hg => ?_, fun j hj => ⟨a2_ne hj, rfl, rfl⟩⟩
      unfold aGet; split <;> simp [a2, hg]
    · cases hp
  · cases hp
theorem aCell_ne {sh : aSh} {fk : aFk} {kA : Nat → ClassId} {ad : Nat → Nat} {h h' : aH} {j : Nat} (h1 : h'.1 j = h.1 j) (h2 : h'.2.1 j = h.2.1 j) (h3 : h'.2.2 j = h.2.2 j) : aCell sh fk kA ad h' j = aCell sh fk kA ad h j := by
  have hg : ∀ i kd, aGet h' j i kd = aGet h j i kd := fun i kd => by unfold aGet; split <;> simp [h1, h2, h3]
  have hf : ∀ (ks : List Nat) (i : Nat), aFs ad h' j i ks = aFs ad h j i ks := by
    intro ks
    induction ks with
    | nil => intro i; rfl
    | cons kd ks ih => intro i; show cvA ad (aGet h' j i kd) :: aFs ad h' j (i + 1) ks = _; rw [hg, ih]; rfl
  unfold aCell
  split
  · rw [h1, h2]
  · rw [hf]
  · rfl
section ASim1
variable {sh : aSh} {fk : aFk} {nC : Nat} {kA : Nat → ClassId} {ad : Nat → Nat}
theorem aW_get {h : aH} {k : Nat} (hk : k < nC) : (aW sh fk nC kA ad h)[k]? = some (ad k, aCell sh fk kA ad h k) := by
  unfold aW
  rw [List.getElem?_map, List.getElem?_range hk]
  rfl
theorem aW_set {h h' : aH} {k : Nat} {c : va_E} (hk : k < nC) (hc : aCell sh fk kA ad h' k = c) (hj : ∀ j, j ≠ k → aCell sh fk kA ad h' j = aCell sh fk kA ad h j) : (aW sh fk nC kA ad h).set k (ad k, c) = aW sh fk nC kA ad h' := by
  apply List.ext_getElem?
  intro j
  rw [List.getElem?_set]
  by_cases hjk : k = j
  · subst hjk
    rw [if_pos rfl, if_pos (by unfold aW; simpa using hk), aW_get hk, hc]
  · rw [if_neg hjk]
    unfold aW
    rw [List.getElem?_map, List.getElem?_map]
    cases h1 : (List.range nC)[j]? with
    | none => rfl
    | some j' =>
      have : j' = j := by
        have h2 := List.getElem?_eq_some_iff.mp h1
        obtain ⟨h3, h4⟩ := h2
        simpa using h4.symm
      subst this
      show some (ad j', _) = some (ad j', _)
      rw [hj j' (fun e => hjk e.symm)]
def kdOf (d : String) : Nat := if d = "I" then 0 else if d = "J" then 1 else if d = "Z" then 3 else 2
def isRefD (d : String) : Bool := match parseFieldDescriptor d with
  | some (.object _) => true
  | some (.array _) => true
  | _ => false
theorem isRefD_ok {d : String} {ty : FieldType} (h : isRefD d = true) (hp : parseFieldDescriptor d = some ty) (a : Nat) : narrow ty (.ref a) = .ref a ∧ fits ty (.ref a) = true := by
  unfold isRefD at h
  rw [hp] at h
  cases ty <;> first | (cases h; done) | exact ⟨rfl, rfl⟩
/-- what an instruction names, as the tables have it -/
def eF (sh : aSh) (fk : aFk) (own : String) (ins : Instr) (x y : Nat) : Prop := match ins with
  | .getfield i => ∃ q : vw_C, vC[x]? = some q ∧ y < q.2.2 ∧ (q.2.1 y).1 = q.1 ∧ (Cond.fieldLink own i q.1 (q.2.1 y).2.1 (q.2.1 y).2.2.1 ∈ gW ∨ ∃ host, Cond.fieldLinkNest own i q.1 (q.2.1 y).2.1 (q.2.1 y).2.2.1 host ∈ nW)
  | .putfield i => ∃ q : vw_C, vC[x]? = some q ∧ y < q.2.2 ∧ (q.2.1 y).1 = q.1 ∧ Cond.fieldLink own i q.1 (q.2.1 y).2.1 (q.2.1 y).2.2.1 ∈ gW ∧ (q.2.1 y).2.2.2 = false ∧ (fk x)[y]? = some (kdOf (q.2.1 y).2.2.1) ∧ (kdOf (q.2.1 y).2.2.1 = 2 → isRefD (q.2.1 y).2.2.1 = true)
  | .ldc i => (y = 1 ∧ Cond.constant own i (Int32.ofNat x) ∈ gW) ∨ (y = 3 ∧ ∃ tx, sW[x]? = some (own, i, tx))
  | .ldc_w i => (y = 1 ∧ Cond.constant own i (Int32.ofNat x) ∈ gW) ∨ (y = 3 ∧ ∃ tx, sW[x]? = some (own, i, tx))
  | .ldc2_w i => y = 2 ∧ Cond.constantLong own i (Int64.ofNat x) ∈ gW
  | _ => True
/-- what is known of each class of the world -/
def clF : Prop := ∀ (ci : Nat) (q : vw_C), vC[ci]? = some q → (∀ w ∈ u_ws q.1 q.2.1 q.2.2, w ∈ gW) ∧ ∃ ty0 : Nat → FieldType, (∀ k, k < q.2.2 → parseFieldDescriptor (q.2.1 k).2.2.1 = some (ty0 k)) ∧ (∀ a, a < q.2.2 → ∀ b, b < q.2.2 → a ≠ b → (q.2.1 a).2.1 ≠ (q.2.1 b).2.1)
variable {p : Program} {l : Launch} {e : Env} {R : Room} {s : State} {m : MethodId} {args : Array Value} {below : List Frame} {meth : Method} {c : Code} {H : Heap} {locs : List Loc} {cells slots : Nat} {Q : State → Prop}
variable {cc : ByteArray} {pc : Nat} {ls : Array Slot} {rest : List Value} {D : va_G} {kS : Nat → Nat} {A : Nat → Prop}
theorem xa_len {h : aH} {k9 t9 n9 : Nat} (hx : p.tables.exec = Jvm.exec) (hb : c.code = cc) (hK : va_K D vC (tK kA) s) (hP : va_P D vC (aW sh fk nC kA ad h) H) (hkn : k9 < nC) (hk9 : sh k9 = some (.inl (t9, n9))) (ht9 : t9 < 4) (hd : decode cc pc = .ok (.arraylength, 1))
    (kk : W p l e R s m args below meth c H locs cells slots Q (F0 m (pc + 1) ls (.int (Int32.ofNat n9) :: rest))) : W p l e R s m args below meth c H locs cells slots Q (F0 m pc ls (.ref (ad k9) :: rest)) := by
  have hcell : (aW sh fk nC kA ad h)[k9]? = some (ad k9, .inl (kA t9, n9, if t9 = 2 then .inr (.inl (h.2.1 k9)) else .inl (h.1 k9))) := by rw [aW_get hkn]; unfold aCell; rw [hk9]
  rcases (show t9 = 0 ∨ t9 = 1 ∨ t9 = 2 ∨ t9 = 3 by omega) with rfl | rfl | rfl | rfl
  · exact va_alen hx hb hK hP k9 0 hcell rfl rfl hd kk
  · exact va_alen hx hb hK hP k9 1 hcell rfl rfl hd kk
  · exact va_alen hx hb hK hP k9 2 hcell rfl rfl hd kk
  · exact va_alen hx hb hK hP k9 3 hcell rfl rfl hd kk
set_option maxHeartbeats 8000000 in
set_option maxRecDepth 100000 in
theorem sim1 {own : String} {ins : Instr} {len x y nL tgt : Nat} {L L' : List (Nat × Value)} {st st' : List Value} {h h' : aH} {b : Bool}
    (hcl : clF) (hsh : ∀ k z, sh k = some z → k < nC) (hst : ∀ j, ad (1000 + j) = kS j)
    (hx : p.tables.exec = Jvm.exec) (hb : c.code = cc) (hown : s.vm.findClass own = some m.cls) (hg : ∀ w ∈ gW, w.before args s = true) (hK : va_K D vC (tK kA) s) (hN : xN s) (hC : xC kS A s s.heap)
    (hP : va_P D vC (aW sh fk nC kA ad h) H) (hD : va_D A (aW sh fk nC kA ad h)) (hS : va_S A s.heap H locs)
    (hd : decode cc pc = .ok (ins, len)) (hf : eF sh fk own ins x y) (hl : lv_has ls nL (cvL ad L))
    (ht : ∀ off : Int, (ins = .goto off ∨ (∃ q, ins = .if_icmp q off) ∨ ∃ q, ins = .ifCond q off) → (pc : Int) + off = (tgt : Int)) (hs : aS1 sh fk ins len x y nL L st h = some (b, L', st', h'))
    (kk : ∀ (H : Heap) (locs : List Loc) (ls : Array Slot), va_P D vC (aW sh fk nC kA ad h') H → va_D A (aW sh fk nC kA ad h') → va_S A s.heap H locs → lv_has ls nL (cvL ad L') → W p l e R s m args below meth c H locs cells slots Q (F0 m (if b then tgt else pc + len) ls (st'.map (cvA ad)))) :
    W p l e R s m args below meth c H locs cells slots Q (F0 m pc ls (st.map (cvA ad))) := by
  have simple : ∀ (L' : List (Nat × Value)) (st' : List Value), aS0 ins len nL L st = some (b, L', st') → (∀ ls : Array Slot, lv_has ls nL (cvL ad L') → W p l e R s m args below meth c H locs cells slots Q (F0 m (if b then tgt else pc + len) ls (st'.map (cvA ad)))) → W p l e R s m args below meth c H locs cells slots Q (F0 m pc ls (st.map (cvA ad))) := fun L' st' h1 h2 => sim0 hx hb hd hl ht h1 h2
  have old : (match aS0 ins len nL L st with | some (b, L', st') => some (b, L', st', h) | none => none) = some (b, L', st', h') → W p l e R s m args below meth c H locs cells slots Q (F0 m pc ls (st.map (cvA ad))) := fun hs => by
    split at hs
    · rename_i q9 b9 L9 st9 h9
      cases hs
      exact simple L' st' h9 (fun ls hl => kk H locs ls hP hD hS hl)
    · cases hs
  cases ins with
  | getfield i =>
    simp only [aS1] at hs
    split at hs
    · rename_i hlen
      subst hlen
      split at hs
      · split at hs
        · split at hs
          · split at hs
            · rename_i k9 r9 q9 ci hk9 hci q8 kd hkd
              cases hs
              subst hci
              obtain ⟨q, hq, hy, hdc, hlk⟩ := hf
              obtain ⟨hin, -⟩ := hcl _ q hq
              have hkn := hsh _ _ hk9
              have hcell : (aW sh fk nC kA ad h)[k9]? = some (ad k9, .inr (ci, aFs ad h k9 0 (fk ci))) := by rw [aW_get hkn]; unfold aCell; rw [hk9]
              have hv : (aFs ad h k9 0 (fk ci))[y]? = some (cvA ad (aGet h k9 y kd)) := by rw [aFs_get, hkd, Nat.zero_add]; rfl
              rcases hlk with hlk | ⟨host, hlk⟩
              · exact va_get (D := D) (ref := q.1) hx hb hg hin hown hK hP k9 hcell hq y hy (hg _ hlk) (by rw [hdc]; exact fun _ h => h) hv hd (kk H locs ls hP hD hS hl)
              · exact va_getN (D := D) (ref := q.1) hx hb hg hin hown hK hP k9 hcell hq y hy (hN.use hlk) (by rw [hdc]; exact fun _ h => h) hv hd (kk H locs ls hP hD hS hl)
            · cases hs
          · cases hs
        · cases hs
      · cases hs
    · cases hs
  | putfield i =>
    simp only [aS1] at hs
    split at hs
    · rename_i hlen
      subst hlen
      split at hs
      · split at hs
        · split at hs
          · split at hs
            · split at hs
              · rename_i v9 k9 r9 q9 ci hk9 hci q8 kd hkd q7 hh hp9
                cases hs
                subst hci
                obtain ⟨q, hq, hy, hdc, hlk, hfin, hkq, hrd⟩ := hf
                obtain ⟨hin, ty0, hty, hnm⟩ := hcl _ q hq
                have hkn := hsh _ _ hk9
                have hkd2 : kd = kdOf (q.2.1 y).2.2.1 := Option.some.inj (hkd.symm.trans hkq)
                have hcell : (aW sh fk nC kA ad h)[k9]? = some (ad k9, .inr (ci, aFs ad h k9 0 (fk ci))) := by rw [aW_get hkn]; unfold aCell; rw [hk9]
                obtain ⟨g1, g2, g3⟩ := aPut_get hp9
                have hfs : (aFs ad h k9 0 (fk ci)).set y (cvA ad v9) = aFs ad h' k9 0 (fk ci) := by
                  apply List.ext_getElem?
                  intro j
                  rw [List.getElem?_set, aFs_len]
                  by_cases hjy : y = j
                  · subst hjy
                    rw [if_pos rfl, if_pos (List.getElem?_eq_some_iff.mp hkd).1, aFs_get, hkd, Nat.zero_add]
                    show _ = some (cvA ad (aGet h' k9 y kd))
                    rw [g1]
                  · rw [if_neg hjy, aFs_get, aFs_get, Nat.zero_add]
                    congr 1
                    funext kd'
                    rw [g2 j kd' (fun e => hjy e.symm)]
                have hw : (aW sh fk nC kA ad h).set k9 (ad k9, .inr (ci, (aFs ad h k9 0 (fk ci)).set y (cvA ad v9))) = aW sh fk nC kA ad h' := by
                  refine aW_set hkn ?_ (fun j hj => aCell_ne (g3 j hj).1 (g3 j hj).2.1 (g3 j hj).2.2)
                  rw [hfs]
                  unfold aCell
                  rw [hk9]
                have key : ∀ ty, parseFieldDescriptor (q.2.1 y).2.2.1 = some ty → narrow ty (cvA ad v9) = cvA ad v9 ∧ fits ty (cvA ad v9) = true := by
                  intro ty hpt
                  unfold aPut at hp9
                  split at hp9
                  · have e1 : (q.2.1 y).2.2.1 = "I" := by
                      unfold kdOf at hkd2
                      split at hkd2
                      · assumption
                      · split at hkd2
                        · cases hkd2
                        · split at hkd2 <;> cases hkd2
                    rw [e1, show parseFieldDescriptor "I" = some .int from by decide +kernel] at hpt
                    cases hpt
                    exact ⟨rfl, rfl⟩
                  · have e1 : (q.2.1 y).2.2.1 = "J" := by
                      unfold kdOf at hkd2
                      split at hkd2
                      · cases hkd2
                      · split at hkd2
                        · assumption
                        · split at hkd2 <;> cases hkd2
                    rw [e1, show parseFieldDescriptor "J" = some .long from by decide +kernel] at hpt
                    cases hpt
                    exact ⟨rfl, rfl⟩
                  · exact isRefD_ok (hrd hkd2.symm) hpt _
                  · have e1 : (q.2.1 y).2.2.1 = "Z" := by
                      unfold kdOf at hkd2
                      split at hkd2
                      · cases hkd2
                      · split at hkd2
                        · cases hkd2
                        · split at hkd2
                          · assumption
                          · cases hkd2
                    rw [e1, show parseFieldDescriptor "Z" = some .boolean from by decide +kernel] at hpt
                    cases hpt
                    split at hp9
                    · rename_i h01
                      rcases h01 with rfl | rfl
                      · exact ⟨show narrow .boolean (.int 0) = .int 0 by decide, show fits .boolean (.int 0) = true by decide⟩
                      · exact ⟨show narrow .boolean (.int 1) = .int 1 by decide, show fits .boolean (.int 1) = true by decide⟩
                    · cases hp9
                  · cases hp9
                obtain ⟨n1, n2⟩ := key (ty0 y) (hty y hy)
                refine va_put (D := D) (ref := q.1) hx hb hg hin ty0 hty hnm hown hK hP hD hS k9 hcell hq y hy (hg _ hlk) (by rw [hdc]; exact fun _ h => h) hfin (hty y hy) n1 n2 (by rw [aFs_len]; exact (List.getElem?_eq_some_iff.mp hkd).1) hd (fun H1 locs1 hP1 hD1 hS1 => ?_)
                rw [hw] at hP1 hD1
                exact kk H1 locs1 ls hP1 hD1 hS1 hl
              · cases hs
            · cases hs
          · cases hs
        · cases hs
      · cases hs
    · cases hs
  | iaload =>
    simp only [aS1] at hs
    split at hs
    · rename_i hlen
      subst hlen
      split at hs
      · split at hs
        · split at hs
          · rename_i i9 k9 r9 q9 n9 hk9 hin9
            cases hs
            have hkn := hsh _ _ hk9
            have hcell : (aW sh fk nC kA ad h)[k9]? = some (ad k9, .inl (kA 1, n9, .inl (h.1 k9))) := by rw [aW_get hkn]; unfold aCell; rw [hk9]; rfl
            exact va_iald hx hb hK hP k9 1 hcell rfl (fun h9 => h9.elim (fun z => hin9.1 z) (fun z => absurd hin9.2 (Nat.not_lt.mpr z))) hd (kk H locs ls hP hD hS hl)
          · cases hs
        · cases hs
      · cases hs
    · cases hs
  | baload =>
    simp only [aS1] at hs
    split at hs
    · rename_i hlen
      subst hlen
      split at hs
      · split at hs
        · split at hs
          · rename_i i9 k9 r9 q9 n9 hk9 hin9
            cases hs
            have hkn := hsh _ _ hk9
            have hcell : (aW sh fk nC kA ad h)[k9]? = some (ad k9, .inl (kA 0, n9, .inl (h.1 k9))) := by rw [aW_get hkn]; unfold aCell; rw [hk9]; rfl
            exact va_bald hx hb hK hP k9 0 hcell rfl (fun h9 => h9.elim (fun z => hin9.1 z) (fun z => absurd hin9.2 (Nat.not_lt.mpr z))) hd (kk H locs ls hP hD hS hl)
          · cases hs
        · split at hs
          · rename_i i9 k9 r9 q9 n9 hk9 hin9
            cases hs
            have hkn := hsh _ _ hk9
            have hcell : (aW sh fk nC kA ad h)[k9]? = some (ad k9, .inl (kA 3, n9, .inl (h.1 k9))) := by rw [aW_get hkn]; unfold aCell; rw [hk9]; rfl
            exact va_zald hx hb hK hP k9 3 hcell rfl (fun h9 => h9.elim (fun z => hin9.1 z) (fun z => absurd hin9.2 (Nat.not_lt.mpr z))) hd (kk H locs ls hP hD hS hl)
          · cases hs
        · cases hs
      · cases hs
    · cases hs
  | laload =>
    simp only [aS1] at hs
    split at hs
    · rename_i hlen
      subst hlen
      split at hs
      · split at hs
        · split at hs
          · rename_i i9 k9 r9 q9 n9 hk9 hin9
            cases hs
            have hkn := hsh _ _ hk9
            have hcell : (aW sh fk nC kA ad h)[k9]? = some (ad k9, .inl (kA 2, n9, .inr (.inl (h.2.1 k9)))) := by rw [aW_get hkn]; unfold aCell; rw [hk9]; rfl
            exact va_lald hx hb hK hP k9 2 hcell rfl (fun h9 => h9.elim (fun z => hin9.1 z) (fun z => absurd hin9.2 (Nat.not_lt.mpr z))) hd (kk H locs ls hP hD hS hl)
          · cases hs
        · cases hs
      · cases hs
    · cases hs
  | iastore =>
    simp only [aS1] at hs
    split at hs
    · rename_i hlen
      subst hlen
      split at hs
      · split at hs
        · split at hs
          · rename_i v9 i9 k9 r9 q9 n9 hk9 hin9
            cases hs
            have hkn := hsh _ _ hk9
            have hcell : (aW sh fk nC kA ad h)[k9]? = some (ad k9, .inl (kA 1, n9, .inl (h.1 k9))) := by rw [aW_get hkn]; unfold aCell; rw [hk9]; rfl
            refine va_iast hx hb hK hP hD hS k9 1 hcell rfl (fun h9 => h9.elim (fun z => hin9.1 z) (fun z => absurd hin9.2 (Nat.not_lt.mpr z))) hd (fun H1 locs1 hP1 hD1 hS1 => ?_)
            rw [aW_set (h' := (a2 h.1 k9 i9.toNatClampNeg v9, h.2.1, h.2.2)) hkn (by unfold aCell; rw [hk9]; exact congrArg (fun z => Sum.inl (kA 1, n9, Sum.inl z)) (a2_upd _ _ _ _)) (fun j hj => aCell_ne (a2_ne hj) rfl rfl)] at hP1 hD1
            exact kk H1 locs1 ls hP1 hD1 hS1 hl
          · cases hs
        · cases hs
      · cases hs
    · cases hs
  | bastore =>
    simp only [aS1] at hs
    split at hs
    · rename_i hlen
      subst hlen
      split at hs
      · split at hs
        · split at hs
          · rename_i v9 i9 k9 r9 q9 n9 hk9 hin9
            cases hs
            have hkn := hsh _ _ hk9
            have hcell : (aW sh fk nC kA ad h)[k9]? = some (ad k9, .inl (kA 0, n9, .inl (h.1 k9))) := by rw [aW_get hkn]; unfold aCell; rw [hk9]; rfl
            refine va_bast hx hb hK hP hD hS k9 0 hcell rfl (fun h9 => h9.elim (fun z => hin9.1 z) (fun z => absurd hin9.2 (Nat.not_lt.mpr z))) hd (fun H1 locs1 hP1 hD1 hS1 => ?_)
            rw [aW_set (h' := (a2 h.1 k9 i9.toNatClampNeg (vp_nar .byte v9), h.2.1, h.2.2)) hkn (by unfold aCell; rw [hk9]; exact congrArg (fun z => Sum.inl (kA 0, n9, Sum.inl z)) (a2_upd _ _ _ _)) (fun j hj => aCell_ne (a2_ne hj) rfl rfl)] at hP1 hD1
            exact kk H1 locs1 ls hP1 hD1 hS1 hl
          · cases hs
        · split at hs
          · rename_i v9 i9 k9 r9 q9 n9 hk9 hin9
            cases hs
            have hkn := hsh _ _ hk9
            have hcell : (aW sh fk nC kA ad h)[k9]? = some (ad k9, .inl (kA 3, n9, .inl (h.1 k9))) := by rw [aW_get hkn]; unfold aCell; rw [hk9]; rfl
            refine va_zast hx hb hK hP hD hS k9 3 hcell rfl (fun h9 => h9.elim (fun z => hin9.1 z) (fun z => absurd hin9.2 (Nat.not_lt.mpr z))) hd (fun H1 locs1 hP1 hD1 hS1 => ?_)
            rw [aW_set (h' := (a2 h.1 k9 i9.toNatClampNeg (vp_nar .boolean v9), h.2.1, h.2.2)) hkn (by unfold aCell; rw [hk9]; exact congrArg (fun z => Sum.inl (kA 3, n9, Sum.inl z)) (a2_upd _ _ _ _)) (fun j hj => aCell_ne (a2_ne hj) rfl rfl)] at hP1 hD1
            exact kk H1 locs1 ls hP1 hD1 hS1 hl
          · cases hs
        · cases hs
      · cases hs
    · cases hs
  | lastore =>
    simp only [aS1] at hs
    split at hs
    · rename_i hlen
      subst hlen
      split at hs
      · split at hs
        · split at hs
          · rename_i v9 i9 k9 r9 q9 n9 hk9 hin9
            cases hs
            have hkn := hsh _ _ hk9
            have hcell : (aW sh fk nC kA ad h)[k9]? = some (ad k9, .inl (kA 2, n9, .inr (.inl (h.2.1 k9)))) := by rw [aW_get hkn]; unfold aCell; rw [hk9]; rfl
            refine va_last hx hb hK hP hD hS k9 2 hcell rfl (fun h9 => h9.elim (fun z => hin9.1 z) (fun z => absurd hin9.2 (Nat.not_lt.mpr z))) hd (fun H1 locs1 hP1 hD1 hS1 => ?_)
            rw [aW_set (h := h) (h' := (h.1, a2 h.2.1 k9 i9.toNatClampNeg v9, h.2.2)) hkn (by unfold aCell; rw [hk9]; exact congrArg (fun z => Sum.inl (kA 2, n9, Sum.inr (Sum.inl z))) (a2_updL _ _ _ _)) (fun j hj => aCell_ne rfl (a2_ne hj) rfl)] at hP1 hD1
            exact kk H1 locs1 ls hP1 hD1 hS1 hl
          · cases hs
        · cases hs
      · cases hs
    · cases hs
  | arraylength =>
    simp only [aS1] at hs
    split at hs
    · rename_i hlen
      subst hlen
      split at hs
      · split at hs
        · split at hs
          · rename_i k9 r9 q9 t9 n9 hk9 ht9
            cases hs
            have hkn := hsh _ _ hk9
            exact xa_len hx hb hK hP hkn hk9 ht9 hd (kk H locs ls hP hD hS hl)
          · cases hs
        · cases hs
      · cases hs
    · cases hs
  | ldc i =>
    simp only [aS1] at hs
    split at hs
    · rename_i hlen
      subst hlen
      split at hs
      · rename_i q9 v9 hv9
        cases hs
        rcases hf with ⟨rfl, hw⟩ | ⟨rfl, tx, hw⟩
        · cases hv9
          exact lv_ldc hx hb hown (hg _ hw) hd (kk H locs ls hP hD hS hl)
        · cases hv9
          have hz := kk H locs ls hP hD hS hl
          exact va_ldcS hx hb hown (by have h9 := hC.2.2 x _ hw; rw [← hst x] at h9; exact h9) hd hz
      · cases hs
    · cases hs
  | ldc_w i =>
    simp only [aS1] at hs
    split at hs
    · rename_i hlen
      subst hlen
      split at hs
      · rename_i q9 v9 hv9
        cases hs
        rcases hf with ⟨rfl, hw⟩ | ⟨rfl, tx, hw⟩
        · cases hv9
          exact lv_ldcw hx hb hown (hg _ hw) hd (kk H locs ls hP hD hS hl)
        · cases hv9
          have hz := kk H locs ls hP hD hS hl
          exact xt_ldcwS hx hb hown (by have h9 := hC.2.2 x _ hw; rw [← hst x] at h9; exact h9) hd hz
      · cases hs
    · cases hs
  | ldc2_w i =>
    simp only [aS1] at hs
    split at hs
    · rename_i hlen
      subst hlen
      split at hs
      · rename_i q9 v9 hv9
        cases hs
        obtain ⟨rfl, hw⟩ := hf
        cases hv9
        exact lv_ldc2 hx hb hown (hg _ hw) hd (kk H locs ls hP hD hS hl)
      · cases hs
    · cases hs
  | _ => exact old hs
end ASim1
