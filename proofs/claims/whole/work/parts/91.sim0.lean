/-! what the machine does in a simple step, the JVM does -/
def cvA (ad : Nat → Nat) : Value → Value
  | .ref k => .ref (ad k)
  | v => v
def cvL (ad : Nat → Nat) (L : List (Nat × Value)) : List (Nat × Value) := L.map (fun q => (q.1, cvA ad q.2))
theorem cvA_cat (ad : Nat → Nat) (v : Value) : (cvA ad v).category = v.category := by cases v <;> rfl
theorem aLk_mem {L : List (Nat × Value)} {i : Nat} {v : Value} (h : aLk L i = some v) : (i, v) ∈ L := by
  unfold aLk at h
  cases hf : L.find? (fun q => q.1 == i) with
  | none => rw [hf] at h; cases h
  | some q =>
    rw [hf] at h
    have h1 := List.find?_some hf
    have h2 := List.mem_of_find?_eq_some hf
    simp only [Option.map_some, Option.some.injEq] at h
    have h3 : q.1 = i := by simpa using h1
    rw [← h, ← h3]
    exact h2
theorem aLk_at {ad : Nat → Nat} {ls : Array Slot} {nL : Nat} {L : List (Nat × Value)} {i : Nat} {v : Value} (hl : lv_has ls nL (cvL ad L)) (h : aLk L i = some v) : ls[i]? = some (.val (cvA ad v)) :=
  hl.2.2 (i, cvA ad v) (List.mem_map.mpr ⟨(i, v), aLk_mem h, rfl⟩)
theorem aLk_ix {ad : Nat → Nat} {L : List (Nat × Value)} {i : Nat} {v : Value} (h : aLk L i = some v) : ∃ k : Nat, (cvL ad L)[k]? = some (i, cvA ad v) := by
  have h1 : (i, cvA ad v) ∈ cvL ad L := List.mem_map.mpr ⟨(i, v), aLk_mem h, rfl⟩
  obtain ⟨k, hk, e⟩ := List.getElem_of_mem h1
  exact ⟨k, by rw [List.getElem?_eq_getElem hk, e]⟩
theorem aSt1_map (ad : Nat → Nat) (L : List (Nat × Value)) (i : Nat) (v : Value) : cvL ad (aSt1 L i v) = (i, cvA ad v) :: (cvL ad L).filter (fun q => !(q.1 == i) && !(q.1 + 1 == i && q.2.category == 2)) := by
  unfold aSt1 cvL
  rw [List.map_cons, List.filter_map]
  simp only [Function.comp_def, cvA_cat]
theorem aSt2_map (ad : Nat → Nat) (L : List (Nat × Value)) (i : Nat) (v : Value) : cvL ad (aSt2 L i v) = (i, cvA ad v) :: (cvL ad L).filter (fun q => !(q.1 == i) && (!(q.1 == i + 1) && !(q.1 + 1 == i && q.2.category == 2))) := by
  unfold aSt2 cvL
  rw [List.map_cons, List.filter_map]
  simp only [Function.comp_def, cvA_cat]
section ASim0
variable {p : Program} {l : Launch} {e : Env} {R : Room} {s : State} {m : MethodId} {args : Array Value} {below : List Frame} {meth : Method} {c : Code} {H : Heap} {locs : List Loc} {cells slots : Nat} {Q : State → Prop}
variable {cc : ByteArray} {pc : Nat} {ls : Array Slot} {rest : List Value}
theorem xl_lcmp (hx : p.tables.exec = Jvm.exec) (hb : c.code = cc) {x y : Int64} (hdg : decode cc pc = .ok (.lcmp, 1))
    (kk : W p l e R s m args below meth c H locs cells slots Q (F0 m (pc + 1) ls (.int (aLcmp x y) :: rest))) : W p l e R s m args below meth c H locs cells slots Q (F0 m pc ls (.long y :: .long x :: rest)) := by
  intro T hT X
  obtain ⟨t, a1, b1⟩ := kk T hT X
  refine ⟨t, ?_, b1⟩
  have hd : decode c.code pc = .ok (.lcmp, 1) := by rw [hb]; exact hdg
  unfold aLcmp at a1
  by_cases h1 : x < y
  · rw [if_pos h1] at a1
    have h2 : ¬ x = y := fun h => by subst h; exact absurd h1 (Int64.lt_irrefl)
    have h3 : ¬ y < x := fun h => absurd (Int64.lt_trans h1 h) (Int64.lt_irrefl)
    jvm_step X.here [X.here.top, hx, hd, h1, h2, h3]
    exact a1
  · rw [if_neg h1] at a1
    by_cases h2 : x = y
    · rw [if_pos h2] at a1
      subst h2
      jvm_step X.here [X.here.top, hx, hd]
      exact a1
    · rw [if_neg h2] at a1
      have h3 : y < x := Int64.lt_of_le_of_ne (Int64.not_lt.mp h1) (fun h => h2 h.symm)
      jvm_step X.here [X.here.top, hx, hd, h1, h2, h3]
      exact a1
set_option maxHeartbeats 8000000 in
set_option maxRecDepth 100000 in
theorem sim0 {ad : Nat → Nat} {ins : Instr} {len nL tgt : Nat} {L L' : List (Nat × Value)} {st st' : List Value} {b : Bool} (hx : p.tables.exec = Jvm.exec) (hb : c.code = cc) (hd : decode cc pc = .ok (ins, len)) (hl : lv_has ls nL (cvL ad L))
    (ht : ∀ off : Int, (ins = .goto off ∨ (∃ q, ins = .if_icmp q off) ∨ ∃ q, ins = .ifCond q off) → (pc : Int) + off = (tgt : Int)) (h : aS0 ins len nL L st = some (b, L', st'))
    (kk : ∀ ls : Array Slot, lv_has ls nL (cvL ad L') → W p l e R s m args below meth c H locs cells slots Q (F0 m (if b then tgt else pc + len) ls (st'.map (cvA ad)))) :
    W p l e R s m args below meth c H locs cells slots Q (F0 m pc ls (st.map (cvA ad))) := by
  cases ins with
  | iconst n =>
    simp only [aS0] at h
    split at h
    · rename_i hlen
      subst hlen
      cases h
      exact lv_iconst hx hb hd rfl (kk ls hl)
    · cases h
  | bipush n =>
    simp only [aS0] at h
    split at h
    · rename_i hlen
      subst hlen
      cases h
      exact lv_bipush hx hb hd rfl (kk ls hl)
    · cases h
  | sipush n =>
    simp only [aS0] at h
    split at h
    · rename_i hlen
      subst hlen
      cases h
      exact lv_sipush hx hb hd rfl (kk ls hl)
    · cases h
  | lconst n =>
    simp only [aS0] at h
    split at h
    · rename_i hlen
      subst hlen
      cases h
      exact lv_lconst hx hb hd rfl (kk ls hl)
    · cases h
  | aconst_null  =>
    simp only [aS0] at h
    split at h
    · rename_i hlen
      subst hlen
      cases h
      exact lv_null hx hb hd (kk ls hl)
    · cases h
  | iload i =>
    simp only [aS0] at h
    split at h
    · rename_i hlen
      subst hlen
      split at h
      · rename_i x9 hx9
        cases h
        exact lv_iload hx hb hd (aLk_at hl hx9) (kk ls hl)
      · cases h
    · cases h
  | iload_n n =>
    simp only [aS0] at h
    split at h
    · rename_i hlen
      subst hlen
      split at h
      · rename_i x9 hx9
        cases h
        exact lv_iload_n hx hb hd rfl (aLk_at hl hx9) (kk ls hl)
      · cases h
    · cases h
  | lload i =>
    simp only [aS0] at h
    split at h
    · rename_i hlen
      subst hlen
      split at h
      · rename_i x9 hx9
        cases h
        exact lv_lload hx hb hd (aLk_at hl hx9) (kk ls hl)
      · cases h
    · cases h
  | lload_n n =>
    simp only [aS0] at h
    split at h
    · rename_i hlen
      subst hlen
      split at h
      · rename_i x9 hx9
        cases h
        exact lv_lload_n hx hb hd rfl (aLk_at hl hx9) (kk ls hl)
      · cases h
    · cases h
  | aload i =>
    simp only [aS0] at h
    split at h
    · rename_i hlen
      subst hlen
      split at h
      · rename_i x9 hx9
        cases h
        exact lv_aload hx hb hd (aLk_at hl hx9) (kk ls hl)
      · cases h
    · cases h
  | aload_n n =>
    simp only [aS0] at h
    split at h
    · rename_i hlen
      subst hlen
      split at h
      · rename_i x9 hx9
        cases h
        exact lv_aload_n hx hb hd rfl (aLk_at hl hx9) (kk ls hl)
      · cases h
    · cases h
  | istore i =>
    simp only [aS0] at h
    split at h
    · rename_i hlen
      subst hlen
      split at h
      · split at h
        · rename_i x9 r9 hn9
          cases h
          exact lv_istore hx hb hd hl hn9 (aSt1_map ad L i (.int x9)).symm (fun ls hl => kk ls hl)
        · cases h
      · cases h
    · cases h
  | istore_n n =>
    simp only [aS0] at h
    split at h
    · rename_i hlen
      subst hlen
      split at h
      · split at h
        · rename_i x9 r9 hn9
          cases h
          exact lv_istore_n hx hb hd rfl hl hn9 (aSt1_map ad L n.val (.int x9)).symm (fun ls hl => kk ls hl)
        · cases h
      · cases h
    · cases h
  | astore i =>
    simp only [aS0] at h
    split at h
    · rename_i hlen
      subst hlen
      split at h
      · split at h
        · rename_i x9 r9 hn9
          cases h
          exact lv_astore hx hb hd hl hn9 (aSt1_map ad L i (.ref x9)).symm (fun ls hl => kk ls hl)
        · cases h
      · cases h
    · cases h
  | astore_n n =>
    simp only [aS0] at h
    split at h
    · rename_i hlen
      subst hlen
      split at h
      · split at h
        · rename_i x9 r9 hn9
          cases h
          exact lv_astore_n hx hb hd rfl hl hn9 (aSt1_map ad L n.val (.ref x9)).symm (fun ls hl => kk ls hl)
        · cases h
      · cases h
    · cases h
  | lstore i =>
    simp only [aS0] at h
    split at h
    · rename_i hlen
      subst hlen
      split at h
      · split at h
        · rename_i x9 r9 hn9
          cases h
          exact lv_lstore hx hb hd hl hn9 (aSt2_map ad L i (.long x9)).symm (fun ls hl => kk ls hl)
        · cases h
      · cases h
    · cases h
  | lstore_n n =>
    simp only [aS0] at h
    split at h
    · rename_i hlen
      subst hlen
      split at h
      · split at h
        · rename_i x9 r9 hn9
          cases h
          exact lv_lstore_n hx hb hd rfl hl hn9 (aSt2_map ad L n.val (.long x9)).symm (fun ls hl => kk ls hl)
        · cases h
      · cases h
    · cases h
  | iinc i n =>
    simp only [aS0] at h
    split at h
    · rename_i hlen
      subst hlen
      split at h
      · rename_i x9 hx9
        split at h
        · rename_i hn9
          cases h
          obtain ⟨k9, hk9⟩ := aLk_ix (ad := ad) hx9
          exact lv_iinc hx hb hd hl hk9 rfl hn9 (aSt1_map ad L i (.int (x9 + Int32.ofInt n))).symm (fun ls hl => kk ls hl)
        · cases h
      · cases h
    · cases h
  | iadd  =>
    simp only [aS0] at h
    split at h
    · rename_i hlen
      subst hlen
      split at h
      · cases h
        exact lv_iadd hx hb hd (kk ls hl)
      · cases h
    · cases h
  | isub  =>
    simp only [aS0] at h
    split at h
    · rename_i hlen
      subst hlen
      split at h
      · cases h
        exact lv_isub hx hb hd (kk ls hl)
      · cases h
    · cases h
  | imul  =>
    simp only [aS0] at h
    split at h
    · rename_i hlen
      subst hlen
      split at h
      · cases h
        exact lv_imul hx hb hd (kk ls hl)
      · cases h
    · cases h
  | iand  =>
    simp only [aS0] at h
    split at h
    · rename_i hlen
      subst hlen
      split at h
      · cases h
        exact lv_iand hx hb hd (kk ls hl)
      · cases h
    · cases h
  | ior  =>
    simp only [aS0] at h
    split at h
    · rename_i hlen
      subst hlen
      split at h
      · cases h
        exact lv_ior hx hb hd (kk ls hl)
      · cases h
    · cases h
  | ixor  =>
    simp only [aS0] at h
    split at h
    · rename_i hlen
      subst hlen
      split at h
      · cases h
        exact lv_ixor hx hb hd (kk ls hl)
      · cases h
    · cases h
  | ishl  =>
    simp only [aS0] at h
    split at h
    · rename_i hlen
      subst hlen
      split at h
      · cases h
        exact lv_ishl hx hb hd (kk ls hl)
      · cases h
    · cases h
  | ishr  =>
    simp only [aS0] at h
    split at h
    · rename_i hlen
      subst hlen
      split at h
      · cases h
        exact lv_ishr hx hb hd (kk ls hl)
      · cases h
    · cases h
  | iushr  =>
    simp only [aS0] at h
    split at h
    · rename_i hlen
      subst hlen
      split at h
      · cases h
        exact lv_iushr hx hb hd rfl (kk ls hl)
      · cases h
    · cases h
  | idiv  =>
    simp only [aS0] at h
    split at h
    · rename_i hlen
      subst hlen
      split at h
      · split at h
        · cases h
        · rename_i hg9
          cases h
          exact lv_idiv hx hb hd hg9 (kk ls hl)
      · cases h
    · cases h
  | irem  =>
    simp only [aS0] at h
    split at h
    · rename_i hlen
      subst hlen
      split at h
      · split at h
        · cases h
        · rename_i hg9
          cases h
          exact lv_irem hx hb hd hg9 (kk ls hl)
      · cases h
    · cases h
  | ladd  =>
    simp only [aS0] at h
    split at h
    · rename_i hlen
      subst hlen
      split at h
      · cases h
        exact lv_ladd hx hb hd (kk ls hl)
      · cases h
    · cases h
  | lsub  =>
    simp only [aS0] at h
    split at h
    · rename_i hlen
      subst hlen
      split at h
      · cases h
        exact lv_lsub hx hb hd (kk ls hl)
      · cases h
    · cases h
  | lmul  =>
    simp only [aS0] at h
    split at h
    · rename_i hlen
      subst hlen
      split at h
      · cases h
        exact lv_lmul hx hb hd (kk ls hl)
      · cases h
    · cases h
  | land  =>
    simp only [aS0] at h
    split at h
    · rename_i hlen
      subst hlen
      split at h
      · cases h
        exact lv_land hx hb hd (kk ls hl)
      · cases h
    · cases h
  | lor  =>
    simp only [aS0] at h
    split at h
    · rename_i hlen
      subst hlen
      split at h
      · cases h
        exact lv_lor hx hb hd (kk ls hl)
      · cases h
    · cases h
  | lxor  =>
    simp only [aS0] at h
    split at h
    · rename_i hlen
      subst hlen
      split at h
      · cases h
        exact lv_lxor hx hb hd (kk ls hl)
      · cases h
    · cases h
  | ldiv  =>
    simp only [aS0] at h
    split at h
    · rename_i hlen
      subst hlen
      split at h
      · split at h
        · cases h
        · rename_i hg9
          cases h
          exact lv_ldiv hx hb hd hg9 (kk ls hl)
      · cases h
    · cases h
  | lshl  =>
    simp only [aS0] at h
    split at h
    · rename_i hlen
      subst hlen
      split at h
      · cases h
        exact lv_lshl hx hb hd rfl (kk ls hl)
      · cases h
    · cases h
  | lshr  =>
    simp only [aS0] at h
    split at h
    · rename_i hlen
      subst hlen
      split at h
      · cases h
        exact lv_lshr hx hb hd rfl (kk ls hl)
      · cases h
    · cases h
  | lushr  =>
    simp only [aS0] at h
    split at h
    · rename_i hlen
      subst hlen
      split at h
      · cases h
        exact lv_lushr hx hb hd rfl (kk ls hl)
      · cases h
    · cases h
  | ineg  =>
    simp only [aS0] at h
    split at h
    · rename_i hlen
      subst hlen
      split at h
      · cases h
        exact lv_ineg hx hb hd (kk ls hl)
      · cases h
    · cases h
  | lneg  =>
    simp only [aS0] at h
    split at h
    · rename_i hlen
      subst hlen
      split at h
      · cases h
        exact lv_lneg hx hb hd (kk ls hl)
      · cases h
    · cases h
  | i2l  =>
    simp only [aS0] at h
    split at h
    · rename_i hlen
      subst hlen
      split at h
      · cases h
        exact lv_i2l hx hb hd rfl (kk ls hl)
      · cases h
    · cases h
  | l2i  =>
    simp only [aS0] at h
    split at h
    · rename_i hlen
      subst hlen
      split at h
      · cases h
        exact lv_l2i hx hb hd rfl (kk ls hl)
      · cases h
    · cases h
  | i2b  =>
    simp only [aS0] at h
    split at h
    · rename_i hlen
      subst hlen
      split at h
      · cases h
        exact lv_i2b hx hb hd rfl (kk ls hl)
      · cases h
    · cases h
  | i2c  =>
    simp only [aS0] at h
    split at h
    · rename_i hlen
      subst hlen
      split at h
      · cases h
        exact lv_i2c hx hb hd rfl (kk ls hl)
      · cases h
    · cases h
  | lcmp  =>
    simp only [aS0] at h
    split at h
    · rename_i hlen
      subst hlen
      split at h
      · cases h
        exact xl_lcmp hx hb hd (kk ls hl)
      · cases h
    · cases h
  | dup  =>
    simp only [aS0] at h
    split at h
    · rename_i hlen
      subst hlen
      split at h
      · split at h
        · rename_i hg9
          cases h
          exact lv_dup hx hb hd ((cvA_cat ad _).trans hg9) (kk ls hl)
        · cases h
      · cases h
    · cases h
  | dup_x1  =>
    simp only [aS0] at h
    split at h
    · rename_i hlen
      subst hlen
      split at h
      · split at h
        · rename_i hg9
          cases h
          exact lv_dup_x1 hx hb hd ((cvA_cat ad _).trans hg9.1) ((cvA_cat ad _).trans hg9.2) (kk ls hl)
        · cases h
      · cases h
    · cases h
  | pop  =>
    simp only [aS0] at h
    split at h
    · rename_i hlen
      subst hlen
      split at h
      · split at h
        · rename_i hg9
          cases h
          exact lv_pop hx hb hd ((cvA_cat ad _).trans hg9) (kk ls hl)
        · cases h
      · cases h
    · cases h
  | pop2  =>
    simp only [aS0] at h
    split at h
    · rename_i hlen
      subst hlen
      split at h
      · split at h
        · rename_i hg9
          cases h
          exact lv_pop2_2 hx hb hd ((cvA_cat ad _).trans hg9) (kk ls hl)
        · cases h
      · cases h
    · cases h
  | dup2  =>
    simp only [aS0] at h
    split at h
    · rename_i hlen
      subst hlen
      split at h
      · split at h
        · rename_i hg9
          cases h
          exact lv_dup2_11 hx hb hd ((cvA_cat ad _).trans hg9.1) ((cvA_cat ad _).trans hg9.2) (kk ls hl)
        · split at h
          · rename_i hg9
            cases h
            exact lv_dup2_2 hx hb hd ((cvA_cat ad _).trans hg9) (kk ls hl)
          · cases h
      · split at h
        · rename_i hg9
          cases h
          exact lv_dup2_2 hx hb hd ((cvA_cat ad _).trans hg9) (kk ls hl)
        · cases h
      · cases h
    · cases h
  | goto off =>
    simp only [aS0] at h
    split at h
    · rename_i hlen
      subst hlen
      cases h
      exact lv_goto hx hb hd (ht off (Or.inl rfl)) (kk ls hl)
    · cases h
  | if_icmp cnd off =>
    simp only [aS0] at h
    split at h
    · rename_i hlen
      subst hlen
      split at h
      · cases cnd <;> dsimp only at h
        · cases h
          exact lv_icmp_eq hx hb hd (ht off (Or.inr (Or.inl ⟨_, rfl⟩))) (fun c9 => by have h9 := kk ls hl; rw [decide_eq_true c9] at h9; exact h9) (fun c9 => by have h9 := kk ls hl; rw [decide_eq_false c9] at h9; exact h9)
        · cases h
          exact lv_icmp_ne hx hb hd (ht off (Or.inr (Or.inl ⟨_, rfl⟩))) (fun c9 => by have h9 := kk ls hl; rw [decide_eq_true c9] at h9; exact h9) (fun c9 => by have h9 := kk ls hl; rw [decide_eq_false (Decidable.not_not.mpr c9)] at h9; exact h9)
        · cases h
          exact lv_icmp_lt hx hb hd (ht off (Or.inr (Or.inl ⟨_, rfl⟩))) (fun c9 => by have h9 := kk ls hl; rw [decide_eq_true c9] at h9; exact h9) (fun c9 => by have h9 := kk ls hl; rw [decide_eq_false c9] at h9; exact h9)
        · cases h
          exact lv_icmp_ge hx hb hd (ht off (Or.inr (Or.inl ⟨_, rfl⟩))) (fun c9 => by have h9 := kk ls hl; rw [decide_eq_true c9] at h9; exact h9) (fun c9 => by have h9 := kk ls hl; rw [decide_eq_false c9] at h9; exact h9)
        · cases h
          exact lv_icmp_gt hx hb hd (ht off (Or.inr (Or.inl ⟨_, rfl⟩))) (fun c9 => by have h9 := kk ls hl; rw [decide_eq_true c9] at h9; exact h9) (fun c9 => by have h9 := kk ls hl; rw [decide_eq_false c9] at h9; exact h9)
        · cases h
          exact lv_icmp_le hx hb hd (ht off (Or.inr (Or.inl ⟨_, rfl⟩))) (fun c9 => by have h9 := kk ls hl; rw [decide_eq_true c9] at h9; exact h9) (fun c9 => by have h9 := kk ls hl; rw [decide_eq_false c9] at h9; exact h9)
      · cases h
    · cases h
  | ifCond cnd off =>
    simp only [aS0] at h
    split at h
    · rename_i hlen
      subst hlen
      split at h
      · cases cnd <;> dsimp only at h
        · cases h
          exact lv_if_eq hx hb hd (ht off (Or.inr (Or.inr ⟨_, rfl⟩))) (fun c9 => by have h9 := kk ls hl; rw [decide_eq_true c9] at h9; exact h9) (fun c9 => by have h9 := kk ls hl; rw [decide_eq_false c9] at h9; exact h9)
        · cases h
          exact lv_if_ne hx hb hd (ht off (Or.inr (Or.inr ⟨_, rfl⟩))) (fun c9 => by have h9 := kk ls hl; rw [decide_eq_true c9] at h9; exact h9) (fun c9 => by have h9 := kk ls hl; rw [decide_eq_false (Decidable.not_not.mpr c9)] at h9; exact h9)
        · cases h
          exact lv_if_lt hx hb hd (ht off (Or.inr (Or.inr ⟨_, rfl⟩))) (fun c9 => by have h9 := kk ls hl; rw [decide_eq_true c9] at h9; exact h9) (fun c9 => by have h9 := kk ls hl; rw [decide_eq_false c9] at h9; exact h9)
        · cases h
          exact lv_if_ge hx hb hd (ht off (Or.inr (Or.inr ⟨_, rfl⟩))) (fun c9 => by have h9 := kk ls hl; rw [decide_eq_true c9] at h9; exact h9) (fun c9 => by have h9 := kk ls hl; rw [decide_eq_false c9] at h9; exact h9)
        · cases h
          exact lv_if_gt hx hb hd (ht off (Or.inr (Or.inr ⟨_, rfl⟩))) (fun c9 => by have h9 := kk ls hl; rw [decide_eq_true c9] at h9; exact h9) (fun c9 => by have h9 := kk ls hl; rw [decide_eq_false c9] at h9; exact h9)
        · cases h
          exact lv_if_le hx hb hd (ht off (Or.inr (Or.inr ⟨_, rfl⟩))) (fun c9 => by have h9 := kk ls hl; rw [decide_eq_true c9] at h9; exact h9) (fun c9 => by have h9 := kk ls hl; rw [decide_eq_false c9] at h9; exact h9)
      · cases h
    · cases h
  | _ => cases h
end ASim0
