/-! locals may be said anew: in another order, or with more of them -/
def lE (L L' : List (Nat × Value)) : Prop := (L.map (·.1)).Nodup ∧ (L'.map (·.1)).Nodup ∧ ∀ e ∈ L', e ∈ L
theorem lk_mem {L : List (Nat × Value)} {i : Nat} {v : Value} (h : aLk L i = some v) : (i, v) ∈ L := by
  unfold aLk at h
  rw [Option.map_eq_some_iff] at h
  obtain ⟨a, ha, rfl⟩ := h
  have h1 := List.mem_of_find?_eq_some ha
  have h2 : a.1 = i := by simpa using List.find?_some ha
  rw [← h2]
  exact h1
theorem lk_of : ∀ {L : List (Nat × Value)} {i : Nat} {v : Value}, (L.map (·.1)).Nodup → (i, v) ∈ L → aLk L i = some v
  | [], _, _, _, h => by cases h
  | (j, w) :: L, i, v, hn, h => by
    rw [List.map_cons, List.nodup_cons] at hn
    rcases List.mem_cons.mp h with h | h
    · cases h
      simp [aLk]
    · have hj : j ≠ i := fun e => hn.1 (by subst e; exact List.mem_map.mpr ⟨(j, v), h, rfl⟩)
      have := lk_of hn.2 h
      unfold aLk at this ⊢
      rw [List.find?_cons_of_neg (by simpa using hj)]
      exact this
theorem lE_lk {L L' : List (Nat × Value)} (h : lE L L') {i : Nat} {v : Value} (hl : aLk L' i = some v) : aLk L i = some v := lk_of h.1 (h.2.2 _ (lk_mem hl))
theorem nd_filter {L : List (Nat × Value)} (p : Nat × Value → Bool) (h : (L.map (·.1)).Nodup) : ((L.filter p).map (·.1)).Nodup := List.Nodup.sublist (List.Sublist.map _ List.filter_sublist) h
theorem lE_filter {L L' : List (Nat × Value)} (p : Nat × Value → Bool) (h : lE L L') : lE (L.filter p) (L'.filter p) := ⟨nd_filter p h.1, nd_filter p h.2.1, fun e he => by rw [List.mem_filter] at he ⊢; exact ⟨h.2.2 e he.1, he.2⟩⟩
theorem nd_cons {L : List (Nat × Value)} {i : Nat} {v : Value} {p : Nat × Value → Bool} (hp : ∀ e, p e = true → e.1 ≠ i) (h : (L.map (·.1)).Nodup) : ((((i, v) :: L.filter p)).map (·.1)).Nodup := by
  rw [List.map_cons, List.nodup_cons]
  refine ⟨fun hm => ?_, nd_filter p h⟩
  obtain ⟨e, he, h2⟩ := List.mem_map.mp hm
  exact hp e (List.mem_filter.mp he).2 h2
theorem lE_cons {L L' : List (Nat × Value)} {i : Nat} {v : Value} {p : Nat × Value → Bool} (hp : ∀ e, p e = true → e.1 ≠ i) (h : lE L L') : lE ((i, v) :: L.filter p) ((i, v) :: L'.filter p) := ⟨nd_cons hp h.1, nd_cons hp h.2.1, fun e he => by
  rcases List.mem_cons.mp he with he | he
  · rw [he]; exact List.mem_cons_self
  · exact List.mem_cons_of_mem _ ((lE_filter p h).2.2 e he)⟩
theorem lE_1 {L L' : List (Nat × Value)} (h : lE L L') (i : Nat) (v : Value) : lE (aSt1 L i v) (aSt1 L' i v) := lE_cons (fun e he => by simp at he; exact he.1) h
theorem lE_2 {L L' : List (Nat × Value)} (h : lE L L') (i : Nat) (v : Value) : lE (aSt2 L i v) (aSt2 L' i v) := lE_cons (fun e he => by simp at he; exact he.1) h
set_option maxHeartbeats 4000000 in
theorem aS0_ext {ins : Instr} {len nL : Nat} {L L' : List (Nat × Value)} {st : List Value} {b : Bool} {M' : List (Nat × Value)} {st' : List Value} (h : lE L L') (hs : aS0 ins len nL L' st = some (b, M', st')) : ∃ M, aS0 ins len nL L st = some (b, M, st') ∧ lE M M' := by
  unfold aS0 at hs ⊢
  split at hs <;> (try (cases hs; done)) <;> (split at hs <;> (try (cases hs; done))) <;> rename_i hlen <;> (try rw [if_pos hlen]) <;> (try dsimp only)
  all_goals first
    | (cases hs; exact ⟨_, rfl, h⟩)
    | (split at hs
       all_goals first
         | (cases hs; done)
         | (rename_i x hx; cases hs; rw [lE_lk h hx]; exact ⟨_, rfl, h⟩)
         | (cases hs; exact ⟨_, rfl, h⟩)
         | (split at hs
            all_goals first
              | (cases hs; done)
              | (rename_i hi; rw [if_pos hi]; cases hs; exact ⟨_, rfl, lE_1 h _ _⟩)
              | (rename_i hi; rw [if_pos hi]; cases hs; exact ⟨_, rfl, lE_2 h _ _⟩)
              | (rename_i hi; rw [if_pos hi]; cases hs; exact ⟨_, rfl, h⟩)
              | (rename_i hi; rw [if_neg hi]; cases hs; exact ⟨_, rfl, h⟩)
              | (rename_i x hx hi; rw [lE_lk h hx]; dsimp only; rw [if_pos hi]; cases hs; exact ⟨_, rfl, lE_1 h _ _⟩)
              | (rename_i hx; rw [if_neg hx]; split at hs <;> first | (cases hs; done) | (rename_i hi; rw [if_pos hi]; cases hs; exact ⟨_, rfl, h⟩))
              | (cases hs; exact ⟨_, rfl, h⟩)))
theorem aS1_ext {sh : aSh} {fk : aFk} {ins : Instr} {len x y nL : Nat} {L L' : List (Nat × Value)} {st : List Value} {h : aH} {b : Bool} {M' : List (Nat × Value)} {st' : List Value} {h' : aH} (hE : lE L L') (hs : aS1 sh fk ins len x y nL L' st h = some (b, M', st', h')) : ∃ M, aS1 sh fk ins len x y nL L st h = some (b, M, st', h') ∧ lE M M' := by
  unfold aS1 at hs ⊢
  split at hs
  case h_13 =>
    split at hs
    · rename_i h0
      cases hs
      obtain ⟨M, h1, h2⟩ := aS0_ext hE h0
      rw [h1]
      exact ⟨M, rfl, h2⟩
    · cases hs
  all_goals
    split at hs
    · rename_i hlen
      rw [if_pos hlen]
      try dsimp only
      split at hs <;> first
        | (cases hs; done)
        | (cases hs; exact ⟨_, rfl, hE⟩)
        | (rename_i hx; cases hs; rw [hx]; exact ⟨_, rfl, hE⟩)
        | (split at hs <;> first
            | (cases hs; done)
            | (rename_i hx; split at hs <;> first
                | (cases hs; done)
                | (rename_i hy; rw [if_pos hy]; cases hs; exact ⟨_, rfl, hE⟩)
                | (rename_i hy; rw [hx]; dsimp only; rw [if_pos hy]; cases hs; exact ⟨_, rfl, hE⟩)
                | (rename_i hy; split at hs <;> first
                    | (cases hs; done)
                    | (rename_i hz; rw [if_pos hy]; cases hs; exact ⟨_, rfl, hE⟩)
                    | (rename_i hz; rw [hx]; dsimp only; rw [if_pos hy, hz]; cases hs; exact ⟨_, rfl, hE⟩)
                    | (rename_i hz; split at hs <;> first
                        | (cases hs; done)
                        | (rw [if_pos hy]; cases hs; exact ⟨_, rfl, hE⟩)
                        | (rename_i hw; rw [hx]; dsimp only; rw [if_pos hy, hz]; dsimp only; rw [hw]; cases hs; exact ⟨_, rfl, hE⟩)))))
    · cases hs
section AExt
variable {TB : Nat → Option aMI} {sh : aSh} {fk : aFk}
set_option maxHeartbeats 8000000 in
set_option maxRecDepth 100000 in
theorem aEx_ext : ∀ (n d : Nat) (q : aMI) (k : Nat) (L L' : List (Nat × Value)) (st : List Value) (h : aH) (r : aOut × aH × Nat), lE L L' → aEx TB sh fk n d q k L' st h = some r → aEx TB sh fk n d q k L st h = some r := by
  intro n
  induction n with
  | zero => intro d q k L L' st h r hE hr; simp [aEx] at hr
  | succ n ih =>
    intro d q k L L' st h r hE hr
    unfold aEx at hr ⊢
    cases he : (mCd q)[k]? with
    | none => rw [he] at hr; cases hr
    | some en =>
      obtain ⟨pc, ins, len, x, y⟩ := en
      rw [he] at hr
      dsimp only at hr ⊢
      split at hr
      · exact hr
      · exact hr
      · exact hr
      · exact hr
      · exact hr
      · split at hr
        · split at hr
          · split at hr
            · rename_i h1 _ _ h2
              try simp only [h1, h2]
              exact ih _ _ _ _ _ _ _ _ hE hr
            · cases hr
          · cases hr
        · cases hr
      · split at hr
        · rename_i h0
          rw [if_pos h0]
          split at hr
          · split at hr
            · rename_i h2
              try simp only [h2]
              exact ih _ _ _ _ _ _ _ _ hE hr
            · cases hr
          · cases hr
        · cases hr
      · split at hr
        · rename_i h3
          rw [if_pos h3]
          split at hr
          · rename_i h9
            rw [if_pos h9]
            split at hr
            · rename_i h4
              rw [if_pos h4]
              split at hr
              · rename_i h5
                try simp only [h5]
                exact ih _ _ _ _ _ _ _ _ hE hr
              · cases hr
            · cases hr
          · rename_i h9
            rw [if_neg h9]
            split at hr
            · cases hr
            · rename_i hT
              try simp only [hT]
              split at hr
              · cases hr
              · rename_i h5
                rw [if_neg h5]
                split at hr
                · rename_i hrev
                  try simp only [hrev]
                  split at hr
                  · rename_i h6
                    rw [if_pos h6]
                    split at hr
                    · cases hr
                    · try dsimp only
                      split at hr
                      · rename_i hc
                        try rw [hc]
                        try dsimp only
                        split at hr
                        · rename_i hc2
                          rw [ih _ _ _ _ _ _ _ _ (by first | exact hE | exact lE_filter _ hE) hc2]
                          exact hr
                        · cases hr
                      · rename_i hc
                        try rw [hc]
                        try dsimp only
                        split at hr
                        · cases hr
                        · rename_i h7
                          rw [if_neg h7]
                          split at hr
                          · rename_i h8
                            rw [if_pos h8]
                            exact hr
                          · rename_i h8
                            rw [if_neg h8]
                            split at hr
                            · rename_i hz
                              try simp only [hz]
                              split at hr
                              · rename_i h0
                                rw [if_pos h0]
                                split at hr
                                · rename_i hc2
                                  rw [ih _ _ _ _ _ _ _ _ (by first | exact hE | exact lE_filter _ hE) hc2]
                                  exact hr
                                · cases hr
                              · cases hr
                            · cases hr
                      · cases hr
                  · cases hr
                · cases hr
        · cases hr
      · split at hr
        · rename_i h3
          rw [if_pos h3]
          split at hr
          · rename_i h9
            rw [if_pos h9]
            split at hr
            · rename_i h20
              rw [if_pos h20]
              split at hr
              · split at hr
                · rename_i hs0 hs1
                  split at hr
                  · rename_i h4
                    try simp only [hs0, hs1]
                    rw [if_pos h4]
                    exact ih _ _ _ _ _ _ _ _ hE hr
                  · cases hr
                · cases hr
              · cases hr
            · rename_i h20
              rw [if_neg h20]
              split at hr
              · rename_i h4
                rw [if_pos h4]
                split at hr
                · rename_i h5
                  try simp only [h5]
                  exact ih _ _ _ _ _ _ _ _ hE hr
                · cases hr
              · cases hr
          · rename_i h9
            rw [if_neg h9]
            split at hr
            · cases hr
            · rename_i hT
              try simp only [hT]
              split at hr
              · rename_i h5
                rw [if_pos h5]
                split at hr
                · rename_i h6
                  rw [if_pos h6]
                  split at hr
                  · cases hr
                  · try dsimp only
                    split at hr
                    · rename_i hc
                      try rw [hc]
                      try dsimp only
                      split at hr
                      · rename_i hc2
                        rw [ih _ _ _ _ _ _ _ _ (by first | exact hE | exact lE_filter _ hE) hc2]
                        exact hr
                      · cases hr
                    · rename_i hc
                      try rw [hc]
                      exact hr
                    · cases hr
                · cases hr
              · cases hr
        · cases hr
      · split at hr
        · rename_i h1
          obtain ⟨M, h2, h3⟩ := aS1_ext hE h1
          rw [h2]
          exact ih _ _ _ _ _ _ _ _ h3 hr
        · cases hr
end AExt
