/-! the machine's runs: more fuel, the same answer -/
section AMono
variable {TB : Nat → Option aMI} {sh : aSh} {fk : aFk}
set_option maxHeartbeats 8000000 in
set_option maxRecDepth 100000 in
theorem aEx_mono : ∀ (n d : Nat) (q : aMI) (k : Nat) (L : List (Nat × Value)) (st : List Value) (h : aH) (r : aOut × aH × Nat), aEx TB sh fk n d q k L st h = some r → aEx TB sh fk (n + 1) d q k L st h = some r := by
  intro n
  induction n with
  | zero => intro d q k L st h r hr; simp [aEx] at hr
  | succ n ih =>
    intro d q k L st h r hr
    unfold aEx at hr ⊢
    cases he : (mCd q)[k]? with
    | none => rw [he] at hr; cases hr
    | some en =>
      obtain ⟨pc, ins, len, x, y⟩ := en
      rw [he] at hr
      dsimp only at hr ⊢
      split at hr
      · exact hr
      · exact hr
      · exact hr
      · exact hr
      · exact hr
      · split at hr
        · split at hr
          · split at hr
            · rename_i h1 _ _ h2
              try simp only [h1, h2]
              exact ih _ _ _ _ _ _ _ hr
            · cases hr
          · cases hr
        · cases hr
      · split at hr
        · rename_i h0
          rw [if_pos h0]
          split at hr
          · split at hr
            · rename_i h2
              try simp only [h2]
              exact ih _ _ _ _ _ _ _ hr
            · cases hr
          · cases hr
        · cases hr
      · split at hr
        · rename_i h3
          rw [if_pos h3]
          split at hr
          · rename_i h9
            rw [if_pos h9]
            split at hr
            · rename_i h4
              rw [if_pos h4]
              split at hr
              · rename_i h5
                try simp only [h5]
                exact ih _ _ _ _ _ _ _ hr
              · cases hr
            · cases hr
          · rename_i h9
            rw [if_neg h9]
            split at hr
            · cases hr
            · rename_i hT
              try simp only [hT]
              split at hr
              · cases hr
              · rename_i h5
                rw [if_neg h5]
                split at hr
                · rename_i hrev
                  try simp only [hrev]
                  split at hr
                  · rename_i h6
                    rw [if_pos h6]
                    split at hr
                    · cases hr
                    · try dsimp only
                      split at hr
                      · rename_i hc
                        rw [ih _ _ _ _ _ _ _ hc]
                        try dsimp only
                        split at hr
                        · rename_i hc2
                          rw [ih _ _ _ _ _ _ _ hc2]
                          exact hr
                        · cases hr
                      · rename_i hc
                        rw [ih _ _ _ _ _ _ _ hc]
                        try dsimp only
                        split at hr
                        · cases hr
                        · rename_i h7
                          rw [if_neg h7]
                          split at hr
                          · rename_i h8
                            rw [if_pos h8]
                            exact hr
                          · rename_i h8
                            rw [if_neg h8]
                            split at hr
                            · rename_i hz
                              try simp only [hz]
                              split at hr
                              · rename_i h0
                                rw [if_pos h0]
                                split at hr
                                · rename_i hc2
                                  rw [ih _ _ _ _ _ _ _ hc2]
                                  exact hr
                                · cases hr
                              · cases hr
                            · cases hr
                      · cases hr
                  · cases hr
                · cases hr
        · cases hr
      · split at hr
        · rename_i h3
          rw [if_pos h3]
          split at hr
          · rename_i h9
            rw [if_pos h9]
            split at hr
            · rename_i h20
              rw [if_pos h20]
              split at hr
              · split at hr
                · rename_i hs0 hs1
                  split at hr
                  · rename_i h4
                    try simp only [hs0, hs1]
                    rw [if_pos h4]
                    exact ih _ _ _ _ _ _ _ hr
                  · cases hr
                · cases hr
              · cases hr
            · rename_i h20
              rw [if_neg h20]
              split at hr
              · rename_i h4
                rw [if_pos h4]
                split at hr
                · rename_i h5
                  try simp only [h5]
                  exact ih _ _ _ _ _ _ _ hr
                · cases hr
              · cases hr
          · rename_i h9
            rw [if_neg h9]
            split at hr
            · cases hr
            · rename_i hT
              try simp only [hT]
              split at hr
              · rename_i h5
                rw [if_pos h5]
                split at hr
                · rename_i h6
                  rw [if_pos h6]
                  split at hr
                  · cases hr
                  · try dsimp only
                    split at hr
                    · rename_i hc
                      rw [ih _ _ _ _ _ _ _ hc]
                      try dsimp only
                      split at hr
                      · rename_i hc2
                        rw [ih _ _ _ _ _ _ _ hc2]
                        exact hr
                      · cases hr
                    · rename_i hc
                      rw [ih _ _ _ _ _ _ _ hc]
                      exact hr
                    · cases hr
                · cases hr
              · cases hr
        · cases hr
      · split at hr
        · rename_i h1
          try simp only [h1]
          exact ih _ _ _ _ _ _ _ hr
        · cases hr
end AMono
