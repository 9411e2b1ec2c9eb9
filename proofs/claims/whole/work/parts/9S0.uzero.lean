/-! the lake's methods have no handlers: what returns has made no exception -/
def lkOk (q : aMI) : Bool := (mHs q).isEmpty && (mCd q).all (fun e => match e.2.1 with
  | .invokevirtual _ => decide (e.2.2.2.1 < 187 ∨ 900 ≤ e.2.2.2.1)
  | .invokestatic _ => decide (e.2.2.2.1 < 187 ∨ 900 ≤ e.2.2.2.1)
  | _ => true)
def aUo (o : aOut) (u : Nat) : Prop := match o with
  | .inl _ => u = 0
  | .inr _ => u = 1
section
variable {TB : Nat → Option aMI} {sh : aSh} {fk : aFk}
theorem lkOk_c {q : aMI} (h : lkOk q = true) {k : Nat} {e : aEn} (he : (mCd q)[k]? = some e) : (match e.2.1 with
  | .invokevirtual _ => decide (e.2.2.2.1 < 187 ∨ 900 ≤ e.2.2.2.1)
  | .invokestatic _ => decide (e.2.2.2.1 < 187 ∨ 900 ≤ e.2.2.2.1)
  | _ => true) = true := by
  unfold lkOk at h
  rw [Bool.and_eq_true] at h
  exact List.all_eq_true.mp h.2 e (List.mem_of_getElem? he)
set_option maxHeartbeats 8000000 in
set_option maxRecDepth 100000 in
theorem aEx_u (hT : ∀ x q', x < 187 → TB x = some q' → lkOk q' = true) : ∀ (n d : Nat) (q : aMI) (k : Nat) (L : List (Nat × Value)) (st : List Value) (h : aH) (o : aOut) (h' : aH) (u : Nat), lkOk q = true → aEx TB sh fk n d q k L st h = some (o, h', u) → aUo o u := by
  intro n
  induction n with
  | zero => intro d q k L st h o h' u _ hr; simp [aEx] at hr
  | succ n ih =>
    intro d q k L st h o h' u hq hr
    have hem : (mHs q).isEmpty = true := by
      unfold lkOk at hq
      rw [Bool.and_eq_true] at hq
      exact hq.1
    unfold aEx at hr
    cases he : (mCd q)[k]? with
    | none => rw [he] at hr; cases hr
    | some en =>
      obtain ⟨pc, ins, len, x, y⟩ := en
      have hc := lkOk_c hq he
      rw [he] at hr
      dsimp only at hr hc
      split at hr
      · split at hr
        · split at hr
          · split at hr
            · split at hr
              · cases hr; rfl
              · cases hr
            · cases hr
          · cases hr
        · cases hr
      · split at hr
        · split at hr
          · split at hr
            · cases hr; rfl
            · cases hr
          · cases hr
        · cases hr
      · split at hr
        · split at hr
          · split at hr
            · cases hr; rfl
            · cases hr
          · cases hr
        · cases hr
      · split at hr
        · split at hr
          · split at hr
            · cases hr; rfl
            · cases hr
          · cases hr
        · cases hr
      · split at hr
        · split at hr
          · cases hr; rfl
          · cases hr
        · cases hr
      · split at hr
        · split at hr
          · split at hr
            · exact ih _ _ _ _ _ _ _ _ _ hq hr
            · cases hr
          · cases hr
        · cases hr
      · split at hr
        · split at hr
          · split at hr
            · exact ih _ _ _ _ _ _ _ _ _ hq hr
            · cases hr
          · cases hr
        · cases hr
      · have hc := of_decide_eq_true hc
        split at hr
        · split at hr
          · split at hr
            · split at hr
              · exact ih _ _ _ _ _ _ _ _ _ hq hr
              · cases hr
            · cases hr
          · rename_i h9
            split at hr
            · cases hr
            · rename_i hTx
              have hq' := hT _ _ (by omega) hTx
              split at hr
              · cases hr
              · split at hr
                · split at hr
                  · split at hr
                    · cases hr
                    · split at hr
                      · rename_i hc1
                        have i1 := ih _ _ _ _ _ _ _ _ _ hq' hc1
                        split at hr
                        · rename_i hc2
                          have i2 := ih _ _ _ _ _ _ _ _ _ hq hc2
                          cases hr
                          have i1 : _ = 0 := i1
                          rw [i1, Nat.zero_add]
                          exact i2
                        · cases hr
                      · rename_i hc1
                        have i1 := ih _ _ _ _ _ _ _ _ _ hq' hc1
                        split at hr
                        · cases hr
                        · cases hr
                          exact i1
                      · cases hr
                  · cases hr
                · cases hr
        · cases hr
      · have hc := of_decide_eq_true hc
        split at hr
        · split at hr
          · split at hr
            · split at hr
              · split at hr
                · split at hr
                  · exact ih _ _ _ _ _ _ _ _ _ hq hr
                  · cases hr
                · cases hr
              · cases hr
            · split at hr
              · split at hr
                · exact ih _ _ _ _ _ _ _ _ _ hq hr
                · cases hr
              · cases hr
          · rename_i h9
            split at hr
            · cases hr
            · rename_i hTx
              have hq' := hT _ _ (by omega) hTx
              split at hr
              · split at hr
                · split at hr
                  · cases hr
                  · split at hr
                    · rename_i hc1
                      have i1 := ih _ _ _ _ _ _ _ _ _ hq' hc1
                      split at hr
                      · rename_i hc2
                        have i2 := ih _ _ _ _ _ _ _ _ _ hq hc2
                        cases hr
                        have i1 : _ = 0 := i1
                        rw [i1, Nat.zero_add]
                        exact i2
                      · cases hr
                    · rename_i hc1
                      have i1 := ih _ _ _ _ _ _ _ _ _ hq' hc1
                      split at hr
                      · cases hr
                      · cases hr
                        exact i1
                    · cases hr
                · cases hr
              · cases hr
        · cases hr
      · split at hr
        · exact ih _ _ _ _ _ _ _ _ _ hq hr
        · cases hr
end
theorem lkOk_all : (aTl.take 187).all lkOk = true := by decide +kernel
theorem lkOk_T : ∀ x q', x < 187 → aTB x = some q' → lkOk q' = true := fun x q' hx h => by
  refine List.all_eq_true.mp lkOk_all q' (List.mem_of_getElem? (i := x) ?_)
  rw [List.getElem?_take, if_pos hx]
  exact h
/-- a lake's method that answers -/
theorem ev_u {d x : Nat} {q : aMI} (hx : x < 187) (hq : aTB x = some q) {k : Nat} {L : List (Nat × Value)} {st : List Value} {s s' : aT} {o : aOut} (h : ev d q k L st s = some (o, s')) : ∃ u, aR d q k L st (toH s) (o, toH s', u) ∧ aUo o u := by
  obtain ⟨u, h1, h2⟩ := ev_get h
  obtain ⟨n, h3⟩ := id h1
  exact ⟨u, h1, aEx_u lkOk_T n d q k L st _ _ _ _ (lkOk_T x q hx hq) h3⟩
