/-! the first world, and the law from its entry -/
def i0T : Nat → Nat → Int32 := fun k => if k = 0 then (fun i => if i = 15 then -1 else 0) else if k = 22 then (fun i => if i = 11 then 6 else if i = 14 then 6 else 0) else if k = 23 then sc_k 6 else if k = 24 then sc_n 6 else if k = 37 then (fun i => if i = 1 then -1 else 0) else if k = 56 then (fun i => if i = 1 then -1 else 0) else if k = 67 then (fun i => if i = 3 then -1 else if i = 12 then -1 else 0) else (fun _ => 0)
def t00 : aT := (i0T, fun _ _ => 0, (21, 48, 55, 54, 42), 0)
def ad0 (h0 hm ou : Nat) (a am kS : Nat → Nat) : Nat → Nat := fun k => if k = 0 then h0 else if k < 67 then a (k - 1) else if k = 67 then hm else if k < 149 then am (k - 68) else if k < 1000 then ou else kS (k - 1000)
def S00 : yS := yMk [] [] [] (-1) false 0 []
theorem ad0_s {h0 hm ou : Nat} {a am kS : Nat → Nat} (j : Nat) : ad0 h0 hm ou a am kS (1000 + j) = kS j := by
  unfold ad0
  rw [if_neg (by omega), if_neg (by omega), if_neg (by omega), if_neg (by omega), if_neg (by omega), Nat.add_sub_cancel_left]
set_option maxHeartbeats 4000000 in
set_option maxRecDepth 100000 in
theorem w0_eq {kA : Nat → ClassId} {h0 hm ou : Nat} {a am kS : Nat → Nat} : wAll h0 hm ou a am kA = aV kA (ad0 h0 hm ou a am kS) t00 := rfl
theorem z0_w : yWf S00 := by
  refine ⟨⟨?_, Nat.zero_le _⟩, ⟨?_, Nat.zero_le _⟩, ⟨?_, Nat.zero_le _⟩, Nat.zero_le _, ?_⟩
  · exact fun x hx => absurd hx (List.not_mem_nil)
  · exact fun x hx => absurd hx (List.not_mem_nil)
  · exact fun x hx => absurd hx (List.not_mem_nil)
  · exact ⟨⟨by show 0 ≤ 40; omega, fun i hi => absurd hi (Nat.not_lt_zero _)⟩, fun i j hi => absurd hi (Nat.not_lt_zero _), fun i hi => absurd hi (Nat.not_lt_zero _), fun i hi => absurd hi (Nat.not_lt_zero _)⟩
theorem lBy_z0 {c : Nat} {s : aT} (h : gI s c 1 = 0) : lBy c [] s := ⟨h, fun i hi => absurd hi (Nat.not_lt_zero _), fun x hx => absurd hx (List.not_mem_nil), Nat.zero_le _⟩
theorem z0_l : yLI 0 S00 t00 := by
  refine ⟨⟨rfl, rfl⟩, ⟨lBy_z0 rfl, lBy_z0 rfl, lBy_z0 rfl⟩, rfl, ⟨0, Nat.le_refl _, ⟨fun _ => 0, fun i _ => ⟨rfl, show 0 < 256 by omega⟩, fun h => absurd h (by decide), fun _ => ⟨rfl, rfl⟩, Nat.le_refl _⟩, fun _ => rfl⟩, ⟨rfl, fun i hi => absurd hi (Nat.not_lt_zero _)⟩, ⟨⟨⟨rfl, rfl⟩, ⟨rfl, rfl⟩, rfl, rfl⟩, ?_, ?_, fun i hi => absurd hi (Nat.not_lt_zero _)⟩, fun i hi => absurd hi (Nat.not_lt_zero _), ⟨0, Nat.le_refl _, rfl, fun i _ => ⟨0, Nat.le_refl _, rfl⟩⟩⟩
  · intro t ht
    show (if t < 6 then nI t else 0) = nI t
    rw [if_pos ht]
  · intro x _
    rfl
theorem z0_m : yMI S00 t00 := ⟨⟨rfl, rfl⟩, ⟨rfl, fun i hi => absurd hi (Nat.not_lt_zero _)⟩, ⟨rfl, fun i hi => absurd hi (Nat.not_lt_zero _)⟩, ⟨rfl, fun i hi => absurd hi (Nat.not_lt_zero _)⟩, rfl, ⟨rfl, fun i hi => absurd hi (Nat.not_lt_zero _)⟩, fun i hi => absurd hi (Nat.not_lt_zero _), fun i _ => ⟨0, by decide, rfl⟩⟩
