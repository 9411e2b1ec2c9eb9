/-! copy: the lake gathers rows -/
def xGa (s s' : aT) : Prop := ∀ k i, ¬ (7 ≤ k ∧ k ≤ 10) → ¬ (46 ≤ k ∧ k ≤ 48) → k ≠ 52 → k ≠ 53 → gI s' k i = gI s k i
theorem xGa_t {s s1 s2 : aT} (h : xGa s s1) (h2 : xGa s1 s2) : xGa s s2 := fun k i a b e f => by rw [h2 k i a b e f, h k i a b e f]
section
variable {s : aT} {b pb qb m : Nat} {q : kP} {T : Nat → Nat → Nat}
theorem Lk_gr (hV : lV b pb qb q s) (hI : kIv T m q) (hcd : kCd q) {x : Nat} (hx : x < q.1 1) {M G : List Nat} (h7 : lBy 7 M s) (h9 : lBy 9 G s) (d : Nat) : ∃ s', fLk_gatherRow (d + 107) (nI (lo b x)) s = rI (uB (yLok q x M && decide ((G ++ M).length ≤ 4096))) s' ∧ (∀ k i, k ≠ 9 → k ≠ 10 → ¬ (46 ≤ k ∧ k ≤ 48) → gI s' k i = gI s k i) ∧ gM2 s' = gM2 s ∧ ((yLok q x M && decide ((G ++ M).length ≤ 4096)) = true → lBy 9 (G ++ M) s') := by
  have hM : M.length ≤ 4096 := h7.2.2.2
  have hG : G.length ≤ 4096 := h9.2.2.2
  have hgm : (G ++ M).length = G.length + M.length := List.length_append
  have T46 : ∀ k i, k ≠ 46 → gI (pI (pI (pM1 s 8) 46 1 (nI 0)) 46 7 (nI M.length)) k i = gI s k i := fun k i hk => by
    rw [gI_pI, if_neg (by omega), gI_pI, if_neg (by omega)]
    rfl
  obtain ⟨p, y, he, hp1, hp2⟩ := oK_nw (pI (pI (pM1 s 8) 46 1 (nI 0)) 46 7 (nI M.length)) (a := 0) (by rw [gI_pI, if_neg (by omega), gI_pI, if_pos ⟨rfl, rfl⟩])
  have hop : fLo_open (d + 106) 8 0 (nI M.length) s = rV (oK p y (pI (pI (pM1 s 8) 46 1 (nI 0)) 46 7 (nI M.length))) := by
    refine eLo_open (d + 106) _ _ _ _ _ ?_
    rw [wM_eq, wI_eq, wI_eq, wI_eq, ← he]
    rfl
  have hin : lIn 8 (yB M) M.length (pI (pI (pM1 s 8) 46 1 (nI 0)) 46 7 (nI M.length)) := ⟨⟨rfl, by omega, rfl⟩, by rw [gI_pI, if_pos ⟨rfl, rfl⟩], ⟨h7.2.2.2, by decide⟩, fun j hj => by rw [T46 8 j (by omega)]; exact h7.2.1 j hj, yB_bt h7.2.2.1⟩
  have hm2 : gM2 (pI (pI (pM1 s 8) 46 1 (nI 0)) 46 7 (nI M.length)) = gM2 s := rfl
  generalize pI (pI (pM1 s 8) 46 1 (nI 0)) 46 7 (nI M.length) = t at *
  have hK : lKc 8 (yB M) M.length b pb qb q T m t := ⟨hin, lV_fr (fun k i g1 g2 => T46 k i (by omega)) hV, hI, hcd⟩
  have hrow := Lo_row3 (p := p) (y := y) hK d hx ⟨by show p.1 ≤ _; omega, by show p.2.2.2.length + M.length ≤ alen 48 + p.1; rw [hp2, hp1]; show 0 + M.length ≤ 4096 + 0; omega, by show kBt p.2.2.2; rw [hp2]; exact kBt_n, Nat.zero_le _, Nat.zero_le _⟩
  rw [hp1, hp2] at hrow
  have go : ∀ r, cG (fLo_row (d + 106) (nI (lo b x)) (oK p y t)) (kI fun v3 s2 => if v3 = 0 then rI 0 s2 else cG (fBy_putRow (d + 106) 9 8 0 (gI s2 7 1) s2) (kI fun v5 s4 => if v5 = 0 then rI 0 s4 else rI 1 s4)) = some r → fLk_gatherRow (d + 107) (nI (lo b x)) s = some r := fun r hr => by
    refine eLk_gatherRow (d + 106) _ _ _ ?_
    rw [h7.1, hop, cG_V]
    exact hr
  cases hk : kDt q (yB M) M.length 32 x (0, 0, 0, []) with
  | error e =>
    rw [hk] at hrow
    obtain ⟨t', e1, e2, e3, e4⟩ := hrow
    have hl : yLok q x M = false := by unfold yLok; rw [hk]
    rw [hl, Bool.false_and]
    refine ⟨t', go _ ?_, fun k i a1 a2 a3 => by rw [e4.1 k i (by omega) (by omega) (by omega)]; exact T46 k i (by omega), ?_, fun e => by cases e⟩
    · rw [e1, cG_I, if_pos rfl]
      rfl
    · show t'.2.2.1.2.2.1 = _
      rw [e4.2.2.1]
      exact hm2
  | ok p2 =>
    rw [hk] at hrow
    obtain ⟨y', e1⟩ := hrow
    have hl : yLok q x M = true := by unfold yLok; rw [hk]
    rw [hl, Bool.true_and]
    have ok : ∀ k i, ¬ (46 ≤ k ∧ k ≤ 48) → gI (oK p2 y' t) k i = gI s k i := fun k i a => by rw [oK_o (by omega)]; exact T46 k i (by omega)
    have hm3 : gM2 (oK p2 y' t) = gM2 s := hm2
    have h9' : lBy 9 G (oK p2 y' t) := lBy_fr (fun k i a => ok k i (by omega)) h9
    have h8' : ∀ i, i < M.length → gI (oK p2 y' t) 8 i = mI (M.getD i 0) := fun i hi => by rw [ok 8 i (by omega)]; exact h7.2.1 i hi
    have h71 : gI (oK p2 y' t) 7 1 = nI M.length := by rw [ok 7 1 (by omega)]; exact h7.1
    generalize oK p2 y' t = u at *
    by_cases hq : (G ++ M).length ≤ 4096
    · rw [decide_eq_true hq]
      have hp := Ob_row (d + 100) (c := 9) (L := G) (M := M) (t := u) (by unfold isB; decide) (a := 8) (st := 0) (by show G.length + M.length ≤ 4096; omega) rfl (by show 0 + M.length ≤ 4096; omega) (by decide) (by omega) (fun i hi => by rw [lBy_id h9', Nat.zero_add]; exact h8' i hi) (fun i _ => kBt_gd h7.2.2.1 i)
      rw [lBy_id h9'] at hp
      refine ⟨oB 9 (G ++ M) u, go _ ?_, fun k i a1 a2 a3 => by rw [oB_o a1 (by omega)]; exact ok k i a3, hm3, fun _ => lBy_oB (kBt_a h9.2.2.1 h7.2.2.1) hq⟩
      rw [e1, cG_I, if_neg (by decide), h71]
      have hp : fBy_putRow (d + 106) 9 8 0 (nI M.length) u = _ := hp
      rw [hp, cG_I, if_neg (by decide)]
      rfl
    · rw [decide_eq_false hq]
      have hp := Ob_rowF (d + 100) (c := 9) (L := G) (t := u) (by unfold isB; decide) (a := 8) (st := 0) (k := M.length) hG (by show 4096 < G.length + M.length; omega) rfl (by show 0 + M.length ≤ 4096; omega) (by decide)
      rw [lBy_id h9'] at hp
      refine ⟨u, go _ ?_, fun k i a1 a2 a3 => ok k i a3, hm3, fun e => by cases e⟩
      rw [e1, cG_I, if_neg (by decide), h71]
      have hp : fBy_putRow (d + 106) 9 8 0 (nI M.length) u = _ := hp
      rw [hp, cG_I, if_pos rfl]
      rfl
end
section
variable {L : List yFi} {s0 : aT} {n N y : Nat} {q : kP} {R : List Nat} {gs : Nat → Nat → Nat} {Ms : Nat → List Nat} {bs : Nat → Bool}
def yGo (s0 : aT) (q : kP) (y : Nat) (Ms : Nat → List Nat) (bs : Nat → Bool) (N g : Nat) (F : aRs) : Prop := ∃ s', F = rI (yGv q y Ms bs N g) s' ∧ xGa s0 s' ∧ (yGf Ms bs (N - g) g = 0 ∧ ySo q y Ms N = true → lBy 9 (yCat Ms N) s')
/-- where gathering stands -/
def yGi (s0 : aT) (q : kP) (y : Nat) (Ms : Nat → List Nat) (g : Nat) (s : aT) : Prop := xGa s0 s ∧ (ySo q y Ms g = true → lBy 9 (yCat Ms g) s) ∧ (yCat Ms g).length ≤ 4096 * g
theorem yGo_S {g : Nat} (hg : g < N) (hl : (Ms g).length ≤ 4096) (hb : bs g = true) {F : aRs} (h : yGo s0 q y Ms bs N (g + 1) F) : yGo s0 q y Ms bs N g F := by
  have e : yGf Ms bs (N - g) g = yGf Ms bs (N - (g + 1)) (g + 1) := by
    rw [show N - g = N - (g + 1) + 1 by omega]
    show (if (Ms g).length ≤ 4096 then (if bs g = true then yGf Ms bs (N - (g + 1)) (g + 1) else 20) else 31) = _
    rw [if_pos hl, if_pos hb]
  unfold yGo yGv at h ⊢
  rw [e]
  exact h
theorem yGo_go {g : Nat} {F G : aRs} (h : yGo s0 q y Ms bs N g F) (go : ∀ x, F = some x → G = some x) : yGo s0 q y Ms bs N g G := by
  obtain ⟨s', h1, h2⟩ := h
  exact ⟨s', go _ h1, h2⟩
/-- rows of one file -/
theorem Lk_g39 (hL : yLw L) (hfi : lFi L s0) {x1 v b1 pb1 qb1 b2 pb2 qb2 : Nat} (w1 : lW b1 pb1 qb1 (yQ (yVd L n v)) (yT (yVd L n v)) (yM (yVd L n v)) s0) (hR : yVk R) (hR1 : yVk (yVd L n v)) (w2 : lW b2 pb2 qb2 (yQ R) (yT R) (yM R) s0) {kk : Nat} (hk : kk < L.length) (his : yIs (L.getD kk yF0) n) (hv : (L.getD kk yF0).2.1 = v) (hg : yRj L n (L.getD kk yF0) (gs kk)) (ht : ∀ r, r < (L.getD kk yF0).2.2.2.2.1 - 1 → yTd L n R (L.getD kk yF0) (gs kk) r (Ms (yRs L n kk + r)) (bs (yRs L n kk + r))) (hN : yRs L n (kk + 1) ≤ N) (hNb : N ≤ 163840) {B : Nat → Nat} {st : Nat} (hB : ∀ j, j < (L.getD kk yF0).2.2.2.2.2.length → B (st + j) = (L.getD kk yF0).2.2.2.2.2.getD j 0) (d : Nat) (nx : ∀ s, yGi s0 (yQ R) (yX R) Ms (yRs L n (kk + 1)) s → yGo s0 (yQ R) (yX R) Ms bs N (yRs L n (kk + 1)) (fLk_gather_12 (d + 108) (nI x1) (nI (lo b2 (yX R))) (nI (yRs L n (kk + 1))) (nI (yCat Ms (yRs L n (kk + 1))).length) (uB (ySo (yQ R) (yX R) Ms (yRs L n (kk + 1)))) (nI (kk + 1)) s)) : ∀ j r, r + j = (L.getD kk yF0).2.2.2.2.1 - 1 → ∀ s, yGi s0 (yQ R) (yX R) Ms (yRs L n kk + r) s → lTi 57 B (st + (L.getD kk yF0).2.2.2.2.2.length) s → gI s 52 0 = nI (st + gs kk r) → yGo s0 (yQ R) (yX R) Ms bs N (yRs L n kk + r) (fLk_gather_39 (d + 108) (nI x1) (nI (lo b2 (yX R))) (nI (yRs L n kk + r)) (nI (yCat Ms (yRs L n kk + r)).length) (uB (ySo (yQ R) (yX R) Ms (yRs L n kk + r))) (nI kk) (nI (lo b1 (yX (yVd L n v)))) (nI r) s) := by
  have h40 := hL.1.1
  obtain ⟨a1, a2, a3, a4, a5⟩ := hfi.2 kk hk
  obtain ⟨c1, c2, c3, c4, c5⟩ := hL.1.2 kk hk
  obtain ⟨r1, r2, r3, r4⟩ := yRow hL hk his
  have hS := yRs_S his
  have h63 : ∀ s, xGa s0 s → gI s 63 kk = nI ((L.getD kk yF0).2.2.2.2.1 - 1) := fun s hx => by
    rw [hx 63 kk (by omega) (by omega) (by omega) (by omega), a5]
    exact zI_pos (Nat.pos_of_ne_zero his.2)
  intro j
  induction j with
  | zero =>
    intro r hr s hi _ _
    have e : yRs L n kk + r = yRs L n (kk + 1) := by omega
    rw [e] at hi ⊢
    refine yGo_go (nx s hi) (fun z hz => eLk_gather_39 (d + 107) _ _ _ _ _ _ _ _ _ _ ?_)
    rw [ldI_n (by omega) (by omega), h63 s hi.1, if_pos (by rw [show r = (L.getD kk yF0).2.2.2.2.1 - 1 by omega]; exact Int32.le_refl _)]
    refine eLk_gather_81 (d + 107) _ _ _ _ _ _ _ _ ?_
    rw [nI_add1]
    exact hz
  | succ j ih =>
    intro r hr s hi hti h52
    have hgN : yRs L n kk + r < N := by omega
    have htd := ht r (by omega)
    have hbt : kBt (Ms (yRs L n kk + r)) := yTd_bt hR r2 htd
    have ihr := ih (r + 1) (by omega)
    rw [show yRs L n kk + (r + 1) = yRs L n kk + r + 1 by omega] at ihr
    have hkw := kWq_sh (yB_bt r2) (B' := B) (off := st) (n' := st + (L.getD kk yF0).2.2.2.2.2.length) hB (Nat.le_refl _) 32 _ _ _ (hg.2.2 r (by omega))
    have hkt := kTr_sh (yB_bt r2) (B' := B) (off := st) (n' := st + (L.getD kk yF0).2.2.2.2.2.length) hB (Nat.le_refl _) 32 _ _ _ _ _ _ (hg.2.2 r (by omega)) htd
    rw [hv] at hkw hkt
    generalize hgg : yRs L n kk + r = g at *
    generalize hMM : Ms g = M at *
    have hltc : lTc 57 B (st + (L.getD kk yF0).2.2.2.2.2.length) 7 (pM3 s 7) := ⟨hti, rfl, by unfold isB; decide, .inr rfl, ⟨by omega, by omega⟩, rfl⟩
    have htl := Te_tl (c := 7) (s := s) (A := 57) (kVe_kdx (yVk_g hR).1 (yVk_g hR).2.1 (yVk_g hR).2.2.1) hltc (lW_fr (fun k i g1 g2 => hi.1 k i (by omega) (by omega) (by omega) (by omega)) w1) (lW_fr (fun k i g1 g2 => hi.1 k i (by omega) (by omega) (by omega) (by omega)) w2) (d + 21) (L := []) (by show 0 ≤ 4096; omega) (yVk_r hR1).2.2.2.2 (yVk_r hR).2.2.2.2 (Nat.le_refl 32) hkw hkt
    rw [show 2 * 32 + 22 + (d + 21) = d + 107 by omega, pI_52 (a := st + gs kk r) (t := oB 7 [] s) (by rw [oB_o (by omega) (by omega)]; exact h52)] at htl
    have go : ∀ z, cG (fTe_tell (d + 107) (nI (lo b1 (yX (yVd L n v)))) (nI (lo b2 (yX R))) 7 (oB 7 [] s)) (kI fun v4 s3 => if v4 = 0 then if uB (ySo (yQ R) (yX R) Ms g) = 0 then fLk_gather_70 (d + 108) (nI x1) (nI (lo b2 (yX R))) (nI g) (nI (yCat Ms g).length) (nI kk) (nI (lo b1 (yX (yVd L n v)))) (nI r) s3 else cG (fLk_gatherRow (d + 107) (nI (lo b2 (yX R))) s3) (kI fun v6 s5 => if v6 = 0 then fLk_gather_70 (d + 108) (nI x1) (nI (lo b2 (yX R))) (nI g) (nI (yCat Ms g).length) (nI kk) (nI (lo b1 (yX (yVd L n v)))) (nI r) s5 else fLk_gather_71 (d + 108) (nI x1) (nI (lo b2 (yX R))) (nI g) (nI (yCat Ms g).length) (nI kk) (nI (lo b1 (yX (yVd L n v)))) (nI r) 1 s5) else rI v4 s3) = some z → fLk_gather_39 (d + 108) (nI x1) (nI (lo b2 (yX R))) (nI g) (nI (yCat Ms g).length) (uB (ySo (yQ R) (yX R) Ms g)) (nI kk) (nI (lo b1 (yX (yVd L n v)))) (nI r) s = some z := fun z hz => by
      refine eLk_gather_39 (d + 107) _ _ _ _ _ _ _ _ _ _ ?_
      rw [ldI_n (by omega) (by omega), h63 s hi.1, if_neg (show ¬ nI ((L.getD kk yF0).2.2.2.2.1 - 1) ≤ nI r by rw [nI_leE (by omega) (by omega)]; omega), wI_eq, oB_nil]
      exact hz
    have eGf : yGf Ms bs (N - g) g = if (Ms g).length ≤ 4096 then (if bs g = true then yGf Ms bs (N - (g + 1)) (g + 1) else 20) else 31 := by
      rw [show N - g = N - (g + 1) + 1 by omega]
      rfl
    rw [hMM] at eGf
    have eCat : yCat Ms (g + 1) = yCat Ms g ++ M := by rw [← hMM]; rfl
    have lCat : (yCat Ms (g + 1)).length = (yCat Ms g).length + M.length := by rw [eCat]; exact List.length_append
    have hx3 : ∀ (t' : aT) (e : Nat) (W : List Nat), lQ 0 (pM3 s 7) t' → xGa s0 (oT e (oB 7 W t')) := fun t' e W hq k i b1 b2 b3 b4 => by
      rw [oT_o (by omega), oB_o (by omega) (by omega), hq.1 k i (.inl b4)]
      exact hi.1 k i b1 b2 b3 b4
    unfold lTy at htl
    rw [show ([] : List Nat).length + M.length = M.length from Nat.zero_add _, show alen (7 + 1) = 4096 from rfl] at htl
    by_cases hq : M.length ≤ 4096
    · rw [if_pos hq] at htl eGf
      by_cases hb : bs g = true
      · rw [if_pos hb] at htl
        obtain ⟨t', q1, q2⟩ := htl
        rw [List.nil_append] at q2
        -- one row was told
        have h3 := hx3 t' (st + gs kk (r + 1)) M q1
        have h37 : lBy 7 M (oT (st + gs kk (r + 1)) (oB 7 M t')) := lBy_fr (fun k i a => oT_o (by omega)) (lBy_oB hbt hq)
        have h39 : ySo (yQ R) (yX R) Ms g = true → lBy 9 (yCat Ms g) (oT (st + gs kk (r + 1)) (oB 7 M t')) := fun e => lBy_fr (fun k i a => by rw [oT_o (by omega), oB_o (by omega) (by omega), q1.1 k i (.inl (by omega))]; rfl) (hi.2.1 e)
        have h352 : gI (oT (st + gs kk (r + 1)) (oB 7 M t')) 52 0 = nI (st + gs kk (r + 1)) := by unfold oT; rw [gI_pI, if_pos ⟨rfl, rfl⟩]
        have h3ti : lTi 57 B (st + (L.getD kk yF0).2.2.2.2.2.length) (oT (st + gs kk (r + 1)) (oB 7 M t')) := by
          refine ⟨⟨?_, hti.1.2⟩, ?_, hti.2.2.1, fun i hi2 => ?_, hti.2.2.2.2⟩
          · show t'.2.2.1.2.2.1 = 57
            rw [q1.2]
            exact hti.1.1
          · unfold oT
            rw [gI_pI, if_neg (by omega), oB_o (by omega) (by omega), q1.1 52 1 (.inl (by omega))]
            exact hti.2.1
          · rw [oT_o (by omega), oB_o (by omega) (by omega), q1.1 57 i (.inl (by omega))]
            exact hti.2.2.2.1 i hi2
        generalize oT (st + gs kk (r + 1)) (oB 7 M t') = s3 at *
        have nx2 : ∀ s5, xGa s0 s5 → (ySo (yQ R) (yX R) Ms (g + 1) = true → lBy 9 (yCat Ms (g + 1)) s5) → lTi 57 B (st + (L.getD kk yF0).2.2.2.2.2.length) s5 → gI s5 52 0 = nI (st + gs kk (r + 1)) → gI s5 7 1 = nI M.length → yGo s0 (yQ R) (yX R) Ms bs N g (fLk_gather_71 (d + 108) (nI x1) (nI (lo b2 (yX R))) (nI g) (nI (yCat Ms g).length) (nI kk) (nI (lo b1 (yX (yVd L n v)))) (nI r) (uB (ySo (yQ R) (yX R) Ms (g + 1))) s5) := fun s5 m1 m2 m3 m4 m5 => by
          refine yGo_S hgN (by rw [hMM]; exact hq) hb (yGo_go (ihr s5 ⟨m1, m2, by have := hi.2.2; omega⟩ m3 m4) (fun z hz => eLk_gather_71 (d + 107) _ _ _ _ _ _ _ _ _ _ ?_))
          rw [m5, nI_add1, nI_add1, nI_addE, ← lCat]
          exact hz
        by_cases hs : ySo (yQ R) (yX R) Ms g = true
        · obtain ⟨s5, p1, p2, p3, p4⟩ := Lk_gr (s := s3) (lV_fr (fun k i g1 g2 => h3 k i (by omega) (by omega) (by omega) (by omega)) w2.1) w2.2.1 w2.2.2.1 (yVk_r hR).2.2.2.2 h37 (h39 hs) d
          have eso : ySo (yQ R) (yX R) Ms (g + 1) = (yLok (yQ R) (yX R) M && decide ((yCat Ms g ++ M).length ≤ 4096)) := by
            show (ySo (yQ R) (yX R) Ms g && (yLok (yQ R) (yX R) (Ms g) && decide ((yCat Ms (g + 1)).length ≤ 4096))) = _
            rw [hs, Bool.true_and, hMM, eCat]
          rw [← eso, ← eCat] at p4
          rw [← eso] at p1
          have nx3 := nx2 s5 (fun k i b1 b2 b3 b4 => by rw [p2 k i (by omega) (by omega) b2]; exact h3 k i b1 b2 b3 b4) p4 ⟨⟨by rw [p3]; exact h3ti.1.1, h3ti.1.2⟩, by rw [p2 52 1 (by omega) (by omega) (by omega)]; exact h3ti.2.1, h3ti.2.2.1, fun i hi2 => by rw [p2 57 i (by omega) (by omega) (by omega)]; exact h3ti.2.2.2.1 i hi2, h3ti.2.2.2.2⟩ (by rw [p2 52 0 (by omega) (by omega) (by omega)]; exact h352) (by rw [p2 7 1 (by omega) (by omega) (by omega)]; exact h37.1)
          refine yGo_go nx3 (fun z hz => go z ?_)
          rw [q2, cG_I, if_pos rfl, hs, if_neg (show ¬ uB true = 0 by decide), p1, cG_I]
          cases hso : ySo (yQ R) (yX R) Ms (g + 1) with
          | true =>
            rw [hso] at hz
            rw [if_neg (by decide)]
            exact hz
          | false =>
            rw [hso] at hz
            rw [if_pos (by decide)]
            exact eLk_gather_70 (d + 107) _ _ _ _ _ _ _ _ _ hz
        · have hsf : ySo (yQ R) (yX R) Ms g = false := by simpa using hs
          have eso : ySo (yQ R) (yX R) Ms (g + 1) = false := by
            show (ySo (yQ R) (yX R) Ms g && (yLok (yQ R) (yX R) (Ms g) && decide ((yCat Ms (g + 1)).length ≤ 4096))) = _
            rw [hsf, Bool.false_and]
          have nx3 := nx2 s3 h3 (fun e => by rw [eso] at e; cases e) h3ti h352 h37.1
          rw [eso] at nx3
          refine yGo_go nx3 (fun z hz => go z ?_)
          rw [q2, cG_I, if_pos rfl, hsf, if_pos (by decide)]
          exact eLk_gather_70 (d + 107) _ _ _ _ _ _ _ _ _ hz
      · rw [if_neg hb] at htl eGf
        obtain ⟨t', a', L', q1, q2⟩ := htl
        refine ⟨oT a' (oB 7 L' t'), go _ ?_, hx3 t' a' L' q1, fun e => ?_⟩
        · have ev : yGv (yQ R) (yX R) Ms bs N g = -20 := by
            unfold yGv
            rw [eGf, if_neg (by decide)]
            rfl
          rw [q2, cG_I, if_neg (by decide), ev]
          rfl
        · have := e.1; omega
    · rw [if_neg hq] at htl eGf
      obtain ⟨t', a', L', q1, q2⟩ := htl
      refine ⟨oT a' (oB 7 L' t'), go _ ?_, hx3 t' a' L' q1, fun e => ?_⟩
      · have ev : yGv (yQ R) (yX R) Ms bs N g = -31 := by
          unfold yGv
          rw [eGf, if_neg (by decide)]
          rfl
        rw [q2, cG_I, if_neg (by decide), ev]
        rfl
      · have := e.1; omega
end
