/-! the lake's PlainForm: a schema -/
section
variable {b pb qb c : Nat} {q : kP} {t : aT} {T : Nat → Nat → Nat} {m D F : Nat} {L W : List Nat} {h : Nat}
theorem zT_lt (hv : lV b pb qb q t) {x h : Nat} (h6 : 6 ≤ x) (hx : x < q.1 1) (hh : h ≤ q.1 1) : (zT b h < nI (lo b x)) = (h ≤ x) := by
  have hlx := lV_lo hv hx
  unfold zT
  by_cases a : h ≤ 6
  · rw [if_pos a]
    apply propext
    refine ⟨fun _ => by omega, fun _ => ?_⟩
    rw [Int32.lt_iff_toInt_lt, nI_toInt (by omega)]
    show (-1 : Int) < _
    omega
  · rw [if_neg a]
    have hlh := lV_lo hv (x := h - 1) (by omega)
    rw [nI_ltE (by omega) (by omega)]
    have h6b := hv.1.1
    have e1 : lo b x = x - 6 + b := by unfold lo; rw [if_neg (by omega)]
    apply propext
    by_cases a2 : h - 1 < 6
    · omega
    · have e2 : lo b (h - 1) = h - 1 - 6 + b := by unfold lo; rw [if_neg a2]
      rw [e1, e2]
      omega
theorem zT_s {x : Nat} (h6 : 6 ≤ x) : nI (lo b x) = zT b (x + 1) := by
  unfold zT
  rw [if_neg (by omega), Nat.add_sub_cancel]
theorem Pf_col (hP : lPc b pb qb c q t T m) (hrec : lPw b q t c T D F) (hF : 8 ≤ F) (d : Nat) {x x3 h' k : Nat} (h6 : 6 ≤ x) (hx : x < q.1 1) (hk : q.2.1 0 x = k) (h67 : k = 6 ∨ k = 7) (h16 : x3 + 1 + D ≤ 16) (hh : h' ≤ q.1 1) (g1 : q.2.2 1 x 0 ≠ 0) (g2 : kOc q (kTt q D) (q.2.2 1 x 0 - 1) (x + 1) h') (h4 : q.2.1 4 x = 1) (hl : L.length + (kPw 24 ++ (kQt (kWs k) ++ ([44] ++ (kPw (if k = 6 then 23 else 25) ++ ((kPl T q D (q.2.2 1 x 0 - 1) (x + 1)).1 ++ [125]))))).length ≤ alen (c + 1)) : fPf_writeCollection (F + d + 1) (nI (lo b x)) (1000 + (if k = 6 then 23 else 25)) (nI x3) (oP c L b (x + 1) t) = rV (oP c (L ++ (kPw 24 ++ (kQt (kWs k) ++ ([44] ++ (kPw (if k = 6 then 23 else 25) ++ ((kPl T q D (q.2.2 1 x 0 - 1) (x + 1)).1 ++ [125])))))) b h' t) := by
  obtain ⟨hlx, hr, h732⟩ := lPc_r hP h6 hx
  have hc2 := hP.1.2
  have hsw : sWd (1000 + (if k = 6 then 23 else 25)) (kPw (if k = 6 then 23 else 25)) := by
    rcases h67 with rfl | rfl
    · exact sWd_P 23 (by decide)
    · exact sWd_P 25 (by decide)
  have h18 := ((hP.2.2.2.1.2.2.1 x h6 hx).2.2.2.2.1 (by omega)).2.2
  rw [if_neg (by omega)] at h18
  have e27 : gI t 27 (lo b x) = nI (lo b (q.2.2 1 x 0 - 1)) := by
    rw [(hP.2.2.1.2.2.2.1 x h6 hx).2.2.2.2, if_pos (by omega), h18]
    unfold zL
    rw [if_neg g1]
  obtain ⟨w, hw, hwo⟩ := Sc_wOf (F + d) (k := k) (by omega) (by omega)
  generalize hA : (kPl T q D (q.2.2 1 x 0 - 1) (x + 1)).1 = A at *
  generalize (if k = 6 then 23 else 25) = j at *
  simp only [List.length_append, List.length_cons, List.length_nil, kQt_len] at hl
  have s1 : fBy_putWord (F + d) c 1024 (oP c L b (x + 1) t) = rI 1 (oP c (L ++ kPw 24) b (x + 1) t) := Oq_word (by omega) hP.1 (sWd_P 24 (by decide)) (by omega)
  have s2 : fPf_quote (F + d) w (oP c (L ++ kPw 24) b (x + 1) t) = rV (oP c (L ++ kPw 24 ++ kQt (kWs k)) b (x + 1) t) := Pq_quote (by omega) hP.1 hP.2.1 hw (by simp only [List.length_append, kQt_len]; omega)
  have s3 : fBy_put (F + d) c (nI 44) (oP c (L ++ kPw 24 ++ kQt (kWs k)) b (x + 1) t) = rI 1 (oP c (L ++ kPw 24 ++ kQt (kWs k) ++ [44]) b (x + 1) t) := Op_put (F + d) hP.1 (by omega) (by simp only [List.length_append, kQt_len]; omega)
  have s4 : fBy_putWord (F + d) c (1000 + j) (oP c (L ++ kPw 24 ++ kQt (kWs k) ++ [44]) b (x + 1) t) = rI 1 (oP c (L ++ kPw 24 ++ kQt (kWs k) ++ [44] ++ kPw j) b (x + 1) t) := Oq_word (by omega) hP.1 hsw (by simp only [List.length_append, List.length_cons, List.length_nil, kQt_len]; omega)
  have s5 := hrec d (q.2.2 1 x 0 - 1) (x + 1) h' (x3 + 1) (L ++ kPw 24 ++ kQt (kWs k) ++ [44] ++ kPw j) g2 (by omega) hh h16 (by rw [hA]; simp only [List.length_append, List.length_cons, List.length_nil, kQt_len]; omega)
  rw [hA] at s5
  refine ePf_writeCollection (F + d) _ _ _ _ _ ?_
  rw [oP_g, hP.2.1, gC_ok hP.1, s1, cG_I, ldI_n hlx (by omega), (hr _ _).2.2.1, hk, hwo, cG_A, s2, cG_V, oP_g, hP.2.1, gC_ok hP.1, show (44 : Int32) = nI 44 from rfl, s3, cG_I, oP_g, hP.2.1, gC_ok hP.1, s4, cG_I, ldI_n hlx (by omega), (hr _ _).2.2.2.2, e27, nI_add1, s5, cG_V, oP_g, hP.2.1, gC_ok hP.1, show (125 : Int32) = nI 125 from rfl, Op_put (F + d) hP.1 (by omega) (by simp only [List.length_append, List.length_cons, List.length_nil, kQt_len]; omega), cG_I]
  simp only [List.append_assoc]
  rfl
theorem Pf_nm (hP : lPc b pb qb c q t T m) (hrec : lPw b q t c T D F) (hF : 8 ≤ F) (d : Nat) {x x3 h' : Nat} (h6 : 6 ≤ x) (hx : x < q.1 1) (h9 : 9 ≤ q.2.1 0 x) (h16 : x3 + 1 + D ≤ 16) (hh : h' ≤ q.1 1) (htt : kTt q (D + 1) x h') (hl : L.length + (kPlB T q (kPl T q D) x).1.length ≤ alen (c + 1)) : fPf_writeNamed (F + d + 2) (nI (lo b x)) (nI x3) (oP c L b (x + 1) t) = rV (oP c (L ++ (kPlB T q (kPl T q D) x).1) b h' t) := by
  obtain ⟨hlx, hr, h732⟩ := lPc_r hP h6 hx
  have hc2 := hP.1.2
  have hnd := htt.1
  have hK : q.2.1 0 x ≤ 11 := (hP.2.2.2.1.2.2.1 x h6 hx).1.2
  obtain ⟨w, hw, hwo⟩ := Sc_wOf (F + d + 1) (k := q.2.1 0 x) (by omega) (by omega)
  have hpre : ∀ (W : List Nat) (r : _), L.length + (kPln T q x W).length ≤ alen (c + 1) → (∀ L2 : List Nat, L2 = L ++ kPw 26 ++ kQt (kLe T (q.2.1 1 x - 1)) ++ kPw 27 ++ kQt (kWs (q.2.1 0 x)) → L2.length + W.length + 1 ≤ alen (c + 1) → (if nI (q.2.1 0 x) = 9 then gC (gM4 (oP c L2 b (x + 1) t)) 0 (cG (fBy_putWord (F + d + 1) (gM4 (oP c L2 b (x + 1) t)) 1028 (oP c L2 b (x + 1) t)) (kI fun v17 s16 => ldI 5254 s16 27 (nI (lo b x)) (fun v18 => cG (fPf_writeSize (F + d + 1) v18 s16) (kV fun s19 => fPf_writeNamed_72 (F + d + 2) s19)))) else if nI (q.2.1 0 x) = 10 then gC (gM4 (oP c L2 b (x + 1) t)) 0 (cG (fBy_putWord (F + d + 1) (gM4 (oP c L2 b (x + 1) t)) 1029 (oP c L2 b (x + 1) t)) (kI fun v23 s22 => cG (fPf_writeSymbols (F + d + 1) (nI (lo b x)) s22) (kV fun s24 => gC (gM4 s24) 0 (cG (fBy_put (F + d + 1) (gM4 s24) 93 s24) (kI fun v27 s26 => fPf_writeNamed_72 (F + d + 2) s26))))) else gC (gM4 (oP c L2 b (x + 1) t)) 0 (cG (fBy_putWord (F + d + 1) (gM4 (oP c L2 b (x + 1) t)) 1030 (oP c L2 b (x + 1) t)) (kI fun v30 s29 => cG (fPf_writeFields (F + d + 1) (nI (lo b x)) (nI x3) s29) (kV fun s31 => gC (gM4 s31) 0 (cG (fBy_put (F + d + 1) (gM4 s31) 93 s31) (kI fun v34 s33 => fPf_writeNamed_72 (F + d + 2) s33)))))) = some r) → fPf_writeNamed (F + d + 2) (nI (lo b x)) (nI x3) (oP c L b (x + 1) t) = some r := by
    intro W r hl hr2
    unfold kPln at hl
    simp only [List.length_append, List.length_cons, List.length_nil] at hl
    have s1 : fBy_putWord (F + d + 1) c 1026 (oP c L b (x + 1) t) = rI 1 (oP c (L ++ kPw 26) b (x + 1) t) := Oq_word (by omega) hP.1 (sWd_P 26 (by decide)) (by omega)
    obtain ⟨p1, p2⟩ := Pq_own (n := F + d + 1) (L := L ++ kPw 26) (h := x + 1) (by omega) hP h6 hx h9 (by simp only [List.length_append]; omega)
    have s3 : fBy_putWord (F + d + 1) c 1027 (oP c (L ++ kPw 26 ++ kQt (kLe T (q.2.1 1 x - 1))) b (x + 1) t) = rI 1 (oP c (L ++ kPw 26 ++ kQt (kLe T (q.2.1 1 x - 1)) ++ kPw 27) b (x + 1) t) := Oq_word (by omega) hP.1 (sWd_P 27 (by decide)) (by simp only [List.length_append]; omega)
    have s4 : fPf_quote (F + d + 1) w (oP c (L ++ kPw 26 ++ kQt (kLe T (q.2.1 1 x - 1)) ++ kPw 27) b (x + 1) t) = rV (oP c (L ++ kPw 26 ++ kQt (kLe T (q.2.1 1 x - 1)) ++ kPw 27 ++ kQt (kWs (q.2.1 0 x))) b (x + 1) t) := Pq_quote (by omega) hP.1 hP.2.1 hw (by simp only [List.length_append]; omega)
    refine ePf_writeNamed (F + d + 1) _ _ _ _ ?_
    rw [oP_g, hP.2.1, gC_ok hP.1, s1, cG_I, ldI_n hlx (by omega), (hr _ _).2.2.2.1, p1, p2, cG_V, oP_g, hP.2.1, gC_ok hP.1, s3, cG_I, ldI_n hlx (by omega), (hr _ _).2.2.1, hwo, cG_A, s4, cG_V, ldI_n hlx (by omega), (hr _ _).2.2.1]
    exact hr2 _ rfl (by simp only [List.length_append]; omega)
  have h72 : ∀ L : List Nat, L.length + 1 ≤ alen (c + 1) → ∀ h, fPf_writeNamed_72 (F + d + 2) (oP c L b h t) = rV (oP c (L ++ [125]) b h t) := by
    intro L hl h
    refine ePf_writeNamed_72 (F + d + 1) _ _ ?_
    rw [oP_g, hP.2.1, gC_ok hP.1, show (125 : Int32) = nI 125 from rfl, Op_put (F + d + 1) hP.1 (by omega) hl, cG_I]
    rfl
  have hcase : q.2.1 0 x = 9 ∨ q.2.1 0 x = 10 ∨ q.2.1 0 x = 11 := by omega
  rcases hcase with hk | hk | hk
  · have eB : kPlB T q (kPl T q D) x = (kPln T q x (kPw 28 ++ kDg (q.2.1 8 x - 1)), x + 1) := by
      unfold kPlB
      rw [if_neg (by omega), if_neg (by omega), if_pos hk]
    have eh : h' = x + 1 := by
      rcases kTt_b htt with ⟨_, e⟩ | ⟨e, _⟩
      · exact e
      · omega
    rw [eB] at hl ⊢
    rw [eh]
    refine hpre _ _ hl (fun L2 hL2 hl2 => ?_)
    have h8 := hnd.1 hk
    have h865 := (hP.2.2.2.1.2.2.1 x h6 hx).2.2.2.2.2.2.1
    have e27 : gI t 27 (lo b x) = nI (q.2.1 8 x - 1) := by
      rw [(hP.2.2.1.2.2.2.1 x h6 hx).2.2.2.2, if_neg (by omega), zI_pos h8]
    simp only [List.length_append] at hl2
    rw [hk, if_pos (by decide), oP_g, hP.2.1, gC_ok hP.1, Oq_word (by omega) hP.1 (sWd_P 28 (by decide)) (by omega), cG_I, ldI_n hlx (by omega), (hr _ _).2.2.2.2, e27, Pf_size (F + d) hP.1 hP.2.1 (by omega) (by simp only [List.length_append]; omega), cG_V, h72 _ (by simp only [List.length_append]; omega), hL2]
    unfold kPln
    simp only [List.append_assoc]
    rfl
  · have eB : kPlB T q (kPl T q D) x = (kPln T q x (kPw 29 ++ (kPlY T q x (q.2.1 4 x) 0 ++ [93])), x + 1) := by
      unfold kPlB
      rw [if_neg (by omega), if_neg (by omega), if_neg (by omega), if_pos hk]
    have eh : h' = x + 1 := by
      rcases kTt_b htt with ⟨_, e⟩ | ⟨e, _⟩
      · exact e
      · omega
    rw [eB] at hl ⊢
    rw [eh]
    refine hpre _ _ hl (fun L2 hL2 hl2 => ?_)
    simp only [List.length_append, List.length_cons, List.length_nil] at hl2
    have hsy := Pf_sy (h := x + 1) hP (n := F + d) (by omega) h6 hx hk (q.2.1 4 x) 0 (L2 ++ kPw 29) (by omega) (by rw [if_pos (.inl rfl), List.nil_append, List.length_append]; omega)
    rw [if_pos (.inl rfl), List.nil_append] at hsy
    have hsy2 : fPf_writeSymbols (F + d + 1) (nI (lo b x)) (oP c (L2 ++ kPw 29) b (x + 1) t) = rV (oP c (L2 ++ kPw 29 ++ kPlY T q x (q.2.1 4 x) 0) b (x + 1) t) := ePf_writeSymbols (F + d) _ _ _ hsy
    rw [hk, if_neg (by decide), if_pos (by decide), oP_g, hP.2.1, gC_ok hP.1, Oq_word (by omega) hP.1 (sWd_P 29 (by decide)) (by omega), cG_I, hsy2, cG_V, oP_g, hP.2.1, gC_ok hP.1, show (93 : Int32) = nI 93 from rfl, Op_put (F + d + 1) hP.1 (by omega) (by simp only [List.length_append]; omega), cG_I, h72 _ (by simp only [List.length_append, List.length_cons, List.length_nil]; omega), hL2]
    unfold kPln
    simp only [List.append_assoc]
    rfl
  · have eB : kPlB T q (kPl T q D) x = (kPln T q x (kPw 30 ++ ((kPlF T q (kPl T q D) x (q.2.1 4 x) 0 (x + 1)).1 ++ [93])), (kPlF T q (kPl T q D) x (q.2.1 4 x) 0 (x + 1)).2) := by
      unfold kPlB
      rw [if_neg (by omega), if_neg (by omega), if_neg (by omega), if_neg (by omega)]
    rcases kTt_b htt with ⟨e, _⟩ | ⟨_, f, f0, f1, f2, f3⟩
    · omega
    rw [eB] at hl ⊢
    refine hpre _ _ hl (fun L2 hL2 hl2 => ?_)
    simp only [List.length_append, List.length_cons, List.length_nil] at hl2
    have hfi := Pf_fi hP hrec hF d h6 hx hk h16 f1 hh f2 f3 (q.2.1 4 x) 0 (L2 ++ kPw 30) (by omega) (by rw [if_pos (.inl rfl), List.nil_append, List.length_append, f0]; omega)
    rw [if_pos (.inl rfl), List.nil_append, f0] at hfi
    have hfi2 : fPf_writeFields (F + d + 1) (nI (lo b x)) (nI x3) (oP c (L2 ++ kPw 30) b (x + 1) t) = rV (oP c (L2 ++ kPw 30 ++ (kPlF T q (kPl T q D) x (q.2.1 4 x) 0 (x + 1)).1) b h' t) := ePf_writeFields (F + d) _ _ _ _ hfi
    rw [hk, if_neg (by decide), if_neg (by decide), oP_g, hP.2.1, gC_ok hP.1, Oq_word (by omega) hP.1 (sWd_P 30 (by decide)) (by omega), cG_I, hfi2, cG_V, oP_g, hP.2.1, gC_ok hP.1, show (93 : Int32) = nI 93 from rfl, Op_put (F + d + 1) hP.1 (by omega) (by simp only [List.length_append]; omega), cG_I, h72 _ (by simp only [List.length_append, List.length_cons, List.length_nil]; omega), hL2]
    unfold kPln
    simp only [List.append_assoc]
    rfl
theorem Pf_old (hP : lPc b pb qb c q t T m) {n : Nat} (hn : 7 ≤ n) {x x3 : Nat} (hx : x < q.1 1) (hh : h ≤ q.1 1) (hxh : x < h) (h9 : x < 6 ∨ 9 ≤ q.2.1 0 x) (h16 : x3 ≤ 16) (hl : L.length + (kPl T q D x h).1.length ≤ alen (c + 1)) : fPf_write (n + 1) (nI (lo b x)) (nI x3) (oP c L b h t) = rV (oP c (L ++ (kPl T q D x h).1) b h t) := by
  have hlx := lV_lo hP.2.2.1 hx
  have hc2 := hP.1.2
  have e16 : nI x3 ≤ 16 := by rw [nI_lit 16, nI_leE (by omega) (by omega)]; exact h16
  have e6 : ((6 : Int32) ≤ nI (lo b x)) = (6 ≤ x) := by
    rw [nI_lit 6, nI_leE (by omega) (by omega)]
    have := hP.2.2.1.1.1
    unfold lo
    split
    · rfl
    · apply propext; omega
  rw [kPl_old hxh] at hl ⊢
  refine ePf_write n _ _ _ _ ?_
  rw [if_pos e16]
  simp only [e6]
  by_cases h6 : x < 6
  · rw [if_pos h6] at hl ⊢
    have e : lo b x = x := by unfold lo; rw [if_pos h6]
    obtain ⟨w, hw, hwo⟩ := Sc_wOf n (k := x) (by omega) (by omega)
    rw [if_neg (by omega), e, hwo, cG_A, Pq_quote hn hP.1 hP.2.1 hw hl, cG_V]
    rfl
  · rw [if_neg h6] at hl ⊢
    obtain ⟨_, hr, _⟩ := lPc_r hP (show 6 ≤ x by omega) hx
    obtain ⟨p1, p2⟩ := Pq_own (n := n) (L := L) (h := h) hn hP (show 6 ≤ x by omega) hx (by omega) hl
    rw [if_pos (by omega), oP_l hP.1]
    simp only [zT_lt hP.2.2.1 (show 6 ≤ x by omega) hx hh]
    rw [if_neg (by omega), ldI_n hlx (by omega), (hr _ _).2.2.2.1, p1, p2, cG_V]
    rfl
/-- a schema's plain form, in the lake -/
theorem Pf_wr (hP : lPc b pb qb c q t T m) : ∀ D, D ≤ 16 → lPw b q t c T D (3 * D + 9) := by
  intro D
  induction D with
  | zero =>
    intro _ d x h h' x3 L hoc h6 hh h16 hl
    rcases hoc with ⟨g1, g2, g3⟩ | ⟨g1, g2⟩
    · subst g2
      rw [show 3 * 0 + 9 + d = d + 8 + 1 by omega]
      exact Pf_old hP (by omega) (by omega) hh g1 g3 (by omega) hl
    · exact g2.elim
  | succ D ih =>
    intro hD d x h h' x3 L hoc h6 hh h16 hl
    rcases hoc with ⟨g1, g2, g3⟩ | ⟨g1, g2⟩
    · subst g2
      rw [show 3 * (D + 1) + 9 + d = (3 * D + 11 + d) + 1 by omega]
      exact Pf_old hP (by omega) (by omega) hh g1 g3 (by omega) hl
    · subst g1
      have hlt := kTt_lt _ _ _ g2
      have hx : x < q.1 1 := by omega
      obtain ⟨hlx, hr, h732⟩ := lPc_r hP h6 hx
      have hrec := ih (by omega)
      have hnd := g2.1
      have hK := (hP.2.2.2.1.2.2.1 x h6 hx).1
      have e16 : nI x3 ≤ 16 := by rw [nI_lit 16, nI_leE (by omega) (by omega)]; omega
      have e6 : (6 : Int32) ≤ nI (lo b x) := by
        rw [nI_lit 6, nI_leE (by omega) (by omega)]
        have := hP.2.2.1.1.1
        unfold lo
        split <;> omega
      rw [kPl_new h6 (by omega)] at hl ⊢
      rw [show 3 * (D + 1) + 9 + d = (3 * D + 9 + d + 2) + 1 by omega]
      refine ePf_write (3 * D + 9 + d + 2) _ _ _ _ ?_
      rw [if_pos e16, if_pos e6, oP_l hP.1]
      simp only [zT_lt hP.2.2.1 h6 hx (show x ≤ q.1 1 by omega)]
      rw [if_pos (Nat.le_refl _), wI_eq, zT_s h6, oP_w hP.1, ← zT_s h6, ldI_n hlx (by omega), (hr _ _).2.2.1]
      have hcase : q.2.1 0 x = 6 ∨ q.2.1 0 x = 7 ∨ q.2.1 0 x = 8 ∨ 9 ≤ q.2.1 0 x := by omega
      have hcol : (q.2.1 0 x = 6 ∨ q.2.1 0 x = 7) → fPf_writeCollection (3 * D + 9 + d + 2) (nI (lo b x)) (1000 + (if q.2.1 0 x = 6 then 23 else 25)) (nI x3) (oP c L b (x + 1) t) = rV (oP c (L ++ (kPlB T q (kPl T q D) x).1) b h' t) := by
        intro h67
        have h41 := hnd.2.2.1 h67
        rcases kTt_b g2 with ⟨e, _⟩ | ⟨_, f, f0, f1, f2, f3⟩
        · omega
        have f20 := f2 0 (by omega)
        rw [h41] at f1
        rw [f0, f1] at f20
        have eB : kPlB T q (kPl T q D) x = (kPw 24 ++ (kQt (kWs (q.2.1 0 x)) ++ ([44] ++ (kPw (if q.2.1 0 x = 6 then 23 else 25) ++ ((kPl T q D (q.2.2 1 x 0 - 1) (x + 1)).1 ++ [125])))), (kPl T q D (q.2.2 1 x 0 - 1) (x + 1)).2) := by
          unfold kPlB
          rw [if_pos h67]
        rw [eB] at hl ⊢
        exact Pf_col hP hrec (by omega) (d + 1) h6 hx rfl h67 (by omega) hh f20.1 f20.2 h41 hl
      rcases hcase with hk | hk | hk | hk
      · have := hcol (.inl hk)
        rw [if_pos hk] at this
        rw [hk, if_pos (by decide), this, cG_V]
        rfl
      · have := hcol (.inr hk)
        rw [if_neg (by omega)] at this
        rw [hk, if_neg (by decide), if_pos (by decide), this, cG_V]
        rfl
      · rcases kTt_b g2 with ⟨e, _⟩ | ⟨_, f, f0, f1, f2, f3⟩
        · omega
        have eB : kPlB T q (kPl T q D) x = ([91] ++ ((kPlU q (kPl T q D) x (q.2.1 4 x) 0 (x + 1)).1 ++ [93]), (kPlU q (kPl T q D) x (q.2.1 4 x) 0 (x + 1)).2) := by
          unfold kPlB
          rw [if_neg (by omega), if_pos hk]
        rw [eB] at hl ⊢
        simp only [List.length_append, List.length_cons, List.length_nil] at hl
        have hun := Pf_un hP hrec (d + 1) (x3 := x3) h6 hx hk (by omega) f1 hh f2 f3 (q.2.1 4 x) 0 (L ++ [91]) (by omega) (by rw [if_pos (.inl rfl), List.nil_append, f0]; simp only [List.length_append, List.length_cons, List.length_nil]; omega)
        rw [if_pos (.inl rfl), List.nil_append, f0] at hun
        have hwu : fPf_writeUnion (3 * D + 9 + d + 2) (nI (lo b x)) (nI x3) (oP c L b (x + 1) t) = rV (oP c (L ++ [91] ++ ((kPlU q (kPl T q D) x (q.2.1 4 x) 0 (x + 1)).1 ++ [93])) b h' t) := by
          refine ePf_writeUnion (3 * D + 9 + d + 1) _ _ _ _ ?_
          rw [oP_g, hP.2.1, gC_ok hP.1, show (91 : Int32) = nI 91 from rfl, Op_put (3 * D + 9 + d + 1) hP.1 (by omega) (by omega), cG_I]
          exact hun
        rw [hk, if_neg (by decide), if_neg (by decide), if_pos (by decide), hwu, cG_V]
        simp only [List.append_assoc]
        rfl
      · have hnm := Pf_nm (L := L) hP hrec (by omega) d (x3 := x3) h6 hx hk (by omega) hh g2 hl
        have n6 : ¬ nI (q.2.1 0 x) = 6 := by rw [show (6 : Int32) = nI 6 from rfl, nI_eqE (by omega) (by omega)]; omega
        have n7 : ¬ nI (q.2.1 0 x) = 7 := by rw [show (7 : Int32) = nI 7 from rfl, nI_eqE (by omega) (by omega)]; omega
        have n8 : ¬ nI (q.2.1 0 x) = 8 := by rw [show (8 : Int32) = nI 8 from rfl, nI_eqE (by omega) (by omega)]; omega
        rw [if_neg n6, if_neg n7, if_neg n8, hnm, cG_V]
        rfl
end
