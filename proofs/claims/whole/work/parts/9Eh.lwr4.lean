/-! the lake's Defaults: writing a default -/
theorem nI_half {i : Nat} (h : i ≤ 100000) : nI i / 2 = nI (i / 2) := by
  have e1 : ∀ k : Nat, k ≤ 100000 → (nI k).toInt = k := fun k hk => by
    show (Int32.ofNat k).toInt = k
    rw [Int32.toInt_ofNat_of_lt (by omega)]
  rw [← Int32.toInt_inj, Int32.toInt_div, e1 i h, e1 (i / 2) (by omega), show (2 : Int32).toInt = 2 from rfl, Int.tdiv_eq_ediv_of_nonneg (by omega)]
  simp only [Int.bmod]
  omega
section
variable {b pb qb : Nat} {q : kP} {s : aT} {T : Nat → Nat → Nat} {N : Nat → Int} {m l n : Nat} {fit : Nat → Nat → Nat} {R : Nat → Nat → List Nat} {F D : Nat}
theorem Df_w26 (hT : lT s T N m l) (hG : jGt T N m l n) (d : Nat) {v k x3 : Nat} {y z4 : Int32} {L W : List Nat} (hv : v < m) (h2 : T 0 v ≠ 2) (hk : k ≤ 4096) (h44 : ∀ L, qb + q.1 6 + L.length + W.length ≤ 72704 → fDf_writeItems_44 (d + 2) y (nI x3) z4 (nI k) (zI (T 3 v)) 0 (lS b pb qb (kPb L q) s) = rV (lS b pb qb (kPb (L ++ W) q) s)) (hq : qb + q.1 6 + L.length + ((if k = 0 then [] else kVb (Int64.ofNat k)) ++ W).length ≤ 72704) : fDf_writeItems_26 (d + 2) (nI v) y (nI x3) z4 (nI k) (lS b pb qb (kPb L q) s) = rV (lS b pb qb (kPb (L ++ ((if k = 0 then [] else kVb (Int64.ofNat k)) ++ W)) q) s) := by
  have hm := hG.1
  have hTq := lS_T (b := b) (pb := pb) (qb := qb) (q := kPb L q) hT
  have e0 : (nI k ≤ (0 : Int32)) = (k ≤ 0) := by rw [show (0 : Int32) = nI 0 from rfl, nI_leE (by omega) (by omega)]
  refine eDf_writeItems_26 (d + 1) _ _ _ _ _ _ _ ?_
  rw [ldI_n (by omega) (by omega), lT_I hTq hv h2]
  simp only [e0]
  by_cases h : k = 0
  · rw [if_pos (by omega)]
    rw [if_pos h] at hq ⊢
    rw [List.nil_append] at hq ⊢
    refine eDf_writeItems_42 (d + 1) _ _ _ _ _ _ _ ?_
    exact h44 L hq
  · rw [if_neg (by omega)]
    rw [if_neg h] at hq ⊢
    rw [List.length_append] at hq
    rw [nI_long (by omega), Lp_vi d (by rw [kPb_6]; omega), cG_I, ← kPb_app]
    refine eDf_writeItems_42 (d + 1) _ _ _ _ _ _ _ ?_
    rw [h44 _ (by rw [List.length_append]; omega), List.append_assoc]
    rfl
theorem Df_wI6 (hC : lCx b pb qb s) (hT : lT s T N m l) (hG : jGt T N m l n) (hI : kIv T m q) (hrec : lWy b pb qb q s T N m D F fit R) (d : Nat) {y v x3 : Nat} {L : List Nat} (h6 : 6 ≤ y) (hy : y < q.1 1) (hk : q.2.1 0 y = 6) (h4 : q.2.1 4 y = 1) (hx : q.2.2 1 y 0 ≠ 0) (h1 : T 0 v = 1) (hb : jVb T N m v) (hv : jVd T N m (D + 1) v) (h25 : x3 + 1 + D ≤ 25) (hf : kFiA T (fun w => fit w (q.2.2 1 y 0 - 1)) (T 2 v) (T 3 v) = 0) (hq : qb + q.1 6 + L.length + ((if T 2 v = 0 then [] else kVb (Int64.ofNat (T 2 v))) ++ (kWtA T (fun w => R w (q.2.2 1 y 0 - 1)) (T 2 v) (T 3 v) ++ kVb 0)).length ≤ 72704) : fDf_writeItems (F + d + 8) (nI v) (nI (lo b y)) (nI x3) (lS b pb qb (kPb L q) s) = rV (lS b pb qb (kPb (L ++ ((if T 2 v = 0 then [] else kVb (Int64.ofNat (T 2 v))) ++ (kWtA T (fun w => R w (q.2.2 1 y 0 - 1)) (T 2 v) (T 3 v) ++ kVb 0))) q) s) := by
  have hm := hG.1
  have hlt := jVb_lt hb
  have hn := hI.1
  have hIp := kIv_pb (L := L) hI
  have c1 : (kPb L q).1 1 = q.1 1 := rfl
  have hTq := lS_T (b := b) (pb := pb) (qb := qb) (q := kPb L q) hT
  have hlty := lo_lt hC (t := y) (by omega)
  have hkd : gI (lS b pb qb (kPb L q) s) 23 (lo b y) = nI 6 := by rw [lS_kind hC hIp (by rw [c1]; exact hy), kPb_Q (by omega), hk]
  have h2 := jVb_2le hG hb h1
  refine eDf_writeItems (F + d + 7) _ _ _ _ _ ?_
  rw [ldI_n (by omega) (by omega), hkd, if_pos (by decide)]
  refine eDf_writeItems_10 (F + d + 7) _ _ _ _ _ _ ?_
  rw [if_pos rfl, ldI_n (by omega) (by omega), lT_Z hTq (by omega) (by omega)]
  exact Df_w26 hT hG (F + d + 6) (by omega) (by omega) h2 (fun L hL => Df_wA hC hT hG hI hrec d h2 h6 hy (.inl hk) h4 hx hlt.2 h25 _ _ _ 0 L (jVd_l hv h1) (Nat.zero_add _) hf hL) hq
theorem Df_wI7 (hC : lCx b pb qb s) (hT : lT s T N m l) (hG : jGt T N m l n) (hI : kIv T m q) (hrec : lWy b pb qb q s T N m D F fit R) (d : Nat) {y v x3 : Nat} {L : List Nat} (h6 : 6 ≤ y) (hy : y < q.1 1) (hk : q.2.1 0 y = 7) (h4 : q.2.1 4 y = 1) (hx : q.2.2 1 y 0 ≠ 0) (h1 : T 0 v = 0) (hb : jVb T N m v) (hv : jVd T N m (D + 1) v) (h25 : x3 + 1 + D ≤ 25) (hf : kFiM T (fun w => fit w (q.2.2 1 y 0 - 1)) (T 2 v / 2) (T 3 v) = 0) (hq : qb + q.1 6 + L.length + ((if T 2 v / 2 = 0 then [] else kVb (Int64.ofNat (T 2 v / 2))) ++ (kWtM T (fun w => R w (q.2.2 1 y 0 - 1)) (T 2 v / 2) (T 3 v) ++ kVb 0)).length ≤ 72704) : fDf_writeItems (F + d + 8) (nI v) (nI (lo b y)) (nI x3) (lS b pb qb (kPb L q) s) = rV (lS b pb qb (kPb (L ++ ((if T 2 v / 2 = 0 then [] else kVb (Int64.ofNat (T 2 v / 2))) ++ (kWtM T (fun w => R w (q.2.2 1 y 0 - 1)) (T 2 v / 2) (T 3 v) ++ kVb 0))) q) s) := by
  have hm := hG.1
  have hlt := jVb_lt hb
  have hn := hI.1
  have hIp := kIv_pb (L := L) hI
  have c1 : (kPb L q).1 1 = q.1 1 := rfl
  have hTq := lS_T (b := b) (pb := pb) (qb := qb) (q := kPb L q) hT
  have hlty := lo_lt hC (t := y) (by omega)
  have hkd : gI (lS b pb qb (kPb L q) s) 23 (lo b y) = nI 7 := by rw [lS_kind hC hIp (by rw [c1]; exact hy), kPb_Q (by omega), hk]
  obtain ⟨k', hk', hch'⟩ := jVb_o hb h1
  have hl := jTm_len hch'
  obtain ⟨k, hk2, hch⟩ := jVd_o hv h1
  rw [show k = T 2 v / 2 by omega] at hch
  refine eDf_writeItems (F + d + 7) _ _ _ _ _ ?_
  rw [ldI_n (by omega) (by omega), hkd, if_neg (by decide)]
  refine eDf_writeItems_10 (F + d + 7) _ _ _ _ _ _ ?_
  rw [if_neg (by decide), ldI_n (by omega) (by omega), lT_Z hTq (by omega) (by omega), nI_half (by omega)]
  exact Df_w26 hT hG (F + d + 6) (by omega) (by omega) (by omega) (fun L hL => Df_wM hC hT hG hI hrec d (by omega) h6 hy (.inr hk) h4 hx hlt.2 h25 _ _ _ 0 L hch (Nat.zero_add _) hf hL) hq
/-- what is known about a value's own values -/
def lWz (b pb qb : Nat) (q : kP) (s : aT) (T : Nat → Nat → Nat) (N : Nat → Int) (m F : Nat) (fit : Nat → Nat → Nat) (R : Nat → Nat → List Nat) (v x3 : Nat) : Prop := 2 ≤ T 0 v ∨ ∃ D, jVd T N m (D + 1) v ∧ lWy b pb qb q s T N m D F fit R ∧ x3 + 1 + D ≤ 25
theorem kPb_1 {L : List Nat} {a : Nat} : kPb (L ++ [a]) q = kPp (fun _ => a) 1 (kPb L q) := by rw [kPb_app, kPb_cons, kPb_nil]
theorem kFtB_ok {v y : Nat} (hf : kFtB T N q fit v y = 0) (h6 : q.2.1 0 y ≠ 6) (h7 : q.2.1 0 y ≠ 7) (h11 : q.2.1 0 y ≠ 11) : (q.2.1 0 y = 2 ∨ q.2.1 0 y = 3 → T 0 v = 3) ∧ (q.2.1 0 y = 4 ∨ q.2.1 0 y = 5 ∨ q.2.1 0 y = 9 ∨ q.2.1 0 y = 10 → T 0 v = 2) ∧ (q.2.1 0 y = 9 → T 2 v + 1 = q.2.1 8 y) ∧ (q.2.1 0 y = 10 → kPt T q y (q.2.1 4 y) v ≠ 0) := by
  unfold kFtB at hf
  rw [if_neg h6, if_neg h7, if_neg h11] at hf
  by_cases h : kFtL T N q v y = true
  · unfold kFtL at h
    have h := of_decide_eq_true h
    generalize kPt T q y (q.2.1 4 y) v = w at *
    omega
  · rw [if_neg h] at hf
    omega
theorem kFtB_in {v y : Nat} (hf : kFtB T N q fit v y = 0) : (q.2.1 0 y = 6 → T 0 v = 1 ∧ kFiA T (fun w => fit w (q.2.2 1 y 0 - 1)) (T 2 v) (T 3 v) = 0) ∧ (q.2.1 0 y = 7 → T 0 v = 0 ∧ kFiM T (fun w => fit w (q.2.2 1 y 0 - 1)) (T 2 v / 2) (T 3 v) = 0) ∧ (q.2.1 0 y = 11 → T 0 v = 0 ∧ kFiF T q fit v y (q.2.1 4 y) 0 = 0) := by
  unfold kFtB at hf
  refine ⟨fun h => ?_, fun h => ?_, fun h => ?_⟩
  · rw [if_pos h] at hf
    by_cases a : T 0 v = 1
    · rw [if_pos a] at hf; exact ⟨a, hf⟩
    · rw [if_neg a] at hf; omega
  · rw [if_neg (by omega), if_pos h] at hf
    by_cases a : T 0 v = 0
    · rw [if_pos a] at hf; exact ⟨a, hf⟩
    · rw [if_neg a] at hf; omega
  · rw [if_neg (by omega), if_neg (by omega), if_pos h] at hf
    by_cases a : T 0 v = 0
    · rw [if_pos a] at hf; exact ⟨a, hf⟩
    · rw [if_neg a] at hf; omega
theorem Df_w17 (hC : lCx b pb qb s) (hT : lT s T N m l) (hG : jGt T N m l n) (hI : kIv T m q) (hcd : kCd q) (hp : pb + q.1 3 ≤ 10112) (d : Nat) {y v x3 : Nat} {L : List Nat} (hb : jVb T N m v) (hy : y < q.1 1) (h8 : q.2.1 0 y ≠ 8) (hf : kFtB T N q fit v y = 0) (hz : lWz b pb qb q s T N m F fit R v x3) (hq : qb + q.1 6 + L.length + (kWtB T N q R v y).length ≤ 72704) : fDf_write_17 (F + d + 9) (nI v) (nI x3) (nI (lo b y)) (lS b pb qb (kPb L q) s) = rV (lS b pb qb (kPb (L ++ kWtB T N q R v y) q) s) := by
  have hm := hG.1
  have hl := hG.2.1
  have hlt := jVb_lt hb
  have hkv := jVb_k hb
  have hn := hI.1
  have hIp := kIv_pb (L := L) hI
  have c1 : (kPb L q).1 1 = q.1 1 := rfl
  have c3 : (kPb L q).1 3 = q.1 3 := rfl
  have hTq := lS_T (b := b) (pb := pb) (qb := qb) (q := kPb L q) hT
  have fv := hTq.1 v (by omega)
  have hlty := lo_lt hC (t := y) (by omega)
  have hkd : gI (lS b pb qb (kPb L q) s) 23 (lo b y) = nI (q.2.1 0 y) := by rw [lS_kind hC hIp (by rw [c1]; exact hy), kPb_Q (by omega)]
  have hK : q.2.1 0 y ≤ 11 ∧ (6 ≤ q.2.1 0 y → 6 ≤ y) := by
    by_cases h : y < 6
    · have := (hI.2.1 y h).1; omega
    · have := (hI.2.2.1 y (by omega) hy).1; omega
  have k4 : (nI (T 0 v) = 4) = (T 0 v = 4) := nI_eqE (b := 4) (by omega) (by omega)
  have hin := kFtB_in hf
  refine eDf_write_17 (F + d + 8) _ _ _ _ _ ?_
  rw [ldI_n (by omega) (by omega), hkd]
  have hcase : q.2.1 0 y = 0 ∨ q.2.1 0 y = 1 ∨ (q.2.1 0 y = 2 ∨ q.2.1 0 y = 3) ∨ (q.2.1 0 y = 4 ∨ q.2.1 0 y = 5) ∨ q.2.1 0 y = 6 ∨ q.2.1 0 y = 7 ∨ q.2.1 0 y = 9 ∨ q.2.1 0 y = 10 ∨ q.2.1 0 y = 11 := by omega
  rcases hcase with h | h | h | h | h | h | h | h | h
  · have ek : kWtB T N q R v y = [] := by unfold kWtB; rw [if_pos h]
    rw [h, if_pos (by decide), ek, List.append_nil]
    rfl
  · have ek : kWtB T N q R v y = [if T 0 v = 4 then 1 else 0] := by unfold kWtB; rw [if_neg (by omega), if_pos h]
    rw [ek] at hq ⊢
    have hq : qb + q.1 6 + L.length + 1 ≤ 72704 := hq
    rw [h, if_neg (by decide), if_pos (by decide), ldI_n (by omega) (by omega), fv.1]
    simp only [k4]
    by_cases a : T 0 v = 4
    · rw [if_neg (fun e => e a), if_pos a]
      refine eDf_write_37 (F + d + 8) _ _ _ ?_
      rw [show (1 : Int32) = nI 1 from rfl, Lp_put (F + d + 8) (by omega) (by rw [kPb_6]; omega), cG_I, kPb_1]
      rfl
    · rw [if_pos a, if_neg a]
      refine eDf_write_37 (F + d + 8) _ _ _ ?_
      rw [show (0 : Int32) = nI 0 from rfl, Lp_put (F + d + 8) (by omega) (by rw [kPb_6]; omega), cG_I, kPb_1]
      rfl
  · have ek : kWtB T N q R v y = kVb (Int64.ofInt (N v)) := by unfold kWtB; rw [if_neg (by omega), if_neg (by omega), if_pos h]
    rw [ek] at hq ⊢
    have h3 := (kFtB_ok hf (by omega) (by omega) (by omega)).1 h
    have hvi : fBy_putVarint (F + d + 8) 32 (Int64.ofInt (N v)) (lS b pb qb (kPb L q) s) = rI 1 (lS b pb qb (kPb (kVb (Int64.ofInt (N v))) (kPb L q)) s) := Lp_vi (F + d + 7) (by rw [kPb_6]; omega)
    rw [← kPb_app] at hvi
    have hld : ∀ K : Int64 → aRs, ldL 4096 (lS b pb qb (kPb L q) s) 19 (nI v) K = K (Int64.ofInt (N v)) := fun K => by rw [ldL_n (by omega) (by omega), fv.2.2.2.2.2 h3]
    rcases h with h | h
    · rw [h, if_neg (by decide), if_neg (by decide), if_pos (by decide), hld, hvi, cG_I]
      rfl
    · rw [h, if_neg (by decide), if_neg (by decide), if_neg (by decide), if_pos (by decide), hld, hvi, cG_I]
      rfl
  · have ek : kWtB T N q R v y = kVb (Int64.ofNat (T 2 v)) ++ kLe T v := by unfold kWtB; rw [if_neg (by omega), if_neg (by omega), if_neg (by omega), if_pos h]
    rw [ek] at hq ⊢
    rw [List.length_append, kLe_len] at hq
    have h2 := (kFtB_ok hf (by omega) (by omega) (by omega)).2.1 (by omega)
    have hws : fDf_writeString (F + d + 8) (nI v) (lS b pb qb (kPb L q) s) = rV (lS b pb qb (kPb (kVb (Int64.ofNat (T 2 v)) ++ kLe T v) (kPb L q)) s) := Df_wS (F + d + 1) hT hG (by omega) h2 (by rw [kPb_6]; omega)
    rw [← kPb_app] at hws
    rcases h with h | h
    · rw [h, if_neg (by decide), if_neg (by decide), if_neg (by decide), if_neg (by decide), if_pos (by decide), hws, cG_V]
      rfl
    · rw [h, if_neg (by decide), if_neg (by decide), if_neg (by decide), if_neg (by decide), if_neg (by decide), if_pos (by decide), hws, cG_V]
      rfl
  · have ek : kWtB T N q R v y = (if T 2 v = 0 then [] else kVb (Int64.ofNat (T 2 v))) ++ (kWtA T (fun w => R w (q.2.2 1 y 0 - 1)) (T 2 v) (T 3 v) ++ kVb 0) := by unfold kWtB; rw [if_neg (by omega), if_neg (by omega), if_neg (by omega), if_neg (by omega), if_pos h]
    rw [ek] at hq ⊢
    obtain ⟨a, hfi⟩ := hin.1 h
    rcases hz with hz | ⟨D, hvd, hrec, hd⟩
    · omega
    have hy6 := hK.2 (by omega)
    have hnd := hcd y hy6 hy
    have h41 := hnd.1.2.2.1 (.inl h)
    have hx0 := hnd.2 (by omega) (by omega) 0 (by omega)
    have hit := Df_wI6 (L := L) hC hT hG hI hrec d hy6 hy h h41 hx0 a hb hvd hd hfi hq
    rw [h, if_neg (by decide), if_neg (by decide), if_neg (by decide), if_neg (by decide), if_neg (by decide), if_neg (by decide), if_pos (by decide), hit, cG_V]
    rfl
  · have ek : kWtB T N q R v y = (if T 2 v / 2 = 0 then [] else kVb (Int64.ofNat (T 2 v / 2))) ++ (kWtM T (fun w => R w (q.2.2 1 y 0 - 1)) (T 2 v / 2) (T 3 v) ++ kVb 0) := by unfold kWtB; rw [if_neg (by omega), if_neg (by omega), if_neg (by omega), if_neg (by omega), if_neg (by omega), if_pos h]
    rw [ek] at hq ⊢
    obtain ⟨a, hfi⟩ := hin.2.1 h
    rcases hz with hz | ⟨D, hvd, hrec, hd⟩
    · omega
    have hy6 := hK.2 (by omega)
    have hnd := hcd y hy6 hy
    have h41 := hnd.1.2.2.1 (.inr h)
    have hx0 := hnd.2 (by omega) (by omega) 0 (by omega)
    have hit := Df_wI7 (L := L) hC hT hG hI hrec d hy6 hy h h41 hx0 a hb hvd hd hfi hq
    rw [h, if_neg (by decide), if_neg (by decide), if_neg (by decide), if_neg (by decide), if_neg (by decide), if_neg (by decide), if_neg (by decide), if_pos (by decide), hit, cG_V]
    rfl
  · have ek : kWtB T N q R v y = kLe T v := by unfold kWtB; rw [if_neg (by omega), if_neg (by omega), if_neg (by omega), if_neg (by omega), if_neg (by omega), if_neg (by omega), if_pos h]
    rw [ek] at hq ⊢
    rw [kLe_len] at hq
    have h2 := (kFtB_ok hf (by omega) (by omega) (by omega)).2.1 (by omega)
    have hrw : fBy_putRow (F + d + 8) 32 21 (nI (T 5 v)) (nI (T 2 v)) (lS b pb qb (kPb L q) s) = rI 1 (lS b pb qb (kPb (kLe T v) (kPb L q)) s) := Df_row (F + d + 2) hT hG (by omega) h2 (by rw [kPb_6]; omega)
    rw [← kPb_app] at hrw
    rw [h, if_neg (by decide), if_neg (by decide), if_neg (by decide), if_neg (by decide), if_neg (by decide), if_neg (by decide), if_neg (by decide), if_neg (by decide), if_neg (by decide), if_pos (by decide), ldI_n (by omega) (by omega), lT_S hTq (by omega) h2, ldI_n (by omega) (by omega), lT_Z hTq (by omega) (by omega), hrw, cG_I]
    rfl
  · have ek : kWtB T N q R v y = kVb (Int64.ofNat (kPt T q y (q.2.1 4 y) v - 1)) := by unfold kWtB; rw [if_neg (by omega), if_neg (by omega), if_neg (by omega), if_neg (by omega), if_neg (by omega), if_neg (by omega), if_neg (by omega), if_pos h]
    rw [ek] at hq ⊢
    have hok := kFtB_ok hf (by omega) (by omega) (by omega)
    have h2 := hok.2.1 (by omega)
    have hp0 := hok.2.2.2 h
    have h6 := hK.2 (by omega)
    have h47 := (hcd y h6 hy).1.2.2.2.2 (by omega) (by omega)
    have h732 := (hI.2.2.1 y h6 hy).2.2.2.2.2.2.2
    have hpt : fSc_partTold (F + d + 8) (nI (lo b y)) (nI ((kPb L q).2.1 4 y)) (nI v) (lS b pb qb (kPb L q) s) = rI (zI (if T 0 v = 2 then kPt T (kPb L q) y ((kPb L q).2.1 4 y) v else 0)) (lS b pb qb (kPb L q) s) := Sc_partTold (F + d + 7) hC hT hG hIp (by rw [kPb_6]; omega) (by rw [c3]; exact hp) (by omega) hkv h6 (by rw [c1]; exact hy) (by rw [kPb_Q (by omega)]; omega)
    have ep : kPt T (kPb L q) y ((kPb L q).2.1 4 y) v = kPt T q y (q.2.1 4 y) v := by rw [kPb_Q (by omega)]; rfl
    rw [if_pos h2, ep, kPb_Q (by omega)] at hpt
    have hpb2 : kPt T q y (q.2.1 4 y) v ≤ 32 := by
      have := kFr_1 _ _ hp0
      unfold kPt at hp0 ⊢
      omega
    generalize kPt T q y (q.2.1 4 y) v = w at *
    have hvi : fBy_putVarint (F + d + 8) 32 (Int64.ofNat (w - 1)) (lS b pb qb (kPb L q) s) = rI 1 (lS b pb qb (kPb (kVb (Int64.ofNat (w - 1))) (kPb L q)) s) := Lp_vi (F + d + 7) (by rw [kPb_6]; omega)
    rw [← kPb_app] at hvi
    rw [h, if_neg (by decide), if_neg (by decide), if_neg (by decide), if_neg (by decide), if_neg (by decide), if_neg (by decide), if_neg (by decide), if_neg (by decide), if_neg (by decide), if_neg (by decide), if_pos (by decide), ldI_n (by omega) (by omega), lS_26 h6 (by rw [c1]; exact hy), kPb_Q (by omega), ← h47, hpt, cG_I, zI_pos (by omega), nI_long (by omega), hvi, cG_I]
    rfl
  · have ek : kWtB T N q R v y = kWtF T q R v y (q.2.1 4 y) 0 := by unfold kWtB; rw [if_neg (by omega), if_neg (by omega), if_neg (by omega), if_neg (by omega), if_neg (by omega), if_neg (by omega), if_neg (by omega), if_neg (by omega)]
    rw [ek] at hq ⊢
    obtain ⟨a, hfi⟩ := hin.2.2 h
    rcases hz with hz | ⟨D, hvd, hrec, hd⟩
    · omega
    have hy6 := hK.2 (by omega)
    have hF := Df_wF hC hT hG hI hcd hp hrec d hb hvd a hy6 hy h hd _ 0 L (Nat.zero_add _) hfi hq
    have hwf : fDf_writeFields (F + d + 8) (nI v) (nI (lo b y)) (nI x3) (lS b pb qb (kPb L q) s) = rV (lS b pb qb (kPb (L ++ kWtF T q R v y (q.2.1 4 y) 0) q) s) := eDf_writeFields (F + d + 7) _ _ _ _ _ hF
    rw [h, if_neg (by decide), if_neg (by decide), if_neg (by decide), if_neg (by decide), if_neg (by decide), if_neg (by decide), if_neg (by decide), if_neg (by decide), if_neg (by decide), if_neg (by decide), if_neg (by decide), if_pos (by decide), hwf, cG_V]
    rfl
theorem Df_wB (hC : lCx b pb qb s) (hT : lT s T N m l) (hG : jGt T N m l n) (hI : kIv T m q) (hcd : kCd q) (hp : pb + q.1 3 ≤ 10112) (d : Nat) {x v x3 : Nat} {L : List Nat} (hb : jVb T N m v) (hx : x < q.1 1) (h25 : x3 ≤ 25) (hf : kFtB T N q fit v (kFb q x) = 0) (hz : lWz b pb qb q s T N m F fit R v x3) (hq : qb + q.1 6 + L.length + ((if q.2.1 0 x = 8 then kVb 0 else []) ++ kWtB T N q R v (kFb q x)).length ≤ 72704) : fDf_write (F + d + 9) (nI v) (nI (lo b x)) (nI x3) (lS b pb qb (kPb L q) s) = rV (lS b pb qb (kPb (L ++ ((if q.2.1 0 x = 8 then kVb 0 else []) ++ kWtB T N q R v (kFb q x))) q) s) := by
  have hn := hI.1
  have hIp := kIv_pb (L := L) hI
  have hcp : kCd (kPb L q) := kCd_fr (q := q) rfl rfl (fun r hr => funext fun i => kPb_Q (by omega)) hcd
  have c1 : (kPb L q).1 1 = q.1 1 := rfl
  have c3 : (kPb L q).1 3 = q.1 3 := rfl
  obtain ⟨hy, hy8⟩ := kFb_ok hI hcd hx
  have efb : kFb (kPb L q) x = kFb q x := by unfold kFb; rw [kPb_Q (by omega)]; rfl
  have hfi : fDf_firstBranch (F + d + 8) (nI (lo b x)) (lS b pb qb (kPb L q) s) = rI (nI (lo b (kFb (kPb L q) x))) (lS b pb qb (kPb L q) s) := Df_first hC hIp hcp (by rw [c3]; exact hp) (F + d + 7) (by rw [c1]; exact hx)
  rw [efb] at hfi
  have hltx := lo_lt hC (t := x) (by omega)
  have hlty := lo_lt hC (t := kFb q x) (by omega)
  have e25 : nI x3 ≤ 25 := by rw [nI_lit 25, nI_leE (by omega) (by omega)]; exact h25
  have eeq : (nI (lo b (kFb q x)) = nI (lo b x)) = (kFb q x = x) := by rw [nI_eqE (by omega) (by omega), lo_inj hC.1]
  refine eDf_write (F + d + 8) _ _ _ _ _ ?_
  rw [if_pos e25, hfi, cG_I]
  simp only [eeq]
  by_cases h8 : q.2.1 0 x = 8
  · rw [if_neg (fun e => by rw [e] at hy8; exact hy8 h8)]
    rw [if_pos h8] at hq ⊢
    rw [List.length_append] at hq
    have hvi : fBy_putVarint (F + d + 8) 32 0 (lS b pb qb (kPb L q) s) = rI 1 (lS b pb qb (kPb (kVb 0) (kPb L q)) s) := Lp_vi (F + d + 7) (by rw [kPb_6]; omega)
    rw [← kPb_app] at hvi
    rw [hvi, cG_I, Df_w17 hC hT hG hI hcd hp d hb hy hy8 hf hz (by rw [List.length_append]; omega), List.append_assoc]
    rfl
  · have e : kFb q x = x := by unfold kFb; rw [if_neg h8]
    rw [if_pos e]
    rw [if_neg h8, List.nil_append] at hq ⊢
    exact Df_w17 hC hT hG hI hcd hp d hb hy hy8 hf hz hq
/-- a default's letters, in the lake -/
theorem Df_wr (hC : lCx b pb qb s) (hT : lT s T N m l) (hG : jGt T N m l n) (hI : kIv T m q) (hcd : kCd q) (hp : pb + q.1 3 ≤ 10112) : ∀ D, D ≤ 24 → lWy b pb qb q s T N m D (2 * D + 2) (kFit T N q D) (kWt T N q D) := by
  intro D
  induction D with
  | zero =>
    intro _ d L v x x3 hv hx h25 hf hq
    have e : 2 * 0 + 2 + d + 7 = 0 + d + 9 := by omega
    rw [e]
    exact Df_wB (F := 0) (fit := fun _ _ => 0) (R := fun _ _ => []) hC hT hG hI hcd hp d (jVd_b (by omega) hv) hx (by omega) hf (.inl (jVd_0 hv)) hq
  | succ D ih =>
    intro hD d L v x x3 hv hx h25 hf hq
    have e : 2 * (D + 1) + 2 + d + 7 = (2 * D + 2) + d + 9 := by omega
    rw [e]
    exact Df_wB (F := 2 * D + 2) hC hT hG hI hcd hp d (jVd_b hD hv) hx (by omega) hf (.inr ⟨D, hv, ih (by omega), by omega⟩) hq
end
