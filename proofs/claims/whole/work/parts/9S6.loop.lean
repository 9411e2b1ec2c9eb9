/-! the law's loop over the machine's world -/
theorem i_lim {L i : Nat} (hL : L ≤ 3072) (hi : i ≤ 3072) : (Int32.ofNat L - 6 < nI i) ↔ L < i + 6 := by
  have e1 : (Int32.ofNat L - 6).toInt = (L : Int) - 6 := by
    rw [Int32.toInt_sub, show (Int32.ofNat L).toInt = (L : Int) from nI_toInt (by omega), show (6 : Int32).toInt = 6 from rfl, Int.bmod_eq_of_le (by show _ ≤ (L : Int) - 6; omega) (by show (L : Int) - 6 < _; omega)]
  rw [Int32.lt_iff_toInt_lt, e1, nI_toInt (by omega)]
  omega
section Loop
variable {kA : Nat → ClassId} {ad : Nat → Nat} {D : va_G} {kS : Nat → Nat}
set_option maxHeartbeats 4000000 in
set_option maxRecDepth 100000 in
/-- one turn: from the switch to the loop's end -/
theorem xl_sw (SIM : xSim kA ad kS D) (p : Program) (l : Launch) (e : Env) (s : State) (m : MethodId) (below : List Frame) (meth : Method) (c : Code) (b L : Nat) (xs : Nat → Int32) (A : Nat → Prop) (Q : State → Prop) (B : lB p l s m c b L xs D kA kS A) (i : Nat) (hi : i + 6 ≤ L) (hL : L < 2 ^ 31) (cl sl : Nat) (hcl : cl + 2 ≤ room_1.cells) (hsl : sl + 12 ≤ room_1.slots) (n : Nat) (hn : n ≤ 100000) (S : yS) (t : aT) (hw : yWf S) (hB : yB2 n S t) (H : Heap) (locs : List Loc) (ls : Array Slot) (hP : va_P D vC (aV kA ad t) H) (hD : va_D A (aV kA ad t)) (hS : va_S A s.heap H locs) (hl : lv_has ls 8 [(4, .int (nI i)), (3, .ref (ad 149)), (2, .ref (ad 67)), (1, .ref (ad 0)), (0, .ref b)])
    (kk : ∀ (S' : yS) (t' : aT) (H : Heap) (locs : List Loc) (ls : Array Slot), yWf S' → yB2 (n + 1) S' t' → va_P D vC (aV kA ad t') H → va_D A (aV kA ad t') → va_S A s.heap H locs → lv_has ls 8 [(4, .int (nI i)), (3, .ref (ad 149)), (2, .ref (ad 67)), (1, .ref (ad 0)), (0, .ref b)] → W p l e room_1 s m #[Value.ref b] below meth c H locs (cl + 2) (sl + 12) Q (F0 m 1285 ls [])) :
    W p l e room_1 s m #[Value.ref b] below meth c H locs cl sl Q (F0 m 33 ls []) := by
  obtain ⟨hfl, hx, hb, hml, hown, hg, hK, hN, hno, hC, hX, hbl, hA, hbA⟩ := id B
  refine lv_aload_n hx hb d_law_33 rfl (lv_at hl 4 rfl) ?_
  refine lv_iload hx hb d_law_34 (lv_at hl 0 rfl) ?_
  refine xb_sld hx hb hX hbl hbA hS (k := i) (by omega) hL d_law_36 ?_
  refine lv_bipush (v := 31) hx hb d_law_37 (by decide) ?_
  refine lv_iand hx hb d_law_39 ?_
  refine lv_topi (fun x ex => ?_)
  by_cases hx0 : x.toInt < 0 ∨ 19 < x.toInt
  · refine lv_tableOut (tgt := 1285) hx hb d_law_40 hx0 (by decide) ?_
    exact W.widen (k := cl + 2) (n := sl + 12) (by omega) (by omega) (kk S t H locs ls hw ⟨yLI_c (Nat.le_succ _) hB.1, hB.2⟩ hP hD hS hl)
  · obtain ⟨j, hj, hj2⟩ := i_sw hx0
    clear ex hx0
    subst hj2
    rcases (show j = 0 ∨ j = 1 ∨ j = 2 ∨ j = 3 ∨ j = 4 ∨ j = 5 ∨ j = 6 ∨ j = 7 ∨ j = 8 ∨ j = 9 ∨ j = 10 ∨ j = 11 ∨ j = 12 ∨ j = 13 ∨ j = 14 ∨ j = 15 ∨ j = 16 ∨ j = 17 ∨ j = 18 ∨ j = 19 by omega) with rfl | rfl | rfl | rfl | rfl | rfl | rfl | rfl | rfl | rfl | rfl | rfl | rfl | rfl | rfl | rfl | rfl | rfl | rfl | rfl
    · refine lv_tableIn (off := 96) (tgt := 136) hx hb d_law_40 (by decide) (by decide) (by decide) (by decide) ?_
      exact Ar_feed SIM p l e s m below meth c b L xs A Q B i hi hL cl sl hcl hsl n hn S t hw hB H locs ls hP hD hS hl kk
    · refine lv_tableIn (off := 200) (tgt := 240) hx hb d_law_40 (by decide) (by decide) (by decide) (by decide) ?_
      exact Ar_end SIM p l e s m below meth c b L xs A Q B i hi hL cl sl hcl hsl n hn S t hw hB H locs ls hP hD hS hl kk
    · refine lv_tableIn (off := 236) (tgt := 276) hx hb d_law_40 (by decide) (by decide) (by decide) (by decide) ?_
      exact Ar_schema SIM p l e s m below meth c b L xs A Q B i hi hL cl sl hcl hsl n hn S t hw hB H locs ls hP hD hS hl kk
    · refine lv_tableIn (off := 249) (tgt := 289) hx hb d_law_40 (by decide) (by decide) (by decide) (by decide) ?_
      exact Ar_register SIM p l e s m below meth c b L xs A Q B i hi hL cl sl hcl hsl n hn S t hw hB H locs ls hP hD hS hl kk
    · refine lv_tableIn (off := 305) (tgt := 345) hx hb d_law_40 (by decide) (by decide) (by decide) (by decide) ?_
      exact Ar_look SIM p l e s m below meth c b L xs A Q B i hi hL cl sl hcl hsl n hn S t hw hB H locs ls hP hD hS hl kk
    · refine lv_tableIn (off := 373) (tgt := 413) hx hb d_law_40 (by decide) (by decide) (by decide) (by decide) ?_
      exact Ar_place SIM p l e s m below meth c b L xs A Q B i hi hL cl sl hcl hsl n hn S t hw hB H locs ls hP hD hS hl kk
    · refine lv_tableIn (off := 386) (tgt := 426) hx hb d_law_40 (by decide) (by decide) (by decide) (by decide) ?_
      exact Ar_load SIM p l e s m below meth c b L xs A Q B i hi hL cl sl hcl hsl n hn S t hw hB H locs ls hP hD hS hl kk
    · refine lv_tableIn (off := 454) (tgt := 494) hx hb d_law_40 (by decide) (by decide) (by decide) (by decide) ?_
      exact Ar_read SIM p l e s m below meth c b L xs A Q B i hi hL cl sl hcl hsl n hn S t hw hB H locs ls hP hD hS hl kk
    · refine lv_tableIn (off := 534) (tgt := 574) hx hb d_law_40 (by decide) (by decide) (by decide) (by decide) ?_
      exact Ar_copy SIM p l e s m below meth c b L xs A Q B i hi hL cl sl hcl hsl n hn S t hw hB H locs ls hP hD hS hl kk
    · refine lv_tableIn (off := 614) (tgt := 654) hx hb d_law_40 (by decide) (by decide) (by decide) (by decide) ?_
      exact Ar_compact SIM p l e s m below meth c b L xs A Q B i hi hL cl sl hcl hsl n hn S t hw hB H locs ls hP hD hS hl kk
    · refine lv_tableIn (off := 670) (tgt := 710) hx hb d_law_40 (by decide) (by decide) (by decide) (by decide) ?_
      exact Ar_clear SIM p l e s m below meth c b L xs A Q B i hi hL cl sl hcl hsl n hn S t hw hB H locs ls hP hD hS hl kk
    · refine lv_tableIn (off := 726) (tgt := 766) hx hb d_law_40 (by decide) (by decide) (by decide) (by decide) ?_
      exact Ar_fits SIM p l e s m below meth c b L xs A Q B i hi hL cl sl hcl hsl n hn S t hw hB H locs ls hP hD hS hl kk
    · refine lv_tableIn (off := 825) (tgt := 865) hx hb d_law_40 (by decide) (by decide) (by decide) (by decide) ?_
      exact Ar_count SIM p l e s m below meth c b L xs A Q B i hi hL cl sl hcl hsl n hn S t hw hB H locs ls hP hD hS hl kk
    · refine lv_tableIn (off := 893) (tgt := 933) hx hb d_law_40 (by decide) (by decide) (by decide) (by decide) ?_
      exact Ar_print SIM p l e s m below meth c b L xs A Q B i hi hL cl sl hcl hsl n hn S t hw hB H locs ls hP hD hS hl kk
    · refine lv_tableIn (off := 960) (tgt := 1000) hx hb d_law_40 (by decide) (by decide) (by decide) (by decide) ?_
      exact Ar_letter SIM p l e s m below meth c b L xs A Q B i hi hL cl sl hcl hsl n hn S t hw hB H locs ls hP hD hS hl kk
    · refine lv_tableIn (off := 1028) (tgt := 1068) hx hb d_law_40 (by decide) (by decide) (by decide) (by decide) ?_
      exact Ar_size SIM p l e s m below meth c b L xs A Q B i hi hL cl sl hcl hsl n hn S t hw hB H locs ls hP hD hS hl kk
    · refine lv_tableIn (off := 1084) (tgt := 1124) hx hb d_law_40 (by decide) (by decide) (by decide) (by decide) ?_
      exact Ar_file SIM p l e s m below meth c b L xs A Q B i hi hL cl sl hcl hsl n hn S t hw hB H locs ls hP hD hS hl kk
    · refine lv_tableIn (off := 1152) (tgt := 1192) hx hb d_law_40 (by decide) (by decide) (by decide) (by decide) ?_
      exact Ar_files SIM p l e s m below meth c b L xs A Q B i hi hL cl sl hcl hsl n hn S t hw hB H locs ls hP hD hS hl kk
    · refine lv_tableIn (off := 1165) (tgt := 1205) hx hb d_law_40 (by decide) (by decide) (by decide) (by decide) ?_
      exact Ar_power SIM p l e s m below meth c b L xs A Q B i hi hL cl sl hcl hsl n hn S t hw hB H locs ls hP hD hS hl kk
    · refine lv_tableIn (off := 1201) (tgt := 1241) hx hb d_law_40 (by decide) (by decide) (by decide) (by decide) ?_
      exact Ar_start SIM p l e s m below meth c b L xs A Q B i hi hL cl sl hcl hsl n hn S t hw hB H locs ls hP hD hS hl kk
set_option maxHeartbeats 4000000 in
theorem xl_loop (SIM : xSim kA ad kS D) {p : Program} {l : Launch} {e : Env} {s : State} {m : MethodId} {below : List Frame} {meth : Method} {c : Code} {b L : Nat} {xs : Nat → Int32} (B : lB p l s m c b L xs D kA kS (fun q : Nat => s.heap.size ≤ q)) (hL : L ≤ 3072) (hr : meth.sig.returnType = ret) (hlocks : meth.locks = false) : ∀ (N j : Nat), L ≤ 6 * j + 6 * N → j ≤ 512 → ∀ (S : yS) (t : aT), yWf S → yB2 j S t → ∀ (H : Heap) (locs : List Loc) (ls : Array Slot), va_P D vC (aV kA ad t) H → va_D (fun q : Nat => s.heap.size ≤ q) (aV kA ad t) → va_S (fun q : Nat => s.heap.size ≤ q) s.heap H locs → lv_has ls 8 [(4, .int (nI (6 * j))), (3, .ref (ad 149)), (2, .ref (ad 67)), (1, .ref (ad 0)), (0, .ref b)] → W p l e room_1 s m #[Value.ref b] below meth c H locs (150 + 2 * j) (522136 + 12 * j) (lw_Z below #[Value.ref b] s) (F0 m 23 ls []) := by
  obtain ⟨hfl, hx, hb, hml, hown, hg, hK, hN, hno, hC, hX, hbl, hA, hbA⟩ := id B
  have ec : room_1.cells = 601024 := rfl
  have es : room_1.slots = 7293034 := rfl
  intro N
  induction N with
  | zero =>
    intro j h1 hj S t hw hB H locs ls hP hD hS hl
    refine lv_iload hx hb d_law_23 (lv_at hl 0 rfl) ?_
    refine lv_aload_n hx hb d_law_25 rfl (lv_at hl 4 rfl) ?_
    refine va_slen hx hb hX hbl hbA hS d_law_26 ?_
    refine lv_bipush (v := 6) hx hb d_law_27 (by decide) ?_
    refine lv_isub hx hb d_law_29 ?_
    exact lv_icmp_gt (tgt := 1291) hx hb d_law_30 (by decide) (fun _ => la_fin B hr hlocks (by omega) (by omega) hS) (fun c9 => absurd ((i_lim hL (by omega)).2 (by omega)) c9)
  | succ N ih =>
    intro j h1 hj S t hw hB H locs ls hP hD hS hl
    refine lv_iload hx hb d_law_23 (lv_at hl 0 rfl) ?_
    refine lv_aload_n hx hb d_law_25 rfl (lv_at hl 4 rfl) ?_
    refine va_slen hx hb hX hbl hbA hS d_law_26 ?_
    refine lv_bipush (v := 6) hx hb d_law_27 (by decide) ?_
    refine lv_isub hx hb d_law_29 ?_
    refine lv_icmp_gt (tgt := 1291) hx hb d_law_30 (by decide) (fun _ => la_fin B hr hlocks (by omega) (by omega) hS) (fun c9 => ?_)
    have hi : 6 * j + 6 ≤ L := Nat.le_of_not_lt (fun h => c9 ((i_lim (L := L) hL (i := 6 * j) (by omega)).2 h))
    refine xl_sw SIM p l e s m below meth c b L xs _ _ B (6 * j) hi (by omega) _ _ (by omega) (by omega) j (by omega) S t hw hB H locs ls hP hD hS hl (fun S t H locs ls hw hB hP hD hS hl => ?_)
    refine lv_iinc (v := nI (6 * (j + 1))) (lv' := [(4, .int (nI (6 * (j + 1)))), (3, .ref (ad 149)), (2, .ref (ad 67)), (1, .ref (ad 0)), (0, .ref b)]) hx hb d_law_1285 hl (k := 0) rfl (nI_addE (6 * j) 6) (by decide) rfl (fun ls hl => ?_)
    refine lv_goto (tgt := 23) hx hb d_law_1288 (by decide) ?_
    exact ih (j + 1) (by omega) (by omega) S t hw hB H locs ls hP hD hS hl
end Loop
