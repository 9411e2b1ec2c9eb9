/-! the law from its entry: one turn at most -/
theorem la_fin {p : Program} {l : Launch} {e : Env} {s : State} {m : MethodId} {below : List Frame} {meth : Method} {c : Code} {b : Nat} {xs : Nat → Int32} {D : va_G} {kA : Nat → ClassId} {kS : Nat → Nat} {L : Nat} (B : lB p l s m c b L xs D kA kS (fun q : Nat => s.heap.size ≤ q)) (hr : meth.sig.returnType = ret) (hlocks : meth.locks = false) {cl sl : Nat} (hcl : cl ≤ 600002) (hsl : sl ≤ 7302232) {H : Heap} {locs : List Loc} {ls : Array Slot} (hS : va_S (fun q : Nat => s.heap.size ≤ q) s.heap H locs) : W p l e room_1 s m #[Value.ref b] below meth c H locs cl sl (lw_Z below #[Value.ref b] s) (F0 m 1291 ls []) := by
  obtain ⟨hfl, hx, hb, hml, hown, hg, hK, hN, hno, hC, hX, hbl, hA, hbA⟩ := B
  refine lv_iconst (v := 1) hx hb d_law_1291 (by decide) ?_
  refine va_forget (fun q hq => hS.2.2 q hq) ?_
  refine W.widen (k := 600002) (n := 7302232) hcl hsl ?_
  exact lw_ret hx hb hr hlocks d_law_1292
theorem la_tail {p : Program} {l : Launch} {e : Env} {s : State} {m : MethodId} {below : List Frame} {meth : Method} {c : Code} {b : Nat} {xs : Nat → Int32} {D : va_G} {kA : Nat → ClassId} {kS : Nat → Nat} (B : lB p l s m c b 6 xs D kA kS (fun q : Nat => s.heap.size ≤ q)) (hr : meth.sig.returnType = ret) (hlocks : meth.locks = false) {cl sl : Nat} (hcl : cl ≤ 600002) (hsl : sl ≤ 7302232) {h0 hm ou : Nat} {H : Heap} {locs : List Loc} {ls : Array Slot} (hS : va_S (fun q : Nat => s.heap.size ≤ q) s.heap H locs) (hl : lv_has ls 8 [(4, .int (nI 0)), (3, .ref ou), (2, .ref hm), (1, .ref h0), (0, .ref b)]) : W p l e room_1 s m #[Value.ref b] below meth c H locs cl sl (lw_Z below #[Value.ref b] s) (F0 m 1285 ls []) := by
  obtain ⟨hfl, hx, hb, hml, hown, hg, hK, hN, hno, hC, hX, hbl, hA, hbA⟩ := id B
  refine lv_iinc (v := nI 6) (lv' := [(4, .int (nI 6)), (3, .ref ou), (2, .ref hm), (1, .ref h0), (0, .ref b)]) hx hb d_law_1285 hl (k := 0) rfl (by decide) (by decide) rfl (fun ls hl => ?_)
  refine lv_goto (tgt := 23) hx hb d_law_1288 (by decide) ?_
  refine lv_iload hx hb d_law_23 (lv_at hl 0 rfl) ?_
  refine lv_aload_n hx hb d_law_25 rfl (lv_at hl 4 rfl) ?_
  refine va_slen hx hb hX hbl hbA hS d_law_26 ?_
  refine lv_bipush (v := 6) hx hb d_law_27 (by decide) ?_
  refine lv_isub hx hb d_law_29 ?_
  refine lv_icmp_gt (tgt := 1291) hx hb d_law_30 (by decide) (fun _ => ?_) (fun c9 => absurd (by decide) c9)
  exact la_fin B hr hlocks hcl hsl hS
theorem i_sw {x : Int32} (h : ¬ (x.toInt < 0 ∨ 19 < x.toInt)) : ∃ j : Nat, j ≤ 19 ∧ x = nI j := by
  have h0 : ¬ x < 0 := fun h1 => h (Or.inl (by have := Int32.lt_iff_toInt_lt.mp h1; simpa using this))
  obtain ⟨j, hj, e⟩ := nI_of h0
  refine ⟨j, ?_, e⟩
  have h1 : ¬ 19 < x.toInt := fun h1 => h (Or.inr h1)
  rw [e, nI_toInt hj] at h1
  omega
set_option maxHeartbeats 4000000 in
set_option maxRecDepth 100000 in
theorem la_head {p : Program} {l : Launch} {e : Env} {s : State} {m : MethodId} {below : List Frame} {meth : Method} {c : Code} {b : Nat} {xs : Nat → Int32} {D : va_G} {kA : Nat → ClassId} {kS : Nat → Nat} {L : Nat} (hL : L ≤ 6) (B : lB p l s m c b L xs D kA kS (fun q : Nat => s.heap.size ≤ q)) (hr : meth.sig.returnType = ret) (hlocks : meth.locks = false) {cl sl : Nat} (hcl : cl + 1 ≤ room_1.cells) (hsl : sl + 6 ≤ room_1.slots) (hcl2 : cl + 1 ≤ 600002) (hsl2 : sl + 6 ≤ 7302232) (h0 hm ou : Nat) (a am : Nat → Nat) {H : Heap} {locs : List Loc} {ls : Array Slot} (hP : va_P D vC (wAll h0 hm ou a am kA) H) (hD : va_D (fun q : Nat => s.heap.size ≤ q) (wAll h0 hm ou a am kA)) (hS : va_S (fun q : Nat => s.heap.size ≤ q) s.heap H locs) (hl : lv_has ls 8 [(4, .int (nI 0)), (3, .ref ou), (2, .ref hm), (1, .ref h0), (0, .ref b)]) : W p l e room_1 s m #[Value.ref b] below meth c H locs cl sl (lw_Z below #[Value.ref b] s) (F0 m 23 ls []) := by
  obtain ⟨hfl, hx, hb, hml, hown, hg, hK, hN, hno, hC, hX, hbl, hA, hbA⟩ := id B
  refine lv_iload hx hb d_law_23 (lv_at hl 0 rfl) ?_
  refine lv_aload_n hx hb d_law_25 rfl (lv_at hl 4 rfl) ?_
  refine va_slen hx hb hX hbl hbA hS d_law_26 ?_
  refine lv_bipush (v := 6) hx hb d_law_27 (by decide) ?_
  refine lv_isub hx hb d_law_29 ?_
  rcases (show L = 0 ∨ L = 1 ∨ L = 2 ∨ L = 3 ∨ L = 4 ∨ L = 5 ∨ L = 6 by omega) with rfl | rfl | rfl | rfl | rfl | rfl | rfl
  · exact lv_icmp_gt (tgt := 1291) hx hb d_law_30 (by decide) (fun _ => la_fin B hr hlocks (by omega) (by omega) hS) (fun c9 => absurd (by decide) c9)
  · exact lv_icmp_gt (tgt := 1291) hx hb d_law_30 (by decide) (fun _ => la_fin B hr hlocks (by omega) (by omega) hS) (fun c9 => absurd (by decide) c9)
  · exact lv_icmp_gt (tgt := 1291) hx hb d_law_30 (by decide) (fun _ => la_fin B hr hlocks (by omega) (by omega) hS) (fun c9 => absurd (by decide) c9)
  · exact lv_icmp_gt (tgt := 1291) hx hb d_law_30 (by decide) (fun _ => la_fin B hr hlocks (by omega) (by omega) hS) (fun c9 => absurd (by decide) c9)
  · exact lv_icmp_gt (tgt := 1291) hx hb d_law_30 (by decide) (fun _ => la_fin B hr hlocks (by omega) (by omega) hS) (fun c9 => absurd (by decide) c9)
  · exact lv_icmp_gt (tgt := 1291) hx hb d_law_30 (by decide) (fun _ => la_fin B hr hlocks (by omega) (by omega) hS) (fun c9 => absurd (by decide) c9)
  · refine lv_icmp_gt (tgt := 1291) hx hb d_law_30 (by decide) (fun c9 => absurd c9 (by decide)) (fun _ => ?_)
    refine lv_aload_n hx hb d_law_33 rfl (lv_at hl 4 rfl) ?_
    refine lv_iload hx hb d_law_34 (lv_at hl 0 rfl) ?_
    refine xb_sld hx hb hX hbl hbA hS (k := 0) (by decide) (by decide) d_law_36 ?_
    refine lv_bipush (v := 31) hx hb d_law_37 (by decide) ?_
    refine lv_iand hx hb d_law_39 ?_
    refine lv_topi (fun x ex => ?_)
    by_cases hx0 : x.toInt < 0 ∨ 19 < x.toInt
    · refine lv_tableOut (tgt := 1285) hx hb d_law_40 hx0 (by decide) ?_
      exact la_tail B hr hlocks (by omega) (by omega) hS hl
    · obtain ⟨j, hj, hj2⟩ := i_sw hx0
      clear ex hx0
      subst hj2
      rcases (show j = 0 ∨ j = 1 ∨ j = 2 ∨ j = 3 ∨ j = 4 ∨ j = 5 ∨ j = 6 ∨ j = 7 ∨ j = 8 ∨ j = 9 ∨ j = 10 ∨ j = 11 ∨ j = 12 ∨ j = 13 ∨ j = 14 ∨ j = 15 ∨ j = 16 ∨ j = 17 ∨ j = 18 ∨ j = 19 by omega) with rfl | rfl | rfl | rfl | rfl | rfl | rfl | rfl | rfl | rfl | rfl | rfl | rfl | rfl | rfl | rfl | rfl | rfl | rfl | rfl
      · refine lv_tableIn (off := 96) (tgt := 136) hx hb d_law_40 (by decide) (by decide) (by decide) (by decide) ?_
        exact case_0 B hcl hsl h0 hm ou a am hP hD hS hl (fun H locs ls hS hl => la_tail B hr hlocks hcl2 hsl2 hS hl)
      · refine lv_tableIn (off := 200) (tgt := 240) hx hb d_law_40 (by decide) (by decide) (by decide) (by decide) ?_
        exact case_1 B hcl hsl h0 hm ou a am hP hD hS hl (fun H locs ls hS hl => la_tail B hr hlocks hcl2 hsl2 hS hl)
      · refine lv_tableIn (off := 236) (tgt := 276) hx hb d_law_40 (by decide) (by decide) (by decide) (by decide) ?_
        exact case_2 B hcl hsl h0 hm ou a am hP hD hS hl (fun H locs ls hS hl => la_tail B hr hlocks hcl2 hsl2 hS hl)
      · refine lv_tableIn (off := 249) (tgt := 289) hx hb d_law_40 (by decide) (by decide) (by decide) (by decide) ?_
        exact case_3 B hcl hsl h0 hm ou a am hP hD hS hl (fun H locs ls hS hl => la_tail B hr hlocks hcl2 hsl2 hS hl)
      · refine lv_tableIn (off := 305) (tgt := 345) hx hb d_law_40 (by decide) (by decide) (by decide) (by decide) ?_
        exact case_4 B hcl hsl h0 hm ou a am hP hD hS hl (fun H locs ls hS hl => la_tail B hr hlocks hcl2 hsl2 hS hl)
      · refine lv_tableIn (off := 373) (tgt := 413) hx hb d_law_40 (by decide) (by decide) (by decide) (by decide) ?_
        exact case_5 B hcl hsl h0 hm ou a am hP hD hS hl (fun H locs ls hS hl => la_tail B hr hlocks hcl2 hsl2 hS hl)
      · refine lv_tableIn (off := 386) (tgt := 426) hx hb d_law_40 (by decide) (by decide) (by decide) (by decide) ?_
        exact case_6 B hcl hsl h0 hm ou a am hP hD hS hl (fun H locs ls hS hl => la_tail B hr hlocks hcl2 hsl2 hS hl)
      · refine lv_tableIn (off := 454) (tgt := 494) hx hb d_law_40 (by decide) (by decide) (by decide) (by decide) ?_
        exact case_7 B hcl hsl h0 hm ou a am hP hD hS hl (fun H locs ls hS hl => la_tail B hr hlocks hcl2 hsl2 hS hl)
      · refine lv_tableIn (off := 534) (tgt := 574) hx hb d_law_40 (by decide) (by decide) (by decide) (by decide) ?_
        exact case_8 B hcl hsl h0 hm ou a am hP hD hS hl (fun H locs ls hS hl => la_tail B hr hlocks hcl2 hsl2 hS hl)
      · refine lv_tableIn (off := 614) (tgt := 654) hx hb d_law_40 (by decide) (by decide) (by decide) (by decide) ?_
        exact case_9 B hcl hsl h0 hm ou a am hP hD hS hl (fun H locs ls hS hl => la_tail B hr hlocks hcl2 hsl2 hS hl)
      · refine lv_tableIn (off := 670) (tgt := 710) hx hb d_law_40 (by decide) (by decide) (by decide) (by decide) ?_
        exact case_10 B hcl hsl h0 hm ou a am hP hD hS hl (fun H locs ls hS hl => la_tail B hr hlocks hcl2 hsl2 hS hl)
      · refine lv_tableIn (off := 726) (tgt := 766) hx hb d_law_40 (by decide) (by decide) (by decide) (by decide) ?_
        exact case_11 B hcl hsl h0 hm ou a am hP hD hS hl (fun H locs ls hS hl => la_tail B hr hlocks hcl2 hsl2 hS hl)
      · refine lv_tableIn (off := 825) (tgt := 865) hx hb d_law_40 (by decide) (by decide) (by decide) (by decide) ?_
        exact case_12 B hcl hsl h0 hm ou a am hP hD hS hl (fun H locs ls hS hl => la_tail B hr hlocks hcl2 hsl2 hS hl)
      · refine lv_tableIn (off := 893) (tgt := 933) hx hb d_law_40 (by decide) (by decide) (by decide) (by decide) ?_
        exact case_13 B hcl hsl h0 hm ou a am hP hD hS hl (fun H locs ls hS hl => la_tail B hr hlocks hcl2 hsl2 hS hl)
      · refine lv_tableIn (off := 960) (tgt := 1000) hx hb d_law_40 (by decide) (by decide) (by decide) (by decide) ?_
        exact case_14 B hcl hsl h0 hm ou a am hP hD hS hl (fun H locs ls hS hl => la_tail B hr hlocks hcl2 hsl2 hS hl)
      · refine lv_tableIn (off := 1028) (tgt := 1068) hx hb d_law_40 (by decide) (by decide) (by decide) (by decide) ?_
        exact case_15 B hcl hsl h0 hm ou a am hP hD hS hl (fun H locs ls hS hl => la_tail B hr hlocks hcl2 hsl2 hS hl)
      · refine lv_tableIn (off := 1084) (tgt := 1124) hx hb d_law_40 (by decide) (by decide) (by decide) (by decide) ?_
        exact case_16 B hcl hsl h0 hm ou a am hP hD hS hl (fun H locs ls hS hl => la_tail B hr hlocks hcl2 hsl2 hS hl)
      · refine lv_tableIn (off := 1152) (tgt := 1192) hx hb d_law_40 (by decide) (by decide) (by decide) (by decide) ?_
        exact case_17 B hcl hsl h0 hm ou a am hP hD hS hl (fun H locs ls hS hl => la_tail B hr hlocks hcl2 hsl2 hS hl)
      · refine lv_tableIn (off := 1165) (tgt := 1205) hx hb d_law_40 (by decide) (by decide) (by decide) (by decide) ?_
        exact case_18 B hcl hsl h0 hm ou a am hP hD hS hl (fun H locs ls hS hl => la_tail B hr hlocks hcl2 hsl2 hS hl)
      · refine lv_tableIn (off := 1201) (tgt := 1241) hx hb d_law_40 (by decide) (by decide) (by decide) (by decide) ?_
        exact case_19 B hcl hsl h0 hm ou a am hP hD hS hl (fun H locs ls hS hl => la_tail B hr hlocks hcl2 hsl2 hS hl)
