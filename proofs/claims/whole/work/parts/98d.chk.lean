/-! the tables are looked through -/
def gEq (wi : Nat) (w : Cond) : Bool := decide (tables_1[wi]? = some w) && goodWord w
theorem gEq_ok {wi : Nat} {w : Cond} (h : gEq wi w = true) : w ∈ gW := by
  unfold gEq at h
  rw [Bool.and_eq_true, decide_eq_true_eq] at h
  exact gw_of (List.mem_of_getElem? h.1) h.2
def gSel (wi : Nat) (w : Cond) : Bool := if wi < 10000 then gEq wi w else decide ((k2_sels lw_privs)[wi - 10000]? = some w) && goodWord w
theorem gSel_ok {wi : Nat} {w : Cond} (h : gSel wi w = true) : w ∈ gW := by
  unfold gSel at h
  split at h
  · exact gEq_ok h
  · rw [Bool.and_eq_true, decide_eq_true_eq] at h
    exact gw_sel (List.mem_of_getElem? h.1) h.2
def nFl (wi : Nat) (own : String) (i : Nat) (b n d : String) : Bool := match tables_1[wi]? with
  | some (.fieldLinkNest a i' b' n' d' _) => decide (a = own ∧ i' = i ∧ b' = b ∧ n' = n ∧ d' = d)
  | _ => false
theorem nFl_ok {wi : Nat} {own : String} {i : Nat} {b n d : String} (h : nFl wi own i b n d = true) : ∃ host, Cond.fieldLinkNest own i b n d host ∈ nW := by
  unfold nFl at h
  split at h
  · rename_i a i' b' n' d' host hw
    obtain ⟨rfl, rfl, rfl, rfl, rfl⟩ := of_decide_eq_true h
    exact ⟨host, nw_of (List.mem_of_getElem? hw) rfl⟩
  · cases h
def nMl (wi : Nat) (own : String) (i : Nat) (y : MethodName) : Bool := match tables_1[wi]? with
  | some (.methodLinkNest a i' y' _) => decide (a = own ∧ i' = i ∧ y' = y)
  | _ => false
theorem nMl_ok {wi : Nat} {own : String} {i : Nat} {y : MethodName} (h : nMl wi own i y = true) : ∃ host, Cond.methodLinkNest own i y host ∈ nW := by
  unfold nMl at h
  split at h
  · rename_i a i' y' host hw
    obtain ⟨rfl, rfl, rfl⟩ := of_decide_eq_true h
    exact ⟨host, nw_of (List.mem_of_getElem? hw) rfl⟩
  · cases h
def fCk (own : String) (t : Nat × Nat × Nat × Nat × Nat) : Bool := match vC[t.2.1]? with
  | some q => decide (t.2.2.1 < q.2.2) && (decide ((q.2.1 t.2.2.1).1 = q.1) && (if t.2.2.2.2 = 0 then gEq t.2.2.2.1 (.fieldLink own t.1 q.1 (q.2.1 t.2.2.1).2.1 (q.2.1 t.2.2.1).2.2.1) else nFl t.2.2.2.1 own t.1 q.1 (q.2.1 t.2.2.1).2.1 (q.2.1 t.2.2.1).2.2.1))
  | none => false
theorem fCk_ok {own : String} {t : Nat × Nat × Nat × Nat × Nat} (h : fCk own t = true) : eF aSh0 aFk0 own (.getfield t.1) t.2.1 t.2.2.1 := by
  unfold fCk at h
  split at h
  · rename_i q hq
    rw [Bool.and_eq_true, Bool.and_eq_true, decide_eq_true_eq, decide_eq_true_eq] at h
    refine ⟨q, hq, h.1, h.2.1, ?_⟩
    have h2 := h.2.2
    split at h2
    · exact Or.inl (gEq_ok h2)
    · exact Or.inr (nFl_ok h2)
  · cases h
def pCk (own : String) (t : Nat × Nat × Nat × Nat) : Bool := match vC[t.2.1]? with
  | some q => decide (t.2.2.1 < q.2.2 ∧ (q.2.1 t.2.2.1).1 = q.1 ∧ (q.2.1 t.2.2.1).2.2.2 = false ∧ (aFk0 t.2.1)[t.2.2.1]? = some (kdOf (q.2.1 t.2.2.1).2.2.1) ∧ (kdOf (q.2.1 t.2.2.1).2.2.1 = 2 → isRefD (q.2.1 t.2.2.1).2.2.1 = true)) && gEq t.2.2.2 (.fieldLink own t.1 q.1 (q.2.1 t.2.2.1).2.1 (q.2.1 t.2.2.1).2.2.1)
  | none => false
theorem pCk_ok {own : String} {t : Nat × Nat × Nat × Nat} (h : pCk own t = true) : eF aSh0 aFk0 own (.putfield t.1) t.2.1 t.2.2.1 := by
  unfold pCk at h
  split at h
  · rename_i q hq
    rw [Bool.and_eq_true, decide_eq_true_eq] at h
    obtain ⟨⟨h1, h2, h3, h4, h5⟩, h6⟩ := h
    exact ⟨q, hq, h1, h2, gEq_ok h6, h3, h4, h5⟩
  · cases h
def cCk (own : String) (t : Nat × Nat × Nat × Nat) : Bool := if t.2.2.1 = 1 then gEq t.2.2.2 (.constant own t.1 (Int32.ofNat t.2.1)) else if t.2.2.1 = 2 then gEq t.2.2.2 (.constantLong own t.1 (Int64.ofNat t.2.1)) else decide (t.2.2.1 = 3) && decide ((sW[t.2.1]?).map (fun q => (q.1, q.2.1)) = some (own, t.1))
theorem sW_of {x i : Nat} {own : String} (h : (sW[x]?).map (fun q => (q.1, q.2.1)) = some (own, i)) : ∃ tx, sW[x]? = some (own, i, tx) := by
  cases hq : sW[x]? with
  | none => rw [hq] at h; cases h
  | some q =>
    rw [hq] at h
    obtain ⟨a, b, tx⟩ := q
    simp only [Option.map_some, Option.some.injEq, Prod.mk.injEq] at h
    obtain ⟨rfl, rfl⟩ := h
    exact ⟨tx, rfl⟩
theorem cCk_ok1 {own : String} {t : Nat × Nat × Nat × Nat} (h : cCk own t = true) (h2 : t.2.2.1 ≠ 2) : (t.2.2.1 = 1 ∧ Cond.constant own t.1 (Int32.ofNat t.2.1) ∈ gW) ∨ (t.2.2.1 = 3 ∧ ∃ tx, sW[t.2.1]? = some (own, t.1, tx)) := by
  unfold cCk at h
  split at h
  · rename_i h1
    exact Or.inl ⟨h1, gEq_ok h⟩
  · rw [Bool.and_eq_true, decide_eq_true_eq, decide_eq_true_eq] at h
    exact Or.inr ⟨h.1, sW_of h.2⟩
theorem cCk_ok2 {own : String} {t : Nat × Nat × Nat × Nat} (h : cCk own t = true) (h2 : t.2.2.1 = 2) : Cond.constantLong own t.1 (Int64.ofNat t.2.1) ∈ gW := by
  unfold cCk at h
  rw [if_neg (by omega), if_pos h2] at h
  exact gEq_ok h
def vCk (own : String) (t : Nat × Nat × Nat × Nat) : Bool := if t.2.1 = 900 then gEq t.2.2.2 (.methodLink own t.1 ⟨"java/lang/String", "length", "()I"⟩) else if t.2.1 = 901 then gEq t.2.2.2 (.methodLink own t.1 ⟨"java/lang/String", "charAt", "(I)C"⟩) else if t.2.1 = 902 then gEq t.2.2.2 (.methodLink own t.1 ⟨"java/lang/String", "indexOf", "(I)I"⟩) else decide (t.2.1 < 900) && (match aTB t.2.1 with
  | some q => (if t.2.2.1 < 100 then gEq t.2.2.2 (.methodLink own t.1 (mY q)) else (nMl t.2.2.2 own t.1 (mY q) && (mHs q).isEmpty)) && decide ((vC[t.2.2.1 % 100]?).map (·.1) = some (mY q).cls)
  | none => false)
theorem vCk_ok {own : String} {t : Nat × Nat × Nat × Nat} {bytes : ByteArray} {pc len : Nat} (h : vCk own t = true) : cF aTB own bytes (pc, .invokevirtual t.1, len, t.2.1, t.2.2.1) := by
  unfold vCk at h
  split at h
  · rename_i h1
    exact Or.inr (Or.inl ⟨h1, gEq_ok h⟩)
  · split at h
    · rename_i h1
      exact Or.inr (Or.inr (Or.inl ⟨h1, gEq_ok h⟩))
    · split at h
      · rename_i h1
        exact Or.inr (Or.inr (Or.inr (Or.inl ⟨h1, gEq_ok h⟩)))
      · rw [Bool.and_eq_true, decide_eq_true_eq] at h
        refine Or.inr (Or.inr (Or.inr (Or.inr ⟨by show ¬ 900 ≤ t.2.1; omega, fun q' hq' => ?_⟩)))
        have h2 := h.2
        have hq9 : aTB t.2.1 = some q' := hq'
        rw [hq9] at h2
        dsimp only at h2
        rw [Bool.and_eq_true, decide_eq_true_eq] at h2
        refine ⟨?_, ?_⟩
        · have h3 := h2.1
          split at h3
          · exact Or.inl (gEq_ok h3)
          · rename_i h100
            rw [Bool.and_eq_true] at h3
            exact Or.inr ⟨hs_nil h3.2, by show 100 ≤ t.2.2.1; omega, nMl_ok h3.1⟩
        · have h3 := h2.2
          cases hv : vC[t.2.2.1 % 100]? with
          | none => rw [hv] at h3; cases h3
          | some qc => rw [hv] at h3; exact ⟨qc, rfl, Option.some.inj h3⟩
def sCk (own : String) (t : Nat × Nat × Nat) : Bool := if t.2.1 = 910 then gEq t.2.2 (.methodLink own t.1 Lib.Math.min.name) else if t.2.1 = 911 then gEq t.2.2 (.methodLink own t.1 Lib.Math.max.name) else if t.2.1 = 912 then gEq t.2.2 (.methodLink own t.1 Lib.MathLoose.abs_long.x) else if t.2.1 = 920 then gEq t.2.2 (.methodLink own t.1 arraycopyName) else decide (t.2.1 < 900) && (match aTB t.2.1 with
  | some q => gEq t.2.2 (.methodLink own t.1 (mY q)) && (mHs q).isEmpty
  | none => false)
theorem sCk_ok {own : String} {t : Nat × Nat × Nat} {bytes : ByteArray} {pc len y : Nat} (h : sCk own t = true) : cF aTB own bytes (pc, .invokestatic t.1, len, t.2.1, y) := by
  unfold sCk at h
  split at h
  · rename_i h1
    exact Or.inr (Or.inl ⟨h1, gEq_ok h⟩)
  · split at h
    · rename_i h1
      exact Or.inr (Or.inr (Or.inl ⟨h1, gEq_ok h⟩))
    · split at h
      · rename_i h1
        exact Or.inr (Or.inr (Or.inr (Or.inl ⟨h1, gEq_ok h⟩)))
      · split at h
        · rename_i h1
          exact Or.inr (Or.inr (Or.inr (Or.inr (Or.inl ⟨h1, gEq_ok h⟩))))
        · rw [Bool.and_eq_true, decide_eq_true_eq] at h
          refine Or.inr (Or.inr (Or.inr (Or.inr (Or.inr ⟨by show ¬ 900 ≤ t.2.1; omega, fun q' hq' => ?_⟩))))
          have h2 := h.2
          have hq9 : aTB t.2.1 = some q' := hq'
          rw [hq9] at h2
          dsimp only at h2
          rw [Bool.and_eq_true] at h2
          exact ⟨gEq_ok h2.1, hs_nil h2.2⟩
def xeT : List (String × Nat × Nat) := [("RecordLake", 117, 0), ("RecordLake", 128, 1), ("RecordLake", 175, 2), ("RecordLakeModel$Text", 88, 0), ("RecordLakeModel", 166, 0)]
theorem xE_Mo_ISE : xE_ok "RecordLakeModel" 166 "java/lang/IllegalStateException" := by unfold xE_ok; decide +kernel
theorem xeT_ok : ∀ t ∈ xeT, xE_ok t.1 t.2.1 (eN t.2.2) := by
  intro t ht
  simp only [xeT, List.mem_cons, List.not_mem_nil, or_false] at ht
  rcases ht with rfl | rfl | rfl | rfl | rfl
  · exact xE_Lk_ISE
  · exact xE_Lk_IAE
  · exact xE_Lk_IOB
  · exact xE_Mt_ISE
  · exact xE_Mo_ISE
def nCk (own : String) (t : Nat × Nat × Nat × Nat × Nat) : Bool := decide (Cond.classLink own t.1 (eN t.2.1) ∈ tables_1) && (goodWord (Cond.classLink own t.1 (eN t.2.1)) && (decide (Cond.initialized (eN t.2.1) ∈ tables_1) && (goodWord (Cond.initialized (eN t.2.1)) && (Bundle.fit (eN t.2.1) && (decide ((own, t.2.2.2.1, t.2.1) ∈ xeT) && decide ((sW[t.2.2.2.2]?).map (fun q => (q.1, q.2.1)) = some (own, t.2.2.1)))))))
/-- the rows behind a throw: dup, the text, the constructor, athrow -/
def dCk (bytes : ByteArray) (pc i ix ik : Nat) : Bool := decide (decode bytes pc = .ok (.new i, 3)) && (decide (decode bytes (pc + 3) = .ok (.dup, 1)) && ((decide (decode bytes (pc + 3 + 1) = .ok (.ldc ix, 2)) && (decide (decode bytes (pc + 3 + 1 + 2) = .ok (.invokespecial ik, 3)) && decide (decode bytes (pc + 3 + 1 + 2 + 3) = .ok (.athrow, 1)))) || (decide (decode bytes (pc + 3 + 1) = .ok (.ldc_w ix, 3)) && (decide (decode bytes (pc + 3 + 1 + 3) = .ok (.invokespecial ik, 3)) && decide (decode bytes (pc + 3 + 1 + 3 + 3) = .ok (.athrow, 1))))))
theorem nCk_ok {own : String} {t : Nat × Nat × Nat × Nat × Nat} {bytes : ByteArray} {pc len y : Nat} (h : nCk own t = true) (hd : dCk bytes pc t.1 t.2.2.1 t.2.2.2.1 = true) : cF aTB own bytes (pc, .new t.1, len, t.2.1, y) := by
  intro _
  unfold nCk at h
  simp only [Bool.and_eq_true, decide_eq_true_eq] at h
  obtain ⟨h1, h2, h3, h4, h5, h6, h7⟩ := h
  obtain ⟨tx, htx⟩ := sW_of h7
  unfold dCk at hd
  simp only [Bool.and_eq_true, Bool.or_eq_true, decide_eq_true_eq] at hd
  obtain ⟨d1, d2, d3⟩ := hd
  exact ⟨gw_of h1 h2, gw_of h3 h4, h5, t.2.2.1, t.2.2.2.1, t.2.2.2.2, 0, .dup, tx, xeT_ok _ h6, htx, d1, d2, d3⟩
