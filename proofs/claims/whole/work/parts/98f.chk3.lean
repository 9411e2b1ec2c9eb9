/-! a method is looked through -/
def hNx (q : aMI) (t pc : Nat) : Bool := match (mCd q)[t]? with
  | some e' => decide (e'.1 = pc)
  | none => true
theorem hNx_ok {q : aMI} {t pc : Nat} (h : hNx q t pc = true) : ∀ e', (mCd q)[t]? = some e' → e'.1 = pc := fun e' he => by
  unfold hNx at h
  rw [he] at h
  exact of_decide_eq_true h
def hCk (q : aMI) (z : Nat × Nat × Nat × Nat × Nat × Nat) : Bool := decide (z.2.2.2.1 ≠ 0) && (decide (Cond.classLink (mY q).cls z.2.2.2.1 (eN 0) ∈ tables_1) && (goodWord (Cond.classLink (mY q).cls z.2.2.2.1 (eN 0)) && (decide (Cond.castable (eN 0) (eN 0) ∈ tables_1) && (decide (z.2.2.2.2.2 < mL q) && ((decide (decode (mB q) z.2.2.1 = .ok (.astore z.2.2.2.2.2, 2)) && hNx q (z.2.2.2.2.1 + 1) (z.2.2.1 + 2)) || ((if h4 : z.2.2.2.2.2 < 4 then decide (decode (mB q) z.2.2.1 = .ok (.astore_n ⟨z.2.2.2.2.2, h4⟩, 1)) else false) && hNx q (z.2.2.2.2.1 + 1) (z.2.2.1 + 1)))))))
theorem hCk_ok {q : aMI} {z : Nat × Nat × Nat × Nat × Nat × Nat} (h : hCk q z = true) : hF q z := by
  unfold hCk at h
  simp only [Bool.and_eq_true, Bool.or_eq_true, decide_eq_true_eq] at h
  obtain ⟨h1, h2, h3, h4, h5, h6⟩ := h
  refine ⟨h1, gw_of h2 h3, nw_of h4 rfl, h5, ?_⟩
  rcases h6 with ⟨h6, h7⟩ | ⟨h6, h7⟩
  · exact ⟨2, Or.inl ⟨h6, rfl⟩, hNx_ok h7⟩
  · split at h6
    · rename_i h8
      exact ⟨1, Or.inr ⟨⟨_, h8⟩, of_decide_eq_true h6, rfl, rfl⟩, hNx_ok h7⟩
    · cases h6
def mCk (o : Nat) (q : aMI) (w : Nat × Nat × Nat × Nat) : Bool := plainName (mY q).cls && ((if (mHs q).isEmpty then gEq w.1 (Cond.code (mY q) (mB q) (mL q) (mR q)) else gEq w.1 (Cond.codeWith (mY q) (mB q) (mL q) (mR q) (mHh q))) && (gEq w.2.2.2 (.initialized (mY q).cls) && ((if mSt q then gEq w.2.1 (.static (mY q)) else (gEq w.2.1 (.instanceMethod (mY q)) && gSel w.2.2.1 (.selects (mY q).cls (mY q) (mY q)))) && (decide ((mY q).cls ≠ "java/lang/invoke/MethodHandle" ∧ (mY q).cls ≠ "java/lang/invoke/VarHandle" ∧ (parseMethodDescriptor (mY q).desc).map (fun d => d.parameters.length) = some (mNp q)) && (decide (mL q ≤ 40) && (hNx q 0 0 && ((mHs q).all (hCk q) && (decide ((mY q).cls = oN o) && cdCk o q (mCd q)))))))))
theorem mCk_ok (T : tabF) {o : Nat} {q : aMI} {w : Nat × Nat × Nat × Nat} (h : mCk o q w = true) : mF aTB aSh0 aFk0 q := by
  unfold mCk at h
  simp only [Bool.and_eq_true] at h
  obtain ⟨h1, h2, h3, h4, h5, h6, h7, h8, h9, h10⟩ := h
  refine ⟨h1, ?_, gEq_ok h3, fun hs => ?_, fun hs => ?_, of_decide_eq_true h5, of_decide_eq_true h6, hNx_ok h7, fun z hz => hCk_ok (List.all_eq_true.mp h8 z hz), fun k e he => ?_⟩
  · split at h2
    · rename_i he
      exact Or.inl ⟨hs_nil he, gEq_ok h2⟩
    · rename_i he
      exact Or.inr ⟨fun h => he (by rw [h]; rfl), gEq_ok h2⟩
  · rw [if_pos hs] at h4
    exact gEq_ok h4
  · rw [if_neg (by rw [hs]; decide), Bool.and_eq_true] at h4
    exact ⟨gEq_ok h4.1, gSel_ok h4.2⟩
  · obtain ⟨g1, g2⟩ := cdCk_at _ h10 k e he
    exact enCk_ok T (of_decide_eq_true h9) g1 g2
theorem getD_nil {α : Type} {l : List (List α)} {n o : Nat} (hl : l.length = n) (h : ¬ o < n) : l.getD o [] = [] := by
  rw [List.getD_eq_getElem?_getD, List.getElem?_eq_none (by omega)]
  rfl
theorem t_f : ∀ o, o < 14 → ∀ t ∈ tfW o, fCk (oN o) t = true := by decide +kernel
theorem t_p : ∀ o, o < 14 → ∀ t ∈ tpW o, pCk (oN o) t = true := by decide +kernel
theorem t_c : ∀ o, o < 14 → ∀ t ∈ tcW o, cCk (oN o) t = true := by decide +kernel
theorem t_s : ∀ o, o < 14 → ∀ t ∈ tsW o, sCk (oN o) t = true := by decide +kernel
theorem t_n : ∀ o, o < 14 → ∀ t ∈ tnW o, nCk (oN o) t = true := by decide +kernel
theorem t_v : ∀ o, o < 14 → ∀ t ∈ tvW o, vCk (oN o) t = true := by decide +kernel
theorem tabF_ok : tabF := by
  refine ⟨fun o => ?_, fun o => ?_, fun o => ?_, fun o => ?_, fun o => ?_, fun o => ?_⟩
  · by_cases h : o < 14
    · exact t_f o h
    · intro t ht; unfold tfW at ht; rw [getD_nil (n := 14) rfl h] at ht; cases ht
  · by_cases h : o < 14
    · exact t_p o h
    · intro t ht; unfold tpW at ht; rw [getD_nil (n := 14) rfl h] at ht; cases ht
  · by_cases h : o < 14
    · exact t_c o h
    · intro t ht; unfold tcW at ht; rw [getD_nil (n := 14) rfl h] at ht; cases ht
  · by_cases h : o < 14
    · exact t_v o h
    · intro t ht; unfold tvW at ht; rw [getD_nil (n := 14) rfl h] at ht; cases ht
  · by_cases h : o < 14
    · exact t_s o h
    · intro t ht; unfold tsW at ht; rw [getD_nil (n := 14) rfl h] at ht; cases ht
  · by_cases h : o < 14
    · exact t_n o h
    · intro t ht; unfold tnW at ht; rw [getD_nil (n := 14) rfl h] at ht; cases ht
