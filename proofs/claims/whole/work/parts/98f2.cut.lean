/-! a long method is looked through in pieces -/
theorem cdCk_cut {o : Nat} {q : aMI} : ∀ (n : Nat) (es : List aEn), cdCk o q (es.take (n + 1)) = true → cdCk o q (es.drop n) = true → cdCk o q es = true
  | 0, _, _, h2 => h2
  | _ + 1, [], _, _ => rfl
  | n + 1, en :: es, h1, h2 => by
    have h1' : cdCk o q (en :: es.take (n + 1)) = true := h1
    unfold cdCk at h1' ⊢
    rw [Bool.and_eq_true, Bool.and_eq_true] at h1'
    rw [Bool.and_eq_true, Bool.and_eq_true]
    refine ⟨h1'.1, ?_, cdCk_cut n es h1'.2.2 h2⟩
    cases es with
    | nil => rfl
    | cons e2 es => exact h1'.2.1
def mCk0 (o : Nat) (q : aMI) (w : Nat × Nat × Nat × Nat) : Bool := plainName (mY q).cls && ((if (mHs q).isEmpty then gEq w.1 (Cond.code (mY q) (mB q) (mL q) (mR q)) else gEq w.1 (Cond.codeWith (mY q) (mB q) (mL q) (mR q) (mHh q))) && (gEq w.2.2.2 (.initialized (mY q).cls) && ((if mSt q then gEq w.2.1 (.static (mY q)) else (gEq w.2.1 (.instanceMethod (mY q)) && gSel w.2.2.1 (.selects (mY q).cls (mY q) (mY q)))) && (decide ((mY q).cls ≠ "java/lang/invoke/MethodHandle" ∧ (mY q).cls ≠ "java/lang/invoke/VarHandle" ∧ (parseMethodDescriptor (mY q).desc).map (fun d => d.parameters.length) = some (mNp q)) && (decide (mL q ≤ 40) && (hNx q 0 0 && ((mHs q).all (hCk q) && (decide ((mY q).cls = oN o) && true))))))))
theorem mCk_of {o : Nat} {q : aMI} {w : Nat × Nat × Nat × Nat} (h : mCk0 o q w = true) (hc : cdCk o q (mCd q) = true) : mCk o q w = true := by
  unfold mCk0 at h
  unfold mCk
  simp only [Bool.and_eq_true] at h ⊢
  obtain ⟨h1, h2, h3, h4, h5, h6, h7, h8, h9, -⟩ := h
  exact ⟨h1, h2, h3, h4, h5, h6, h7, h8, h9, hc⟩
