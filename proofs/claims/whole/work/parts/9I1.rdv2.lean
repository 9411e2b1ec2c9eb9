/-! numbers that are stored, read by both sides -/
/-- what a Teller reads -/
def lTi (A : Nat) (B : Nat → Nat) (n : Nat) (t : aT) : Prop := (gM2 t = A ∧ A ≠ 52) ∧ gI t 52 1 = nI n ∧ (n ≤ alen A ∧ alen A < 2147483648) ∧ (∀ i, i < n → gI t A i = mI (B i)) ∧ ∀ i, B i < 256
/-- where it is -/
def oT (a : Nat) (t : aT) : aT := pI t 52 0 (nI a)
theorem oT_at {a : Nat} {t : aT} : gI (oT a t) 52 0 = nI a := by unfold oT; rw [gI_pI, if_pos ⟨rfl, rfl⟩]
theorem oT_o {a k i : Nat} {t : aT} (h : k ≠ 52 ∨ i ≠ 0) : gI (oT a t) k i = gI t k i := by unfold oT; rw [gI_pI, if_neg (by omega)]
theorem oT_w {a b : Nat} {t : aT} : pI (oT a t) 52 0 (nI b) = oT b t := by
  unfold oT
  refine aT_ext (fun k i => ?_) (fun _ _ => rfl) rfl
  rw [gI_pI, gI_pI, gI_pI]
  by_cases h : k = 52 ∧ i = 0
  · rw [if_pos h, if_pos h]
  · rw [if_neg h, if_neg h, if_neg h]
theorem oT_m {a : Nat} {t : aT} : gM2 (oT a t) = gM2 t := rfl
section
variable {A n : Nat} {B : Nat → Nat} {t : aT}
theorem Te_v4 (hi : lTi A B n t) (d : Nat) {fr : Nat} : ∀ f k a u v a', f + k = 10 → kVd B n fr f k a u = .ok (v, a') → fTe_varint_4 d u (nI k) (oT a t) = rL v (oT a' t)
  | 0, k, a, u, v, a', _, h => by cases h
  | f + 1, k, a, u, v, a', hf, h => by
    obtain ⟨⟨h1, h2⟩, h3, h4, h5, h6⟩ := id hi
    unfold kVd at h
    split at h
    · rename_i han
      split at h
      · cases h
      · have hb := h6 a
        have ekv : u ||| ((((mI (B a) &&& 255) &&& 127).toInt64) <<< ((7 * nI k).toInt64 &&& 63)) = kVa u k (B a) := by
          rw [mI_and hb]
          rfl
        have e128 : ((128 : Int32) ≤ mI (B a) &&& 255) = (128 ≤ B a) := by rw [mI_and hb, show (128 : Int32) = nI 128 from rfl, nI_leE (by omega) (by omega)]
        have go : ∀ r, (if 128 ≤ B a then fTe_varint_4 d (kVa u k (B a)) (nI (k + 1)) (oT (a + 1) t) else fTe_varint_43 d (kVa u k (B a)) (oT (a + 1) t)) = some r → fTe_varint_4 d u (nI k) (oT a t) = some r := by
          intro r hr
          refine eTe_varint_4 d _ _ _ _ ?_
          rw [if_neg (show ¬ (10 : Int32) ≤ nI k by rw [show (10 : Int32) = nI 10 from rfl, nI_leE (by omega) (by omega)]; omega), oT_o (by omega), h3, oT_at, if_neg (show ¬ nI n ≤ nI a by rw [nI_leE (by omega) (by omega)]; omega), oT_m, h1, ldI_n (by omega) (by omega), oT_o (by omega), h5 a han, wI_eq, nI_add1 a, oT_w, ekv, nI_add1 k]
          simp only [e128]
          exact hr
        split at h
        · rename_i hge
          refine go _ ?_
          rw [if_pos hge]
          exact Te_v4 hi d f (k + 1) (a + 1) _ v a' (by omega) h
        · rename_i hge
          cases h
          refine go _ ?_
          rw [if_neg hge]
          exact eTe_varint_43 d _ _ _ rfl
    · cases h
theorem Te_vi (hi : lTi A B n t) (d : Nat) {a a' : Nat} {v : Int64} (h : kVr B n a = .ok (v, a')) : fTe_varint d (oT a t) = rL v (oT a' t) :=
  eTe_varint d _ _ (Te_v4 hi d 10 0 a 0 v a' rfl h)
/-- what the reference reads -/
def mTi (B : Nat → Nat) (n : Nat) (t : aT) : Prop := n ≤ 32768 ∧ (∀ i, i < n → gI t 143 i = mI (B i)) ∧ ∀ i, B i < 256
def oNn (a : Nat) (t : aT) : aT := pI t 67 31 (nI a)
theorem oNn_at {a : Nat} : gI (oNn a t) 67 31 = nI a := by unfold oNn; rw [gI_pI, if_pos ⟨rfl, rfl⟩]
theorem oNn_o {a k i : Nat} (h : k ≠ 67 ∨ i ≠ 31) : gI (oNn a t) k i = gI t k i := by unfold oNn; rw [gI_pI, if_neg (by omega)]
theorem oNn_w {a b : Nat} : pI (oNn a t) 67 31 (nI b) = oNn b t := by
  unfold oNn
  refine aT_ext (fun k i => ?_) (fun _ _ => rfl) rfl
  rw [gI_pI, gI_pI, gI_pI]
  by_cases h : k = 67 ∧ i = 31
  · rw [if_pos h, if_pos h]
  · rw [if_neg h, if_neg h, if_neg h]
theorem Mo_v6 (hi : mTi B n t) (d : Nat) {fr : Nat} : ∀ f k a u v a' (c : Nat), 128 ≤ c → c < 256 → f + k = 10 → kVd B n fr f k a u = .ok (v, a') → fMo_readVarint_6 d u (nI (7 * k)) (nI c) (oNn a t) = rL v (oNn a' t)
  | 0, k, a, u, v, a', _, _, _, _, h => by cases h
  | f + 1, k, a, u, v, a', c, hc, hc2, hf, h => by
    obtain ⟨h1, h5, h6⟩ := id hi
    unfold kVd at h
    split at h
    · rename_i han
      split at h
      · cases h
      · have hb := h6 a
        have ekv : u ||| ((((mI (B a) &&& 255) &&& 127).toInt64) <<< ((nI (7 * k)).toInt64 &&& 63)) = kVa u k (B a) := by
          rw [mI_and hb, ← nI_mulE]
          rfl
        have go : ∀ r, fMo_readVarint_6 d (kVa u k (B a)) (nI (7 * (k + 1))) (nI (B a)) (oNn (a + 1) t) = some r → fMo_readVarint_6 d u (nI (7 * k)) (nI c) (oNn a t) = some r := by
          intro r hr
          refine eMo_readVarint_6 d _ _ _ _ _ ?_
          rw [if_neg (show ¬ nI c ≤ 127 by rw [show (127 : Int32) = nI 127 from rfl, nI_leE (by omega) (by omega)]; omega), oNn_at, ldI_n (by omega) (by omega), oNn_o (by omega), h5 a han, wI_eq, nI_add1 a, oNn_w, ekv, show (7 : Int32) = nI 7 from rfl, nI_addE, mI_and hb]
          exact hr
        split at h
        · rename_i hge
          exact go _ (Mo_v6 hi d f (k + 1) (a + 1) _ v a' (B a) hge hb (by omega) h)
        · rename_i hge
          cases h
          refine go _ (eMo_readVarint_6 d _ _ _ _ _ ?_)
          rw [if_pos (show nI (B a) ≤ 127 by rw [show (127 : Int32) = nI 127 from rfl, nI_leE (by omega) (by omega)]; omega)]
          rfl
    · cases h
theorem Mo_rv (hi : mTi B n t) (d : Nat) {a a' : Nat} {v : Int64} (h : kVr B n a = .ok (v, a')) : fMo_readVarint d (oNn a t) = rL v (oNn a' t) :=
  eMo_readVarint d _ _ (Mo_v6 hi d 10 0 a 0 v a' 128 (by omega) (by omega) rfl h)
end
