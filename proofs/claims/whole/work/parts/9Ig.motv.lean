/-! the reference: letters that are told, numbers, strings -/
def mFl (k : Nat) (s : aT) : aT := pU (pI (pI s 67 24 (nI k)) 67 25 0)
/-- what telling leaves in the reference -/
def mTl (R : Nat) (t : aT) (F : aRs) (L M : List Nat) (b : Bool) (e : Nat) : Prop := if L.length + M.length ≤ R then (if b = true then F = rV (oNn e (oU (L ++ M) t)) else ∃ a' L', F = rT 0 (mFl 20 (oNn a' (oU L' t)))) else ∃ a' L', F = rT 0 (mFl 31 (oNn a' (oU L' t)))
def mTo (R : Nat) (t : aT) : Prop := gI t 67 32 = nI R ∧ R ≤ 4200
section
variable {n R : Nat} {B : Nat → Nat} {t : aT} {L M : List Nat} {b : Bool} {e : Nat}
theorem oU_oN {a : Nat} : oNn a (oU L t) = oU L (oNn a t) := by
  refine aT_ext (fun k i => ?_) (fun _ _ => rfl) rfl
  by_cases h : k = 67 ∧ i = 31
  · obtain ⟨rfl, rfl⟩ := h
    rw [oNn_at, oU_o (by omega) (by omega), oNn_at]
  · rw [oNn_o (by omega), oU_I, oU_I, oNn_o (by omega)]
theorem oU_i (h : mTi B n t) : mTi B n (oU L t) := ⟨h.1, fun i hi => by rw [oU_o (by omega) (by omega)]; exact h.2.1 i hi, h.2.2⟩
theorem oU_W {c m l n0 : Nat} {q : kP} {T : Nat → Nat → Nat} {N : Nat → Int} (h : mW c q T N m l n0 t) : mW c q T N m l n0 (oU L t) := mW_fr (fun k i h1 h2 => oU_o (by omega) (by omega)) (fun _ _ => rfl) h
theorem mTl_go {F G : aRs} (h : mTl R t F L M b e) (go : ∀ r, F = some r → G = some r) : mTl R t G L M b e := by
  unfold mTl at h ⊢
  by_cases hq : L.length + M.length ≤ R
  · rw [if_pos hq] at h ⊢
    cases b with
    | true => rw [if_pos rfl] at h ⊢; exact go _ h
    | false =>
      rw [if_neg (by decide)] at h ⊢
      obtain ⟨a', L', h⟩ := h
      exact ⟨a', L', go _ h⟩
  · rw [if_neg hq] at h ⊢
    obtain ⟨a', L', h⟩ := h
    exact ⟨a', L', go _ h⟩
/-- nothing is told -/
theorem mTl_0 (hl : L.length ≤ R) : mTl R t (rV (oNn e (oU L t))) L [] true e := by
  unfold mTl
  rw [if_pos (show L.length + ([] : List Nat).length ≤ R from hl), if_pos rfl, List.append_nil]
/-- one after the other -/
theorem mTl_s {F : aRs} {G : aT → aRs} {M1 : List Nat} {b1 : Bool} {e1 : Nat} (h : mTl R t F L M1 b1 e1) (hM : if b1 = true then ∃ M2, M = M1 ++ M2 ∧ ((L ++ M1).length ≤ R → mTl R t (G (oNn e1 (oU (L ++ M1) t))) (L ++ M1) M2 b e) else M = M1 ∧ b = false) : mTl R t (cG F (kV fun s => G s)) L M b e := by
  cases b1 with
  | false =>
    rw [if_neg (by decide)] at hM
    obtain ⟨rfl, rfl⟩ := hM
    unfold mTl at h ⊢
    by_cases hq : L.length + M.length ≤ R
    · rw [if_pos hq, if_neg (by decide)] at h ⊢
      obtain ⟨a', L', h⟩ := h
      exact ⟨a', L', by rw [h, cG_T]⟩
    · rw [if_neg hq] at h ⊢
      obtain ⟨a', L', h⟩ := h
      exact ⟨a', L', by rw [h, cG_T]⟩
  | true =>
    rw [if_pos rfl] at hM
    obtain ⟨M2, rfl, hM⟩ := hM
    unfold mTl at h
    by_cases hq : L.length + M1.length ≤ R
    · rw [if_pos hq, if_pos rfl] at h
      have hm := hM (by rw [List.length_append]; exact hq)
      rw [h, cG_V]
      unfold mTl at hm ⊢
      rw [List.length_append] at hm ⊢
      rw [List.append_assoc, Nat.add_assoc] at hm
      exact hm
    · rw [if_neg hq] at h
      obtain ⟨a', L', h⟩ := h
      unfold mTl
      rw [List.length_append, if_neg (by omega)]
      exact ⟨a', L', by rw [h, cG_T]⟩
/-- the last one -/
theorem mTl_l {F : aRs} (h : mTl R t F L M b e) : mTl R t (cG F (kV fun s => rV s)) L M b e := by
  refine mTl_s h ?_
  cases b with
  | false => rw [if_neg (by decide)]; exact ⟨rfl, rfl⟩
  | true =>
    rw [if_pos rfl]
    exact ⟨[], by rw [List.append_nil], fun hl => mTl_0 hl⟩
theorem Mo_fb {d k : Nat} {x : Int32} (hx : x = nI k) {s : aT} : fMo_failBytes d x 0 s = rT 0 (mFl k s) := eMo_failBytes d _ _ _ _ (by rw [hx]; rfl)
/-- a letter -/
theorem Mo_tc (hR : mTo R t) (hl : L.length ≤ R) (d : Nat) {a k : Nat} {x : Int32} (hx : vp_nar .byte x.toInt8.toInt32 = mI k) : mTl R t (fMo_tellByte (d + 1) x (oNn a (oU L t))) L [k] true a := by
  have hR2 : gI (oNn a t) 67 32 = nI R := by rw [oNn_o (by omega)]; exact hR.1
  unfold mTl
  by_cases hq : L.length + ([k] : List Nat).length ≤ R
  · rw [if_pos hq, if_pos rfl]
    have hq : L.length + 1 ≤ R := hq
    rw [oU_oN, Mo_tb d hR2 hR.2 hx (by omega), oU_oN]
  · rw [if_neg hq]
    have hq : ¬ L.length + 1 ≤ R := hq
    refine ⟨a, L, eMo_tellByte d _ _ _ ?_⟩
    rw [oU_oN, oU_n, oU_o (by omega) (by omega), hR2, show L.length = R by omega, if_neg (fun e => e rfl), Mo_fb (k := 31) (x := 31) rfl, cG_T]
    rfl
theorem Mo_tv8 (hR : mTo R t) (d : Nat) {a : Nat} : ∀ k x L, L.length ≤ R → lU x < 128 ^ (k + 1) → mTl R t (fMo_tellVarint_8 (d + 2) x (oNn a (oU L t))) L (kVu (k + 1) (lU x)) true a := by
  intro k
  induction k with
  | zero =>
    intro x L hl hx
    have h : lU x < 128 := by simpa using hx
    have ek : kVu (0 + 1) (lU x) = [lU x] := by show (if lU x < 128 then _ else _) = _; rw [if_pos h]
    rw [ek]
    refine mTl_go (mTl_l (Mo_tc hR hl d (a := a) (x := x.toInt32) (k := lU x) (by rw [l_low h]; exact nI_byte (by omega)))) (fun r hr => eMo_tellVarint_8 (d + 1) _ _ _ ?_)
    rw [if_pos (by rw [lU_0, v_sh]; omega)]
    exact hr
  | succ k ih =>
    intro x L hl hx
    by_cases h : lU x < 128
    · have ek : kVu (k + 1 + 1) (lU x) = [lU x] := by show (if lU x < 128 then _ else _) = _; rw [if_pos h]
      rw [ek]
      refine mTl_go (mTl_l (Mo_tc hR hl d (a := a) (x := x.toInt32) (k := lU x) (by rw [l_low h]; exact nI_byte (by omega)))) (fun r hr => eMo_tellVarint_8 (d + 1) _ _ _ ?_)
      rw [if_pos (by rw [lU_0, v_sh]; omega)]
      exact hr
    · have ek : kVu (k + 1 + 1) (lU x) = [lU x % 128 + 128] ++ kVu (k + 1) (lU x / 128) := by show (if lU x < 128 then _ else _) = _; rw [if_neg h]; rfl
      have eu : (x &&& 127).toInt32 ||| 128 = nI (lU x % 128 + 128) := by rw [v_low, nI_or128 _ (by omega)]
      have ihh := fun hl' => ih ((x.toUInt64 >>> ((7 : Int32).toInt64.toUInt64 &&& Int64.toUInt64 63)).toInt64) (L ++ [lU x % 128 + 128]) hl' (by rw [v_sh]; rw [Nat.pow_succ] at hx; exact Nat.div_lt_of_lt_mul (by rw [Nat.mul_comm]; exact hx))
      rw [v_sh] at ihh
      rw [ek]
      refine mTl_go (mTl_s (G := fun s2 => fMo_tellVarint_8 (d + 2) ((x.toUInt64 >>> ((7 : Int32).toInt64.toUInt64 &&& Int64.toUInt64 63)).toInt64) s2) (Mo_tc hR hl d (a := a) (x := nI (lU x % 128 + 128)) (k := lU x % 128 + 128) (nI_byte (by omega))) (by rw [if_pos rfl]; exact ⟨_, rfl, ihh⟩)) (fun r hr => eMo_tellVarint_8 (d + 1) _ _ _ ?_)
      rw [if_neg (by rw [lU_0, v_sh]; omega), eu]
      exact hr
/-- a number -/
theorem Mo_tv (hR : mTo R t) (hl : L.length ≤ R) {d : Nat} (hd : 2 ≤ d) {v : Int64} {a : Nat} : mTl R t (fMo_tellVarint d v (oNn a (oU L t))) L (kVb v) true a := by
  obtain ⟨d, rfl⟩ : ∃ d', d = d' + 2 := ⟨d - 2, by omega⟩
  refine mTl_go (Mo_tv8 hR d 9 _ L hl ?_) (fun r hr => eMo_tellVarint (d + 1) _ _ _ hr)
  exact Nat.lt_of_lt_of_le (BitVec.isLt _) (by decide)
/-- letters as they stand -/
theorem Mo_cy2 (hR : mTo R t) (hi : mTi B n t) (d : Nat) {y : Int64} {k0 : Nat} (hy : y.toInt = (k0 : Int)) (hk : k0 < 100000) {a : Nat} (han : a + k0 ≤ n) : ∀ k i L, i + k = k0 → L.length ≤ R → mTl R t (fMo_copyBytes_2 (d + 2) y 1 (Int64.ofNat i) (oNn (a + i) (oU L t))) L (kTp B (a + i) k) true (a + k0) := by
  have hn := hi.1
  intro k
  induction k with
  | zero =>
    intro i L hik hl
    have := mTl_0 (t := t) (e := a + k0) hl
    refine mTl_go this (fun r hr => eMo_copyBytes_2 (d + 1) _ _ _ _ _ ?_)
    rw [if_pos (show 0 ≤ aLcmp (Int64.ofNat i) y by rw [aLcmp_ge, hy, ofN_t (by omega)]; omega), show i = k0 by omega]
    exact hr
  | succ k ih =>
    intro i L hik hl
    have e143 : gI (oNn (a + i) (oU L t)) 143 (a + i) = mI (B (a + i)) := by rw [oNn_o (by omega), oU_o (by omega) (by omega)]; exact hi.2.1 _ (by omega)
    rw [kTp_s]
    refine mTl_go (mTl_s (G := fun s2 => fMo_copyBytes_15 (d + 2) y 1 (Int64.ofNat i) s2) (M1 := [B (a + i)]) (Mo_tc hR hl d (a := a + i) (x := mI (B (a + i))) (mI_by (hi.2.2 _))) (by
      rw [if_pos rfl]
      refine ⟨kTp B (a + i + 1) k, rfl, fun hl' => mTl_go (ih (i + 1) _ (by omega) hl') (fun r hr => eMo_copyBytes_15 (d + 1) _ _ _ _ _ ?_)⟩
      rw [wI_eq, oNn_at, nI_add1, oNn_w, ofN_1, show a + i + 1 = a + (i + 1) by omega]
      exact hr)) (fun r hr => eMo_copyBytes_2 (d + 1) _ _ _ _ _ ?_)
    rw [if_neg (show ¬ 0 ≤ aLcmp (Int64.ofNat i) y by rw [aLcmp_ge, hy, ofN_t (by omega)]; omega), if_neg (by decide), oNn_at, ldI_n (by omega) (by omega), e143]
    exact hr
theorem Mo_cy (hR : mTo R t) (hi : mTi B n t) (hl : L.length ≤ R) {d : Nat} (hd : 2 ≤ d) {y : Int64} {k0 : Nat} (hy : y.toInt = (k0 : Int)) {a : Nat} (han : a + k0 ≤ n) : mTl R t (fMo_copyBytes d y 1 (oNn a (oU L t))) L (kTp B a k0) true (a + k0) := by
  obtain ⟨d, rfl⟩ : ∃ d', d = d' + 2 := ⟨d - 2, by omega⟩
  have hn := hi.1
  exact mTl_go (Mo_cy2 hR hi d hy (by omega) han k0 0 L (by omega) hl) (fun r hr => eMo_copyBytes (d + 1) _ _ _ _ hr)
theorem kTp_add {a k j : Nat} : kTp B a (k + j) = kTp B a k ++ kTp B (a + k) j := by
  unfold kTp
  rw [List.range_add, List.map_append, List.map_map]
  congr 1
  exact List.map_congr_left (fun i _ => by show B _ = B _; rw [Nat.add_assoc])
/-- a number or counted letters, told as they stand -/
theorem Mo_t6 (hR : mTo R t) (hi : mTi B n t) (hl : L.length ≤ R) {d : Nat} (hd : 3 ≤ d) {x a : Nat} (hx : x < 6) (h0 : x = 0 → e = a) (h1 : x = 1 → e = a + 1) (han : e ≤ n) (h2 : x = 2 ∨ x = 3 → ∃ v, kNu B n a v e) (h4 : x = 4 ∨ x = 5 → kSs2 B n a e) : mTl R t (fMo_tellSix d (nI x) (oNn a (oU L t))) L (kTp B a (e - a)) true e := by
  obtain ⟨d, rfl⟩ : ∃ d', d = d' + 3 := ⟨d - 3, by omega⟩
  have hn := hi.1
  have hii : ∀ {L}, mTi B n (oU L t) := oU_i hi
  rcases (show x = 0 ∨ x = 1 ∨ (x = 2 ∨ x = 3) ∨ (x = 4 ∨ x = 5) by omega) with h | h | h | h
  · rw [h0 h, Nat.sub_self]
    refine mTl_go (mTl_0 hl) (fun r hr => eMo_tellSix (d + 2) _ _ _ ?_)
    rw [h, if_pos (by decide)]
    exact hr
  · have e1 := h1 h
    have hc := Mo_cy hR hi hl (d := d + 2) (by omega) (y := 1) (k0 := 1) rfl (a := a) (by omega)
    rw [e1, Nat.add_sub_cancel_left]
    refine mTl_go (mTl_l hc) (fun r hr => eMo_tellSix (d + 2) _ _ _ ?_)
    rw [h, if_neg (by decide), if_pos (by decide)]
    exact hr
  · obtain ⟨v, hv⟩ := h2 h
    have hc := Mo_tv (v := v) (a := e) hR hl (d := d + 2) (by omega)
    rw [← hv.2] at hc
    refine mTl_go (mTl_l hc) (fun r hr => eMo_tellSix (d + 2) _ _ _ ?_)
    rcases h with h | h
    · rw [h, if_neg (by decide), if_neg (by decide), if_pos (by decide), Mo_rv hii _ hv.1, cG_L]
      exact hr
    · rw [h, if_neg (by decide), if_neg (by decide), if_neg (by decide), if_pos (by decide), Mo_rv hii _ hv.1, cG_L]
      exact hr
  · obtain ⟨v, b', s1, s2, s3, s4⟩ := h4 h
    have hle := kNu_le hi.2.2 s1
    have hc := Mo_tv (v := v) (a := b') hR hl (d := d + 2) (by omega)
    rw [← s1.2] at hc
    have es : kTp B a (e - a) = kTp B a (b' - a) ++ kTp B b' v.toInt.toNat := by
      have := kTp_add (B := B) (a := a) (k := b' - a) (j := v.toInt.toNat)
      rw [show a + (b' - a) = b' by omega] at this
      rw [← this]
      congr 1
      omega
    rw [es]
    refine mTl_go (mTl_s (e := e) (G := fun s14 => cG (fMo_copyBytes (d + 2) v 1 s14) (kV fun s15 => rV s15)) hc (by
      rw [if_pos rfl]
      refine ⟨_, rfl, fun hl' => ?_⟩
      have hy := Mo_cy hR hi hl' (d := d + 2) (by omega) (y := v) (k0 := v.toInt.toNat) (by omega) (a := b') (by omega)
      rw [← s3] at hy
      exact mTl_l hy)) (fun r hr => eMo_tellSix (d + 2) _ _ _ ?_)
    rcases h with h | h
    · rw [h, if_neg (by decide), if_neg (by decide), if_neg (by decide), if_neg (by decide), Mo_rv hii _ s1.1, cG_L]
      exact hr
    · rw [h, if_neg (by decide), if_neg (by decide), if_neg (by decide), if_neg (by decide), Mo_rv hii _ s1.1, cG_L]
      exact hr
end
section
variable {c m l n R : Nat} {T : Nat → Nat → Nat} {N : Nat → Int} {q : kP} {t : aT} {L : List Nat}
/-- letters of a text -/
theorem Mo_ts2 (hR : mTo R t) (hw : mW c q T N m l n t) (d : Nat) {v a : Nat} (hv : v < m) (h2 : T 0 v = 2) : ∀ k j L, j + k = T 2 v → L.length ≤ R → mTl R t (fMo_tellString_2 (d + 2) c (nI v) (nI j) (oNn a (oU L t))) L ((kLe T v).drop j) true a := by
  have hG := hw.2.2.2.1
  have hm := hG.1
  have hl2 := hG.2.2.2.1 v hv h2
  have hll := hG.2.1
  have hT : ∀ {L}, mT c (oNn a (oU L t)) T N m l := (oNn_W (oU_W hw)).2.2.1
  intro k
  induction k with
  | zero =>
    intro j L hj hl
    rw [List.drop_eq_nil_of_le (by rw [kLe_len]; omega)]
    refine mTl_go (mTl_0 hl) (fun r hr => eMo_tellString_2 (d + 1) c _ _ _ hw.1 _ ?_)
    rw [ldI_n (by omega) (by omega), mT_Z hT hv (by omega), if_pos (show nI (T 2 v) ≤ nI j by rw [nI_leE (by omega) (by omega)]; omega)]
    exact hr
  | succ k ih =>
    intro j L hj hl
    have hb : T 6 (T 5 v + j) < 256 := hG.2.2.1 _ (by omega)
    have hd : (kLe T v).drop j = [T 6 (T 5 v + j)] ++ (kLe T v).drop (j + 1) := by
      have hlen : j < (kLe T v).length := by rw [kLe_len]; omega
      rw [List.drop_eq_getElem_cons hlen]
      have : (kLe T v)[j] = T 6 (T 5 v + j) := by
        have := kLe_g (T := T) (v := v) (i := j) (by omega)
        rw [List.getD_eq_getElem?_getD, List.getElem?_eq_getElem hlen] at this
        exact this
      rw [this]
      rfl
    rw [hd]
    refine mTl_go (mTl_s (G := fun s4 => fMo_tellString_2 (d + 2) c (nI v) (nI (j + 1)) s4) (Mo_tc hR hl d (a := a) (x := mI (T 6 (T 5 v + j))) (mI_by hb)) (by rw [if_pos rfl]; exact ⟨_, rfl, fun hl' => ih (j + 1) _ (by omega) hl'⟩)) (fun r hr => eMo_tellString_2 (d + 1) c _ _ _ hw.1 _ ?_)
    rw [ldI_n (by omega) (by omega), mT_Z hT hv (by omega), if_neg (show ¬ nI (T 2 v) ≤ nI j by rw [nI_leE (by omega) (by omega)]; omega), ldL_n (by omega) (by omega), mT_S hT hv h2, ofN_i (by omega), nI_addE, ldI_n (by omega) (by omega), hT.2 _ (by omega), nI_add1]
    exact hr
theorem Mo_ts (hR : mTo R t) (hw : mW c q T N m l n t) (hl : L.length ≤ R) {d : Nat} (hd : 2 ≤ d) {v a : Nat} (hv : v < m) (h2 : T 0 v = 2) : mTl R t (fMo_tellString d c (nI v) (oNn a (oU L t))) L (kLe T v) true a := by
  obtain ⟨d, rfl⟩ : ∃ d', d = d' + 2 := ⟨d - 2, by omega⟩
  exact mTl_go (Mo_ts2 hR hw d hv h2 (T 2 v) 0 L (by omega) hl) (fun r hr => eMo_tellString (d + 1) c _ _ hw.1 _ hr)
end
