/-! plain forms of what is kept -/
section
variable {T : Nat → Nat → Nat} {q0 q : kP}
theorem kPlU_sq (hX : q.2.2 = q0.2.2) {rec : Nat → Nat → List Nat × Nat} {x : Nat} : ∀ k i c, kPlU q rec x k i c = kPlU q0 rec x k i c
  | 0, _, _ => rfl
  | k + 1, i, c => by
    unfold kPlU
    rw [hX, kPlU_sq hX k (i + 1)]
theorem kPlY_sq (hX : q.2.2 = q0.2.2) {x : Nat} : ∀ k i, kPlY T q x k i = kPlY T q0 x k i
  | 0, _ => rfl
  | k + 1, i => by
    unfold kPlY
    rw [hX, kPlY_sq hX k (i + 1)]
theorem kPlF_sq (hX : q.2.2 = q0.2.2) {rec : Nat → Nat → List Nat × Nat} {x : Nat} : ∀ k i c, kPlF T q rec x k i c = kPlF T q0 rec x k i c
  | 0, _, _ => rfl
  | k + 1, i, c => by
    unfold kPlF kPli
    rw [hX, kPlF_sq hX k (i + 1)]
theorem kPl_sq (h : kSq q0 q) : ∀ D x c, kPl T q D x c = kPl T q0 D x c := by
  have hH : ∀ b x c, kPlH T q b x c = kPlH T q0 b x c := fun b x c => by unfold kPlH; rw [h.2.1 1 (by omega)]
  have hB : ∀ rec x, kPlB T q rec x = kPlB T q0 rec x := fun rec x => by
    unfold kPlB kPln
    rw [h.2.1 0 (by omega), h.2.1 1 (by omega), h.2.1 4 (by omega), h.2.1 8 (by omega), h.1, kPlU_sq h.1, kPlY_sq h.1, kPlF_sq h.1]
  intro D
  induction D with
  | zero => intro x c; exact hH _ _ _
  | succ D ih =>
    intro x c
    have e : kPl T q D = kPl T q0 D := funext fun x => funext fun c => ih x c
    show kPlH T q (kPlB T q (kPl T q D) x) x c = kPlH T q0 (kPlB T q0 (kPl T q0 D) x) x c
    rw [hH, hB, e]
theorem kTt_sq (h : kSq q0 q) : ∀ D s e, kTt q0 D s e → kTt q D s e
  | 0, _, _, ht => ht
  | D + 1, s, e, ht => by
    unfold kTt kNd at ht ⊢
    rw [h.2.1 0 (by omega), h.2.1 4 (by omega), h.2.1 7 (by omega), h.2.1 8 (by omega), h.1]
    obtain ⟨hn, ht⟩ := ht
    refine ⟨hn, ?_⟩
    rcases ht with ht | ⟨h1, f, f0, f1, f2⟩
    · exact .inl ht
    · refine .inr ⟨h1, f, f0, f1, fun i hi => ⟨(f2 i hi).1, ?_⟩⟩
      have := (f2 i hi).2
      unfold kOc at this ⊢
      rw [h.2.1 0 (by omega)]
      rcases this with a | ⟨a, b⟩
      · exact .inl a
      · exact .inr ⟨a, kTt_sq h D _ _ b⟩
theorem kOc_sq (h : kSq q0 q) {x a b D : Nat} (ho : kOc q0 (kTt q0 D) x a b) : kOc q (kTt q D) x a b := by
  unfold kOc at ho ⊢
  rw [h.2.1 0 (by omega)]
  rcases ho with a | ⟨a, b⟩
  · exact .inl a
  · exact .inr ⟨a, kTt_sq h D _ _ b⟩
end
/-- a text that was read, in the lake's tables: its root -/
theorem lRo_v {p : jP} {q : kP} {x n b pb qb : Nat} {B : Nat → Nat} {t : aT} (hn : n ≤ 4096) (hk : kTx B n = .ok (p, q, x)) (hv : lV b pb qb (kVe p.2.2.2.1 p.2.2.2.2 q) t) : lRo b pb qb (kVe p.2.2.2.1 p.2.2.2.2 q) t p.2.2.2.1 p.2.1 x := by
  obtain ⟨hG, hpe, hg, hso, hpl⟩ := kTx_ok hn hk
  have hs := kVe_sq (T := p.2.2.2.1) (N := p.2.2.2.2) (q0 := q)
  refine ⟨hv, kVe_iv hg.1, kSq_cd hs hg.2.1, fun v i hvm h2 hi => ?_, ?_, ?_⟩
  · have := hG.2.2.2.1 v hvm h2
    exact hG.2.2.1 _ (by omega)
  · rw [hs.2.2.1 1 (by omega)]
    exact kOc_sq hs hg.2.2.2.2.2.1
  · rw [kPl_sq hs]
    omega
/-! schema -/
/-- a reading of the tape: the fault, the plain form, the place -/
def yTr (S : yS) : Nat × yS := match kTx (yB S.tp) S.tp.length with
  | .ok (p, q, x) => (0, yMk S.tp (kPl p.2.2.2.1 q 16 x 6).1 S.ou (-1) S.dn S.pw S.fs)
  | .error (k, e) => (k, yMk S.tp [] S.ou (nI e) S.dn S.pw S.fs)
def y_schema (S : yS) : Nat × Int32 × yS := (0, nI (yTr S).1, (yTr S).2)
/-- cells that reading the tape may change -/
def xRt (b pb qb : Nat) (k i : Nat) : Prop := xRg b pb qb k i ∨ k = 3 ∨ k = 4 ∨ (41 ≤ k ∧ k ≤ 45) ∨ k = 0 ∧ i = 15
section
variable {c : Nat} {S : yS} {s : aT}
theorem Lk_rt (hw : yWf S) (h : yLI c S s) (d : Nat) : ∃ s', xLk s s' ∧ (∀ k i, k < 67 → ¬ xRt (yB0 (yUp S) (yUp S).length) (yP0 (yUp S) (yUp S).length) (yQ0 (yUp S) (yUp S).length) k i → gI s' k i = gI s k i) ∧ lBy 3 (yTr S).2.pl s' ∧ gI s' 0 15 = (yTr S).2.pc ∧ gI s' 37 0 = nI (yTr S).1 ∧ (match kTx (yB S.tp) S.tp.length with
    | .ok (p, q, x) => fLk_readTape (d + 90) s = rI (nI (lo (yB0 (yUp S) (yUp S).length) x)) s' ∧ gI s' 13 9 = nI p.1 ∧ lV (yB0 (yUp S) (yUp S).length) (yP0 (yUp S) (yUp S).length) (yQ0 (yUp S) (yUp S).length) (kVe p.2.2.2.1 p.2.2.2.2 q) s' ∧ gI s' 22 14 = nI (yB0 (yUp S) (yUp S).length + ((kVe p.2.2.2.1 p.2.2.2.2 q).1 1 - 6)) ∧ gI s' 22 15 = nI (yP0 (yUp S) (yUp S).length + (kVe p.2.2.2.1 p.2.2.2.2 q).1 3) ∧ gI s' 32 1 = nI (yQ0 (yUp S) (yUp S).length + (kVe p.2.2.2.1 p.2.2.2.2 q).1 6)
    | .error _ => fLk_readTape (d + 90) s = rI (-1) s') := by
  have hL := yUp_w hw
  have hsc := h.2.2.2.2.2.1
  have ht := h.2.1.1
  have hl := hw.1.2
  obtain ⟨s1, s2, hp, hr, hm⟩ := Lk_rd hL hsc (C := S.tp) (a := 2) (fr := 0) (.inl rfl) hl hw.1.1 (by show 0 + _ ≤ 4096; omega) (fun i hi => by rw [Nat.zero_add]; exact ht.2.1 i hi) d
  unfold lRead at hr
  generalize yB0 (yUp S) (yUp S).length = b at *
  generalize yP0 (yUp S) (yUp S).length = pb at *
  generalize yQ0 (yUp S) (yUp S).length = qb at *
  have hrx := hr.1
  cases hk : kTx (yB S.tp) S.tp.length with
  | error x =>
    obtain ⟨k, e⟩ := x
    rw [hk] at hm
    obtain ⟨m1, m2, m3⟩ := hm
    have er : yTr S = (k, yMk S.tp [] S.ou (nI e) S.dn S.pw S.fs) := by unfold yTr; rw [hk]
    rw [er]
    refine ⟨pI (pI s2 3 1 0) 0 15 (nI e), fun k i hk67 => ?_, fun k i hk67 hn => ?_, ⟨?_, fun i hi => absurd hi (Nat.not_lt_zero _), kBt_nil, Nat.zero_le _⟩, by rw [gI_pI, if_pos ⟨rfl, rfl⟩]; rfl, by rw [gI_pI, if_neg (by omega), gI_pI, if_neg (by omega)]; exact m2, eLk_readTape (d + 89) _ _ ?_⟩
    · rw [gI_pI, if_neg (by omega), gI_pI, if_neg (by omega)]
      exact hr.2 k i hk67
    · rw [gI_pI, if_neg (fun e => hn (by unfold xRt; omega)), gI_pI, if_neg (fun e => hn (by unfold xRt; omega))]
      exact hrx k i hk67 (fun e => hn (.inl e))
    · rw [gI_pI, if_neg (by omega), gI_pI, if_pos ⟨rfl, rfl⟩]
      rfl
    · rw [ht.1, show (0 : Int32) = nI 0 from rfl, hp, cG_V, m1, cG_I, wI_eq, if_pos rfl, wI_eq, gI_pI, if_neg (by omega), m3]
      rfl
  | ok x =>
    obtain ⟨p, q, x⟩ := x
    rw [hk] at hm
    obtain ⟨m1, m2, m3, m4, m5, m6, m7, m8⟩ := hm
    obtain ⟨hG, hpe, hg, hso, hpl⟩ := kTx_ok hl hk
    have er : yTr S = (0, yMk S.tp (kPl p.2.2.2.1 q 16 x 6).1 S.ou (-1) S.dn S.pw S.fs) := by unfold yTr; rw [hk]
    rw [er]
    have hs := kVe_sq (T := p.2.2.2.1) (N := p.2.2.2.2) (q0 := q)
    have hro := lRo_v hl hk m5
    have hto := Pf_to (L := []) (d + 31) (c := 3) ⟨by unfold isB; decide, by omega⟩ hro (by rw [kPl_sq hs]; show 0 + _ ≤ 4096; omega)
    rw [List.nil_append, kPl_sq hs, show d + 31 + 58 = d + 89 by omega] at hto
    have hx6 : x < 134 := by have := hg.1.1; have := hg.2.2.2.2.1; omega
    have hlb : b + ((kVe p.2.2.2.1 p.2.2.2.2 q).1 1 - 6) ≤ 5254 := m5.1.2.1
    have hlx : ¬ nI (lo b x) = -1 := nI_nm (by
      have := hg.2.2.2.2.1
      rw [hs.2.2.1 1 (by omega)] at hlb
      unfold lo
      split <;> omega)
    generalize hW : (kPl p.2.2.2.1 q 16 x 6).1 = W at *
    have oo : ∀ k i, k ≠ 3 → k ≠ 4 → k ≠ 41 → gI (oP 3 W b ((kVe p.2.2.2.1 p.2.2.2.2 q).1 1) (pM4 s2 3)) k i = gI s2 k i := fun k i a b c => by
      rw [oP_o (by omega)]
      rfl
    have hbW : kBt W := by
      rw [← hW]
      exact kPl_b hg.1 (fun v i hvm h2 hi => by
        have := hG.2.2.2.1 v hvm h2
        exact hG.2.2.1 _ (by omega)) 16 x 6 (q.1 1) (Nat.le_refl _) (Nat.le_refl _) hg.2.2.2.2.2.1
    refine ⟨pI (oP 3 W b ((kVe p.2.2.2.1 p.2.2.2.2 q).1 1) (pM4 s2 3)) 0 15 (-1), fun k i hk67 => ?_, fun k i hk67 hn => ?_, ⟨?_, fun i hi => ?_, hbW, ?_⟩, by rw [gI_pI, if_pos ⟨rfl, rfl⟩]; rfl, by rw [gI_pI, if_neg (by omega), oo 37 0 (by omega) (by omega) (by omega)]; exact m2, ⟨eLk_readTape (d + 89) _ _ ?_, ?_, ?_, ?_, ?_, ?_⟩⟩
    · rw [gI_pI, if_neg (by omega), oo k i (by omega) (by omega) (by omega)]
      exact hr.2 k i hk67
    · rw [gI_pI, if_neg (fun e => hn (by unfold xRt; omega)), oo k i (fun e => hn (by unfold xRt; omega)) (fun e => hn (by unfold xRt; omega)) (fun e => hn (by unfold xRt; omega))]
      exact hrx k i hk67 (fun e => hn (.inl e))
    · rw [gI_pI, if_neg (by omega)]
      unfold oP
      exact oB_n
    · rw [gI_pI, if_neg (by omega)]
      unfold oP
      exact oB_r hi
    · show W.length ≤ 4096
      omega
    · rw [ht.1, show (0 : Int32) = nI 0 from rfl, hp, cG_V, m1, cG_I, wI_eq, if_neg hlx, show (nI 0 : Int32) = 0 from rfl, oB_nil, hto, cG_V, wI_eq, oo 37 1 (by omega) (by omega) (by omega), m3]
      rfl
    · rw [gI_pI, if_neg (by omega), oo 13 9 (by omega) (by omega) (by omega)]; exact m4
    · exact lV_fr (fun k i g1 g2 => by rw [gI_pI, if_neg (by omega), oo k i (by omega) (by omega) (by omega)]) m5
    · rw [gI_pI, if_neg (by omega), oo 22 14 (by omega) (by omega) (by omega)]; exact m6
    · rw [gI_pI, if_neg (by omega), oo 22 15 (by omega) (by omega) (by omega)]; exact m7
    · rw [gI_pI, if_neg (by omega), oo 32 1 (by omega) (by omega) (by omega)]; exact m8
end
