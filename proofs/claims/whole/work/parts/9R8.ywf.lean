/-! PURE: what is kept stays well formed -/
section
variable {S : yS} {n v : Nat}
theorem yWf_fs (h : yWf S) {pw : Nat} (hp : pw ≤ 1001) {L : List yFi} (hL : yLw L) : yWf ((S.spw pw).sfs L) := ⟨h.1, h.2.1, h.2.2.1, hp, hL⟩
theorem yWf_lost (h : yWf S) : yWf ((S.spw 0).sdn true) := ⟨h.1, h.2.1, h.2.2.1, Nat.zero_le _, h.2.2.2.2⟩
theorem yWf_pc (h : yWf S) {pc : Int32} : yWf (S.spc pc) := h
theorem yWf_tp (h : yWf S) {T : List Nat} (hT : kBt T ∧ T.length ≤ 4096) : yWf (S.stp T) := ⟨hT, h.2.1, h.2.2.1, h.2.2.2.1, h.2.2.2.2⟩
theorem yWf_ou (h : yWf S) {T : List Nat} (hT : kBt T ∧ T.length ≤ 4096) : yWf (S.sou T) := ⟨h.1, h.2.1, hT, h.2.2.2.1, h.2.2.2.2⟩
theorem ySt_wf (h : yWf S) {x v want rw : Nat} {C : List Nat} (hx : x < 4) (hv : v < 16) (hrw : rw ≤ 4097 ∧ rw ≠ 1) (hC : C.length ≤ 4096) (hver : rw = 0 → yVk C ∧ want = C.length ∧ v = yVc S.fs x S.fs.length) (hrow : rw ≠ 0 → kBt C ∧ want = yWa (rw - 1) C.length ∧ ∃ j, j < S.fs.length ∧ yIv (S.fs.getD j yF0) x ∧ (S.fs.getD j yF0).2.1 = v ∧ yRw C (yQ (S.fs.getD j yF0).2.2.2.2.2) (yX (S.fs.getD j yF0).2.2.2.2.2) (rw - 1)) : yWf (ySt S x v want rw C).2 := by
  have hL := h.2.2.2.2
  have h40 := hL.1.1
  have hpw := h.2.2.2.1
  unfold ySt
  by_cases hf : 4096 < want ∨ S.fs.length = 40 ∨ yRm S.fs (yBk want) = 0
  · rw [if_pos hf]
    exact h
  · rw [if_neg hf]
    by_cases hl : S.pw ≠ 0 ∧ S.pw ≤ yBk want + 1
    · rw [if_pos hl]
      exact yWf_lost h
    · rw [if_neg hl]
      have hr : yRm S.fs (yBk want) ≠ 0 := fun e => hf (.inr (.inr e))
      have hle := yRm_le hr
      refine yWf_fs h (by omega) (yLw_add hL (by omega) ⟨⟨hx, hv⟩, ⟨by show 2 ≤ yRm S.fs (yBk want) - 1; omega, by show yRm S.fs (yBk want) - 1 + yBk want ≤ 128; omega⟩, by show want ≤ 4096; omega, hrw, hC⟩ (fun i hi => of_decide_eq_true hle.2.2 i hi) hver hrow)
/-- a version that is there -/
theorem yVf_j (hL : yLw S.fs) (hv : yVf S.fs n v ≠ 0) : ∃ j, j < S.fs.length ∧ yIv (S.fs.getD j yF0) n ∧ (S.fs.getD j yF0).2.1 = v ∧ yVd S.fs n v = (S.fs.getD j yF0).2.2.2.2.2 := by
  obtain ⟨a1, a2, a3⟩ := (yVf_iff hL).2 hv
  exact ⟨_, a1, a2, a3, rfl⟩
theorem yRr_wf {r : Nat × yS} (h : yWf r.2) {v : Nat} : yWf (yRr r v).2.2 := by
  unfold yRr
  split
  · exact h
  · exact yWf_tp h ⟨kBt_n, Nat.zero_le _⟩
theorem yTr_wf (h : yWf S) : yWf (yTr S).2 := by
  unfold yTr
  cases hk : kTx (yB S.tp) S.tp.length with
  | error x =>
    obtain ⟨k, e⟩ := x
    exact ⟨h.1, ⟨kBt_n, Nat.zero_le _⟩, h.2.2.1, h.2.2.2.1, h.2.2.2.2⟩
  | ok x =>
    obtain ⟨p, q, x⟩ := x
    obtain ⟨hG, hpe, hg, hso, hpl⟩ := kTx_ok h.1.2 hk
    have hbW : kBt (kPl p.2.2.2.1 q 16 x 6).1 := kPl_b hg.1 (fun v i hvm h2 hi => by
      have := hG.2.2.2.1 v hvm h2
      exact hG.2.2.1 _ (by omega)) 16 x 6 (q.1 1) (Nat.le_refl _) (Nat.le_refl _) hg.2.2.2.2.2.1
    have hl := h.1.2
    exact ⟨h.1, ⟨hbW, by show (kPl p.2.2.2.1 q 16 x 6).1.length ≤ 4096; omega⟩, h.2.2.1, h.2.2.2.1, h.2.2.2.2⟩
theorem W_feed (h : yWf S) (a b c d e : Int32) : yWf (y_feed a b c d e S).2.2 := by
  unfold y_feed
  by_cases hf : 4076 < S.tp.length
  · rw [if_pos hf]; exact h
  · rw [if_neg hf]
    refine yWf_tp h ⟨kBt_app h.1.1 (kBt_app (yBe_bt _ _) (kBt_app (yBe_bt _ _) (kBt_app (yBe_bt _ _) (kBt_app (yBe_bt _ _) (yBe_bt _ _))))), ?_⟩
    rw [List.length_append, yFb_len]
    omega
theorem W_end (h : yWf S) (x : Int32) : yWf (y_end x S).2 := by
  unfold y_end
  split
  · exact h
  · refine yWf_tp h ⟨kBt_tk h.1.1, ?_⟩
    have := h.1.2
    rw [List.length_take]
    omega
theorem W_schema (h : yWf S) : yWf (y_schema S).2.2 := yTr_wf h
theorem W_register (h : yWf S) (x : Int32) : yWf (y_register x S).2.2 := by
  have ht := yTr_wf h
  obtain ⟨yd, yp, yf, yt, yo⟩ := yTr_dn (S := S)
  unfold y_register
  by_cases hx : yNo x 3
  · rw [if_pos hx]; exact h
  · rw [if_neg hx]
    obtain ⟨n, n1, rfl⟩ := yNo_n (by omega) hx
    rw [nI_ti2 (n := n) (by omega)]
    split
    · exact h
    · cases hk : kTx (yB S.tp) S.tp.length with
      | error e => exact ht
      | ok y =>
        obtain ⟨p, q, y⟩ := y
        obtain ⟨v1, v2, v3, v4⟩ := yVk_tp h.1.1 h.1.2 hk
        dsimp only
        split
        · by_cases h16 : 16 ≤ yVc S.fs n S.fs.length
          · rw [if_pos h16]; exact ht
          · rw [if_neg h16]
            have hl := h.1.2
            refine yRr_wf (ySt_wf ht (by omega) (by omega) ⟨by omega, by omega⟩ (by omega) (fun _ => ⟨v1, v4.symm, ?_⟩) (fun e => absurd rfl e))
            rw [yf]
        · exact ht
theorem yGt_wf {x w : Int32} {k : Nat → Nat → Nat × Int32 × yS} (h : yWf S) (hk : ∀ n v, n < 4 → v < 16 → yVf S.fs n v ≠ 0 → yWf (k n v).2.2) : yWf (yGt x w S (1, 0, S) (0, -33, S) k).2.2 := by
  have hL := h.2.2.2.2
  unfold yGt
  by_cases hx : yNo x 3
  · rw [if_pos hx]; exact h
  · rw [if_neg hx]
    obtain ⟨n, n1, rfl⟩ := yNo_n (by omega) hx
    rw [nI_ti2 (n := n) (by omega)]
    split
    · exact h
    · by_cases hv : yVa S.fs n w
      · rw [if_pos hv]
        obtain ⟨v, rfl, _, v3⟩ := yVa_n hL hv
        have v16 := (yVa_of hL v3).2
        rw [nI_ti2 (n := v) (by omega)]
        exact hk n v (by omega) v16 v3
      · rw [if_neg hv]; exact h
theorem W_look (h : yWf S) (x w : Int32) : yWf (y_look x w S).2.2 := yGt_wf h (fun n v _ _ _ => by
  unfold yLo
  split <;> exact yWf_pc h)
theorem W_load (h : yWf S) (x w : Int32) : yWf (y_load x w S).2.2 := yGt_wf h (fun n v hn hv hvf => by
  cases hk : kLk (yQ (yVd S.fs n v)) (yB S.tp) S.tp.length (yX (yVd S.fs n v)) with
  | error e => exact yWf_pc h
  | ok o =>
    cases o with
    | none => exact yWf_pc h
    | some kp =>
      obtain ⟨k, p⟩ := kp
      obtain ⟨b1, b2, b3, b4, b5⟩ := kLk_rw (yB_bt h.1.1) hk
      have hl := h.1.2
      obtain ⟨j, j1, j2, j3, j4⟩ := yVf_j h.2.2.2.2 hvf
      show yWf (yRr (ySt (S.spc (-1)) n v (yWa k p.2.2.2.length) (k + 1) p.2.2.2) k).2.2
      refine yRr_wf (ySt_wf (S := S.spc (-1)) h (rw := k + 1) hn hv ⟨by omega, by omega⟩ (by omega) (fun e => by omega) (fun _ => ⟨b4, by rw [Nat.add_sub_cancel], j, j1, j2, j3, ?_⟩))
      rw [Nat.add_sub_cancel]
      rw [j4] at b5
      exact b5)
theorem W_read (h : yWf S) (x w i : Int32) {r : Nat × Int32 × yS} (hr : y_read x w i S r) : yWf r.2.2 := by
  have hL := h.2.2.2.2
  unfold y_read at hr
  by_cases hx : yNo x 3
  · rw [if_pos hx] at hr; rw [hr]; exact h
  · rw [if_neg hx] at hr
    obtain ⟨n, n1, rfl⟩ := yNo_n (by omega) hx
    rw [nI_ti2 (n := n) (by omega)] at hr
    by_cases hd : S.dn = true
    · rw [if_pos hd] at hr; rw [hr]; exact h
    · rw [if_neg hd] at hr
      by_cases hv : yVa S.fs n w ∧ ¬ i < 0 ∧ i < nI (yRs S.fs n S.fs.length)
      · rw [if_pos hv] at hr
        obtain ⟨g, M, b, hg, hM, hr⟩ := hr
        obtain ⟨v, rfl, _, v3⟩ := yVa_n hL hv.1
        have v16 := (yVa_of hL v3).2
        rw [nI_ti2 (n := v) (by omega)] at hM
        obtain ⟨e1, e2⟩ := nI_tn hv.2.1
        have hrs := yRs_40 hL n (Nat.le_refl S.fs.length)
        have hlt : i.toInt.toNat < yRs S.fs n S.fs.length := by
          have := hv.2.2
          rw [e1, nI_ltE (by omega) (by omega)] at this
          exact this
        obtain ⟨f1, f2, f3, f4⟩ := yFo_at (yFo_0.mpr hlt)
        obtain ⟨r1, r2, r3, r4⟩ := yRow hL f1 f2
        have c2 := (hL.2.2.1 _ ((yVf_iff hL).2 v3).1 ((yVf_iff hL).2 v3).2.1.2).1
        have hbt := yTd_bt c2 r2 hM
        rw [hr]
        unfold yRo
        by_cases hq : M.length ≤ 4096
        · rw [if_pos hq]
          split
          · exact yWf_ou h ⟨hbt, hq⟩
          · exact yWf_ou h ⟨kBt_n, Nat.zero_le _⟩
        · rw [if_neg hq]
          exact yWf_ou h ⟨kBt_n, Nat.zero_le _⟩
      · rw [if_neg hv] at hr; rw [hr]; exact h
theorem W_copy (h : yWf S) (x1 x2 w : Int32) {r : Nat × Int32 × yS} (hr : y_copy x1 x2 w S r) : yWf r.2.2 := by
  have hL := h.2.2.2.2
  unfold y_copy at hr
  by_cases hx : yNo x1 3
  · rw [if_pos hx] at hr; rw [hr]; exact h
  rw [if_neg hx] at hr
  by_cases hx2 : yNo x2 3
  · rw [if_pos hx2] at hr; rw [hr]; exact h
  rw [if_neg hx2] at hr
  by_cases hd : S.dn = true
  · rw [if_pos hd] at hr; rw [hr]; exact h
  rw [if_neg hd] at hr
  obtain ⟨n, n1, rfl⟩ := yNo_n (by omega) hx
  obtain ⟨m, m1, rfl⟩ := yNo_n (by omega) hx2
  rw [nI_ti2 (n := n) (by omega), nI_ti2 (n := m) (by omega)] at hr
  by_cases hv : yVa S.fs m w
  · rw [if_pos hv] at hr
    obtain ⟨gs, Ms, bs, hts, hr⟩ := hr
    obtain ⟨v, rfl, _, v3⟩ := yVa_n hL hv
    have v16 := (yVa_of hL v3).2
    rw [nI_ti2 (n := v) (by omega)] at hts hr
    have hR := (hL.2.2.1 _ ((yVf_iff hL).2 v3).1 ((yVf_iff hL).2 v3).2.1.2).1
    rw [hr]
    unfold yCo
    by_cases h0 : yGf Ms bs (yRs S.fs n S.fs.length) 0 = 0
    · rw [if_pos h0]
      by_cases hT : (yCat Ms (yRs S.fs n S.fs.length)).length = 0
      · rw [if_pos hT]; exact h
      · rw [if_neg hT]
        by_cases hs : ySo (yQ (yVd S.fs m v)) (yX (yVd S.fs m v)) Ms (yRs S.fs n S.fs.length) = true
        · rw [if_pos hs]
          obtain ⟨p0, p1, p2, p3⟩ := yTs_pos hL hR hts h0 hT
          obtain ⟨q1, q2⟩ := (ySo_iff _).mp hs
          obtain ⟨hI, hcd, hy⟩ := yVk_iv hR
          obtain ⟨j, j1, j2, j3, j4⟩ := yVf_j hL v3
          have hrw := yCat_rw hI hcd hy p0 q2 p2
          have hbt : kBt (yCat Ms (yRs S.fs n S.fs.length)) := yCat_bt _ (fun i hi => (p0 i hi).1)
          unfold yCs
          refine ySt_wf h (by omega) v16 ⟨by omega, by omega⟩ q1 (fun e => by omega) (fun _ => ⟨hbt, by rw [Nat.add_sub_cancel], j, j1, j2, j3, ?_⟩)
          rw [Nat.add_sub_cancel]
          have j4 : (S.fs.getD (yVf S.fs m v - 1) yF0).2.2.2.2.2 = (S.fs.getD j yF0).2.2.2.2.2 := j4
          rw [j4] at hrw
          exact hrw
        · rw [if_neg hs]; exact h
    · rw [if_neg h0]; exact h
  · rw [if_neg hv] at hr; rw [hr]; exact h
theorem W_compact (h : yWf S) (x : Int32) : yWf (y_compact x S).2.2 := by
  have hL := h.2.2.2.2
  have hpw := h.2.2.2.1
  unfold y_compact
  split
  · exact h
  · split
    · exact h
    · cases hk : yCk S.fs x.toInt.toNat S.fs.length 0 with
      | none => exact h
      | some p =>
        obtain ⟨a, b⟩ := p
        obtain ⟨c1, c2, c3, c4, c5⟩ := yCk_ok _ _ _ _ (by omega) hk
        show yWf (yJn S a b).2
        unfold yJn
        by_cases h0 : yRm S.fs (yBk (yJw S.fs a b)) = 0
        · rw [if_pos h0]; exact h
        · rw [if_neg h0]
          by_cases hl : S.pw ≠ 0 ∧ S.pw ≤ yBk (yJw S.fs a b) + 1
          · rw [if_pos hl]; exact yWf_lost h
          · rw [if_neg hl]
            refine yWf_fs h (by omega) (yLw_er (yJ_ok hL c1 c2 c3 c4 c5 h0).2 (by rw [gD_sl]; exact c2) ?_)
            rw [gD_set (by omega), if_neg (by omega)]
            exact c4.2
theorem W_clear (h : yWf S) (x : Int32) : yWf (y_clear x S).2.2 := by
  have hL := h.2.2.2.2
  have hpw := h.2.2.2.1
  unfold y_clear
  split
  · exact h
  · split
    · exact h
    · split
      · exact h
      · split
        · exact yWf_lost h
        · exact yWf_fs h (by omega) (yCl_in (P := yLw) (fun L k hk hz hh => yLw_er hh hk hz) S.fs.length S.fs (Nat.le_refl _) hL)
theorem W_power (h : yWf S) (x : Int32) : yWf (y_power x S).2 := by
  unfold y_power
  by_cases hx : x < -1 ∨ 1000 < x
  · rw [if_pos hx]; exact h
  · rw [if_neg hx]
    refine ⟨h.1, h.2.1, h.2.2.1, ?_, h.2.2.2.2⟩
    show (x.toInt + 1).toNat ≤ 1001
    have : ¬ (1000 : Int32) < x := fun e => hx (.inr e)
    rw [Int32.lt_iff_toInt_lt] at this
    have e : (1000 : Int32).toInt = 1000 := rfl
    omega
theorem W_start (h : yWf S) : yWf (y_start S).2.2 := by
  unfold y_start
  split
  · exact h
  · exact h
end
