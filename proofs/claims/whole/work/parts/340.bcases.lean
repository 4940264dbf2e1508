/-- the numbers stay in their ranges when states and batches change -/
theorem WF_st {N N' : Nat → Int} (hW : WF N) (x0 : ∀ k, k ≠ 5 → k < 461 → k < 110 ∨ (k - 110) % 22 ≠ 0 → N' k = N k) (xs : ∀ o : Nat, (o : Int) < N 4 → 0 ≤ N' (110 + 22 * o) ∧ N' (110 + 22 * o) ≤ 3) (n5 : 0 ≤ N' 5 ∧ N' 5 ≤ 8) (hB : ∀ b : Nat, (b : Int) < N' 5 → WFb N' b) (hG : BC N') : WF N' := by
  have hw := hW.1
  refine WF_mk hW (fun k hk => x0 k (by omega) (by omega) (by omega)) (by rw [x0 3 (by omega) (by omega) (by omega)]; omega) (by rw [x0 4 (by omega) (by omega) (by omega)]; omega) n5 (Or.inl (fun k hk => x0 k (by omega) (by omega) (by omega))) (Or.inr (fun o ho => ?_)) (Or.inr hB) (Or.inr hG)
  rw [x0 4 (by omega) (by omega) (by omega)] at ho
  have w := hW.2.2.2.2.1 o ho
  have s := xs o ho
  unfold WFo at w ⊢
  rw [x0 3 (by omega) (by omega) (by omega), x0 (109 + 22 * o) (by omega) (by omega) (by omega), x0 (111 + 22 * o) (by omega) (by omega) (by omega)]
  refine ⟨w.1, w.2.1, s.1, s.2, w.2.2.2.2.1, w.2.2.2.2.2.1, fun k hk => ?_⟩
  rw [x0 (113 + 22 * o + 3 * k) (by omega) (by omega) (by omega), x0 (114 + 22 * o + 3 * k) (by omega) (by omega) (by omega), x0 (115 + 22 * o + 3 * k) (by omega) (by omega) (by omega)]
  exact w.2.2.2.2.2.2 k hk
theorem opDrop_b {N : Nat → Int} {b n : Nat} (hn : N 5 = (n : Int)) (j : Nat) : opDrop N b (461 + j) = if b ≤ j ∧ j + 1 < n then N (461 + j + 1) else N (461 + j) := by
  unfold opDrop
  rw [if_neg (show ¬ 461 + j = 5 by omega), hn, Int.toNat_natCast]
  exact itc (by omega)
def shf (b j : Nat) : Nat := if b ≤ j then j + 1 else j
theorem shf_inj {b j k : Nat} (h : j ≠ k) : shf b j ≠ shf b k := by
  unfold shf
  split <;> split <;> omega
theorem shf_ne {b j : Nat} : shf b j ≠ b := by
  unfold shf
  split <;> omega
theorem shf_lt {b j n : Nat} (h : j + 1 < n) : shf b j < n := by
  unfold shf
  split <;> omega
theorem opDrop_s {N : Nat → Int} {b n : Nat} (hn : N 5 = (n : Int)) {j : Nat} (hj : j + 1 < n) : opDrop N b (461 + j) = N (461 + shf b j) := by
  rw [opDrop_b hn]
  unfold shf
  by_cases q : b ≤ j
  · rw [if_pos ⟨q, hj⟩, if_pos q]
    rfl
  · rw [if_neg (by omega), if_neg q]
/-- a batch goes, and its orders come to another state -/
theorem WF_drop {N : Nat → Int} (hW : WF N) {b n : Nat} (hn : N 5 = (n : Int)) (hb : b < n) {s : Int} (hs : 0 ≤ s ∧ s ≤ 3) (hs1 : s ≠ 1) : WF (opDrop (opStates N (N (461 + b)) s) b) := by
  have hw := hW.1
  have w5 : opStates N (N (461 + b)) s 5 = (n : Int) := by rw [opSt_ne (by omega), hn]
  have x0 : ∀ k, k ≠ 5 → k < 461 → opDrop (opStates N (N (461 + b)) s) b k = opStates N (N (461 + b)) s k := fun k h1 h2 => by unfold opDrop; rw [if_neg h1, if_neg (by omega)]
  have y : ∀ j, j + 1 < n → opDrop (opStates N (N (461 + b)) s) b (461 + j) = N (461 + shf b j) := fun j hj => by
    rw [opDrop_s w5 hj, opSt_ne (by omega)]
  have x5 : opDrop (opStates N (N (461 + b)) s) b 5 = (n : Int) - 1 := by show opStates N (N (461 + b)) s 5 - 1 = _; rw [w5]
  refine WF_st hW (fun k h1 h2 h3 => by rw [x0 k h1 h2, opSt_ne (by omega)]) (fun o ho => ?_) (by rw [x5]; omega) (fun j hj => ?_) (fun o ho hq => ?_)
  · have w := hW.2.2.2.2.1 o ho
    unfold WFo at w
    rw [x0 _ (by omega) (by omega), opSt_at (by omega)]
    split <;> omega
  · rw [x5] at hj
    have hl := shf_lt (b := b) (show j + 1 < n by omega)
    have w := hW.2.2.2.2.2.1 (shf b j) (by omega)
    unfold WFb at w ⊢
    rw [y j (by omega), x0 4 (by omega) (by omega), opSt_ne (k := 4) (by omega)]
    refine ⟨w.1, w.2.1, fun o ho => ?_, fun b' hb' hb2 o ho => ?_⟩
    · have c := w.2.2.1 o ho
      refine ⟨c.1, ?_⟩
      rw [x0 _ (by omega) (by omega), opSt_at (by omega), if_neg (by rw [w.2.2.2 b (by omega) (Ne.symm shf_ne) o ho]; simp)]
      exact c.2
    · rw [x5] at hb'
      rw [y b' (by omega)]
      exact w.2.2.2 (shf b b') (by have := shf_lt (b := b) (show b' + 1 < n by omega); omega) (shf_inj hb2) o ho
  · rw [x0 4 (by omega) (by omega), opSt_ne (k := 4) (by omega)] at ho
    rw [x0 _ (by omega) (by omega), opSt_at (by omega)] at hq
    cases qb : bit (N (461 + b)) o
    · rw [qb] at hq
      simp only [Bool.false_eq_true, ↓reduceIte] at hq
      obtain ⟨b2, hb2, q2⟩ := hW.2.2.2.2.2.2 o ho hq
      have hne : b2 ≠ b := fun e => by rw [e, qb] at q2; cases q2
      obtain ⟨j, hj, ej⟩ : ∃ j, j + 1 < n ∧ shf b j = b2 := by
        unfold shf
        by_cases l : b2 < b
        · exact ⟨b2, by omega, by rw [if_neg (by omega)]⟩
        · exact ⟨b2 - 1, by omega, by rw [if_pos (by omega)]; omega⟩
      exact ⟨j, by rw [x5]; omega, by rw [y j hj, ej]; exact q2⟩
    · rw [qb] at hq
      simp only [↓reduceIte] at hq
      exact absurd hq hs1
theorem o_18 {M : Mem} (hI : Inv M) {p1 : Int} (h1 : I32 p1) (p2 p3 p4 : Int) : Ow (L_18 p1 p2 p3 p4 M) M := by
  unfold I32 at h1
  have hR := hI.1; have hW := hI.2.1; have hw := hI.2.1.1; have hw2 := hI.2.1.2.1; have hw3 := hI.2.1.2.2.1; obtain ⟨hA, hB, hC⟩ := hI.1; have hC3 := hC.1.1; have hC4 := hC.2.1.1; have hC5 := hC.2.2.1; simp only [Nat.reduceAdd] at hA hB hC3 hC4 hC5; have hz : M 2 3 = 1 ∧ M 140 7 = -1 ∨ M 2 3 = 2 ∧ M 140 7 ≠ -1 ∧ M 140 8 = -1 ∨ M 2 3 = 3 ∧ M 140 7 ≠ -1 ∧ M 140 8 ≠ -1 := zn3 hA.2.2.2.1; show wp _ _
  obtain ⟨n, hn⟩ : ∃ n : Nat, M 140 5 = (n : Int) := ⟨(M 140 5).toNat, by omega⟩
  have hE := HR_E hR
  simp only [L_18, f_L_dissolve, f_X11_dissolve, f_X12_dissolve, j_X12_dissolve_14, f_X11_needBatch, f_X12_isBatch, f_X11_needIndex, j_X11_needIndex_9, f_X12_in, f_X12_thrown]
  by_cases h : 0 ≤ p1 ∧ p1 < M 140 5
  · obtain ⟨b, rfl⟩ : ∃ b : Nat, p1 = (b : Int) := ⟨p1.toNat, by omega⟩
    have eb : M 18 b = M 140 (461 + b) := hE.2 b h.2
    have bm := bmem hW h.2
    simp (disch := omega) only [ixO, ixO0, ixO1, ixO2, ixO3, ixL0, ixL1, ixL2, ixC, ixB, ixI0, ixI00, ixI1, ixI2, ixI3, eb]
    (repeat' (first | with_reducible refine wp_use (X5set bm.1 (by omega)) (fun r hr => stp_mk ?_) | with_reducible refine wp_bnd ?_ | with_reducible refine wp_cl1 ?_ | with_reducible refine wp_cl2 ?_ | with_reducible refine wp_cx1 ?_ | with_reducible refine wp_cx2 ?_ | with_reducible refine wp_some ?_ | with_reducible refine wp_ite_t (lcmp0 (by ((try simp (disch := omega) only [w32_and, w32_or, w32_shl, w32_shr, w32_xor, ixO, ixO0, ixO1, ixO2, ixO3, ixL0, ixL1, ixL2, ixC, ixB, ixI0, ixI00, ixI1, ixI2, ixI3, upd2_rd, upd2_nd, Nat.reduceEqDiff, Nat.reduceAdd, Nat.add_left_cancel_iff, Nat.add_right_cancel_iff, reduceCtorEq, ↓reduceIte, and_self, and_true, true_and, and_false, false_and, true_or, or_true, false_or, or_false, not_true_eq_false, not_false_eq_true]); (try simp only [w32_em]); (first | done | omega)))) ?_ | with_reducible refine wp_ite_t (by ((try simp (disch := omega) only [w32_and, w32_or, w32_shl, w32_shr, w32_xor, ixO, ixO0, ixO1, ixO2, ixO3, ixL0, ixL1, ixL2, ixC, ixB, ixI0, ixI00, ixI1, ixI2, ixI3, upd2_rd, upd2_nd, Nat.reduceEqDiff, Nat.reduceAdd, Nat.add_left_cancel_iff, Nat.add_right_cancel_iff, reduceCtorEq, ↓reduceIte, and_self, and_true, true_and, and_false, false_and, true_or, or_true, false_or, or_false, not_true_eq_false, not_false_eq_true]); (try simp only [w32_em]); (first | done | omega))) ?_ | with_reducible refine wp_ite_f (by ((try simp (disch := omega) only [w32_and, w32_or, w32_shl, w32_shr, w32_xor, ixO, ixO0, ixO1, ixO2, ixO3, ixL0, ixL1, ixL2, ixC, ixB, ixI0, ixI00, ixI1, ixI2, ixI3, upd2_rd, upd2_nd, Nat.reduceEqDiff, Nat.reduceAdd, Nat.add_left_cancel_iff, Nat.add_right_cancel_iff, reduceCtorEq, ↓reduceIte, and_self, and_true, true_and, and_false, false_and, true_or, or_true, false_or, or_false, not_true_eq_false, not_false_eq_true]); (try simp only [w32_em]); (first | done | omega))) ?_ | with_reducible refine wp_itei ?_ ?_ | (with_reducible refine wp_imp (fun hc => ?_); (try simp (disch := omega) only [w32_and, w32_or, w32_shl, w32_shr, w32_xor, ixO, ixO0, ixO1, ixO2, ixO3, ixL0, ixL1, ixL2, ixC, ixB, ixI0, ixI00, ixI1, ixI2, ixI3, upd2_rd, upd2_nd, Nat.reduceEqDiff, Nat.reduceAdd, Nat.add_left_cancel_iff, Nat.add_right_cancel_iff, reduceCtorEq, ↓reduceIte, and_self, and_true, true_and, and_false, false_and, true_or, or_true, false_or, or_false, not_true_eq_false, not_false_eq_true] at hc); (try simp only [w32_em] at hc)) | with_reducible refine wp_gi (by ((try simp (disch := omega) only [w32_and, w32_or, w32_shl, w32_shr, w32_xor, ixO, ixO0, ixO1, ixO2, ixO3, ixL0, ixL1, ixL2, ixC, ixB, ixI0, ixI00, ixI1, ixI2, ixI3, upd2_rd, upd2_nd, Nat.reduceEqDiff, Nat.reduceAdd, Nat.add_left_cancel_iff, Nat.add_right_cancel_iff, reduceCtorEq, ↓reduceIte, and_self, and_true, true_and, and_false, false_and, true_or, or_true, false_or, or_false, not_true_eq_false, not_false_eq_true]); (try simp only [w32_em]); (first | done | omega))) (by ((try simp (disch := omega) only [w32_and, w32_or, w32_shl, w32_shr, w32_xor, ixO, ixO0, ixO1, ixO2, ixO3, ixL0, ixL1, ixL2, ixC, ixB, ixI0, ixI00, ixI1, ixI2, ixI3, upd2_rd, upd2_nd, Nat.reduceEqDiff, Nat.reduceAdd, Nat.add_left_cancel_iff, Nat.add_right_cancel_iff, reduceCtorEq, ↓reduceIte, and_self, and_true, true_and, and_false, false_and, true_or, or_true, false_or, or_false, not_true_eq_false, not_false_eq_true]); (try simp only [w32_em]); (first | done | omega))) (by omega) ?_ | with_reducible refine wp_gz (by ((try simp (disch := omega) only [w32_and, w32_or, w32_shl, w32_shr, w32_xor, ixO, ixO0, ixO1, ixO2, ixO3, ixL0, ixL1, ixL2, ixC, ixB, ixI0, ixI00, ixI1, ixI2, ixI3, upd2_rd, upd2_nd, Nat.reduceEqDiff, Nat.reduceAdd, Nat.add_left_cancel_iff, Nat.add_right_cancel_iff, reduceCtorEq, ↓reduceIte, and_self, and_true, true_and, and_false, false_and, true_or, or_true, false_or, or_false, not_true_eq_false, not_false_eq_true]); (try simp only [w32_em]); (first | done | omega))) ?_ | dsimp only [Sum.elim_inl, Sum.elim_inr])) <;> (first | exact lf1 hI | exact lf2 hI | skip)
    unfold stp
    obtain ⟨r1, r2⟩ := hr
    have g1 := HR_states (M := M) (M' := r) (m := M 140 (461 + b)) (s := 0) hR (WF_w hW) bm.2 (fun a h1 _ _ => r1 a h1) (fun j => by rw [r2, hC4])
    have n1 : opStates (M 140) (M 140 (461 + b)) 0 5 = (n : Int) := by rw [opSt_ne (by omega), hn]
    refine wp_cl1 (wp_use (X0drop (n := n) (by rw [r1 17 (by decide), hC5, hn]) (by omega) (by omega)) (fun q hq => ?_))
    obtain ⟨q1, q2, q3⟩ := hq
    have g2 := HR_drop (M := r) (M' := q) g1.1 g1.2 n1 (by omega) (fun a h1 h2 _ _ => q1 a h1 h2) q2 q3
    have e140 : q 140 = M 140 := by rw [q1 140 (by decide) (by decide), r1 140 (by decide)]
    have e5 : q 140 5 = (n : Int) := by rw [e140, hn]
    have e461 : q 140 (461 + b) = M 140 (461 + b) := by rw [e140]
    (repeat' (first | with_reducible refine wp_use (X12set (N := M 140) (m := M 140 (461 + b)) (by (try simp (disch := omega) only [upd2_ne]); exact e140) (by (try simp (disch := omega) only [ixO, ixO0, ixO1, ixO2, ixO3, ixL0, ixL1, ixL2, ixC, ixB, ixI0, ixI00, ixI1, ixI2, ixI3, upd2_ne]); exact e461) bm.1) (fun r hr => stp_mk ?_) | with_reducible refine wp_bnd ?_ | with_reducible refine wp_cl1 ?_ | with_reducible refine wp_cl2 ?_ | with_reducible refine wp_cx1 ?_ | with_reducible refine wp_cx2 ?_ | with_reducible refine wp_some ?_ | with_reducible refine wp_ite_t (lcmp0 (by ((try simp (disch := omega) only [w32_and, w32_or, w32_shl, w32_shr, w32_xor, ixO, ixO0, ixO1, ixO2, ixO3, ixL0, ixL1, ixL2, ixC, ixB, ixI0, ixI00, ixI1, ixI2, ixI3, upd2_rd, upd2_nd, Nat.reduceEqDiff, Nat.reduceAdd, Nat.add_left_cancel_iff, Nat.add_right_cancel_iff, reduceCtorEq, ↓reduceIte, and_self, and_true, true_and, and_false, false_and, true_or, or_true, false_or, or_false, not_true_eq_false, not_false_eq_true]); (try simp only [w32_em]); (first | done | omega)))) ?_ | with_reducible refine wp_ite_t (by ((try simp (disch := omega) only [w32_and, w32_or, w32_shl, w32_shr, w32_xor, ixO, ixO0, ixO1, ixO2, ixO3, ixL0, ixL1, ixL2, ixC, ixB, ixI0, ixI00, ixI1, ixI2, ixI3, upd2_rd, upd2_nd, Nat.reduceEqDiff, Nat.reduceAdd, Nat.add_left_cancel_iff, Nat.add_right_cancel_iff, reduceCtorEq, ↓reduceIte, and_self, and_true, true_and, and_false, false_and, true_or, or_true, false_or, or_false, not_true_eq_false, not_false_eq_true]); (try simp only [w32_em]); (first | done | omega))) ?_ | with_reducible refine wp_ite_f (by ((try simp (disch := omega) only [w32_and, w32_or, w32_shl, w32_shr, w32_xor, ixO, ixO0, ixO1, ixO2, ixO3, ixL0, ixL1, ixL2, ixC, ixB, ixI0, ixI00, ixI1, ixI2, ixI3, upd2_rd, upd2_nd, Nat.reduceEqDiff, Nat.reduceAdd, Nat.add_left_cancel_iff, Nat.add_right_cancel_iff, reduceCtorEq, ↓reduceIte, and_self, and_true, true_and, and_false, false_and, true_or, or_true, false_or, or_false, not_true_eq_false, not_false_eq_true]); (try simp only [w32_em]); (first | done | omega))) ?_ | with_reducible refine wp_itei ?_ ?_ | (with_reducible refine wp_imp (fun hc => ?_); (try simp (disch := omega) only [w32_and, w32_or, w32_shl, w32_shr, w32_xor, ixO, ixO0, ixO1, ixO2, ixO3, ixL0, ixL1, ixL2, ixC, ixB, ixI0, ixI00, ixI1, ixI2, ixI3, upd2_rd, upd2_nd, Nat.reduceEqDiff, Nat.reduceAdd, Nat.add_left_cancel_iff, Nat.add_right_cancel_iff, reduceCtorEq, ↓reduceIte, and_self, and_true, true_and, and_false, false_and, true_or, or_true, false_or, or_false, not_true_eq_false, not_false_eq_true] at hc); (try simp only [w32_em] at hc)) | with_reducible refine wp_gi (by ((try simp (disch := omega) only [w32_and, w32_or, w32_shl, w32_shr, w32_xor, ixO, ixO0, ixO1, ixO2, ixO3, ixL0, ixL1, ixL2, ixC, ixB, ixI0, ixI00, ixI1, ixI2, ixI3, upd2_rd, upd2_nd, Nat.reduceEqDiff, Nat.reduceAdd, Nat.add_left_cancel_iff, Nat.add_right_cancel_iff, reduceCtorEq, ↓reduceIte, and_self, and_true, true_and, and_false, false_and, true_or, or_true, false_or, or_false, not_true_eq_false, not_false_eq_true]); (try simp only [w32_em]); (first | done | omega))) (by ((try simp (disch := omega) only [w32_and, w32_or, w32_shl, w32_shr, w32_xor, ixO, ixO0, ixO1, ixO2, ixO3, ixL0, ixL1, ixL2, ixC, ixB, ixI0, ixI00, ixI1, ixI2, ixI3, upd2_rd, upd2_nd, Nat.reduceEqDiff, Nat.reduceAdd, Nat.add_left_cancel_iff, Nat.add_right_cancel_iff, reduceCtorEq, ↓reduceIte, and_self, and_true, true_and, and_false, false_and, true_or, or_true, false_or, or_false, not_true_eq_false, not_false_eq_true]); (try simp only [w32_em]); (first | done | omega))) (by omega) ?_ | with_reducible refine wp_gz (by ((try simp (disch := omega) only [w32_and, w32_or, w32_shl, w32_shr, w32_xor, ixO, ixO0, ixO1, ixO2, ixO3, ixL0, ixL1, ixL2, ixC, ixB, ixI0, ixI00, ixI1, ixI2, ixI3, upd2_rd, upd2_nd, Nat.reduceEqDiff, Nat.reduceAdd, Nat.add_left_cancel_iff, Nat.add_right_cancel_iff, reduceCtorEq, ↓reduceIte, and_self, and_true, true_and, and_false, false_and, true_or, or_true, false_or, or_false, not_true_eq_false, not_false_eq_true]); (try simp only [w32_em]); (first | done | omega))) ?_ | dsimp only [Sum.elim_inl, Sum.elim_inr])) <;> (first | exact lf1 hI | exact lf2 hI | skip)
    unfold stp
    obtain ⟨s1, s2⟩ := hr
    refine wp_cl1 (wp_use (X12rem s2 n1 (by omega) (by omega)) (fun t ht => ?_))
    obtain ⟨t1, t2⟩ := ht
    have tt : ∀ a, a ≠ 140 → t a = upd2 (upd2 q 157 0 (w32 (q 17 0))) 139 0 0 a := fun a ha => by rw [t1 a ha, s1 a ha]
    have t139 : t 139 0 = 0 := by rw [tt 139 (by decide)]; (simp (disch := omega) only [ixO, ixO0, ixO1, ixO2, ixO3, ixL0, ixL1, ixL2, ixC, ixB, ixI0, ixI00, ixI1, ixI2, ixI3, upd2_rd, upd2_nd, Nat.reduceEqDiff, Nat.reduceAdd, Nat.add_left_cancel_iff, Nat.add_right_cancel_iff, reduceCtorEq, ↓reduceIte, and_self, and_true, true_and, and_false, false_and, true_or, or_true, false_or, or_false, not_true_eq_false, not_false_eq_true, if_pos, if_neg])
    have t157 : t 157 0 = (n : Int) - 1 := by rw [tt 157 (by decide)]; (simp (disch := omega) only [ixO, ixO0, ixO1, ixO2, ixO3, ixL0, ixL1, ixL2, ixC, ixB, ixI0, ixI00, ixI1, ixI2, ixI3, upd2_rd, upd2_nd, Nat.reduceEqDiff, Nat.reduceAdd, Nat.add_left_cancel_iff, Nat.add_right_cancel_iff, reduceCtorEq, ↓reduceIte, and_self, and_true, true_and, and_false, false_and, true_or, or_true, false_or, or_false, not_true_eq_false, not_false_eq_true, if_pos, if_neg]); rw [q2, w32_em]; omega
    have t5 : t 140 5 = (n : Int) - 1 := by rw [t2]; show opStates _ _ 0 5 - 1 = _; rw [n1]
    (repeat' (first | with_reducible refine wp_bnd ?_ | with_reducible refine wp_cl1 ?_ | with_reducible refine wp_cl2 ?_ | with_reducible refine wp_cx1 ?_ | with_reducible refine wp_cx2 ?_ | with_reducible refine wp_some ?_ | with_reducible refine wp_ite_t (lcmp0 (by ((try simp (disch := omega) only [w32_and, w32_or, w32_shl, w32_shr, w32_xor, ixO, ixO0, ixO1, ixO2, ixO3, ixL0, ixL1, ixL2, ixC, ixB, ixI0, ixI00, ixI1, ixI2, ixI3, upd2_rd, upd2_nd, Nat.reduceEqDiff, Nat.reduceAdd, Nat.add_left_cancel_iff, Nat.add_right_cancel_iff, reduceCtorEq, ↓reduceIte, and_self, and_true, true_and, and_false, false_and, true_or, or_true, false_or, or_false, not_true_eq_false, not_false_eq_true]); (try simp only [w32_em]); (first | done | omega)))) ?_ | with_reducible refine wp_ite_t (by ((try simp (disch := omega) only [w32_and, w32_or, w32_shl, w32_shr, w32_xor, ixO, ixO0, ixO1, ixO2, ixO3, ixL0, ixL1, ixL2, ixC, ixB, ixI0, ixI00, ixI1, ixI2, ixI3, upd2_rd, upd2_nd, Nat.reduceEqDiff, Nat.reduceAdd, Nat.add_left_cancel_iff, Nat.add_right_cancel_iff, reduceCtorEq, ↓reduceIte, and_self, and_true, true_and, and_false, false_and, true_or, or_true, false_or, or_false, not_true_eq_false, not_false_eq_true]); (try simp only [w32_em]); (first | done | omega))) ?_ | with_reducible refine wp_ite_f (by ((try simp (disch := omega) only [w32_and, w32_or, w32_shl, w32_shr, w32_xor, ixO, ixO0, ixO1, ixO2, ixO3, ixL0, ixL1, ixL2, ixC, ixB, ixI0, ixI00, ixI1, ixI2, ixI3, upd2_rd, upd2_nd, Nat.reduceEqDiff, Nat.reduceAdd, Nat.add_left_cancel_iff, Nat.add_right_cancel_iff, reduceCtorEq, ↓reduceIte, and_self, and_true, true_and, and_false, false_and, true_or, or_true, false_or, or_false, not_true_eq_false, not_false_eq_true]); (try simp only [w32_em]); (first | done | omega))) ?_ | with_reducible refine wp_itei ?_ ?_ | (with_reducible refine wp_imp (fun hc => ?_); (try simp (disch := omega) only [w32_and, w32_or, w32_shl, w32_shr, w32_xor, ixO, ixO0, ixO1, ixO2, ixO3, ixL0, ixL1, ixL2, ixC, ixB, ixI0, ixI00, ixI1, ixI2, ixI3, upd2_rd, upd2_nd, Nat.reduceEqDiff, Nat.reduceAdd, Nat.add_left_cancel_iff, Nat.add_right_cancel_iff, reduceCtorEq, ↓reduceIte, and_self, and_true, true_and, and_false, false_and, true_or, or_true, false_or, or_false, not_true_eq_false, not_false_eq_true] at hc); (try simp only [w32_em] at hc)) | with_reducible refine wp_gi (by ((try simp (disch := omega) only [w32_and, w32_or, w32_shl, w32_shr, w32_xor, ixO, ixO0, ixO1, ixO2, ixO3, ixL0, ixL1, ixL2, ixC, ixB, ixI0, ixI00, ixI1, ixI2, ixI3, upd2_rd, upd2_nd, Nat.reduceEqDiff, Nat.reduceAdd, Nat.add_left_cancel_iff, Nat.add_right_cancel_iff, reduceCtorEq, ↓reduceIte, and_self, and_true, true_and, and_false, false_and, true_or, or_true, false_or, or_false, not_true_eq_false, not_false_eq_true]); (try simp only [w32_em]); (first | done | omega))) (by ((try simp (disch := omega) only [w32_and, w32_or, w32_shl, w32_shr, w32_xor, ixO, ixO0, ixO1, ixO2, ixO3, ixL0, ixL1, ixL2, ixC, ixB, ixI0, ixI00, ixI1, ixI2, ixI3, upd2_rd, upd2_nd, Nat.reduceEqDiff, Nat.reduceAdd, Nat.add_left_cancel_iff, Nat.add_right_cancel_iff, reduceCtorEq, ↓reduceIte, and_self, and_true, true_and, and_false, false_and, true_or, or_true, false_or, or_false, not_true_eq_false, not_false_eq_true]); (try simp only [w32_em]); (first | done | omega))) (by omega) ?_ | with_reducible refine wp_gz (by ((try simp (disch := omega) only [w32_and, w32_or, w32_shl, w32_shr, w32_xor, ixO, ixO0, ixO1, ixO2, ixO3, ixL0, ixL1, ixL2, ixC, ixB, ixI0, ixI00, ixI1, ixI2, ixI3, upd2_rd, upd2_nd, Nat.reduceEqDiff, Nat.reduceAdd, Nat.add_left_cancel_iff, Nat.add_right_cancel_iff, reduceCtorEq, ↓reduceIte, and_self, and_true, true_and, and_false, false_and, true_or, or_true, false_or, or_false, not_true_eq_false, not_false_eq_true]); (try simp only [w32_em]); (first | done | omega))) ?_ | dsimp only [Sum.elim_inl, Sum.elim_inr])) <;> (first | exact lf1 hI | exact lf2 hI | skip)
    refine lf3 hI (fun a a1 a2 a3 a4 a5 => ?_) (fun k _ _ => ?_) (fun k hk => ?_) ?_ ?_
    · rw [tt a a4]; simp (disch := omega) only [upd2_ne]; rw [q1 a (by omega) (by omega), r1 a (by omega)]
    · rw [tt 38 (by decide)]; (simp (disch := omega) only [ixO, ixO0, ixO1, ixO2, ixO3, ixL0, ixL1, ixL2, ixC, ixB, ixI0, ixI00, ixI1, ixI2, ixI3, upd2_rd, upd2_nd, Nat.reduceEqDiff, Nat.reduceAdd, Nat.add_left_cancel_iff, Nat.add_right_cancel_iff, reduceCtorEq, ↓reduceIte, and_self, and_true, true_and, and_false, false_and, true_or, or_true, false_or, or_false, not_true_eq_false, not_false_eq_true, if_pos, if_neg]); rw [q1 38 (by decide) (by decide), r1 38 (by decide)]
    · rw [tt 139 (by decide)]; simp only [upd2_rd, upd2_nd, Nat.reduceEqDiff, Nat.reduceAdd, Nat.add_left_cancel_iff, Nat.add_right_cancel_iff, reduceCtorEq, ↓reduceIte, and_self, and_true, true_and, and_false, false_and, true_or, or_true, false_or, or_false, not_true_eq_false, not_false_eq_true, hk]; rw [q1 139 (by decide) (by decide), r1 139 (by decide)]
    · rw [t2]
      exact HR_congr (fun d d1 d2 => by rw [tt _ (by omega)]; simp (disch := omega) only [upd2_ne]) g2.1
    · rw [t2]
      exact WF_drop hW hn (by omega) (by omega) (by omega)
  · (repeat' (first | with_reducible refine wp_bnd ?_ | with_reducible refine wp_cl1 ?_ | with_reducible refine wp_cl2 ?_ | with_reducible refine wp_cx1 ?_ | with_reducible refine wp_cx2 ?_ | with_reducible refine wp_some ?_ | with_reducible refine wp_ite_t (lcmp0 (by ((try simp (disch := omega) only [w32_and, w32_or, w32_shl, w32_shr, w32_xor, ixO, ixO0, ixO1, ixO2, ixO3, ixL0, ixL1, ixL2, ixC, ixB, ixI0, ixI00, ixI1, ixI2, ixI3, upd2_rd, upd2_nd, Nat.reduceEqDiff, Nat.reduceAdd, Nat.add_left_cancel_iff, Nat.add_right_cancel_iff, reduceCtorEq, ↓reduceIte, and_self, and_true, true_and, and_false, false_and, true_or, or_true, false_or, or_false, not_true_eq_false, not_false_eq_true]); (try simp only [w32_em]); (first | done | omega)))) ?_ | with_reducible refine wp_ite_t (by ((try simp (disch := omega) only [w32_and, w32_or, w32_shl, w32_shr, w32_xor, ixO, ixO0, ixO1, ixO2, ixO3, ixL0, ixL1, ixL2, ixC, ixB, ixI0, ixI00, ixI1, ixI2, ixI3, upd2_rd, upd2_nd, Nat.reduceEqDiff, Nat.reduceAdd, Nat.add_left_cancel_iff, Nat.add_right_cancel_iff, reduceCtorEq, ↓reduceIte, and_self, and_true, true_and, and_false, false_and, true_or, or_true, false_or, or_false, not_true_eq_false, not_false_eq_true]); (try simp only [w32_em]); (first | done | omega))) ?_ | with_reducible refine wp_ite_f (by ((try simp (disch := omega) only [w32_and, w32_or, w32_shl, w32_shr, w32_xor, ixO, ixO0, ixO1, ixO2, ixO3, ixL0, ixL1, ixL2, ixC, ixB, ixI0, ixI00, ixI1, ixI2, ixI3, upd2_rd, upd2_nd, Nat.reduceEqDiff, Nat.reduceAdd, Nat.add_left_cancel_iff, Nat.add_right_cancel_iff, reduceCtorEq, ↓reduceIte, and_self, and_true, true_and, and_false, false_and, true_or, or_true, false_or, or_false, not_true_eq_false, not_false_eq_true]); (try simp only [w32_em]); (first | done | omega))) ?_ | with_reducible refine wp_itei ?_ ?_ | (with_reducible refine wp_imp (fun hc => ?_); (try simp (disch := omega) only [w32_and, w32_or, w32_shl, w32_shr, w32_xor, ixO, ixO0, ixO1, ixO2, ixO3, ixL0, ixL1, ixL2, ixC, ixB, ixI0, ixI00, ixI1, ixI2, ixI3, upd2_rd, upd2_nd, Nat.reduceEqDiff, Nat.reduceAdd, Nat.add_left_cancel_iff, Nat.add_right_cancel_iff, reduceCtorEq, ↓reduceIte, and_self, and_true, true_and, and_false, false_and, true_or, or_true, false_or, or_false, not_true_eq_false, not_false_eq_true] at hc); (try simp only [w32_em] at hc)) | with_reducible refine wp_gi (by ((try simp (disch := omega) only [w32_and, w32_or, w32_shl, w32_shr, w32_xor, ixO, ixO0, ixO1, ixO2, ixO3, ixL0, ixL1, ixL2, ixC, ixB, ixI0, ixI00, ixI1, ixI2, ixI3, upd2_rd, upd2_nd, Nat.reduceEqDiff, Nat.reduceAdd, Nat.add_left_cancel_iff, Nat.add_right_cancel_iff, reduceCtorEq, ↓reduceIte, and_self, and_true, true_and, and_false, false_and, true_or, or_true, false_or, or_false, not_true_eq_false, not_false_eq_true]); (try simp only [w32_em]); (first | done | omega))) (by ((try simp (disch := omega) only [w32_and, w32_or, w32_shl, w32_shr, w32_xor, ixO, ixO0, ixO1, ixO2, ixO3, ixL0, ixL1, ixL2, ixC, ixB, ixI0, ixI00, ixI1, ixI2, ixI3, upd2_rd, upd2_nd, Nat.reduceEqDiff, Nat.reduceAdd, Nat.add_left_cancel_iff, Nat.add_right_cancel_iff, reduceCtorEq, ↓reduceIte, and_self, and_true, true_and, and_false, false_and, true_or, or_true, false_or, or_false, not_true_eq_false, not_false_eq_true]); (try simp only [w32_em]); (first | done | omega))) (by omega) ?_ | with_reducible refine wp_gz (by ((try simp (disch := omega) only [w32_and, w32_or, w32_shl, w32_shr, w32_xor, ixO, ixO0, ixO1, ixO2, ixO3, ixL0, ixL1, ixL2, ixC, ixB, ixI0, ixI00, ixI1, ixI2, ixI3, upd2_rd, upd2_nd, Nat.reduceEqDiff, Nat.reduceAdd, Nat.add_left_cancel_iff, Nat.add_right_cancel_iff, reduceCtorEq, ↓reduceIte, and_self, and_true, true_and, and_false, false_and, true_or, or_true, false_or, or_false, not_true_eq_false, not_false_eq_true]); (try simp only [w32_em]); (first | done | omega))) ?_ | dsimp only [Sum.elim_inl, Sum.elim_inr])) <;> (first | exact lf1 hI | exact lf2 hI | skip)
-- a new batch
def opAddB (N : Nat → Int) (m : Int) : Nat → Int := fun k => if k = 5 then N 5 + 1 else if k = 461 + (N 5).toNat then m else N k
theorem WF_add {N : Nat → Int} (hW : WF N) (h5 : N 5 < 8) {m : Int} (hm : NN m) (h0 : m ≠ 0) (hm2 : ∀ o, bit m o = true → (o : Int) < N 4 ∧ N (110 + 22 * o) = 0) : WF (opStates (opAddB N m) m 1) := by
  have hw := hW.1
  obtain ⟨n, hn⟩ : ∃ n : Nat, N 5 = (n : Int) := ⟨(N 5).toNat, by omega⟩
  have x0 : ∀ k, k ≠ 5 → k < 461 → k < 110 ∨ (k - 110) % 22 ≠ 0 → opStates (opAddB N m) m 1 k = N k := fun k h1 h2 h3 => by rw [opSt_ne (by omega)]; unfold opAddB; rw [if_neg h1, if_neg (by omega)]
  have x5 : opStates (opAddB N m) m 1 5 = (n : Int) + 1 := by rw [opSt_ne (by omega)]; show N 5 + 1 = _; rw [hn]
  have xb : ∀ j, opStates (opAddB N m) m 1 (461 + j) = if j = n then m else N (461 + j) := fun j => by
    rw [opSt_ne (by omega)]
    unfold opAddB
    rw [if_neg (by omega), hn, Int.toNat_natCast]
    exact itc (by omega)
  have xs : ∀ o : Nat, o < 16 → opStates (opAddB N m) m 1 (110 + 22 * o) = if bit m o = true then 1 else N (110 + 22 * o) := fun o ho => by
    have e : opAddB N m (110 + 22 * o) = N (110 + 22 * o) := by unfold opAddB; rw [if_neg (by omega), if_neg (by omega)]
    rw [opSt_at ho, e]
  have dis : ∀ b : Nat, (b : Int) < N 5 → ∀ o, bit m o = true → bit (N (461 + b)) o = false := fun b hb o ho => by
    cases q : bit (N (461 + b)) o
    · rfl
    · have w := hW.2.2.2.2.2.1 b hb
      have c := (w.2.2.1 o q).2
      have c2 := (hm2 o ho).2
      omega
  refine WF_st hW x0 (fun o ho => ?_) (by rw [x5]; omega) (fun j hj => ?_) (fun o ho hq => ?_)
  · have w := hW.2.2.2.2.1 o ho
    unfold WFo at w
    rw [xs o (by omega)]
    split <;> omega
  · rw [x5] at hj
    unfold WFb
    rw [xb, x0 4 (by omega) (by omega) (by omega), x5]
    by_cases q : j = n
    · subst q
      rw [if_pos rfl]
      have lt : m < ((2 ^ 16 : Nat) : Int) := bit_lt hm (by decide) (fun k hk => by
        cases qq : bit m k
        · rfl
        · have := (hm2 k qq).1
          omega)
      refine ⟨by unfold NN at hm; omega, by omega, fun o ho => ?_, fun b' hb' hb2 o ho => ?_⟩
      · have c := hm2 o ho
        refine ⟨c.1, ?_⟩
        rw [xs o (by omega), if_pos ho]
      · rw [xb, if_neg hb2]
        exact dis b' (by omega) o ho
    · rw [if_neg q]
      have w := hW.2.2.2.2.2.1 j (by omega)
      refine ⟨w.1, w.2.1, fun o ho => ?_, fun b' hb' hb2 o ho => ?_⟩
      · have c := w.2.2.1 o ho
        refine ⟨c.1, ?_⟩
        rw [xs o (by omega)]
        split
        · rfl
        · exact c.2
      · rw [xb]
        by_cases q2 : b' = n
        · rw [if_pos q2]
          cases qq : bit m o
          · rfl
          · rw [dis j (by omega) o qq] at ho
            cases ho
        · rw [if_neg q2]
          exact w.2.2.2 b' (by omega) hb2 o ho
  · rw [x0 4 (by omega) (by omega) (by omega)] at ho
    rw [xs o (by omega)] at hq
    cases qb : bit m o
    · rw [qb] at hq
      simp only [Bool.false_eq_true, ↓reduceIte] at hq
      obtain ⟨b2, hb2, q2⟩ := hW.2.2.2.2.2.2 o ho hq
      exact ⟨b2, by rw [x5]; omega, by rw [xb, if_neg (by omega)]; exact q2⟩
    · exact ⟨n, by rw [x5]; omega, by rw [xb, if_pos rfl]; exact qb⟩
