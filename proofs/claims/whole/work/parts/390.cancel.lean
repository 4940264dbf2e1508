theorem tk_bits {N : Nat → Int} (hW : WF N) {b o : Nat} (hb : (b : Int) < N 5) (ho : o < 31) : NN (tkV N b o) ∧ ∀ k, bit (tkV N b o) k = (bit (N (461 + b)) k && !decide (k = o)) := by
  have bm := bmem hW hb
  have s := shl_bits ho
  have a := andn_bits bm.1 s.1
  exact ⟨a.1, fun k => by unfold tkV; rw [a.2, s.2]⟩
theorem tk_x {N : Nat → Int} {b o k : Nat} (h5 : k ≠ 5) (hk : k < 461) : opTake N b o k = N k := by
  unfold opTake
  split
  · unfold opDrop
    rw [if_neg h5, if_neg (by omega), setN_ne (by omega)]
  · rw [setN_ne (by omega)]
theorem tk_5 {N : Nat → Int} {b o n : Nat} (hn : N 5 = (n : Int)) : opTake N b o 5 = if tkV N b o = 0 then (n : Int) - 1 else (n : Int) := by
  unfold opTake
  split
  · show setN N (461 + b) _ 5 - 1 = _
    rw [setN_ne (by omega), hn]
  · rw [setN_ne (by omega), hn]
theorem tk_b {N : Nat → Int} {b o n j : Nat} (hn : N 5 = (n : Int)) (hj : (j : Int) < opTake N b o 5) : opTake N b o (461 + j) = if tkV N b o = 0 then N (461 + shf b j) else if j = b then tkV N b o else N (461 + j) := by
  rw [tk_5 hn] at hj
  unfold opTake
  split
  · rename_i h
    rw [if_pos h] at hj
    rw [opDrop_s (n := n) (by rw [setN_ne (by omega), hn]) (by omega), setN_ne (by have := shf_ne (b := b) (j := j); omega)]
  · unfold setN
    exact itc (by omega)
/-- the order is in no batch any more -/
theorem tk_no {N : Nat → Int} (hW : WF N) {b o n j : Nat} (hn : N 5 = (n : Int)) (hb : b < n) (ho : o < 31) (hq : bit (N (461 + b)) o = true) (hj : (j : Int) < opTake N b o 5) : NN (opTake N b o (461 + j)) ∧ opTake N b o (461 + j) ≠ 0 ∧ bit (opTake N b o (461 + j)) o = false ∧ ∃ j2 : Nat, (j2 : Int) < N 5 ∧ (∀ k, k ≠ o → bit (opTake N b o (461 + j)) k = bit (N (461 + j2)) k) ∧ (∀ i : Nat, (i : Int) < opTake N b o 5 → i ≠ j → ∃ i2 : Nat, (i2 : Int) < N 5 ∧ i2 ≠ j2 ∧ ∀ k, k ≠ o → bit (opTake N b o (461 + i)) k = bit (N (461 + i2)) k) := by
  have tb := tk_bits hW (show (b : Int) < N 5 by omega) ho
  have hj' := hj
  rw [tk_5 hn] at hj'
  have wb := hW.2.2.2.2.2.1 b (by omega)
  by_cases h0 : tkV N b o = 0
  · rw [if_pos h0] at hj'
    have l := shf_lt (b := b) (show j + 1 < n by omega)
    have bm := bmem hW (show ((shf b j : Nat) : Int) < N 5 by omega)
    have w := hW.2.2.2.2.2.1 (shf b j) (by omega)
    rw [tk_b hn hj, if_pos h0]
    refine ⟨bm.1, by have := w.1; omega, wb.2.2.2 _ (by omega) shf_ne o hq, shf b j, by omega, fun k _ => rfl, fun i hi hne => ⟨shf b i, ?_, shf_inj hne, fun k _ => ?_⟩⟩
    · rw [tk_5 hn, if_pos h0] at hi
      have := shf_lt (b := b) (show i + 1 < n by omega)
      omega
    · rw [tk_b hn hi, if_pos h0]
  · rw [if_neg h0] at hj'
    have bm := bmem hW (show (j : Int) < N 5 by omega)
    have w := hW.2.2.2.2.2.1 j (by omega)
    have oth : ∀ i : Nat, (i : Int) < opTake N b o 5 → ∀ k, k ≠ o → bit (opTake N b o (461 + i)) k = bit (N (461 + i)) k := fun i hi k hk => by
      rw [tk_b hn hi, if_neg h0]
      split
      · rename_i e
        rw [tb.2 k, e]
        simp [hk]
      · rfl
    refine ⟨?_, ?_, ?_, j, by omega, oth j hj, fun i hi hne => ⟨i, by rw [tk_5 hn, if_neg h0] at hi; omega, hne, oth i hi⟩⟩
    · rw [tk_b hn hj, if_neg h0]
      split
      · exact tb.1
      · exact bm.1
    · rw [tk_b hn hj, if_neg h0]
      split
      · exact h0
      · have := w.1; omega
    · rw [tk_b hn hj, if_neg h0]
      split
      · rw [tb.2 o]; simp
      · rename_i e
        exact wb.2.2.2 j (by omega) e o hq
theorem WF_cancel {N : Nat → Int} (hW : WF N) {b o n : Nat} (hn : N 5 = (n : Int)) (hb : b < n) (ho : (o : Int) < N 4) (hq : bit (N (461 + b)) o = true) {s : Int} (hs : 0 ≤ s ∧ s ≤ 3) (hs1 : s ≠ 1) : WF (setN (opTake N b o) (110 + 22 * o) s) := by
  have hw := hW.1
  have x5 : setN (opTake N b o) (110 + 22 * o) s 5 = opTake N b o 5 := setN_ne (by omega)
  have xb : ∀ j : Nat, setN (opTake N b o) (110 + 22 * o) s (461 + j) = opTake N b o (461 + j) := fun j => setN_ne (by omega)
  have xs : ∀ o' : Nat, o' < 16 → setN (opTake N b o) (110 + 22 * o) s (110 + 22 * o') = if o' = o then s else N (110 + 22 * o') := fun o' h' => by
    by_cases e : o' = o
    · rw [if_pos e, e, setN_eq]
    · rw [if_neg e, setN_ne (by omega), tk_x (by omega) (by omega)]
  have x4 : setN (opTake N b o) (110 + 22 * o) s 4 = N 4 := by rw [setN_ne (by omega), tk_x (by omega) (by omega)]
  have o16 : o < 16 := by omega
  have t5 := tk_5 (b := b) (o := o) hn
  refine WF_st hW (fun k h1 h2 h3 => by rw [setN_ne (by omega), tk_x h1 h2]) (fun o' ho' => ?_) ?_ (fun j hj => ?_) (fun o' ho' hq' => ?_)
  · have w := hW.2.2.2.2.1 o' ho'
    unfold WFo at w
    rw [xs o' (by omega)]
    split <;> omega
  · rw [x5, t5]
    split <;> omega
  · rw [x5] at hj
    obtain ⟨a1, a2, a3, j2, a4, a5, a6⟩ := tk_no hW hn hb (by omega) hq hj
    have w := hW.2.2.2.2.2.1 j2 a4
    unfold WFb
    rw [xb, x4, x5]
    have bits : ∀ k, bit (opTake N b o (461 + j)) k = true → k ≠ o ∧ bit (N (461 + j2)) k = true := fun k hk => by
      have hne : k ≠ o := fun e => by rw [e, a3] at hk; cases hk
      exact ⟨hne, by rw [← a5 k hne]; exact hk⟩
    have lt : opTake N b o (461 + j) < ((2 ^ 16 : Nat) : Int) := bit_lt a1 (by decide) (fun k hk => by
      cases q : bit (opTake N b o (461 + j)) k
      · rfl
      · have := (w.2.2.1 k (bits k q).2).1
        omega)
    refine ⟨by unfold NN at a1; omega, by omega, fun k hk => ?_, fun i hi hne k hk => ?_⟩
    · obtain ⟨c1, c2⟩ := bits k hk
      have c := w.2.2.1 k c2
      refine ⟨c.1, ?_⟩
      rw [xs k (by omega), if_neg c1]
      exact c.2
    · obtain ⟨c1, c2⟩ := bits k hk
      obtain ⟨i2, e1, e2, e3⟩ := a6 i hi hne
      rw [xb, e3 k c1]
      exact w.2.2.2 i2 e1 e2 k c2
  · rw [x4] at ho'
    rw [xs o' (by omega)] at hq'
    by_cases e : o' = o
    · rw [if_pos e] at hq'
      exact absurd hq' hs1
    · rw [if_neg e] at hq'
      obtain ⟨b2, hb2, q2⟩ := hW.2.2.2.2.2.2 o' ho' hq'
      rw [x5]
      by_cases h0 : tkV N b o = 0
      · rw [if_pos h0] at t5
        have tb := tk_bits hW (show (b : Int) < N 5 by omega) (show o < 31 by omega)
        have hne : b2 ≠ b := fun e2 => by
          have := tb.2 o'
          rw [h0, bit_zero, ← e2, q2] at this
          simp [e] at this
        obtain ⟨j, hj, ej⟩ : ∃ j, j + 1 < n ∧ shf b j = b2 := by
          unfold shf
          by_cases l : b2 < b
          · exact ⟨b2, by omega, by rw [if_neg (by omega)]⟩
          · exact ⟨b2 - 1, by omega, by rw [if_pos (by omega)]; omega⟩
        exact ⟨j, by rw [t5]; omega, by rw [xb, tk_b hn (by rw [t5]; omega), if_pos h0, ej]; exact q2⟩
      · rw [if_neg h0] at t5
        refine ⟨b2, by rw [t5]; omega, ?_⟩
        rw [xb, tk_b hn (by rw [t5]; omega), if_neg h0]
        split
        · rename_i e2
          have tb := tk_bits hW (show (b : Int) < N 5 by omega) (show o < 31 by omega)
          rw [tb.2 o', ← e2, q2]
          simp [e]
        · exact q2
theorem WF_setS {N : Nat → Int} (hW : WF N) {o : Nat} (ho : (o : Int) < N 4) (h1 : N (110 + 22 * o) ≠ 1) {s : Int} (hs : 0 ≤ s ∧ s ≤ 3) (hs1 : s ≠ 1) : WF (setN N (110 + 22 * o) s) := by
  have hw := hW.1
  have xs : ∀ o' : Nat, o' < 16 → setN N (110 + 22 * o) s (110 + 22 * o') = if o' = o then s else N (110 + 22 * o') := fun o' h' => by
    by_cases e : o' = o
    · rw [if_pos e, e, setN_eq]
    · rw [if_neg e, setN_ne (by omega)]
  have x4 : setN N (110 + 22 * o) s 4 = N 4 := setN_ne (by omega)
  have x5 : setN N (110 + 22 * o) s 5 = N 5 := setN_ne (by omega)
  have xb : ∀ j : Nat, setN N (110 + 22 * o) s (461 + j) = N (461 + j) := fun j => setN_ne (by omega)
  refine WF_st hW (fun k h1 h2 h3 => setN_ne (by omega)) (fun o' ho' => ?_) (by rw [x5]; omega) (fun j hj => ?_) (fun o' ho' hq' => ?_)
  · have w := hW.2.2.2.2.1 o' ho'
    unfold WFo at w
    rw [xs o' (by omega)]
    split <;> omega
  · rw [x5] at hj
    have w := hW.2.2.2.2.2.1 j hj
    unfold WFb at w ⊢
    rw [xb, x4, x5]
    refine ⟨w.1, w.2.1, fun k hk => ?_, fun i hi hne k hk => by rw [xb]; exact w.2.2.2 i hi hne k hk⟩
    have c := w.2.2.1 k hk
    refine ⟨c.1, ?_⟩
    rw [xs k (by omega), if_neg (fun e => by rw [e] at c; exact h1 c.2)]
    exact c.2
  · rw [x4] at ho'
    rw [xs o' (by omega)] at hq'
    by_cases e : o' = o
    · rw [if_pos e] at hq'
      exact absurd hq' hs1
    · rw [if_neg e] at hq'
      obtain ⟨b2, hb2, q2⟩ := hW.2.2.2.2.2.2 o' ho' hq'
      exact ⟨b2, by rw [x5]; exact hb2, by rw [xb]; exact q2⟩
theorem o_15 {M : Mem} (hI : Inv M) {p1 : Int} (h1 : I32 p1) (p2 p3 p4 : Int) : Ow (L_15 p1 p2 p3 p4 M) M := by
  unfold I32 at h1
  have hR := hI.1; have hW := hI.2.1; have hw := hI.2.1.1; have hw2 := hI.2.1.2.1; have hw3 := hI.2.1.2.2.1; obtain ⟨hA, hB, hC⟩ := hI.1; have hC3 := hC.1.1; have hC4 := hC.2.1.1; have hC5 := hC.2.2.1; simp only [Nat.reduceAdd] at hA hB hC3 hC4 hC5; have hz : M 2 3 = 1 ∧ M 140 7 = -1 ∨ M 2 3 = 2 ∧ M 140 7 ≠ -1 ∧ M 140 8 = -1 ∨ M 2 3 = 3 ∧ M 140 7 ≠ -1 ∧ M 140 8 ≠ -1 := zn3 hA.2.2.2.1; show wp _ _
  obtain ⟨n, hn⟩ : ∃ n : Nat, M 140 5 = (n : Int) := ⟨(M 140 5).toNat, by omega⟩
  simp only [L_15, f_L_cancel, f_X11_cancel, f_X12_cancel, j_X12_cancel_26, j_X12_cancel_53, f_X0_takeOut, f_X12_isAlive, f_X12_ofOrder, f_X12_orderAt, f_X12_isOrder, f_X11_needUnfinished, j_X11_needUnfinished_32, f_X11_needOrder, f_X11_needIndex, j_X11_needIndex_9, f_X12_in, f_X12_thrown]
  by_cases h : 0 ≤ p1 ∧ p1 < M 140 4
  · obtain ⟨o, rfl⟩ : ∃ o : Nat, p1 = (o : Int) := ⟨p1.toNat, by omega⟩; have ho16 : o < 16 := (by omega); have hO := hC.2.1.2.2.2 o h.2; have hWO := hI.2.1.2.2.2.2.1 o h.2; simp only [Nat.reduceAdd] at hO; unfold WFo at hWO
    have xw := X0with hR hW (show o < 31 by omega)
    by_cases hs : M 140 (110 + 22 * o) = 1
    · obtain ⟨b0, hb0, qb0⟩ := hW.2.2.2.2.2.2 o h.2 hs
      rcases bF_spec (N := M 140) (o := o) (n := (M 140 5).toNat) with ⟨e1, e2⟩ | ⟨b, e1, e2, e3⟩
      · have := e2 b0 (by omega)
        rw [this] at qb0
        cases qb0
      · rw [e2] at xw
        (repeat' (first | with_reducible refine wp_eq xw ?_ | with_reducible refine wp_use (X0take hR (WF_w hW) hn (by omega)) (fun r hr => stp_mk ?_) | with_reducible refine wp_bnd ?_ | with_reducible refine wp_cl1 ?_ | with_reducible refine wp_cl2 ?_ | with_reducible refine wp_cx1 ?_ | with_reducible refine wp_cx2 ?_ | with_reducible refine wp_some ?_ | with_reducible refine wp_ite_t (lcmp0 (by ((try simp (disch := omega) only [w32_and, w32_or, w32_shl, w32_shr, w32_xor, ixO, ixO0, ixO1, ixO2, ixO3, ixL0, ixL1, ixL2, ixC, ixB, ixI0, ixI00, ixI1, ixI2, ixI3, upd2_rd, upd2_nd, Nat.reduceEqDiff, Nat.reduceAdd, Nat.add_left_cancel_iff, Nat.add_right_cancel_iff, reduceCtorEq, ↓reduceIte, and_self, and_true, true_and, and_false, false_and, true_or, or_true, false_or, or_false, not_true_eq_false, not_false_eq_true]); (try simp only [w32_em]); (first | done | omega)))) ?_ | with_reducible refine wp_ite_t (by ((try simp (disch := omega) only [w32_and, w32_or, w32_shl, w32_shr, w32_xor, ixO, ixO0, ixO1, ixO2, ixO3, ixL0, ixL1, ixL2, ixC, ixB, ixI0, ixI00, ixI1, ixI2, ixI3, upd2_rd, upd2_nd, Nat.reduceEqDiff, Nat.reduceAdd, Nat.add_left_cancel_iff, Nat.add_right_cancel_iff, reduceCtorEq, ↓reduceIte, and_self, and_true, true_and, and_false, false_and, true_or, or_true, false_or, or_false, not_true_eq_false, not_false_eq_true]); (try simp only [w32_em]); (first | done | omega))) ?_ | with_reducible refine wp_ite_f (by ((try simp (disch := omega) only [w32_and, w32_or, w32_shl, w32_shr, w32_xor, ixO, ixO0, ixO1, ixO2, ixO3, ixL0, ixL1, ixL2, ixC, ixB, ixI0, ixI00, ixI1, ixI2, ixI3, upd2_rd, upd2_nd, Nat.reduceEqDiff, Nat.reduceAdd, Nat.add_left_cancel_iff, Nat.add_right_cancel_iff, reduceCtorEq, ↓reduceIte, and_self, and_true, true_and, and_false, false_and, true_or, or_true, false_or, or_false, not_true_eq_false, not_false_eq_true]); (try simp only [w32_em]); (first | done | omega))) ?_ | with_reducible refine wp_itei ?_ ?_ | (with_reducible refine wp_imp (fun hc => ?_); (try simp (disch := omega) only [w32_and, w32_or, w32_shl, w32_shr, w32_xor, ixO, ixO0, ixO1, ixO2, ixO3, ixL0, ixL1, ixL2, ixC, ixB, ixI0, ixI00, ixI1, ixI2, ixI3, upd2_rd, upd2_nd, Nat.reduceEqDiff, Nat.reduceAdd, Nat.add_left_cancel_iff, Nat.add_right_cancel_iff, reduceCtorEq, ↓reduceIte, and_self, and_true, true_and, and_false, false_and, true_or, or_true, false_or, or_false, not_true_eq_false, not_false_eq_true] at hc); (try simp only [w32_em] at hc)) | with_reducible refine wp_gi (by ((try simp (disch := omega) only [w32_and, w32_or, w32_shl, w32_shr, w32_xor, ixO, ixO0, ixO1, ixO2, ixO3, ixL0, ixL1, ixL2, ixC, ixB, ixI0, ixI00, ixI1, ixI2, ixI3, upd2_rd, upd2_nd, Nat.reduceEqDiff, Nat.reduceAdd, Nat.add_left_cancel_iff, Nat.add_right_cancel_iff, reduceCtorEq, ↓reduceIte, and_self, and_true, true_and, and_false, false_and, true_or, or_true, false_or, or_false, not_true_eq_false, not_false_eq_true]); (try simp only [w32_em]); (first | done | omega))) (by ((try simp (disch := omega) only [w32_and, w32_or, w32_shl, w32_shr, w32_xor, ixO, ixO0, ixO1, ixO2, ixO3, ixL0, ixL1, ixL2, ixC, ixB, ixI0, ixI00, ixI1, ixI2, ixI3, upd2_rd, upd2_nd, Nat.reduceEqDiff, Nat.reduceAdd, Nat.add_left_cancel_iff, Nat.add_right_cancel_iff, reduceCtorEq, ↓reduceIte, and_self, and_true, true_and, and_false, false_and, true_or, or_true, false_or, or_false, not_true_eq_false, not_false_eq_true]); (try simp only [w32_em]); (first | done | omega))) (by omega) ?_ | with_reducible refine wp_gz (by ((try simp (disch := omega) only [w32_and, w32_or, w32_shl, w32_shr, w32_xor, ixO, ixO0, ixO1, ixO2, ixO3, ixL0, ixL1, ixL2, ixC, ixB, ixI0, ixI00, ixI1, ixI2, ixI3, upd2_rd, upd2_nd, Nat.reduceEqDiff, Nat.reduceAdd, Nat.add_left_cancel_iff, Nat.add_right_cancel_iff, reduceCtorEq, ↓reduceIte, and_self, and_true, true_and, and_false, false_and, true_or, or_true, false_or, or_false, not_true_eq_false, not_false_eq_true]); (try simp only [w32_em]); (first | done | omega))) ?_ | dsimp only [Sum.elim_inl, Sum.elim_inr])) <;> (first | exact lf1 hI | exact lf2 hI | skip)
        unfold stp
        obtain ⟨r1, r2, r3⟩ := hr
        have t5 := tk_5 (b := b) (o := o) hn
        have r17 : r 17 0 = opTake (M 140) b o 5 := (HR_E r2).1
        have e140 : r 140 = M 140 := r1 140 (by decide) (by decide)
        have e4 : r 140 4 = M 140 4 := by rw [e140]
        have es : r 140 (110 + 22 * o) = 1 := by rw [e140, hs]
        generalize hT : opTake (M 140) b o 5 = T at *
        have T8 : 0 ≤ T ∧ T ≤ 8 := by rw [t5]; split <;> omega
        (repeat' (first | with_reducible refine wp_use (X12leave (N := M 140) (by (try simp (disch := omega) only [upd2_ne]); exact e140) hW (by omega) hn (by omega) e2) (fun t ht => stp_mk ?_) | with_reducible refine wp_bnd ?_ | with_reducible refine wp_cl1 ?_ | with_reducible refine wp_cl2 ?_ | with_reducible refine wp_cx1 ?_ | with_reducible refine wp_cx2 ?_ | with_reducible refine wp_some ?_ | with_reducible refine wp_ite_t (lcmp0 (by ((try simp (disch := omega) only [w32_and, w32_or, w32_shl, w32_shr, w32_xor, ixO, ixO0, ixO1, ixO2, ixO3, ixL0, ixL1, ixL2, ixC, ixB, ixI0, ixI00, ixI1, ixI2, ixI3, upd2_rd, upd2_nd, Nat.reduceEqDiff, Nat.reduceAdd, Nat.add_left_cancel_iff, Nat.add_right_cancel_iff, reduceCtorEq, ↓reduceIte, and_self, and_true, true_and, and_false, false_and, true_or, or_true, false_or, or_false, not_true_eq_false, not_false_eq_true]); (try simp only [w32_em]); (first | done | omega)))) ?_ | with_reducible refine wp_ite_t (by ((try simp (disch := omega) only [w32_and, w32_or, w32_shl, w32_shr, w32_xor, ixO, ixO0, ixO1, ixO2, ixO3, ixL0, ixL1, ixL2, ixC, ixB, ixI0, ixI00, ixI1, ixI2, ixI3, upd2_rd, upd2_nd, Nat.reduceEqDiff, Nat.reduceAdd, Nat.add_left_cancel_iff, Nat.add_right_cancel_iff, reduceCtorEq, ↓reduceIte, and_self, and_true, true_and, and_false, false_and, true_or, or_true, false_or, or_false, not_true_eq_false, not_false_eq_true]); (try simp only [w32_em]); (first | done | omega))) ?_ | with_reducible refine wp_ite_f (by ((try simp (disch := omega) only [w32_and, w32_or, w32_shl, w32_shr, w32_xor, ixO, ixO0, ixO1, ixO2, ixO3, ixL0, ixL1, ixL2, ixC, ixB, ixI0, ixI00, ixI1, ixI2, ixI3, upd2_rd, upd2_nd, Nat.reduceEqDiff, Nat.reduceAdd, Nat.add_left_cancel_iff, Nat.add_right_cancel_iff, reduceCtorEq, ↓reduceIte, and_self, and_true, true_and, and_false, false_and, true_or, or_true, false_or, or_false, not_true_eq_false, not_false_eq_true]); (try simp only [w32_em]); (first | done | omega))) ?_ | with_reducible refine wp_itei ?_ ?_ | (with_reducible refine wp_imp (fun hc => ?_); (try simp (disch := omega) only [w32_and, w32_or, w32_shl, w32_shr, w32_xor, ixO, ixO0, ixO1, ixO2, ixO3, ixL0, ixL1, ixL2, ixC, ixB, ixI0, ixI00, ixI1, ixI2, ixI3, upd2_rd, upd2_nd, Nat.reduceEqDiff, Nat.reduceAdd, Nat.add_left_cancel_iff, Nat.add_right_cancel_iff, reduceCtorEq, ↓reduceIte, and_self, and_true, true_and, and_false, false_and, true_or, or_true, false_or, or_false, not_true_eq_false, not_false_eq_true] at hc); (try simp only [w32_em] at hc)) | with_reducible refine wp_gi (by ((try simp (disch := omega) only [w32_and, w32_or, w32_shl, w32_shr, w32_xor, ixO, ixO0, ixO1, ixO2, ixO3, ixL0, ixL1, ixL2, ixC, ixB, ixI0, ixI00, ixI1, ixI2, ixI3, upd2_rd, upd2_nd, Nat.reduceEqDiff, Nat.reduceAdd, Nat.add_left_cancel_iff, Nat.add_right_cancel_iff, reduceCtorEq, ↓reduceIte, and_self, and_true, true_and, and_false, false_and, true_or, or_true, false_or, or_false, not_true_eq_false, not_false_eq_true]); (try simp only [w32_em]); (first | done | omega))) (by ((try simp (disch := omega) only [w32_and, w32_or, w32_shl, w32_shr, w32_xor, ixO, ixO0, ixO1, ixO2, ixO3, ixL0, ixL1, ixL2, ixC, ixB, ixI0, ixI00, ixI1, ixI2, ixI3, upd2_rd, upd2_nd, Nat.reduceEqDiff, Nat.reduceAdd, Nat.add_left_cancel_iff, Nat.add_right_cancel_iff, reduceCtorEq, ↓reduceIte, and_self, and_true, true_and, and_false, false_and, true_or, or_true, false_or, or_false, not_true_eq_false, not_false_eq_true]); (try simp only [w32_em]); (first | done | omega))) (by omega) ?_ | with_reducible refine wp_gz (by ((try simp (disch := omega) only [w32_and, w32_or, w32_shl, w32_shr, w32_xor, ixO, ixO0, ixO1, ixO2, ixO3, ixL0, ixL1, ixL2, ixC, ixB, ixI0, ixI00, ixI1, ixI2, ixI3, upd2_rd, upd2_nd, Nat.reduceEqDiff, Nat.reduceAdd, Nat.add_left_cancel_iff, Nat.add_right_cancel_iff, reduceCtorEq, ↓reduceIte, and_self, and_true, true_and, and_false, false_and, true_or, or_true, false_or, or_false, not_true_eq_false, not_false_eq_true]); (try simp only [w32_em]); (first | done | omega))) ?_ | dsimp only [Sum.elim_inl, Sum.elim_inr])) <;> (first | exact lf1 hI | exact lf2 hI | skip)
        unfold stp
        obtain ⟨t1, t2⟩ := ht
        simp only at t1 t2
        have t139 : t 139 0 = 0 := by rw [t1 139 (by decide)]; (simp (disch := omega) only [ixO, ixO0, ixO1, ixO2, ixO3, ixL0, ixL1, ixL2, ixC, ixB, ixI0, ixI00, ixI1, ixI2, ixI3, upd2_rd, upd2_nd, Nat.reduceEqDiff, Nat.reduceAdd, Nat.add_left_cancel_iff, Nat.add_right_cancel_iff, reduceCtorEq, ↓reduceIte, and_self, and_true, true_and, and_false, false_and, true_or, or_true, false_or, or_false, not_true_eq_false, not_false_eq_true, if_pos, if_neg])
        have t157 : t 157 0 = T := by rw [t1 157 (by decide)]; (simp (disch := omega) only [ixO, ixO0, ixO1, ixO2, ixO3, ixL0, ixL1, ixL2, ixC, ixB, ixI0, ixI00, ixI1, ixI2, ixI3, upd2_rd, upd2_nd, Nat.reduceEqDiff, Nat.reduceAdd, Nat.add_left_cancel_iff, Nat.add_right_cancel_iff, reduceCtorEq, ↓reduceIte, and_self, and_true, true_and, and_false, false_and, true_or, or_true, false_or, or_false, not_true_eq_false, not_false_eq_true, if_pos, if_neg]); rw [r17, w32_em]; omega
        have t5' : t 140 5 = T := by rw [t2, hT]
        (repeat' (first | with_reducible refine wp_bnd ?_ | with_reducible refine wp_cl1 ?_ | with_reducible refine wp_cl2 ?_ | with_reducible refine wp_cx1 ?_ | with_reducible refine wp_cx2 ?_ | with_reducible refine wp_some ?_ | with_reducible refine wp_ite_t (lcmp0 (by ((try simp (disch := omega) only [w32_and, w32_or, w32_shl, w32_shr, w32_xor, ixO, ixO0, ixO1, ixO2, ixO3, ixL0, ixL1, ixL2, ixC, ixB, ixI0, ixI00, ixI1, ixI2, ixI3, upd2_rd, upd2_nd, Nat.reduceEqDiff, Nat.reduceAdd, Nat.add_left_cancel_iff, Nat.add_right_cancel_iff, reduceCtorEq, ↓reduceIte, and_self, and_true, true_and, and_false, false_and, true_or, or_true, false_or, or_false, not_true_eq_false, not_false_eq_true]); (try simp only [w32_em]); (first | done | omega)))) ?_ | with_reducible refine wp_ite_t (by ((try simp (disch := omega) only [w32_and, w32_or, w32_shl, w32_shr, w32_xor, ixO, ixO0, ixO1, ixO2, ixO3, ixL0, ixL1, ixL2, ixC, ixB, ixI0, ixI00, ixI1, ixI2, ixI3, upd2_rd, upd2_nd, Nat.reduceEqDiff, Nat.reduceAdd, Nat.add_left_cancel_iff, Nat.add_right_cancel_iff, reduceCtorEq, ↓reduceIte, and_self, and_true, true_and, and_false, false_and, true_or, or_true, false_or, or_false, not_true_eq_false, not_false_eq_true]); (try simp only [w32_em]); (first | done | omega))) ?_ | with_reducible refine wp_ite_f (by ((try simp (disch := omega) only [w32_and, w32_or, w32_shl, w32_shr, w32_xor, ixO, ixO0, ixO1, ixO2, ixO3, ixL0, ixL1, ixL2, ixC, ixB, ixI0, ixI00, ixI1, ixI2, ixI3, upd2_rd, upd2_nd, Nat.reduceEqDiff, Nat.reduceAdd, Nat.add_left_cancel_iff, Nat.add_right_cancel_iff, reduceCtorEq, ↓reduceIte, and_self, and_true, true_and, and_false, false_and, true_or, or_true, false_or, or_false, not_true_eq_false, not_false_eq_true]); (try simp only [w32_em]); (first | done | omega))) ?_ | with_reducible refine wp_itei ?_ ?_ | (with_reducible refine wp_imp (fun hc => ?_); (try simp (disch := omega) only [w32_and, w32_or, w32_shl, w32_shr, w32_xor, ixO, ixO0, ixO1, ixO2, ixO3, ixL0, ixL1, ixL2, ixC, ixB, ixI0, ixI00, ixI1, ixI2, ixI3, upd2_rd, upd2_nd, Nat.reduceEqDiff, Nat.reduceAdd, Nat.add_left_cancel_iff, Nat.add_right_cancel_iff, reduceCtorEq, ↓reduceIte, and_self, and_true, true_and, and_false, false_and, true_or, or_true, false_or, or_false, not_true_eq_false, not_false_eq_true] at hc); (try simp only [w32_em] at hc)) | with_reducible refine wp_gi (by ((try simp (disch := omega) only [w32_and, w32_or, w32_shl, w32_shr, w32_xor, ixO, ixO0, ixO1, ixO2, ixO3, ixL0, ixL1, ixL2, ixC, ixB, ixI0, ixI00, ixI1, ixI2, ixI3, upd2_rd, upd2_nd, Nat.reduceEqDiff, Nat.reduceAdd, Nat.add_left_cancel_iff, Nat.add_right_cancel_iff, reduceCtorEq, ↓reduceIte, and_self, and_true, true_and, and_false, false_and, true_or, or_true, false_or, or_false, not_true_eq_false, not_false_eq_true]); (try simp only [w32_em]); (first | done | omega))) (by ((try simp (disch := omega) only [w32_and, w32_or, w32_shl, w32_shr, w32_xor, ixO, ixO0, ixO1, ixO2, ixO3, ixL0, ixL1, ixL2, ixC, ixB, ixI0, ixI00, ixI1, ixI2, ixI3, upd2_rd, upd2_nd, Nat.reduceEqDiff, Nat.reduceAdd, Nat.add_left_cancel_iff, Nat.add_right_cancel_iff, reduceCtorEq, ↓reduceIte, and_self, and_true, true_and, and_false, false_and, true_or, or_true, false_or, or_false, not_true_eq_false, not_false_eq_true]); (try simp only [w32_em]); (first | done | omega))) (by omega) ?_ | with_reducible refine wp_gz (by ((try simp (disch := omega) only [w32_and, w32_or, w32_shl, w32_shr, w32_xor, ixO, ixO0, ixO1, ixO2, ixO3, ixL0, ixL1, ixL2, ixC, ixB, ixI0, ixI00, ixI1, ixI2, ixI3, upd2_rd, upd2_nd, Nat.reduceEqDiff, Nat.reduceAdd, Nat.add_left_cancel_iff, Nat.add_right_cancel_iff, reduceCtorEq, ↓reduceIte, and_self, and_true, true_and, and_false, false_and, true_or, or_true, false_or, or_false, not_true_eq_false, not_false_eq_true]); (try simp only [w32_em]); (first | done | omega))) ?_ | dsimp only [Sum.elim_inl, Sum.elim_inr])) <;> (first | exact lf1 hI | exact lf2 hI | skip)
        simp (disch := omega) only [ixO, ixO0, ixO1, ixO2, ixO3, ixL0, ixL1, ixL2, ixC, ixB, ixI0, ixI00, ixI1, ixI2, ixI3] at t1 ⊢
        have n140 : upd2 t 140 (110 + 22 * o) 3 140 = setN (opTake (M 140) b o) (110 + 22 * o) 3 := by rw [upd2_fun, t2]; rfl
        refine lf3 hI (fun a a1 a2 a3 a4 a5 => ?_) (fun k _ _ => ?_) (fun k hk => ?_) ?_ ?_
        · rw [upd2_ne a4, t1 a a4]; simp (disch := omega) only [upd2_ne]; rw [r1 a (by omega) (by omega)]
        · rw [upd2_ne (by decide), t1 38 (by decide)]; (simp (disch := omega) only [ixO, ixO0, ixO1, ixO2, ixO3, ixL0, ixL1, ixL2, ixC, ixB, ixI0, ixI00, ixI1, ixI2, ixI3, upd2_rd, upd2_nd, Nat.reduceEqDiff, Nat.reduceAdd, Nat.add_left_cancel_iff, Nat.add_right_cancel_iff, reduceCtorEq, ↓reduceIte, and_self, and_true, true_and, and_false, false_and, true_or, or_true, false_or, or_false, not_true_eq_false, not_false_eq_true, if_pos, if_neg]); rw [r1 38 (by decide) (by decide)]
        · rw [upd2_ne (by decide), t1 139 (by decide)]; simp only [upd2_rd, upd2_nd, Nat.reduceEqDiff, Nat.reduceAdd, Nat.add_left_cancel_iff, Nat.add_right_cancel_iff, reduceCtorEq, ↓reduceIte, and_self, and_true, true_and, and_false, false_and, true_or, or_true, false_or, or_false, not_true_eq_false, not_false_eq_true, hk]; rw [r1 139 (by decide) (by decide)]
        · rw [n140]
          refine HR_setS r2 r3 ho16 (fun a h1 h2 h3 => ?_) (fun j => ?_)
          · rw [upd2_ne (by omega), t1 a (by omega)]; simp (disch := omega) only [upd2_ne]
          · rw [upd2_ne (by decide), t1 12 (by decide)]; (simp (disch := omega) only [ixO, ixO0, ixO1, ixO2, ixO3, ixL0, ixL1, ixL2, ixC, ixB, ixI0, ixI00, ixI1, ixI2, ixI3, upd2_rd, upd2_nd, Nat.reduceEqDiff, Nat.reduceAdd, Nat.add_left_cancel_iff, Nat.add_right_cancel_iff, reduceCtorEq, ↓reduceIte, and_self, and_true, true_and, and_false, false_and, true_or, or_true, false_or, or_false, not_true_eq_false, not_false_eq_true, if_pos, if_neg])
        · rw [n140]
          exact WF_cancel hW hn (by omega) h.2 e3 (by omega) (by omega)
    · rcases bF_spec (N := M 140) (o := o) (n := (M 140 5).toNat) with ⟨e1, e2⟩ | ⟨b, e1, e2, e3⟩
      · rw [e1] at xw
        (repeat' (first | with_reducible refine wp_eq xw ?_ | with_reducible refine wp_bnd ?_ | with_reducible refine wp_cl1 ?_ | with_reducible refine wp_cl2 ?_ | with_reducible refine wp_cx1 ?_ | with_reducible refine wp_cx2 ?_ | with_reducible refine wp_some ?_ | with_reducible refine wp_ite_t (lcmp0 (by ((try simp (disch := omega) only [w32_and, w32_or, w32_shl, w32_shr, w32_xor, ixO, ixO0, ixO1, ixO2, ixO3, ixL0, ixL1, ixL2, ixC, ixB, ixI0, ixI00, ixI1, ixI2, ixI3, upd2_rd, upd2_nd, Nat.reduceEqDiff, Nat.reduceAdd, Nat.add_left_cancel_iff, Nat.add_right_cancel_iff, reduceCtorEq, ↓reduceIte, and_self, and_true, true_and, and_false, false_and, true_or, or_true, false_or, or_false, not_true_eq_false, not_false_eq_true]); (try simp only [w32_em]); (first | done | omega)))) ?_ | with_reducible refine wp_ite_t (by ((try simp (disch := omega) only [w32_and, w32_or, w32_shl, w32_shr, w32_xor, ixO, ixO0, ixO1, ixO2, ixO3, ixL0, ixL1, ixL2, ixC, ixB, ixI0, ixI00, ixI1, ixI2, ixI3, upd2_rd, upd2_nd, Nat.reduceEqDiff, Nat.reduceAdd, Nat.add_left_cancel_iff, Nat.add_right_cancel_iff, reduceCtorEq, ↓reduceIte, and_self, and_true, true_and, and_false, false_and, true_or, or_true, false_or, or_false, not_true_eq_false, not_false_eq_true]); (try simp only [w32_em]); (first | done | omega))) ?_ | with_reducible refine wp_ite_f (by ((try simp (disch := omega) only [w32_and, w32_or, w32_shl, w32_shr, w32_xor, ixO, ixO0, ixO1, ixO2, ixO3, ixL0, ixL1, ixL2, ixC, ixB, ixI0, ixI00, ixI1, ixI2, ixI3, upd2_rd, upd2_nd, Nat.reduceEqDiff, Nat.reduceAdd, Nat.add_left_cancel_iff, Nat.add_right_cancel_iff, reduceCtorEq, ↓reduceIte, and_self, and_true, true_and, and_false, false_and, true_or, or_true, false_or, or_false, not_true_eq_false, not_false_eq_true]); (try simp only [w32_em]); (first | done | omega))) ?_ | with_reducible refine wp_itei ?_ ?_ | (with_reducible refine wp_imp (fun hc => ?_); (try simp (disch := omega) only [w32_and, w32_or, w32_shl, w32_shr, w32_xor, ixO, ixO0, ixO1, ixO2, ixO3, ixL0, ixL1, ixL2, ixC, ixB, ixI0, ixI00, ixI1, ixI2, ixI3, upd2_rd, upd2_nd, Nat.reduceEqDiff, Nat.reduceAdd, Nat.add_left_cancel_iff, Nat.add_right_cancel_iff, reduceCtorEq, ↓reduceIte, and_self, and_true, true_and, and_false, false_and, true_or, or_true, false_or, or_false, not_true_eq_false, not_false_eq_true] at hc); (try simp only [w32_em] at hc)) | with_reducible refine wp_gi (by ((try simp (disch := omega) only [w32_and, w32_or, w32_shl, w32_shr, w32_xor, ixO, ixO0, ixO1, ixO2, ixO3, ixL0, ixL1, ixL2, ixC, ixB, ixI0, ixI00, ixI1, ixI2, ixI3, upd2_rd, upd2_nd, Nat.reduceEqDiff, Nat.reduceAdd, Nat.add_left_cancel_iff, Nat.add_right_cancel_iff, reduceCtorEq, ↓reduceIte, and_self, and_true, true_and, and_false, false_and, true_or, or_true, false_or, or_false, not_true_eq_false, not_false_eq_true]); (try simp only [w32_em]); (first | done | omega))) (by ((try simp (disch := omega) only [w32_and, w32_or, w32_shl, w32_shr, w32_xor, ixO, ixO0, ixO1, ixO2, ixO3, ixL0, ixL1, ixL2, ixC, ixB, ixI0, ixI00, ixI1, ixI2, ixI3, upd2_rd, upd2_nd, Nat.reduceEqDiff, Nat.reduceAdd, Nat.add_left_cancel_iff, Nat.add_right_cancel_iff, reduceCtorEq, ↓reduceIte, and_self, and_true, true_and, and_false, false_and, true_or, or_true, false_or, or_false, not_true_eq_false, not_false_eq_true]); (try simp only [w32_em]); (first | done | omega))) (by omega) ?_ | with_reducible refine wp_gz (by ((try simp (disch := omega) only [w32_and, w32_or, w32_shl, w32_shr, w32_xor, ixO, ixO0, ixO1, ixO2, ixO3, ixL0, ixL1, ixL2, ixC, ixB, ixI0, ixI00, ixI1, ixI2, ixI3, upd2_rd, upd2_nd, Nat.reduceEqDiff, Nat.reduceAdd, Nat.add_left_cancel_iff, Nat.add_right_cancel_iff, reduceCtorEq, ↓reduceIte, and_self, and_true, true_and, and_false, false_and, true_or, or_true, false_or, or_false, not_true_eq_false, not_false_eq_true]); (try simp only [w32_em]); (first | done | omega))) ?_ | dsimp only [Sum.elim_inl, Sum.elim_inr])) <;> (first | exact lf1 hI | exact lf2 hI | skip)
        simp (disch := omega) only [ixO, ixO0, ixO1, ixO2, ixO3, ixL0, ixL1, ixL2, ixC, ixB, ixI0, ixI00, ixI1, ixI2, ixI3]
        refine lf3 hI ?_ ?_ ?_ ?_ ?_
        · (intros; simp (disch := omega) only [upd2_ne]; done)
        · (intros; simp only [upd2_rd, upd2_nd, Nat.reduceEqDiff, Nat.reduceAdd, Nat.add_left_cancel_iff, Nat.add_right_cancel_iff, reduceCtorEq, ↓reduceIte, and_self, and_true, true_and, and_false, false_and, true_or, or_true, false_or, or_false, not_true_eq_false, not_false_eq_true]; done)
        · (intro k hk; simp only [upd2_rd, upd2_nd, Nat.reduceEqDiff, Nat.reduceAdd, Nat.add_left_cancel_iff, Nat.add_right_cancel_iff, reduceCtorEq, ↓reduceIte, and_self, and_true, true_and, and_false, false_and, true_or, or_true, false_or, or_false, not_true_eq_false, not_false_eq_true, hk]; done)
        · have n140 : upd2 (upd2 (upd2 (upd2 M 12 o 3) 157 0 (w32 (upd2 M 12 o 3 17 0))) 139 0 0) 140 (110 + 22 * o) 3 140 = setN (M 140) (110 + 22 * o) 3 := by rw [upd2_fun]; rfl
          rw [n140]
          refine HR_setS hR (WF_w hW) ho16 (fun a h1 h2 h3 => ?_) (fun j => ?_)
          · simp (disch := omega) only [upd2_ne]
          · (simp (disch := omega) only [ixO, ixO0, ixO1, ixO2, ixO3, ixL0, ixL1, ixL2, ixC, ixB, ixI0, ixI00, ixI1, ixI2, ixI3, upd2_rd, upd2_nd, Nat.reduceEqDiff, Nat.reduceAdd, Nat.add_left_cancel_iff, Nat.add_right_cancel_iff, reduceCtorEq, ↓reduceIte, and_self, and_true, true_and, and_false, false_and, true_or, or_true, false_or, or_false, not_true_eq_false, not_false_eq_true, if_pos, if_neg])
        · have n140 : upd2 (upd2 (upd2 (upd2 M 12 o 3) 157 0 (w32 (upd2 M 12 o 3 17 0))) 139 0 0) 140 (110 + 22 * o) 3 140 = setN (M 140) (110 + 22 * o) 3 := by rw [upd2_fun]; rfl
          rw [n140]
          exact WF_setS hW h.2 hs (by omega) (by omega)
      · have w := hW.2.2.2.2.2.1 b (by omega)
        exact absurd (w.2.2.1 o e3).2 hs
  · (repeat' (first | with_reducible refine wp_bnd ?_ | with_reducible refine wp_cl1 ?_ | with_reducible refine wp_cl2 ?_ | with_reducible refine wp_cx1 ?_ | with_reducible refine wp_cx2 ?_ | with_reducible refine wp_some ?_ | with_reducible refine wp_ite_t (lcmp0 (by ((try simp (disch := omega) only [w32_and, w32_or, w32_shl, w32_shr, w32_xor, ixO, ixO0, ixO1, ixO2, ixO3, ixL0, ixL1, ixL2, ixC, ixB, ixI0, ixI00, ixI1, ixI2, ixI3, upd2_rd, upd2_nd, Nat.reduceEqDiff, Nat.reduceAdd, Nat.add_left_cancel_iff, Nat.add_right_cancel_iff, reduceCtorEq, ↓reduceIte, and_self, and_true, true_and, and_false, false_and, true_or, or_true, false_or, or_false, not_true_eq_false, not_false_eq_true]); (try simp only [w32_em]); (first | done | omega)))) ?_ | with_reducible refine wp_ite_t (by ((try simp (disch := omega) only [w32_and, w32_or, w32_shl, w32_shr, w32_xor, ixO, ixO0, ixO1, ixO2, ixO3, ixL0, ixL1, ixL2, ixC, ixB, ixI0, ixI00, ixI1, ixI2, ixI3, upd2_rd, upd2_nd, Nat.reduceEqDiff, Nat.reduceAdd, Nat.add_left_cancel_iff, Nat.add_right_cancel_iff, reduceCtorEq, ↓reduceIte, and_self, and_true, true_and, and_false, false_and, true_or, or_true, false_or, or_false, not_true_eq_false, not_false_eq_true]); (try simp only [w32_em]); (first | done | omega))) ?_ | with_reducible refine wp_ite_f (by ((try simp (disch := omega) only [w32_and, w32_or, w32_shl, w32_shr, w32_xor, ixO, ixO0, ixO1, ixO2, ixO3, ixL0, ixL1, ixL2, ixC, ixB, ixI0, ixI00, ixI1, ixI2, ixI3, upd2_rd, upd2_nd, Nat.reduceEqDiff, Nat.reduceAdd, Nat.add_left_cancel_iff, Nat.add_right_cancel_iff, reduceCtorEq, ↓reduceIte, and_self, and_true, true_and, and_false, false_and, true_or, or_true, false_or, or_false, not_true_eq_false, not_false_eq_true]); (try simp only [w32_em]); (first | done | omega))) ?_ | with_reducible refine wp_itei ?_ ?_ | (with_reducible refine wp_imp (fun hc => ?_); (try simp (disch := omega) only [w32_and, w32_or, w32_shl, w32_shr, w32_xor, ixO, ixO0, ixO1, ixO2, ixO3, ixL0, ixL1, ixL2, ixC, ixB, ixI0, ixI00, ixI1, ixI2, ixI3, upd2_rd, upd2_nd, Nat.reduceEqDiff, Nat.reduceAdd, Nat.add_left_cancel_iff, Nat.add_right_cancel_iff, reduceCtorEq, ↓reduceIte, and_self, and_true, true_and, and_false, false_and, true_or, or_true, false_or, or_false, not_true_eq_false, not_false_eq_true] at hc); (try simp only [w32_em] at hc)) | with_reducible refine wp_gi (by ((try simp (disch := omega) only [w32_and, w32_or, w32_shl, w32_shr, w32_xor, ixO, ixO0, ixO1, ixO2, ixO3, ixL0, ixL1, ixL2, ixC, ixB, ixI0, ixI00, ixI1, ixI2, ixI3, upd2_rd, upd2_nd, Nat.reduceEqDiff, Nat.reduceAdd, Nat.add_left_cancel_iff, Nat.add_right_cancel_iff, reduceCtorEq, ↓reduceIte, and_self, and_true, true_and, and_false, false_and, true_or, or_true, false_or, or_false, not_true_eq_false, not_false_eq_true]); (try simp only [w32_em]); (first | done | omega))) (by ((try simp (disch := omega) only [w32_and, w32_or, w32_shl, w32_shr, w32_xor, ixO, ixO0, ixO1, ixO2, ixO3, ixL0, ixL1, ixL2, ixC, ixB, ixI0, ixI00, ixI1, ixI2, ixI3, upd2_rd, upd2_nd, Nat.reduceEqDiff, Nat.reduceAdd, Nat.add_left_cancel_iff, Nat.add_right_cancel_iff, reduceCtorEq, ↓reduceIte, and_self, and_true, true_and, and_false, false_and, true_or, or_true, false_or, or_false, not_true_eq_false, not_false_eq_true]); (try simp only [w32_em]); (first | done | omega))) (by omega) ?_ | with_reducible refine wp_gz (by ((try simp (disch := omega) only [w32_and, w32_or, w32_shl, w32_shr, w32_xor, ixO, ixO0, ixO1, ixO2, ixO3, ixL0, ixL1, ixL2, ixC, ixB, ixI0, ixI00, ixI1, ixI2, ixI3, upd2_rd, upd2_nd, Nat.reduceEqDiff, Nat.reduceAdd, Nat.add_left_cancel_iff, Nat.add_right_cancel_iff, reduceCtorEq, ↓reduceIte, and_self, and_true, true_and, and_false, false_and, true_or, or_true, false_or, or_false, not_true_eq_false, not_false_eq_true]); (try simp only [w32_em]); (first | done | omega))) ?_ | dsimp only [Sum.elim_inl, Sum.elim_inr])) <;> (first | exact lf1 hI | exact lf2 hI | skip)
