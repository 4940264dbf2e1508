/-- the numbers stay in their ranges when states and batches change -/
theorem WF_st {N N' : Nat → Int} (hW : WF N) (x0 : ∀ k, k ≠ 5 → k < 461 → k < 110 ∨ (k - 110) % 22 ≠ 0 → N' k = N k) (xs : ∀ o : Nat, (o : Int) < N 4 → 0 ≤ N' (110 + 22 * o) ∧ N' (110 + 22 * o) ≤ 3) (n5 : 0 ≤ N' 5 ∧ N' 5 ≤ 8) (hB : ∀ b : Nat, (b : Int) < N' 5 → WFb N' b) : WF N' := by
  have hw := hW.1
  refine WF_mk hW (fun k hk => x0 k (by omega) (by omega) (by omega)) (by rw [x0 3 (by omega) (by omega) (by omega)]; omega) (by rw [x0 4 (by omega) (by omega) (by omega)]; omega) n5 (Or.inl (fun k hk => x0 k (by omega) (by omega) (by omega))) (Or.inr (fun o ho => ?_)) (Or.inr hB)
  rw [x0 4 (by omega) (by omega) (by omega)] at ho
  have w := hW.2.2.2.2.1 o ho
  have s := xs o ho
  unfold WFo at w ⊢
  rw [x0 3 (by omega) (by omega) (by omega), x0 (109 + 22 * o) (by omega) (by omega) (by omega), x0 (111 + 22 * o) (by omega) (by omega) (by omega)]
  refine ⟨w.1, w.2.1, s.1, s.2, w.2.2.2.2.1, w.2.2.2.2.2.1, fun k hk => ?_⟩
  rw [x0 (113 + 22 * o + 3 * k) (by omega) (by omega) (by omega), x0 (114 + 22 * o + 3 * k) (by omega) (by omega) (by omega), x0 (115 + 22 * o + 3 * k) (by omega) (by omega) (by omega)]
  exact w.2.2.2.2.2.2 k hk
theorem opDrop_b {N : Nat → Int} {b n : Nat} (hn : N 5 = (n : Int)) (j : Nat) : opDrop N b (461 + j) = if b ≤ j ∧ j + 1 < n then N (461 + j + 1) else N (461 + j) := by
  unfold opDrop
  rw [if_neg (show ¬ 461 + j = 5 by omega), hn, Int.toNat_natCast]
  exact itc (by omega)
/-- a batch goes, and its orders come to another state -/
theorem WF_drop {N : Nat → Int} (hW : WF N) {b n : Nat} (hn : N 5 = (n : Int)) (hb : b < n) {s : Int} (hs : 0 ≤ s ∧ s ≤ 3) : WF (opDrop (opStates N (N (461 + b)) s) b) := by
  have hw := hW.1
  have w5 : opStates N (N (461 + b)) s 5 = (n : Int) := by rw [opSt_ne (by omega), hn]
  have x0 : ∀ k, k ≠ 5 → k < 461 → opDrop (opStates N (N (461 + b)) s) b k = opStates N (N (461 + b)) s k := fun k h1 h2 => by unfold opDrop; rw [if_neg h1, if_neg (by omega)]
  have y : ∀ j, opDrop (opStates N (N (461 + b)) s) b (461 + j) = if b ≤ j ∧ j + 1 < n then N (461 + (j + 1)) else N (461 + j) := fun j => by
    rw [opDrop_b w5, opSt_ne (by omega), opSt_ne (by omega)]
    rfl
  have x5 : opDrop (opStates N (N (461 + b)) s) b 5 = (n : Int) - 1 := by show opStates N (N (461 + b)) s 5 - 1 = _; rw [w5]
  refine WF_st hW (fun k h1 h2 h3 => by rw [x0 k h1 h2, opSt_ne (by omega)]) (fun o ho => ?_) (by rw [x5]; omega) (fun j hj => ?_)
  · have w := hW.2.2.2.2.1 o ho
    unfold WFo at w
    rw [x0 _ (by omega) (by omega), opSt_at (by omega)]
    split <;> omega
  · rw [x5] at hj
    -- the batch that now stands at j stood at j2
    obtain ⟨j2, hj2, hne, ey⟩ : ∃ j2, j2 < n ∧ j2 ≠ b ∧ opDrop (opStates N (N (461 + b)) s) b (461 + j) = N (461 + j2) := by
      rw [y]
      by_cases q : b ≤ j ∧ j + 1 < n
      · exact ⟨j + 1, by omega, by omega, by rw [if_pos q]⟩
      · exact ⟨j, by omega, by omega, by rw [if_neg q]⟩
    have w := hW.2.2.2.2.2 j2 (by omega)
    have wb := hW.2.2.2.2.2 b (by omega)
    unfold WFb at w wb ⊢
    rw [ey, x0 4 (by omega) (by omega), opSt_ne (k := 4) (by omega)]
    refine ⟨w.1, w.2.1, fun o ho => ?_, fun b' hb' hb2 o ho => ?_⟩
    · have c := w.2.2.1 o ho
      refine ⟨c.1, ?_⟩
      rw [x0 _ (by omega) (by omega), opSt_at (by omega), if_neg (by rw [w.2.2.2 b (by omega) (Ne.symm hne) o ho]; simp)]
      exact c.2
    · rw [x5] at hb'
      rw [y] at ey ⊢
      have := w.2.2.2
      by_cases q : b ≤ b' ∧ b' + 1 < n
      · rw [if_pos q]
        refine this (b' + 1) (by omega) (fun e => ?_) o ho
        subst e
        sorry
      · rw [if_neg q]
        sorry
