theorem sd_more {N : Nat → Int} {k C : Int} {n0 : Nat} (hh : ∀ o, n0 ≤ o → bit C o = false) : ∀ n : Nat, n0 ≤ n → sd N k C n = sd N k C n0 := by
  intro n
  induction n with
  | zero => intro h; rw [show n0 = 0 by omega]
  | succ n ih =>
    intro h
    by_cases e : n0 = n + 1
    · rw [e]
    · simp only [sd, hh n (by omega), Bool.false_eq_true, ↓reduceIte]
      exact ih (by omega)
theorem X12seed {M : Mem} {N : Nat → Int} (hN : M 140 = N) (hW : WF N) {k C : Int} (hk : 0 ≤ k ∧ k ≤ 2) (hC : NN C) (hh : ∀ o, (N 4).toNat ≤ o → bit C o = false) : f_X12_seedOf C k M = some (sd N k C (N 4).toNat) := by
  have q4 := n4 hW
  rw [← sd_more hh 16 (by omega)]
  have hlt : ∀ i, bit C i = true → (i : Int) < N 4 := fun i q => by
    rcases Nat.lt_or_ge i (N 4).toNat with g | g
    · omega
    · rw [hh i g] at q; cases q
  apply wp_val
  unfold f_X12_seedOf
  refine wp_lpb (wp_forI (fun i x => x = (sd N k C i, (i : Int))) 16 ?_ ?_ (Nat.zero_le _) rfl)
  · rintro i x hi rfl
    simp only [s_X12_seedOf_5, j_X12_seedOf_45_5, j_X12_seedOf_42_5]
    cases q : bit C i
    · refine wp_ite_t (by ((try simp (disch := omega) only [w32_and, w32_or, w32_shl, w32_shr, w32_xor, ixO, ixO0, ixO1, ixO2, ixO3, ixL0, ixL1, ixL2, ixC, ixB, ixI0, ixI00, ixI1, ixI2, ixI3, upd2_rd, upd2_nd, Nat.reduceEqDiff, Nat.reduceAdd, Nat.add_left_cancel_iff, Nat.add_right_cancel_iff, reduceCtorEq, ↓reduceIte, and_self, and_true, true_and, and_false, false_and, true_or, or_true, false_or, or_false, not_true_eq_false, not_false_eq_true]); (try simp only [w32_em]); (first | done | omega))) (wp_cl1 (wp_eq (has_f hC (show i < 31 by omega) q) (wp_ite_t (by decide) (wp_bnd (wp_some ?_)))))
      dsimp only [Sum.elim_inl]
      simp only [sd, q, Bool.false_eq_true, ↓reduceIte, Int.natCast_succ]
    · have hi4 := hlt i q
      have sr := sv_rng hW (k := k) hi4
      refine wp_ite_t (by ((try simp (disch := omega) only [w32_and, w32_or, w32_shl, w32_shr, w32_xor, ixO, ixO0, ixO1, ixO2, ixO3, ixL0, ixL1, ixL2, ixC, ixB, ixI0, ixI00, ixI1, ixI2, ixI3, upd2_rd, upd2_nd, Nat.reduceEqDiff, Nat.reduceAdd, Nat.add_left_cancel_iff, Nat.add_right_cancel_iff, reduceCtorEq, ↓reduceIte, and_self, and_true, true_and, and_false, false_and, true_or, or_true, false_or, or_false, not_true_eq_false, not_false_eq_true]); (try simp only [w32_em]); (first | done | omega))) (wp_cl1 (wp_eq (has_t hC (show i < 31 by omega) q) (wp_ite_f (by decide) ?_)))
      have up : sd N k C (i + 1) = if sd N k C i = -1 then (i : Int) else if sv N k (sd N k C i).toNat < sv N k i then (i : Int) else sd N k C i := by simp only [sd, q, ↓reduceIte]
      rcases sd_spec (N := N) (k := k) (C := C) i with ⟨h1, h2⟩ | ⟨o, h1, h2, h3⟩
      · rw [if_pos h1] at up
        rw [h1]
        refine wp_ite_t (by decide) (wp_bnd (wp_some ?_))
        dsimp only [Sum.elim_inl]
        rw [up, Int.natCast_succ]
      · have ho4 := hlt o h3
        have so := sv_rng hW (k := k) ho4
        rw [if_neg (by omega), h2, Int.toNat_natCast] at up
        rw [h2]
        refine wp_ite_f (by ((try simp (disch := omega) only [w32_and, w32_or, w32_shl, w32_shr, w32_xor, ixO, ixO0, ixO1, ixO2, ixO3, ixL0, ixL1, ixL2, ixC, ixB, ixI0, ixI00, ixI1, ixI2, ixI3, upd2_rd, upd2_nd, Nat.reduceEqDiff, Nat.reduceAdd, Nat.add_left_cancel_iff, Nat.add_right_cancel_iff, reduceCtorEq, ↓reduceIte, and_self, and_true, true_and, and_false, false_and, true_or, or_true, false_or, or_false, not_true_eq_false, not_false_eq_true]); (try simp only [w32_em]); (first | done | omega))) (wp_cl1 (wp_eq (X12val hN hW hk hi4) (wp_cl1 (wp_eq (X12val hN hW hk ho4) ?_))))
        by_cases hv : sv N k o < sv N k i
        · rw [if_pos hv] at up
          refine wp_ite_t (by ((try simp (disch := omega) only [w32_and, w32_or, w32_shl, w32_shr, w32_xor, ixO, ixO0, ixO1, ixO2, ixO3, ixL0, ixL1, ixL2, ixC, ixB, ixI0, ixI00, ixI1, ixI2, ixI3, upd2_rd, upd2_nd, Nat.reduceEqDiff, Nat.reduceAdd, Nat.add_left_cancel_iff, Nat.add_right_cancel_iff, reduceCtorEq, ↓reduceIte, and_self, and_true, true_and, and_false, false_and, true_or, or_true, false_or, or_false, not_true_eq_false, not_false_eq_true]); (try simp only [w32_em]); (first | done | omega))) (wp_bnd (wp_some ?_))
          dsimp only [Sum.elim_inl]
          rw [up, Int.natCast_succ]
        · rw [if_neg hv] at up
          refine wp_ite_f (by ((try simp (disch := omega) only [w32_and, w32_or, w32_shl, w32_shr, w32_xor, ixO, ixO0, ixO1, ixO2, ixO3, ixL0, ixL1, ixL2, ixC, ixB, ixI0, ixI00, ixI1, ixI2, ixI3, upd2_rd, upd2_nd, Nat.reduceEqDiff, Nat.reduceAdd, Nat.add_left_cancel_iff, Nat.add_right_cancel_iff, reduceCtorEq, ↓reduceIte, and_self, and_true, true_and, and_false, false_and, true_or, or_true, false_or, or_false, not_true_eq_false, not_false_eq_true]); (try simp only [w32_em]); (first | done | omega))) (wp_bnd (wp_some ?_))
          dsimp only [Sum.elim_inl]
          rw [up, Int.natCast_succ]
  · rintro x rfl
    simp only [s_X12_seedOf_5]
    refine wp_ite_f (by decide) (wp_some ?_)
    dsimp only [Sum.elim_inl, Sum.elim_inr]
    exact wp_some rfl
