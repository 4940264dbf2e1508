/-- the seed among the orders of C below n -/
def sd (N : Nat → Int) (k C : Int) : Nat → Int
  | 0 => -1
  | n + 1 => if bit C n = true then (if sd N k C n = -1 then (n : Int) else if sv N k (sd N k C n).toNat < sv N k n then (n : Int) else sd N k C n) else sd N k C n
theorem sd_spec {N : Nat → Int} {k C : Int} : ∀ n : Nat, (sd N k C n = -1 ∧ ∀ o, o < n → bit C o = false) ∨ ∃ o : Nat, o < n ∧ sd N k C n = (o : Int) ∧ bit C o = true := by
  intro n
  induction n with
  | zero => exact Or.inl ⟨rfl, fun o h => by omega⟩
  | succ n ih =>
    simp only [sd]
    cases q : bit C n
    · simp only [Bool.false_eq_true, ↓reduceIte]
      rcases ih with ⟨h1, h2⟩ | ⟨o, h1, h2, h3⟩
      · exact Or.inl ⟨h1, fun o ho => by
          by_cases e : o = n
          · rw [e]; exact q
          · exact h2 o (by omega)⟩
      · exact Or.inr ⟨o, by omega, h2, h3⟩
    · simp only [↓reduceIte]
      refine Or.inr ?_
      rcases ih with ⟨h1, h2⟩ | ⟨o, h1, h2, h3⟩
      · rw [if_pos h1]; exact ⟨n, by omega, rfl, q⟩
      · rw [if_neg (by omega)]
        split
        · exact ⟨n, by omega, rfl, q⟩
        · exact ⟨o, by omega, h2, h3⟩
theorem X8seed {M : Mem} {N : Nat → Int} (hR : HR 1 M N) (hW : WF N) {k C : Int} (hk : 0 ≤ k ∧ k ≤ 2) (hC : NN C) {s : Nat} (hs : sd N k C (N 4).toNat = (s : Int)) : f_X8_seedAmong 1 C k M = some (s : Int) := by
  have q4 := n4 hW
  obtain ⟨d4, hO⟩ := HR_O hR
  apply wp_val
  unfold f_X8_seedAmong
  refine wp_lpb (wp_forI (fun i x => x.2.2 = (i : Int) ∧ (sd N k C i = -1 ∧ x.2.1 = -10000 ∨ ∃ o : Nat, o < i ∧ sd N k C i = (o : Int) ∧ x.1 = (o : Int) ∧ x.2.1 = sv N k o)) (N 4).toNat ?_ ?_ (Nat.zero_le _) ⟨rfl, Or.inl ⟨rfl, rfl⟩⟩)
  · rintro i ⟨x1, x2, x3⟩ hi ⟨h1, h2⟩
    simp only at h1 h2
    subst h1
    have hi' : (i : Int) < N 4 := by omega
    have sr := sv_rng hW (k := k) hi'
    simp only [s_X8_seedAmong_10, j_X8_seedAmong_55_10, Nat.reduceAdd]
    cases q : bit C i
    · have hq := tst_f hC (show i < 31 by omega) q
      refine wp_ite_t (by ((try simp (disch := omega) only [w32_and, w32_or, w32_shl, w32_shr, w32_xor, ixO, ixO0, ixO1, ixO2, ixO3, ixL0, ixL1, ixL2, ixC, ixB, ixI0, ixI00, ixI1, ixI2, ixI3, upd2_rd, upd2_nd, Nat.reduceEqDiff, Nat.reduceAdd, Nat.add_left_cancel_iff, Nat.add_right_cancel_iff, reduceCtorEq, ↓reduceIte, and_self, and_true, true_and, and_false, false_and, true_or, or_true, false_or, or_false, not_true_eq_false, not_false_eq_true]); (try simp only [w32_em]); (first | done | omega))) (wp_ite_t (by rw [hq]; decide) (wp_bnd (wp_some ?_)))
      dsimp only [Sum.elim_inl]
      refine ⟨by omega, ?_⟩
      simp only [sd, q, Bool.false_eq_true, ↓reduceIte]
      rcases h2 with h | ⟨o, ho, h⟩
      · exact Or.inl h
      · exact Or.inr ⟨o, by omega, h⟩
    · have hq := tst_t hC (show i < 31 by omega) q
      refine wp_ite_t (by ((try simp (disch := omega) only [w32_and, w32_or, w32_shl, w32_shr, w32_xor, ixO, ixO0, ixO1, ixO2, ixO3, ixL0, ixL1, ixL2, ixC, ixB, ixI0, ixI00, ixI1, ixI2, ixI3, upd2_rd, upd2_nd, Nat.reduceEqDiff, Nat.reduceAdd, Nat.add_left_cancel_iff, Nat.add_right_cancel_iff, reduceCtorEq, ↓reduceIte, and_self, and_true, true_and, and_false, false_and, true_or, or_true, false_or, or_false, not_true_eq_false, not_false_eq_true]); (try simp only [w32_em]); (first | done | omega))) (wp_ite_f (by rw [hq]; decide) (wp_cl1 (wp_eq (X8val hR hW hk hi') ?_)))
      have up : sd N k C (i + 1) = if sd N k C i = -1 then (i : Int) else if sv N k (sd N k C i).toNat < sv N k i then (i : Int) else sd N k C i := by simp only [sd, q, ↓reduceIte]
      rcases h2 with ⟨h2, h3⟩ | ⟨o, ho, h2, h3, h4⟩
      · subst h3
        rw [if_pos h2] at up
        refine wp_ite_t (by ((try simp (disch := omega) only [w32_and, w32_or, w32_shl, w32_shr, w32_xor, ixO, ixO0, ixO1, ixO2, ixO3, ixL0, ixL1, ixL2, ixC, ixB, ixI0, ixI00, ixI1, ixI2, ixI3, upd2_rd, upd2_nd, Nat.reduceEqDiff, Nat.reduceAdd, Nat.add_left_cancel_iff, Nat.add_right_cancel_iff, reduceCtorEq, ↓reduceIte, and_self, and_true, true_and, and_false, false_and, true_or, or_true, false_or, or_false, not_true_eq_false, not_false_eq_true]); (try simp only [w32_em]); (first | done | omega))) (wp_cl1 (wp_eq (X8val hR hW hk hi') (wp_bnd (wp_some ?_))))
        dsimp only [Sum.elim_inl]
        exact ⟨by omega, Or.inr ⟨i, by omega, up, rfl, rfl⟩⟩
      · subst h3 h4
        have so := sv_rng hW (k := k) (show (o : Int) < N 4 by omega)
        rw [if_neg (by omega), h2, Int.toNat_natCast] at up
        by_cases hv : sv N k o < sv N k i
        · rw [if_pos hv] at up
          refine wp_ite_t (by ((try simp (disch := omega) only [w32_and, w32_or, w32_shl, w32_shr, w32_xor, ixO, ixO0, ixO1, ixO2, ixO3, ixL0, ixL1, ixL2, ixC, ixB, ixI0, ixI00, ixI1, ixI2, ixI3, upd2_rd, upd2_nd, Nat.reduceEqDiff, Nat.reduceAdd, Nat.add_left_cancel_iff, Nat.add_right_cancel_iff, reduceCtorEq, ↓reduceIte, and_self, and_true, true_and, and_false, false_and, true_or, or_true, false_or, or_false, not_true_eq_false, not_false_eq_true]); (try simp only [w32_em]); (first | done | omega))) (wp_cl1 (wp_eq (X8val hR hW hk hi') (wp_bnd (wp_some ?_))))
          dsimp only [Sum.elim_inl]
          exact ⟨by omega, Or.inr ⟨i, by omega, up, rfl, rfl⟩⟩
        · rw [if_neg hv] at up
          refine wp_ite_f (by ((try simp (disch := omega) only [w32_and, w32_or, w32_shl, w32_shr, w32_xor, ixO, ixO0, ixO1, ixO2, ixO3, ixL0, ixL1, ixL2, ixC, ixB, ixI0, ixI00, ixI1, ixI2, ixI3, upd2_rd, upd2_nd, Nat.reduceEqDiff, Nat.reduceAdd, Nat.add_left_cancel_iff, Nat.add_right_cancel_iff, reduceCtorEq, ↓reduceIte, and_self, and_true, true_and, and_false, false_and, true_or, or_true, false_or, or_false, not_true_eq_false, not_false_eq_true]); (try simp only [w32_em]); (first | done | omega))) (wp_bnd (wp_some ?_))
          dsimp only [Sum.elim_inl]
          exact ⟨by omega, Or.inr ⟨o, by omega, up, rfl, rfl⟩⟩
  · rintro ⟨x1, x2, x3⟩ ⟨h1, h2⟩
    simp only at h1 h2
    subst h1
    simp only [s_X8_seedAmong_10, Nat.reduceAdd]
    refine wp_ite_f (by ((try simp (disch := omega) only [w32_and, w32_or, w32_shl, w32_shr, w32_xor, ixO, ixO0, ixO1, ixO2, ixO3, ixL0, ixL1, ixL2, ixC, ixB, ixI0, ixI00, ixI1, ixI2, ixI3, upd2_rd, upd2_nd, Nat.reduceEqDiff, Nat.reduceAdd, Nat.add_left_cancel_iff, Nat.add_right_cancel_iff, reduceCtorEq, ↓reduceIte, and_self, and_true, true_and, and_false, false_and, true_or, or_true, false_or, or_false, not_true_eq_false, not_false_eq_true]); (try simp only [w32_em]); (first | done | omega))) (wp_some ?_)
    dsimp only [Sum.elim_inl, Sum.elim_inr]
    rcases h2 with ⟨h2, h3⟩ | ⟨o, ho, h2, h3, h4⟩
    · omega
    · exact wp_some (by omega)
