theorem bc_ok {M : Mem} {a : Int} (h : NN a) (hb : ∀ k, 6 ≤ k → bit a k = false) : f_J6_bitCount_0f7a4 a M = some (one a) := by
  have l := bit_lt h (by omega) hb
  have l' : a < 64 := l
  exact bc16 h.1 (by omega)
theorem one_rng {a : Int} : 0 ≤ one a ∧ one a ≤ 16 := by
  have := sm_bd (g := fun o => if bit a o = true then 1 else 0) (n := 16) (B := 1) (by omega) (fun o _ => by (try dsimp only); split <;> omega)
  unfold one
  omega
theorem X12one {M : Mem} {a : Int} (h : NN a) (hb : ∀ k, 6 ≤ k → bit a k = false) : f_X12_ones a M = some (one a) := by
  have l := bit_lt h (by omega) hb
  have l' : a < 64 := l
  exact X12ones h.1 (by omega)
/-- the candidates below n -/
def cnd (N : Nat → Int) (lim : Int) : Nat → Int
  | 0 => 0
  | n + 1 => if canB N n = true ∧ wO N n ≤ lim then i_or (cnd N lim n) (i_shl 1 (n : Int)) else cnd N lim n
theorem cnd_bits {N : Nat → Int} (hW : WF N) {lim : Int} : ∀ n : Nat, (n : Int) ≤ N 4 → NN (cnd N lim n) ∧ ∀ k, bit (cnd N lim n) k = true → k < n ∧ N (110 + 22 * k) = 0 := by
  have q4 := n4 hW
  intro n
  induction n with
  | zero => intro _; exact ⟨NN0, fun k h => by rw [cnd, bit_zero] at h; cases h⟩
  | succ n ih =>
    intro hn
    have i := ih (by omega)
    simp only [cnd]
    split
    · rename_i hc
      have s := shl_bits (show n < 31 by omega)
      have r := or_bits i.1 s.1
      refine ⟨r.1, fun k hk => ?_⟩
      rw [r.2, s.2, Bool.or_eq_true, decide_eq_true_eq] at hk
      rcases hk with h | rfl
      · have := i.2 k h
        exact ⟨by omega, this.2⟩
      · have := hc.1
        unfold canB at this
        simp at this
        exact ⟨by omega, this.1⟩
    · exact ⟨i.1, fun k hk => by have := i.2 k hk; exact ⟨by omega, this.2⟩⟩
theorem can1 {N : Nat → Int} {o : Nat} (ho : o < 16) : ∀ n : Nat, canA N (i_shl 1 (o : Int)) n = if o < n then canB N o else true := by
  have s := (shl_bits (show o < 31 by omega)).2
  intro n
  induction n with
  | zero => rfl
  | succ n ih =>
    simp only [canA, ih, s]
    by_cases e : n = o
    · subst e
      simp
    · by_cases l : o < n
      · simp [e, l, show o < n + 1 by omega]
      · simp [e, l, show ¬ o < n + 1 by omega]
theorem X8cand {M : Mem} {N : Nat → Int} (hR : HR 1 M N) (hW : WF N) {lim : Int} (hl : 1 ≤ lim ∧ lim ≤ 99999) : f_X8_candidatesIn 1 lim M = some (cnd N lim (N 4).toNat) := by
  have q4 := n4 hW
  obtain ⟨d4, hO⟩ := HR_O hR
  apply wp_val
  unfold f_X8_candidatesIn
  refine wp_lpb (wp_forI (fun i x => x = (cnd N lim i, (i : Int))) (N 4).toNat ?_ ?_ (Nat.zero_le _) rfl)
  · rintro i x hi rfl
    have hi' : (i : Int) < N 4 := by omega
    have wr := wO_rng hW hi'
    have c1 := X1can hR hW (shl_bits (show i < 31 by omega)).1
    rw [can1 (by omega), if_pos hi] at c1
    simp only [s_X8_candidatesIn_4, j_X8_candidatesIn_40_4, Nat.reduceAdd]
    refine wp_ite_t (by ((try simp (disch := omega) only [w32_and, w32_or, w32_shl, w32_shr, w32_xor, ixO, ixO0, ixO1, ixO2, ixO3, ixL0, ixL1, ixL2, ixC, ixB, ixI0, ixI00, ixI1, ixI2, ixI3, upd2_rd, upd2_nd, Nat.reduceEqDiff, Nat.reduceAdd, Nat.add_left_cancel_iff, Nat.add_right_cancel_iff, reduceCtorEq, ↓reduceIte, and_self, and_true, true_and, and_false, false_and, true_or, or_true, false_or, or_false, not_true_eq_false, not_false_eq_true]); (try simp only [w32_em]); (first | done | omega))) (wp_cl1 (wp_eq c1 ?_))
    cases hc : canB N i
    · refine wp_ite_t (by decide) (wp_bnd (wp_some ?_))
      dsimp only [Sum.elim_inl]
      simp only [cnd, hc, Int.natCast_succ, Bool.false_eq_true, false_and, ↓reduceIte]
    · refine wp_ite_f (by decide) (wp_cl1 (wp_eq (X1w hR hW hi') ?_))
      by_cases hw : wO N i ≤ lim
      · refine wp_ite_f (by ((try simp (disch := omega) only [w32_and, w32_or, w32_shl, w32_shr, w32_xor, ixO, ixO0, ixO1, ixO2, ixO3, ixL0, ixL1, ixL2, ixC, ixB, ixI0, ixI00, ixI1, ixI2, ixI3, upd2_rd, upd2_nd, Nat.reduceEqDiff, Nat.reduceAdd, Nat.add_left_cancel_iff, Nat.add_right_cancel_iff, reduceCtorEq, ↓reduceIte, and_self, and_true, true_and, and_false, false_and, true_or, or_true, false_or, or_false, not_true_eq_false, not_false_eq_true]); (try simp only [w32_em]); (first | done | omega))) (wp_bnd (wp_bnd (wp_some ?_)))
        dsimp only [Sum.elim_inl]
        simp only [cnd, hc, hw, Int.natCast_succ, and_self, ↓reduceIte]
      · refine wp_ite_t (by ((try simp (disch := omega) only [w32_and, w32_or, w32_shl, w32_shr, w32_xor, ixO, ixO0, ixO1, ixO2, ixO3, ixL0, ixL1, ixL2, ixC, ixB, ixI0, ixI00, ixI1, ixI2, ixI3, upd2_rd, upd2_nd, Nat.reduceEqDiff, Nat.reduceAdd, Nat.add_left_cancel_iff, Nat.add_right_cancel_iff, reduceCtorEq, ↓reduceIte, and_self, and_true, true_and, and_false, false_and, true_or, or_true, false_or, or_false, not_true_eq_false, not_false_eq_true]); (try simp only [w32_em]); (first | done | omega))) (wp_bnd (wp_some ?_))
        dsimp only [Sum.elim_inl]
        simp only [cnd, hc, hw, Int.natCast_succ, and_false, ↓reduceIte]
  · rintro x rfl
    simp only [s_X8_candidatesIn_4, Nat.reduceAdd]
    refine wp_ite_f (by ((try simp (disch := omega) only [w32_and, w32_or, w32_shl, w32_shr, w32_xor, ixO, ixO0, ixO1, ixO2, ixO3, ixL0, ixL1, ixL2, ixC, ixB, ixI0, ixI00, ixI1, ixI2, ixI3, upd2_rd, upd2_nd, Nat.reduceEqDiff, Nat.reduceAdd, Nat.add_left_cancel_iff, Nat.add_right_cancel_iff, reduceCtorEq, ↓reduceIte, and_self, and_true, true_and, and_false, false_and, true_or, or_true, false_or, or_false, not_true_eq_false, not_false_eq_true]); (try simp only [w32_em]); (first | done | omega))) (wp_some ?_)
    dsimp only [Sum.elim_inl, Sum.elim_inr]
    exact wp_some rfl
theorem X12cand {M : Mem} {N : Nat → Int} (hN : M 140 = N) (hW : WF N) {lim : Int} (hl : 1 ≤ lim ∧ lim ≤ 99999) : f_X12_candidates lim M = some (cnd N lim (N 4).toNat) := by
  have q4 := n4 hW
  have e4 : M 140 4 = N 4 := by rw [hN]
  apply wp_val
  unfold f_X12_candidates
  refine wp_lpb (wp_forI (fun i x => x = (cnd N lim i, (i : Int))) (N 4).toNat ?_ ?_ (Nat.zero_le _) rfl)
  · rintro i x hi rfl
    have hi' : (i : Int) < N 4 := by omega
    have wr := wO_rng hW hi'
    have z := or_r0 (cnd_bits hW (lim := lim) i (by omega)).1
    simp only [s_X12_candidates_4, j_X12_candidates_38_4, j_X12_candidates_39_4]
    refine wp_ite_t (by ((try simp (disch := omega) only [w32_and, w32_or, w32_shl, w32_shr, w32_xor, ixO, ixO0, ixO1, ixO2, ixO3, ixL0, ixL1, ixL2, ixC, ixB, ixI0, ixI00, ixI1, ixI2, ixI3, upd2_rd, upd2_nd, Nat.reduceEqDiff, Nat.reduceAdd, Nat.add_left_cancel_iff, Nat.add_right_cancel_iff, reduceCtorEq, ↓reduceIte, and_self, and_true, true_and, and_false, false_and, true_or, or_true, false_or, or_false, not_true_eq_false, not_false_eq_true]); (try simp only [w32_em]); (first | done | omega))) (wp_cl1 (wp_eq (X12canB hN hW hi') ?_))
    cases hc : canB N i
    · refine wp_ite_t (by decide) (wp_bnd (wp_bnd (wp_some ?_)))
      dsimp only [Sum.elim_inl]
      simp only [cnd, hc, z, Int.natCast_succ, Bool.false_eq_true, false_and, ↓reduceIte]
    · refine wp_ite_f (by decide) (wp_cl1 (wp_eq (X12w hN hW hi') ?_))
      by_cases hw : wO N i ≤ lim
      · refine wp_ite_f (by ((try simp (disch := omega) only [w32_and, w32_or, w32_shl, w32_shr, w32_xor, ixO, ixO0, ixO1, ixO2, ixO3, ixL0, ixL1, ixL2, ixC, ixB, ixI0, ixI00, ixI1, ixI2, ixI3, upd2_rd, upd2_nd, Nat.reduceEqDiff, Nat.reduceAdd, Nat.add_left_cancel_iff, Nat.add_right_cancel_iff, reduceCtorEq, ↓reduceIte, and_self, and_true, true_and, and_false, false_and, true_or, or_true, false_or, or_false, not_true_eq_false, not_false_eq_true]); (try simp only [w32_em]); (first | done | omega))) (wp_bnd (wp_bnd (wp_some ?_)))
        dsimp only [Sum.elim_inl]
        simp only [cnd, hc, hw, Int.natCast_succ, and_self, ↓reduceIte]
      · refine wp_ite_t (by ((try simp (disch := omega) only [w32_and, w32_or, w32_shl, w32_shr, w32_xor, ixO, ixO0, ixO1, ixO2, ixO3, ixL0, ixL1, ixL2, ixC, ixB, ixI0, ixI00, ixI1, ixI2, ixI3, upd2_rd, upd2_nd, Nat.reduceEqDiff, Nat.reduceAdd, Nat.add_left_cancel_iff, Nat.add_right_cancel_iff, reduceCtorEq, ↓reduceIte, and_self, and_true, true_and, and_false, false_and, true_or, or_true, false_or, or_false, not_true_eq_false, not_false_eq_true]); (try simp only [w32_em]); (first | done | omega))) (wp_bnd (wp_bnd (wp_some ?_)))
        dsimp only [Sum.elim_inl]
        simp only [cnd, hc, hw, z, Int.natCast_succ, and_false, ↓reduceIte]
  · rintro x rfl
    simp only [s_X12_candidates_4]
    refine wp_ite_f (by ((try simp (disch := omega) only [w32_and, w32_or, w32_shl, w32_shr, w32_xor, ixO, ixO0, ixO1, ixO2, ixO3, ixL0, ixL1, ixL2, ixC, ixB, ixI0, ixI00, ixI1, ixI2, ixI3, upd2_rd, upd2_nd, Nat.reduceEqDiff, Nat.reduceAdd, Nat.add_left_cancel_iff, Nat.add_right_cancel_iff, reduceCtorEq, ↓reduceIte, and_self, and_true, true_and, and_false, false_and, true_or, or_true, false_or, or_false, not_true_eq_false, not_false_eq_true]); (try simp only [w32_em]); (first | done | omega))) (wp_some ?_)
    dsimp only [Sum.elim_inl, Sum.elim_inr]
    exact wp_some rfl
