-- ===== making batches: companions, a batch grows =====
/-- how many aisles order o adds to A -/
def na (N : Nat → Int) (A : Int) (o : Nat) : Int := one (i_and (aO N o) (i_xor A (-1)))
def nxB (N : Nat → Int) (A : Int) (n b : Nat) : Bool := decide (na N A n < na N A b ∨ (na N A n = na N A b ∧ N (109 + 22 * n) < N (109 + 22 * b)))
set_option maxHeartbeats 600000 in
theorem nxB_t {N : Nat → Int} {A : Int} {n b : Nat} : nxB N A n b = true ↔ na N A n < na N A b ∨ (na N A n = na N A b ∧ N (109 + 22 * n) < N (109 + 22 * b)) := by unfold nxB; exact decide_eq_true_iff
/-- the companion among the orders of C below n -/
def nx (N : Nat → Int) (A W C : Int) : Nat → Int
  | 0 => -1
  | n + 1 => if bit C n = true ∧ wO N n ≤ W then (if nx N A W C n = -1 then (n : Int) else if nxB N A n (nx N A W C n).toNat = true then (n : Int) else nx N A W C n) else nx N A W C n
set_option maxHeartbeats 600000 in
theorem nx_spec {N : Nat → Int} {A W C : Int} : ∀ n : Nat, nx N A W C n = -1 ∨ ∃ o : Nat, o < n ∧ nx N A W C n = (o : Int) ∧ bit C o = true := by
  intro n
  induction n with
  | zero => exact Or.inl rfl
  | succ n ih =>
    simp only [nx]
    split
    · rename_i hc
      refine Or.inr ?_
      rcases ih with h1 | ⟨o, h1, h2, h3⟩
      · rw [if_pos h1]; exact ⟨n, by omega, rfl, hc.1⟩
      · rw [if_neg (by omega)]
        split
        · exact ⟨n, by omega, rfl, hc.1⟩
        · exact ⟨o, by omega, h2, h3⟩
    · rcases ih with h1 | ⟨o, h1, h2, h3⟩
      · exact Or.inl h1
      · exact Or.inr ⟨o, by omega, h2, h3⟩
set_option maxHeartbeats 600000 in
theorem nx_more {N : Nat → Int} {A W C : Int} {n0 : Nat} (hh : ∀ o, n0 ≤ o → bit C o = false) : ∀ n : Nat, n0 ≤ n → nx N A W C n = nx N A W C n0 := by
  intro n
  induction n with
  | zero => intro h; rw [show n0 = 0 by omega]
  | succ n ih =>
    intro h
    by_cases e : n0 = n + 1
    · rw [e]
    · simp only [nx, hh n (by omega), Bool.false_eq_true, false_and, ↓reduceIte]
      exact ih (by omega)
set_option maxHeartbeats 600000 in
theorem na_bits {N : Nat → Int} (hW : WF N) {A : Int} (hA : NN A) {o : Nat} (ho : (o : Int) < N 4) : NN (i_and (aO N o) (i_xor A (-1))) ∧ ∀ k, 6 ≤ k → bit (i_and (aO N o) (i_xor A (-1))) k = false := by
  have a := aO_bits hW ho
  have b := andn_bits a.1 hA
  exact ⟨b.1, fun k hk => by rw [b.2, a.2 k hk]; rfl⟩
set_option maxHeartbeats 600000 in
theorem na_rng {N : Nat → Int} {A : Int} {o : Nat} : 0 ≤ na N A o ∧ na N A o ≤ 16 := one_rng
/-- the next companion of the batch m, among C -/
def nxt (N : Nat → Int) (lim m C : Int) : Int := nx N (aA N m (N 4).toNat) (lim - wA N m) C (N 4).toNat
set_option maxHeartbeats 600000 in
theorem X8comp {M : Mem} {N : Nat → Int} (hR : HR 1 M N) (hW : WF N) {lim m C : Int} (hl : 1 ≤ lim ∧ lim ≤ 99999) (hm : NN m) (hC : NN C) : f_X8_companionFor 1 m C lim M = some (if nxt N lim m C = -1 then 0 else i_shl 1 (nxt N lim m C)) := by
  have q4 := n4 hW
  obtain ⟨d4, hO⟩ := HR_O hR
  have wa := wA_rng hW (m := m)
  have hA := (aA_bits hW (m := m) (n := (N 4).toNat) (by omega)).1
  apply wp_val
  unfold f_X8_companionFor nxt
  refine wp_lpb (wp_use (X8aisles hR hW hm) (fun r hr => ?_))
  subst hr
  dsimp only [Sum.elim_inl]
  refine wp_cl1 (wp_eq (X1wA hR hW hm) (wp_bnd ?_))
  generalize hg : aA N m (N 4).toNat = A at *
  generalize hv : lim - wA N m = W at *
  refine wp_lpb (wp_forI (fun i x => x.2.2 = (i : Int) ∧ (nx N A W C i = -1 ∧ x.1 = 0 ∧ x.2.1 = 1000000000 ∨ ∃ o : Nat, o < i ∧ nx N A W C i = (o : Int) ∧ x.1 = i_shl 1 (o : Int) ∧ x.2.1 = na N A o * 10000 + N (109 + 22 * o))) (N 4).toNat ?_ ?_ (Nat.zero_le _) ⟨rfl, Or.inl ⟨rfl, rfl, rfl⟩⟩)
  · rintro i ⟨x1, x2, x3⟩ hi ⟨h1, h2⟩
    simp only at h1 h2
    subst h1
    have hi' : (i : Int) < N 4 := by omega
    have xi : ix (i : Int) = i := ix_nat (by omega)
    have e11 : M 11 i = N (109 + 22 * i) := (hO i hi').1
    have hWO := hW.2.2.2.2.1 i hi'
    unfold WFo at hWO
    have wr := wO_rng hW hi'
    have nr := na_rng (N := N) (A := A) (o := i)
    simp only [s_X8_companionFor_63, j_X8_companionFor_147_63, Nat.reduceAdd, xi, e11]
    have keep : ¬ (bit C i = true ∧ wO N i ≤ W) → (nx N A W C (i + 1) = -1 ∧ x1 = 0 ∧ x2 = 1000000000 ∨ ∃ o : Nat, o < i + 1 ∧ nx N A W C (i + 1) = (o : Int) ∧ x1 = i_shl 1 (o : Int) ∧ x2 = na N A o * 10000 + N (109 + 22 * o)) := fun hn => by
      simp only [nx, if_neg hn]
      rcases h2 with h | ⟨o, ho, h⟩
      · exact Or.inl h
      · exact Or.inr ⟨o, by omega, h⟩
    cases q : bit C i
    · have hq := tst_f hC (show i < 31 by omega) q
      refine wp_ite_t (by ((try simp (disch := omega) only [w32_and, w32_or, w32_shl, w32_shr, w32_xor, ixO, ixO0, ixO1, ixO2, ixO3, ixL0, ixL1, ixL2, ixC, ixB, ixI0, ixI00, ixI1, ixI2, ixI3, upd2_rd, upd2_nd, Nat.reduceEqDiff, Nat.reduceAdd, Nat.add_left_cancel_iff, Nat.add_right_cancel_iff, reduceCtorEq, ↓reduceIte, and_self, and_true, true_and, and_false, false_and, true_or, or_true, false_or, or_false, not_true_eq_false, not_false_eq_true]); (try simp only [w32_em]); (first | done | omega))) (wp_ite_t (by rw [hq]; decide) (wp_bnd (wp_some ?_)))
      dsimp only [Sum.elim_inl]
      exact ⟨by omega, keep (by rw [q]; simp)⟩
    · have hq := tst_t hC (show i < 31 by omega) q
      refine wp_ite_t (by ((try simp (disch := omega) only [w32_and, w32_or, w32_shl, w32_shr, w32_xor, ixO, ixO0, ixO1, ixO2, ixO3, ixL0, ixL1, ixL2, ixC, ixB, ixI0, ixI00, ixI1, ixI2, ixI3, upd2_rd, upd2_nd, Nat.reduceEqDiff, Nat.reduceAdd, Nat.add_left_cancel_iff, Nat.add_right_cancel_iff, reduceCtorEq, ↓reduceIte, and_self, and_true, true_and, and_false, false_and, true_or, or_true, false_or, or_false, not_true_eq_false, not_false_eq_true]); (try simp only [w32_em]); (first | done | omega))) (wp_ite_f (by rw [hq]; decide) (wp_cl1 (wp_eq (X1w hR hW hi') ?_)))
      by_cases hw : wO N i ≤ W
      · have nb := na_bits hW hA hi'
        refine wp_ite_f (by ((try simp (disch := omega) only [w32_and, w32_or, w32_shl, w32_shr, w32_xor, ixO, ixO0, ixO1, ixO2, ixO3, ixL0, ixL1, ixL2, ixC, ixB, ixI0, ixI00, ixI1, ixI2, ixI3, upd2_rd, upd2_nd, Nat.reduceEqDiff, Nat.reduceAdd, Nat.add_left_cancel_iff, Nat.add_right_cancel_iff, reduceCtorEq, ↓reduceIte, and_self, and_true, true_and, and_false, false_and, true_or, or_true, false_or, or_false, not_true_eq_false, not_false_eq_true]); (try simp only [w32_em]); (first | done | omega))) (wp_cl1 (wp_eq (X1a hR hW hi') (wp_cl1 (wp_eq (bc_ok nb.1 nb.2) (wp_gi (by omega) (by omega) (by omega) (wp_bnd ?_))))))
        show wp (if w32 (na N A i * 10000 + N (109 + 22 * i)) < w32 x2 then _ else _) _
        have up : nx N A W C (i + 1) = if nx N A W C i = -1 then (i : Int) else if nxB N A i (nx N A W C i).toNat = true then (i : Int) else nx N A W C i := by
          simp only [nx, if_pos (And.intro q hw)]
        rcases h2 with ⟨h2, h3, h4⟩ | ⟨o, ho, h2, h3, h4⟩
        · subst h4
          refine wp_ite_t (by rw [w32_ok ⟨by omega, by omega⟩, w32_ok ⟨by omega, by omega⟩]; omega) (wp_bnd (wp_bnd (wp_some ?_)))
          dsimp only [Sum.elim_inl]
          exact ⟨by omega, Or.inr ⟨i, by omega, by rw [up, if_pos h2], rfl, rfl⟩⟩
        · subst h4
          have hWo := hW.2.2.2.2.1 o (by omega)
          unfold WFo at hWo
          have no := na_rng (N := N) (A := A) (o := o)
          rw [h2, if_neg (by omega), Int.toNat_natCast] at up
          by_cases hv : nxB N A i o = true
          · rw [if_pos hv] at up
            rw [nxB_t] at hv
            refine wp_ite_t (by rw [w32_ok ⟨by omega, by omega⟩, w32_ok ⟨by omega, by omega⟩]; omega) (wp_bnd (wp_bnd (wp_some ?_)))
            dsimp only [Sum.elim_inl]
            exact ⟨by omega, Or.inr ⟨i, by omega, up, rfl, rfl⟩⟩
          · rw [if_neg hv] at up
            rw [nxB_t] at hv
            refine wp_ite_f (by rw [w32_ok ⟨by omega, by omega⟩, w32_ok ⟨by omega, by omega⟩]; omega) (wp_bnd (wp_some ?_))
            dsimp only [Sum.elim_inl]
            exact ⟨by omega, Or.inr ⟨o, by omega, up, h3, rfl⟩⟩
      · refine wp_ite_t (by ((try simp (disch := omega) only [w32_and, w32_or, w32_shl, w32_shr, w32_xor, ixO, ixO0, ixO1, ixO2, ixO3, ixL0, ixL1, ixL2, ixC, ixB, ixI0, ixI00, ixI1, ixI2, ixI3, upd2_rd, upd2_nd, Nat.reduceEqDiff, Nat.reduceAdd, Nat.add_left_cancel_iff, Nat.add_right_cancel_iff, reduceCtorEq, ↓reduceIte, and_self, and_true, true_and, and_false, false_and, true_or, or_true, false_or, or_false, not_true_eq_false, not_false_eq_true]); (try simp only [w32_em]); (first | done | omega))) (wp_bnd (wp_some ?_))
        dsimp only [Sum.elim_inl]
        exact ⟨by omega, keep (fun h => hw h.2)⟩
  · rintro ⟨x1, x2, x3⟩ ⟨h1, h2⟩
    simp only at h1 h2
    subst h1
    simp only [s_X8_companionFor_63, Nat.reduceAdd]
    refine wp_ite_f (by ((try simp (disch := omega) only [w32_and, w32_or, w32_shl, w32_shr, w32_xor, ixO, ixO0, ixO1, ixO2, ixO3, ixL0, ixL1, ixL2, ixC, ixB, ixI0, ixI00, ixI1, ixI2, ixI3, upd2_rd, upd2_nd, Nat.reduceEqDiff, Nat.reduceAdd, Nat.add_left_cancel_iff, Nat.add_right_cancel_iff, reduceCtorEq, ↓reduceIte, and_self, and_true, true_and, and_false, false_and, true_or, or_true, false_or, or_false, not_true_eq_false, not_false_eq_true]); (try simp only [w32_em]); (first | done | omega))) (wp_some ?_)
    dsimp only [Sum.elim_inl, Sum.elim_inr]
    rcases h2 with ⟨h2, h3, h4⟩ | ⟨o, ho, h2, h3, h4⟩
    · rw [if_pos h2]; exact wp_some h3
    · rw [if_neg (by omega), h2]; exact wp_some h3
set_option maxHeartbeats 600000 in
theorem X12next {M : Mem} {N : Nat → Int} (hN : M 140 = N) (hW : WF N) {lim m C : Int} (hl : 1 ≤ lim ∧ lim ≤ 99999) (hm : NN m) (hhm : ∀ o, (N 4).toNat ≤ o → bit m o = false) (hC : NN C) (hh : ∀ o, (N 4).toNat ≤ o → bit C o = false) : f_X12_nextOf C m lim M = some (nxt N lim m C) := by
  have q4 := n4 hW
  have wa := wA_rng hW (m := m)
  have hA := (aA_bits hW (m := m) (n := (N 4).toNat) (by omega)).1
  have hlt : ∀ i, bit C i = true → (i : Int) < N 4 := fun i q => by
    rcases Nat.lt_or_ge i (N 4).toNat with g | g
    · omega
    · rw [hh i g] at q; cases q
  apply wp_val
  unfold f_X12_nextOf nxt
  rw [← nx_more hh 16 (by omega)]
  refine wp_cl1 (wp_eq (X12wA hN hW rfl hm hhm) (wp_bnd (wp_cl1 (wp_eq (X12aA hN hW hm hhm) ?_))))
  generalize hg : aA N m (N 4).toNat = A at *
  generalize hv : lim - wA N m = W at *
  refine wp_lpb (wp_forI (fun i x => x.2.2 = (i : Int) ∧ x.1 = nx N A W C i ∧ ∀ o : Nat, nx N A W C i = (o : Int) → x.2.1 = na N A o) 16 ?_ ?_ (Nat.zero_le _) ⟨rfl, rfl, fun o h => by simp only [nx] at h; omega⟩)
  · rintro i ⟨x1, x2, x3⟩ hi ⟨h1, h2, h3⟩
    simp only at h1 h2 h3
    subst h1 h2
    simp only [s_X12_nextOf_25, j_X12_nextOf_116_25, j_X12_nextOf_108_25]
    have keep : ¬ (bit C i = true ∧ wO N i ≤ W) → nx N A W C i = nx N A W C (i + 1) ∧ ∀ o : Nat, nx N A W C (i + 1) = (o : Int) → x2 = na N A o := fun hn => by
      simp only [nx, if_neg hn]
      exact ⟨trivial, h3⟩
    cases q : bit C i
    · refine wp_ite_t (by ((try simp (disch := omega) only [w32_and, w32_or, w32_shl, w32_shr, w32_xor, ixO, ixO0, ixO1, ixO2, ixO3, ixL0, ixL1, ixL2, ixC, ixB, ixI0, ixI00, ixI1, ixI2, ixI3, upd2_rd, upd2_nd, Nat.reduceEqDiff, Nat.reduceAdd, Nat.add_left_cancel_iff, Nat.add_right_cancel_iff, reduceCtorEq, ↓reduceIte, and_self, and_true, true_and, and_false, false_and, true_or, or_true, false_or, or_false, not_true_eq_false, not_false_eq_true]); (try simp only [w32_em]); (first | done | omega))) (wp_cl1 (wp_eq (has_f hC (show i < 31 by omega) q) (wp_ite_t (by decide) (wp_bnd (wp_some ?_)))))
      dsimp only [Sum.elim_inl]
      exact ⟨by omega, keep (by rw [q]; simp)⟩
    · have hi4 := hlt i q
      have hWO := hW.2.2.2.2.1 i hi4
      unfold WFo at hWO
      have wr := wO_rng hW hi4
      have nr := na_rng (N := N) (A := A) (o := i)
      refine wp_ite_t (by ((try simp (disch := omega) only [w32_and, w32_or, w32_shl, w32_shr, w32_xor, ixO, ixO0, ixO1, ixO2, ixO3, ixL0, ixL1, ixL2, ixC, ixB, ixI0, ixI00, ixI1, ixI2, ixI3, upd2_rd, upd2_nd, Nat.reduceEqDiff, Nat.reduceAdd, Nat.add_left_cancel_iff, Nat.add_right_cancel_iff, reduceCtorEq, ↓reduceIte, and_self, and_true, true_and, and_false, false_and, true_or, or_true, false_or, or_false, not_true_eq_false, not_false_eq_true]); (try simp only [w32_em]); (first | done | omega))) (wp_cl1 (wp_eq (has_t hC (show i < 31 by omega) q) (wp_ite_f (by decide) (wp_cl1 (wp_eq (X12w hN hW hi4) ?_)))))
      by_cases hw : wO N i ≤ W
      · have nb := na_bits hW hA hi4
        refine wp_ite_f (by ((try simp (disch := omega) only [w32_and, w32_or, w32_shl, w32_shr, w32_xor, ixO, ixO0, ixO1, ixO2, ixO3, ixL0, ixL1, ixL2, ixC, ixB, ixI0, ixI00, ixI1, ixI2, ixI3, upd2_rd, upd2_nd, Nat.reduceEqDiff, Nat.reduceAdd, Nat.add_left_cancel_iff, Nat.add_right_cancel_iff, reduceCtorEq, ↓reduceIte, and_self, and_true, true_and, and_false, false_and, true_or, or_true, false_or, or_false, not_true_eq_false, not_false_eq_true]); (try simp only [w32_em]); (first | done | omega))) (wp_cl1 (wp_eq (X12a hN hW hi4) (wp_cl1 (wp_eq (X12one nb.1 nb.2) ?_))))
        have up : nx N A W C (i + 1) = if nx N A W C i = -1 then (i : Int) else if nxB N A i (nx N A W C i).toNat = true then (i : Int) else nx N A W C i := by
          simp only [nx, if_pos (And.intro q hw)]
        have new : nx N A W C (i + 1) = (i : Int) → (i : Int) = nx N A W C (i + 1) ∧ ∀ o : Nat, nx N A W C (i + 1) = (o : Int) → na N A i = na N A o := fun h => ⟨h.symm, fun o ho => by rw [show o = i by omega]⟩
        rcases nx_spec (N := N) (A := A) (W := W) (C := C) i with h2 | ⟨o, ho, h2, h4⟩
        · rw [if_pos h2] at up
          rw [h2]
          refine wp_ite_t (by decide) (wp_bnd (wp_some ?_))
          dsimp only [Sum.elim_inl]
          exact ⟨by omega, new up⟩
        · have h5 := h3 o h2
          subst h5
          have ho4 := hlt o h4
          have hWo := hW.2.2.2.2.1 o ho4
          unfold WFo at hWo
          have no := na_rng (N := N) (A := A) (o := o)
          rw [h2, if_neg (by omega), Int.toNat_natCast] at up
          have old : ¬ nxB N A i o = true → (o : Int) = nx N A W C (i + 1) ∧ ∀ o' : Nat, nx N A W C (i + 1) = (o' : Int) → na N A o = na N A o' := fun h => by
            rw [if_neg h] at up
            exact ⟨up.symm, fun o' ho' => by rw [show o' = o by omega]⟩
          rw [h2]
          show wp (if w32 (o : Int) = -1 then _ else if w32 (na N A i) < w32 (na N A o) then _ else _) _
          refine wp_ite_f (by ((try simp (disch := omega) only [w32_and, w32_or, w32_shl, w32_shr, w32_xor, ixO, ixO0, ixO1, ixO2, ixO3, ixL0, ixL1, ixL2, ixC, ixB, ixI0, ixI00, ixI1, ixI2, ixI3, upd2_rd, upd2_nd, Nat.reduceEqDiff, Nat.reduceAdd, Nat.add_left_cancel_iff, Nat.add_right_cancel_iff, reduceCtorEq, ↓reduceIte, and_self, and_true, true_and, and_false, false_and, true_or, or_true, false_or, or_false, not_true_eq_false, not_false_eq_true]); (try simp only [w32_em]); (first | done | omega))) ?_
          by_cases v1 : na N A i < na N A o
          · rw [if_pos (nxB_t.mpr (Or.inl v1))] at up
            refine wp_ite_t (by ((try simp (disch := omega) only [w32_and, w32_or, w32_shl, w32_shr, w32_xor, ixO, ixO0, ixO1, ixO2, ixO3, ixL0, ixL1, ixL2, ixC, ixB, ixI0, ixI00, ixI1, ixI2, ixI3, upd2_rd, upd2_nd, Nat.reduceEqDiff, Nat.reduceAdd, Nat.add_left_cancel_iff, Nat.add_right_cancel_iff, reduceCtorEq, ↓reduceIte, and_self, and_true, true_and, and_false, false_and, true_or, or_true, false_or, or_false, not_true_eq_false, not_false_eq_true]); (try simp only [w32_em]); (first | done | omega))) (wp_bnd (wp_some ?_))
            dsimp only [Sum.elim_inl]
            exact ⟨by omega, new up⟩
          · refine wp_ite_f (by ((try simp (disch := omega) only [w32_and, w32_or, w32_shl, w32_shr, w32_xor, ixO, ixO0, ixO1, ixO2, ixO3, ixL0, ixL1, ixL2, ixC, ixB, ixI0, ixI00, ixI1, ixI2, ixI3, upd2_rd, upd2_nd, Nat.reduceEqDiff, Nat.reduceAdd, Nat.add_left_cancel_iff, Nat.add_right_cancel_iff, reduceCtorEq, ↓reduceIte, and_self, and_true, true_and, and_false, false_and, true_or, or_true, false_or, or_false, not_true_eq_false, not_false_eq_true]); (try simp only [w32_em]); (first | done | omega))) ?_
            by_cases v2 : na N A i = na N A o
            · refine wp_ite_t (by show w32 (na N A i) = _; rw [v2]) (wp_cl1 (wp_eq (X12due hN (by omega)) (wp_cl1 (wp_eq (X12due hN (by omega)) ?_))))
              by_cases v3 : N (109 + 22 * i) < N (109 + 22 * o)
              · rw [if_pos (nxB_t.mpr (Or.inr ⟨v2, v3⟩))] at up
                refine wp_ite_t (by ((try simp (disch := omega) only [w32_and, w32_or, w32_shl, w32_shr, w32_xor, ixO, ixO0, ixO1, ixO2, ixO3, ixL0, ixL1, ixL2, ixC, ixB, ixI0, ixI00, ixI1, ixI2, ixI3, upd2_rd, upd2_nd, Nat.reduceEqDiff, Nat.reduceAdd, Nat.add_left_cancel_iff, Nat.add_right_cancel_iff, reduceCtorEq, ↓reduceIte, and_self, and_true, true_and, and_false, false_and, true_or, or_true, false_or, or_false, not_true_eq_false, not_false_eq_true]); (try simp only [w32_em]); (first | done | omega))) (wp_bnd (wp_some ?_))
                dsimp only [Sum.elim_inl]
                exact ⟨by omega, new up⟩
              · refine wp_ite_f (by ((try simp (disch := omega) only [w32_and, w32_or, w32_shl, w32_shr, w32_xor, ixO, ixO0, ixO1, ixO2, ixO3, ixL0, ixL1, ixL2, ixC, ixB, ixI0, ixI00, ixI1, ixI2, ixI3, upd2_rd, upd2_nd, Nat.reduceEqDiff, Nat.reduceAdd, Nat.add_left_cancel_iff, Nat.add_right_cancel_iff, reduceCtorEq, ↓reduceIte, and_self, and_true, true_and, and_false, false_and, true_or, or_true, false_or, or_false, not_true_eq_false, not_false_eq_true]); (try simp only [w32_em]); (first | done | omega))) (wp_bnd (wp_some ?_))
                dsimp only [Sum.elim_inl]
                exact ⟨by omega, old (by rw [nxB_t]; omega)⟩
            · refine wp_ite_f (by show ¬ w32 (na N A i) = _; ((try simp (disch := omega) only [w32_and, w32_or, w32_shl, w32_shr, w32_xor, ixO, ixO0, ixO1, ixO2, ixO3, ixL0, ixL1, ixL2, ixC, ixB, ixI0, ixI00, ixI1, ixI2, ixI3, upd2_rd, upd2_nd, Nat.reduceEqDiff, Nat.reduceAdd, Nat.add_left_cancel_iff, Nat.add_right_cancel_iff, reduceCtorEq, ↓reduceIte, and_self, and_true, true_and, and_false, false_and, true_or, or_true, false_or, or_false, not_true_eq_false, not_false_eq_true]); (try simp only [w32_em]); (first | done | omega))) (wp_bnd (wp_some ?_))
              dsimp only [Sum.elim_inl]
              exact ⟨by omega, old (by rw [nxB_t]; omega)⟩
      · refine wp_ite_t (by ((try simp (disch := omega) only [w32_and, w32_or, w32_shl, w32_shr, w32_xor, ixO, ixO0, ixO1, ixO2, ixO3, ixL0, ixL1, ixL2, ixC, ixB, ixI0, ixI00, ixI1, ixI2, ixI3, upd2_rd, upd2_nd, Nat.reduceEqDiff, Nat.reduceAdd, Nat.add_left_cancel_iff, Nat.add_right_cancel_iff, reduceCtorEq, ↓reduceIte, and_self, and_true, true_and, and_false, false_and, true_or, or_true, false_or, or_false, not_true_eq_false, not_false_eq_true]); (try simp only [w32_em]); (first | done | omega))) (wp_bnd (wp_some ?_))
        dsimp only [Sum.elim_inl]
        exact ⟨by omega, keep (fun h => hw h.2)⟩
  · rintro ⟨x1, x2, x3⟩ ⟨h1, h2, h3⟩
    simp only at h1 h2 h3
    subst h1 h2
    simp only [s_X12_nextOf_25]
    refine wp_ite_f (by decide) (wp_some ?_)
    dsimp only [Sum.elim_inl, Sum.elim_inr]
    exact wp_some rfl
/-- C without m -/
abbrev wo (C m : Int) : Int := i_and C (i_xor m (-1))
/-- the batch that began with the seed s, after j companions -/
def gr (N : Nat → Int) (lim C : Int) (s : Nat) : Nat → Int
  | 0 => i_shl 1 (s : Int)
  | j + 1 => if nxt N lim (gr N lim C s j) (wo C (gr N lim C s j)) = -1 then gr N lim C s j else i_or (gr N lim C s j) (i_shl 1 (nxt N lim (gr N lim C s j) (wo C (gr N lim C s j))))
set_option maxHeartbeats 600000 in
theorem grw_ok {N : Nat → Int} (hW : WF N) {lim C : Int} (hC : NN C) {s : Nat} (hs : bit C s = true) (hh : ∀ o, (N 4).toNat ≤ o → bit C o = false) : ∀ j : Nat, NN (gr N lim C s j) ∧ bit (gr N lim C s j) s = true ∧ ∀ k, bit (gr N lim C s j) k = true → bit C k = true := by
  have q4 := n4 hW
  have hlt : ∀ i, bit C i = true → i < 31 := fun i q => by
    rcases Nat.lt_or_ge i (N 4).toNat with g | g
    · omega
    · rw [hh i g] at q; cases q
  intro j
  induction j with
  | zero =>
    have a := shl_bits (hlt s hs)
    simp only [gr]
    refine ⟨a.1, by rw [a.2]; simp, fun k hk => ?_⟩
    rw [a.2, decide_eq_true_eq] at hk
    rw [hk]; exact hs
  | succ j ih =>
    simp only [gr]
    rcases nx_spec (N := N) (A := aA N (gr N lim C s j) (N 4).toNat) (W := lim - wA N (gr N lim C s j)) (C := wo C (gr N lim C s j)) (N 4).toNat with h | ⟨o, ho, h, hb⟩
    · rw [if_pos (show nxt N lim (gr N lim C s j) (wo C (gr N lim C s j)) = -1 from h)]; exact ih
    · have h' : nxt N lim (gr N lim C s j) (wo C (gr N lim C s j)) = (o : Int) := h
      rw [h', if_neg (by omega)]
      have a := andn_bits hC ih.1
      rw [a.2, Bool.and_eq_true] at hb
      have sb := shl_bits (hlt o hb.1)
      have ob := or_bits ih.1 sb.1
      refine ⟨ob.1, by rw [ob.2, ih.2.1]; rfl, fun k hk => ?_⟩
      rw [ob.2, sb.2, Bool.or_eq_true, decide_eq_true_eq] at hk
      rcases hk with hk | rfl
      · exact ih.2.2 k hk
      · exact hb.1
set_option maxHeartbeats 600000 in
theorem gr_st {N : Nat → Int} {lim C : Int} {s j : Nat} (h : nxt N lim (gr N lim C s j) (wo C (gr N lim C s j)) = -1) : ∀ d : Nat, gr N lim C s (j + d) = gr N lim C s j := by
  intro d
  induction d with
  | zero => rfl
  | succ d ih =>
    show gr N lim C s (j + d + 1) = _
    simp only [gr, ih, if_pos h]
set_option maxHeartbeats 600000 in
theorem X8grow {M : Mem} {N : Nat → Int} (hR : HR 1 M N) (hW : WF N) {lim k C x5 : Int} (hl : 1 ≤ lim ∧ lim ≤ 99999) (hC : NN C) {s : Nat} (hs : bit C s = true) (hh : ∀ o, (N 4).toNat ≤ o → bit C o = false) {L : Nat} (hL : 1 ≤ L ∧ L ≤ 6) : wp (wh (fun x => s_X8_makeAll_48 1 (L : Int) lim k C x5 M x.1 x.2) (i_shl 1 (s : Int), 1)) (fun r => r = .inl (gr N lim C s (L - 1))) := by
  refine wp_forI (fun i x => x = (gr N lim C s i, (i : Int) + 1)) (L - 1) ?_ ?_ (Nat.zero_le _) rfl
  · rintro i x hi rfl
    have g := grw_ok hW (lim := lim) hC hs hh i
    have a := andn_bits hC g.1
    simp only [s_X8_makeAll_48]
    refine wp_ite_t (by ((try simp (disch := omega) only [w32_and, w32_or, w32_shl, w32_shr, w32_xor, ixO, ixO0, ixO1, ixO2, ixO3, ixL0, ixL1, ixL2, ixC, ixB, ixI0, ixI00, ixI1, ixI2, ixI3, upd2_rd, upd2_nd, Nat.reduceEqDiff, Nat.reduceAdd, Nat.add_left_cancel_iff, Nat.add_right_cancel_iff, reduceCtorEq, ↓reduceIte, and_self, and_true, true_and, and_false, false_and, true_or, or_true, false_or, or_false, not_true_eq_false, not_false_eq_true]); (try simp only [w32_em]); (first | done | omega))) (wp_cl1 (wp_eq (X8comp hR hW hl g.1 a.1) (wp_bnd (wp_bnd (wp_some ?_)))))
    dsimp only [Sum.elim_inl]
    simp only [gr, Int.natCast_succ]
    split
    · rw [or_r0 g.1]
    · rfl
  · rintro x rfl
    simp only [s_X8_makeAll_48]
    refine wp_ite_f (by ((try simp (disch := omega) only [w32_and, w32_or, w32_shl, w32_shr, w32_xor, ixO, ixO0, ixO1, ixO2, ixO3, ixL0, ixL1, ixL2, ixC, ixB, ixI0, ixI00, ixI1, ixI2, ixI3, upd2_rd, upd2_nd, Nat.reduceEqDiff, Nat.reduceAdd, Nat.add_left_cancel_iff, Nat.add_right_cancel_iff, reduceCtorEq, ↓reduceIte, and_self, and_true, true_and, and_false, false_and, true_or, or_true, false_or, or_false, not_true_eq_false, not_false_eq_true]); (try simp only [w32_em]); (first | done | omega))) (wp_some ?_)
    rfl
set_option maxHeartbeats 600000 in
theorem sm_up1 {f g : Nat → Int} {o : Nat} (h : ∀ k, k ≠ o → f k = g k) (ho : f o = g o + 1) : ∀ n : Nat, sm f n = sm g n + (if o < n then 1 else 0) := by
  intro n
  induction n with
  | zero => rfl
  | succ n ih =>
    simp only [sm]
    rw [ih]
    by_cases e : n = o
    · subst e
      rw [ho, if_neg (by omega), if_pos (by omega)]; omega
    · rw [h n e]
      by_cases l : o < n
      · rw [if_pos l, if_pos (by omega)]; omega
      · rw [if_neg l, if_neg (by omega)]; omega
set_option maxHeartbeats 600000 in
theorem one_or {m : Int} (hm : NN m) {o : Nat} (ho : o < 16) (hb : bit m o = false) : one (i_or m (i_shl 1 (o : Int))) = one m + 1 := by
  have s := shl_bits (show o < 31 by omega)
  have r := or_bits hm s.1
  unfold one
  rw [sm_up1 (f := fun k => if bit (i_or m (i_shl 1 (o : Int))) k = true then 1 else 0) (g := fun k => if bit m k = true then 1 else 0) (o := o) (fun k hk => by (try dsimp only); rw [r.2, s.2, decide_eq_false hk, Bool.or_false]) (by (try dsimp only); rw [r.2, s.2, hb]; simp), if_pos ho]
set_option maxHeartbeats 600000 in
theorem one_0 : one 0 = 0 := by
  unfold one
  simp only [bit_zero, Bool.false_eq_true, ↓reduceIte]
  rw [sm_const]
  rfl
set_option maxHeartbeats 600000 in
theorem X12grow {M : Mem} {N : Nat → Int} (hN : M 140 = N) (hW : WF N) {lim k C x5 : Int} (hl : 1 ≤ lim ∧ lim ≤ 99999) (hC : NN C) {s : Nat} (hs : bit C s = true) (hh : ∀ o, (N 4).toNat ≤ o → bit C o = false) {L : Nat} (hL : 1 ≤ L ∧ L ≤ 6) : wp (wh (fun x => s_X12_makeBatches_85 (L : Int) lim k x5 M x.1 x.2.1 x.2.2) (C, (s : Int), 0)) (fun r => r = .inl (wo C (gr N lim C s (L - 1)), gr N lim C s (L - 1))) := by
  have q4 := n4 hW
  have hlt : ∀ i, bit C i = true → i < (N 4).toNat := fun i q => by
    rcases Nat.lt_or_ge i (N 4).toNat with g | g
    · omega
    · rw [hh i g] at q; cases q
  have g0 : gr N lim C s 0 = i_shl 1 (s : Int) := by simp only [gr]
  refine wp_forI (fun i x => (i < L ∧ ∃ o : Nat, x.2.1 = (o : Int) ∧ o < 16 ∧ i_or x.2.2 (i_shl 1 (o : Int)) = gr N lim C s i ∧ wo x.1 (i_shl 1 (o : Int)) = wo C (gr N lim C s i) ∧ one (gr N lim C s i) = (i : Int) + 1) ∨ (x.2.1 = -1 ∧ x.1 = wo C (gr N lim C s (L - 1)) ∧ x.2.2 = gr N lim C s (L - 1))) L ?_ ?_ (Nat.zero_le _) (Or.inl ⟨by omega, s, rfl, by have := hlt s hs; omega, by rw [g0]; exact or_l0 (shl_bits (by have := hlt s hs; omega)).1, by rw [g0], ?_⟩)
  · rintro i ⟨x1, x2, x3⟩ hi (⟨h1, o, h2, h3, h4, h5, h6⟩ | ⟨h1, h2, h3⟩)
    · simp only at h2 h4 h5
      subst h2
      have g := grw_ok hW (lim := lim) hC hs hh i
      have a := andn_bits hC g.1
      have g16 : ∀ o, (N 4).toNat ≤ o → bit (gr N lim C s i) o = false := fun o ho => by
        cases e : bit (gr N lim C s i) o
        · rfl
        · have := hlt o (g.2.2 o e); omega
      have glt := bit_lt (n := 16) g.1 (by omega) (fun k hk => g16 k (by omega))
      have glt' : gr N lim C s i < 65536 := by omega
      simp only [s_X12_makeBatches_85, j_X12_makeBatches_133_85]
      refine wp_ite_f (by ((try simp (disch := omega) only [w32_and, w32_or, w32_shl, w32_shr, w32_xor, ixO, ixO0, ixO1, ixO2, ixO3, ixL0, ixL1, ixL2, ixC, ixB, ixI0, ixI00, ixI1, ixI2, ixI3, upd2_rd, upd2_nd, Nat.reduceEqDiff, Nat.reduceAdd, Nat.add_left_cancel_iff, Nat.add_right_cancel_iff, reduceCtorEq, ↓reduceIte, and_self, and_true, true_and, and_false, false_and, true_or, or_true, false_or, or_false, not_true_eq_false, not_false_eq_true]); (try simp only [w32_em]); (first | done | omega))) (wp_bnd (wp_bnd ?_))
      rw [h4, show i_and x1 (i_xor (i_shl 1 (o : Int)) (-1)) = _ from h5]
      refine wp_cl1 (wp_eq (X12ones g.1.1 glt') ?_)
      rw [h6]
      by_cases hj : i + 1 < L
      · refine wp_ite_t (by ((try simp (disch := omega) only [w32_and, w32_or, w32_shl, w32_shr, w32_xor, ixO, ixO0, ixO1, ixO2, ixO3, ixL0, ixL1, ixL2, ixC, ixB, ixI0, ixI00, ixI1, ixI2, ixI3, upd2_rd, upd2_nd, Nat.reduceEqDiff, Nat.reduceAdd, Nat.add_left_cancel_iff, Nat.add_right_cancel_iff, reduceCtorEq, ↓reduceIte, and_self, and_true, true_and, and_false, false_and, true_or, or_true, false_or, or_false, not_true_eq_false, not_false_eq_true]); (try simp only [w32_em]); (first | done | omega))) (wp_cl1 (wp_eq (X12next hN hW hl g.1 g16 a.1 (fun o ho => by rw [a.2, hh o ho]; rfl)) (wp_some ?_)))
        dsimp only [Sum.elim_inl]
        rcases nx_spec (N := N) (A := aA N (gr N lim C s i) (N 4).toNat) (W := lim - wA N (gr N lim C s i)) (C := wo C (gr N lim C s i)) (N 4).toNat with h | ⟨p, hp, h, hb⟩
        · have h' : nxt N lim (gr N lim C s i) (wo C (gr N lim C s i)) = -1 := h
          have st := gr_st h' (L - 1 - i)
          rw [show i + (L - 1 - i) = L - 1 by omega] at st
          exact Or.inr ⟨h', by rw [st], st.symm⟩
        · have h' : nxt N lim (gr N lim C s i) (wo C (gr N lim C s i)) = (p : Int) := h
          have e1 : gr N lim C s (i + 1) = i_or (gr N lim C s i) (i_shl 1 (p : Int)) := by
            simp only [gr]
            rw [h', if_neg (by omega)]
          rw [a.2, Bool.and_eq_true, Bool.not_eq_true'] at hb
          refine Or.inl ⟨hj, p, h', by omega, e1.symm, ?_, ?_⟩
          · have sb := shl_bits (show p < 31 by omega)
            have ob := or_bits g.1 sb.1
            have l1 := andn_bits a.1 sb.1
            have l2 := andn_bits hC ob.1
            rw [e1]
            exact bit_ext l1.1 l2.1 (fun k => by rw [l1.2, l2.2, a.2, ob.2, Bool.not_or, Bool.and_assoc])
          · rw [e1, one_or g.1 (by omega) hb.2, h6]
            omega
      · refine wp_ite_f (by ((try simp (disch := omega) only [w32_and, w32_or, w32_shl, w32_shr, w32_xor, ixO, ixO0, ixO1, ixO2, ixO3, ixL0, ixL1, ixL2, ixC, ixB, ixI0, ixI00, ixI1, ixI2, ixI3, upd2_rd, upd2_nd, Nat.reduceEqDiff, Nat.reduceAdd, Nat.add_left_cancel_iff, Nat.add_right_cancel_iff, reduceCtorEq, ↓reduceIte, and_self, and_true, true_and, and_false, false_and, true_or, or_true, false_or, or_false, not_true_eq_false, not_false_eq_true]); (try simp only [w32_em]); (first | done | omega))) (wp_some ?_)
        dsimp only [Sum.elim_inl]
        have e : L - 1 = i := by omega
        rw [e]
        exact Or.inr ⟨rfl, rfl, rfl⟩
    · simp only at h1 h2 h3
      subst h1 h2 h3
      simp only [s_X12_makeBatches_85]
      refine wp_ite_t (by decide) (wp_some ?_)
      rfl
  · rintro ⟨x1, x2, x3⟩ (⟨h1, _⟩ | ⟨h1, h2, h3⟩)
    · omega
    · simp only at h1 h2 h3
      subst h1 h2 h3
      simp only [s_X12_makeBatches_85]
      refine wp_ite_t (by decide) (wp_some ?_)
      rfl
  · rw [g0]
    have := one_or NN0 (o := s) (by have := hlt s hs; omega) (bit_zero s)
    rw [or_l0 (shl_bits (by have := hlt s hs; omega)).1] at this
    rw [this, one_0]
    rfl
