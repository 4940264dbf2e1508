theorem X12gr {a b : Int} {M : Mem} (ha : 0 ≤ a ∧ a ≤ 10000000) (hb : 0 ≤ b ∧ b ≤ 10000000) : f_X12_greater a b M = some (i_max a b) := by
  unfold f_X12_greater i_max
  rw [w32_ok ⟨by omega, by omega⟩, w32_ok ⟨by omega, by omega⟩]
  by_cases h : b < a
  · rw [if_pos h, if_neg (by omega)]
  · rw [if_neg h]
    by_cases h2 : a < b
    · rw [if_pos h2]
    · rw [if_neg h2, show a = b by omega]
theorem imax_0 {a : Int} (ha : 0 ≤ a ∧ a ≤ 10000000) : i_max a 0 = a := by
  unfold i_max
  rw [w32_ok ⟨by omega, by omega⟩, w32_ok ⟨by omega, by omega⟩, if_neg (by omega)]
theorem X12room {M : Mem} {N : Nat → Int} (hN : M 140 = N) (hW : WF N) {S L : Nat → Nat → Int} {k z : Nat} (hk : k < 8) (hz : ((z + 1 : Nat) : Int) < zns N) (hT : ∀ j z' : Nat, j < k → (z' : Int) < zns N → M 150 (3 * j + z') = S j z' ∧ M 151 (3 * j + z') = L j z') : f_X12_whenRoom (k : Int) (z : Int) M = some (tExit N S L k z) := by
  have hw2 := hW.2.1
  have cz := zn_rng N
  have cr : 0 ≤ N (9 + z) ∧ N (9 + z) ≤ 4 := by
    rcases (show z = 0 ∨ z = 1 by omega) with rfl | rfl
    · exact ⟨hw2.2.2.1, hw2.2.2.2.1⟩
    · exact ⟨hw2.2.2.2.2.1, hw2.2.2.2.2.2.1⟩
  have x9 : ix (9 + (z : Int)) = 9 + z := by rw [ix_of (by omega) (by omega)]; omega
  apply wp_val
  unfold f_X12_whenRoom tExit
  rw [x9, hN, if_pos hz]
  refine wp_gi (by omega) (by omega) (by omega) (wp_bnd (wp_cl1 (wp_eq (X12gr (by omega) (by omega)) ?_)))
  have im : i_max 1 (N (9 + z)) = if N (9 + z) = 0 then 1 else N (9 + z) := by
    unfold i_max
    rw [w32_ok ⟨by omega, by omega⟩, w32_ok ⟨by omega, by omega⟩]
    by_cases h : 1 < N (9 + z)
    · rw [if_pos h, if_neg (by omega)]
    · rw [if_neg h]
      split <;> omega
  rw [im]
  by_cases c0 : N (9 + z) = 0
  · simp only [if_pos c0]
    unfold tFree
    by_cases k0 : k = 0
    · rw [if_pos k0]
      exact wp_ite_t (by ((try simp (disch := omega) only [w32_and, w32_or, w32_shl, w32_shr, w32_xor, ixO, ixO0, ixO1, ixO2, ixO3, ixL0, ixL1, ixL2, ixC, ixB, ixI0, ixI00, ixI1, ixI2, ixI3, upd2_rd, upd2_nd, Nat.reduceEqDiff, Nat.reduceAdd, Nat.add_left_cancel_iff, Nat.add_right_cancel_iff, reduceCtorEq, ↓reduceIte, and_self, and_true, true_and, and_false, false_and, true_or, or_true, false_or, or_false, not_true_eq_false, not_false_eq_true]); (try simp only [w32_em]); (first | done | omega))) (wp_some rfl)
    · rw [if_neg k0]
      have xk : ix (3 * ((k : Int) - 1) + (z : Int) + 1) = 3 * (k - 1) + (z + 1) := by rw [ix_of (by omega) (by omega)]; omega
      refine wp_ite_f (by ((try simp (disch := omega) only [w32_and, w32_or, w32_shl, w32_shr, w32_xor, ixO, ixO0, ixO1, ixO2, ixO3, ixL0, ixL1, ixL2, ixC, ixB, ixI0, ixI00, ixI1, ixI2, ixI3, upd2_rd, upd2_nd, Nat.reduceEqDiff, Nat.reduceAdd, Nat.add_left_cancel_iff, Nat.add_right_cancel_iff, reduceCtorEq, ↓reduceIte, and_self, and_true, true_and, and_false, false_and, true_or, or_true, false_or, or_false, not_true_eq_false, not_false_eq_true]); (try simp only [w32_em]); (first | done | omega))) (wp_ite_t (by rw [c0]; decide) (wp_gi (by omega) (by omega) (by omega) (wp_some ?_)))
      rw [xk]
      exact (hT (k - 1) (z + 1) (by omega) hz).2
  · simp only [if_neg c0]
    by_cases kc : (k : Int) < N (9 + z)
    · rw [if_pos kc]
      exact wp_ite_t (by ((try simp (disch := omega) only [w32_and, w32_or, w32_shl, w32_shr, w32_xor, ixO, ixO0, ixO1, ixO2, ixO3, ixL0, ixL1, ixL2, ixC, ixB, ixI0, ixI00, ixI1, ixI2, ixI3, upd2_rd, upd2_nd, Nat.reduceEqDiff, Nat.reduceAdd, Nat.add_left_cancel_iff, Nat.add_right_cancel_iff, reduceCtorEq, ↓reduceIte, and_self, and_true, true_and, and_false, false_and, true_or, or_true, false_or, or_false, not_true_eq_false, not_false_eq_true]); (try simp only [w32_em]); (first | done | omega))) (wp_some rfl)
    · rw [if_neg kc]
      have xk : ix (3 * ((k : Int) - N (9 + z)) + (z : Int) + 1) = 3 * (k - (N (9 + z)).toNat) + (z + 1) := by rw [ix_of (by omega) (by omega)]; omega
      refine wp_ite_f (by ((try simp (disch := omega) only [w32_and, w32_or, w32_shl, w32_shr, w32_xor, ixO, ixO0, ixO1, ixO2, ixO3, ixL0, ixL1, ixL2, ixC, ixB, ixI0, ixI00, ixI1, ixI2, ixI3, upd2_rd, upd2_nd, Nat.reduceEqDiff, Nat.reduceAdd, Nat.add_left_cancel_iff, Nat.add_right_cancel_iff, reduceCtorEq, ↓reduceIte, and_self, and_true, true_and, and_false, false_and, true_or, or_true, false_or, or_false, not_true_eq_false, not_false_eq_true]); (try simp only [w32_em]); (first | done | omega))) (wp_ite_f (by ((try simp (disch := omega) only [w32_and, w32_or, w32_shl, w32_shr, w32_xor, ixO, ixO0, ixO1, ixO2, ixO3, ixL0, ixL1, ixL2, ixC, ixB, ixI0, ixI00, ixI1, ixI2, ixI3, upd2_rd, upd2_nd, Nat.reduceEqDiff, Nat.reduceAdd, Nat.add_left_cancel_iff, Nat.add_right_cancel_iff, reduceCtorEq, ↓reduceIte, and_self, and_true, true_and, and_false, false_and, true_or, or_true, false_or, or_false, not_true_eq_false, not_false_eq_true]); (try simp only [w32_em]); (first | done | omega))) (wp_gi (by omega) (by omega) (by omega) (wp_some ?_)))
      rw [xk]
      exact (hT (k - (N (9 + z)).toNat) (z + 1) (by omega) hz).1
theorem X12times {M : Mem} {N : Nat → Int} (hN : M 140 = N) (hW : WF N) {q : Nat → Nat} (hw : ∀ b z : Nat, (b : Int) < N 5 → (z : Int) < zns N → M 148 (3 * b + z) = wkS N b z) (hq : ∀ k : Nat, (k : Int) < N 5 → M 149 k = ((q k : Nat) : Int) ∧ ((q k : Nat) : Int) < N 5) : wp (f_X12_laysTimes M) (fun r => (∀ a, a ≠ 150 → a ≠ 151 → r a = M a) ∧ ∀ k z : Nat, (k : Int) < N 5 → (z : Int) < zns N → r 150 (3 * k + z) = (tms N q (N 5).toNat).1 k z ∧ r 151 (3 * k + z) = (tms N q (N 5).toNat).2 k z) := by
  have q5 := n5 hW
  have cz := zn_rng N
  unfold f_X12_laysTimes
  refine wp_lpb (wp_forI (fun i y => y.1 = (i : Int) ∧ (∀ a, a ≠ 150 → a ≠ 151 → y.2 a = M a) ∧ ∀ k z : Nat, k < i → (z : Int) < zns N → y.2 150 (3 * k + z) = (tms N q i).1 k z ∧ y.2 151 (3 * k + z) = (tms N q i).2 k z) (N 5).toNat ?_ ?_ (Nat.zero_le _) ⟨rfl, fun _ _ _ => rfl, fun k z hk => by omega⟩)
  · rintro k ⟨c, m⟩ hk ⟨k1, k2, k4⟩
    simp only at k1 k2 k4
    subst k1
    have e5 : m 140 5 = N 5 := by rw [k2 140 (by decide) (by decide), hN]
    obtain ⟨rS, rL⟩ := tms_rng (q := q) hW k (by omega)
    have hkq := hq k (by omega)
    simp only [s_X12_laysTimes_2]
    refine wp_ite_t (by ((try simp (disch := omega) only [w32_and, w32_or, w32_shl, w32_shr, w32_xor, ixO, ixO0, ixO1, ixO2, ixO3, ixL0, ixL1, ixL2, ixC, ixB, ixI0, ixI00, ixI1, ixI2, ixI3, upd2_rd, upd2_nd, Nat.reduceEqDiff, Nat.reduceAdd, Nat.add_left_cancel_iff, Nat.add_right_cancel_iff, reduceCtorEq, ↓reduceIte, and_self, and_true, true_and, and_false, false_and, true_or, or_true, false_or, or_false, not_true_eq_false, not_false_eq_true]); (try simp only [w32_em]); (first | done | omega))) (wp_lpb ?_)
    generalize hS : (tms N q k).1 = S at *
    generalize hL : (tms N q k).2 = L at *
    have A0 : 0 ≤ 9000 * (k : Int) ∧ 9000 * (k : Int) ≤ 1000000 := by omega
    refine wp_forI (fun z y => y.1 = (z : Int) ∧ (∀ a, a ≠ 150 → a ≠ 151 → y.2 a = M a) ∧ (∀ j z' : Nat, j < k → (z' : Int) < zns N → y.2 150 (3 * j + z') = S j z' ∧ y.2 151 (3 * j + z') = L j z') ∧ ∀ z' : Nat, z' < z → y.2 150 (3 * k + z') = tSt N (q k) S L k z' ∧ y.2 151 (3 * k + z') = tArr N (q k) S L k (z' + 1)) (zns N).toNat ?_ ?_ (Nat.zero_le _) ⟨rfl, k2, k4, fun z' hz => by omega⟩
    · rintro z ⟨c, t⟩ hz ⟨j1, j2, j3, j4⟩
      simp only at j1 j2 j3 j4
      subst j1
      have hz' : (z : Int) < zns N := by omega
      have t140 : t 140 = N := by rw [j2 140 (by decide) (by decide), hN]
      have ar := tArr_rng (b := q k) (k := k) hW A0 rS rL z (by omega)
      have ar1 := tArr_rng (b := q k) (k := k) hW A0 rS rL (z + 1) (by omega)
      have sr := tSt_rng (b := q k) (k := k) hW A0 rS rL hz'
      have wr := wkS_rng (b := q k) hW hz'
      have xat : ix (3 * (k : Int) + (z : Int)) = 3 * k + z := by rw [ix_of (by omega) (by omega)]; omega
      have xk : ix (k : Int) = k := ix_nat (by omega)
      have c73 : wp (j_X12_laysTimes_73_14 (k : Int) (z : Int) (3 * (k : Int) + (z : Int)) (3 * (k : Int) + (z : Int)) (tSt N (q k) S L k z) t) (Sum.elim (fun y => y.1 = ((z + 1 : Nat) : Int) ∧ (∀ a, a ≠ 150 → a ≠ 151 → y.2 a = M a) ∧ (∀ j z' : Nat, j < k → (z' : Int) < zns N → y.2 150 (3 * j + z') = S j z' ∧ y.2 151 (3 * j + z') = L j z') ∧ ∀ z' : Nat, z' < z + 1 → y.2 150 (3 * k + z') = tSt N (q k) S L k z' ∧ y.2 151 (3 * k + z') = tArr N (q k) S L k (z' + 1)) (fun a => wp (Sum.elim (fun z_23 => bnd ((k : Int) + 1) fun x1_24 => some (Sum.inl (x1_24, z_23))) (fun q => some (Sum.inr (Sum.inr q))) a) (Sum.elim (fun y => y.1 = ((k + 1 : Nat) : Int) ∧ (∀ a, a ≠ 150 → a ≠ 151 → y.2 a = M a) ∧ ∀ k_1 z : Nat, k_1 < k + 1 → (z : Int) < zns N → y.2 150 (3 * k_1 + z) = (tms N q (k + 1)).1 k_1 z ∧ y.2 151 (3 * k_1 + z) = (tms N q (k + 1)).2 k_1 z) (fun a => wp (Sum.elim (fun z_25 => some z_25) (fun q => some q) a) fun r => (∀ a, a ≠ 150 → a ≠ 151 → r a = M a) ∧ ∀ k z : Nat, (k : Int) < N 5 → (z : Int) < zns N → r 150 (3 * k + z) = (tms N q (N 5).toNat).1 k z ∧ r 151 (3 * k + z) = (tms N q (N 5).toNat).2 k z)))) := by
        unfold j_X12_laysTimes_73_14 j_X12_laysTimes_129_14
        rw [xat, xk]
        refine wp_gi (by omega) (by omega) (by omega) (wp_bnd (wp_gi (by omega) (by omega) (by omega) (wp_gi (by omega) (by omega) (by omega) ?_)))
        generalize hm2 : upd2 t 150 (3 * k + z) (tSt N (q k) S L k z) = m2
        have a2 : ∀ a, a ≠ 150 → m2 a = t a := fun a ha => by rw [← hm2, upd2_ne ha]
        have e150 : ∀ j, m2 150 j = if j = 3 * k + z then tSt N (q k) S L k z else t 150 j := fun j => by rw [← hm2, upd2_at]
        have m140 : m2 140 = N := by rw [a2 140 (by decide), t140]
        have m149 : m2 149 k = ((q k : Nat) : Int) := by rw [a2 149 (by decide), j2 149 (by decide) (by decide)]; exact hkq.1
        rw [m149]
        have xw : ix (3 * ((q k : Nat) : Int) + (z : Int)) = 3 * q k + z := by rw [ix_of (by omega) (by omega)]; omega
        have m148 : m2 148 (3 * q k + z) = wkS N (q k) z := by rw [a2 148 (by decide), j2 148 (by decide) (by decide)]; exact hw (q k) z hkq.2 hz'
        refine wp_gi (by omega) (by omega) (by omega) (wp_bnd ?_)
        rw [xw, m148, e150, if_pos rfl]
        have ev : i_max (tSt N (q k) S L k z + wkS N (q k) z) (tExit N S L k z) = tArr N (q k) S L k (z + 1) := rfl
        have fin : ∀ u, u = upd2 m2 151 (3 * k + z) (tArr N (q k) S L k (z + 1)) → ((∀ a, a ≠ 150 → a ≠ 151 → u a = M a) ∧ (∀ j z' : Nat, j < k → (z' : Int) < zns N → u 150 (3 * j + z') = S j z' ∧ u 151 (3 * j + z') = L j z') ∧ ∀ z' : Nat, z' < z + 1 → u 150 (3 * k + z') = tSt N (q k) S L k z' ∧ u 151 (3 * k + z') = tArr N (q k) S L k (z' + 1)) := by
          intro u hu
          subst hu
          refine ⟨fun a h1 h2 => by rw [upd2_ne h2, a2 a h1]; exact j2 a h1 h2, fun j z' hj hz2 => ?_, fun z' h => ?_⟩
          · rw [upd2_ne (by decide), upd2_row (by omega), e150, if_neg (by omega), a2 151 (by decide)]
            exact j3 j z' hj hz2
          · rw [upd2_ne (by decide), upd2_at, e150]
            by_cases e : z' = z
            · rw [if_pos (by omega), if_pos (by omega), e]
              exact ⟨rfl, rfl⟩
            · rw [if_neg (by omega), if_neg (by omega), a2 151 (by decide)]
              exact j4 z' (by omega)
        refine wp_cl1 (wp_eq (X12zones m140 hW) ?_)
        by_cases l : (z : Int) = zns N - 1
        · have ex0 : tExit N S L k z = 0 := by unfold tExit; rw [if_neg (by omega)]
          rw [ex0, imax_0 (by omega)] at ev
          refine wp_ite_t (by ((try simp (disch := omega) only [w32_and, w32_or, w32_shl, w32_shr, w32_xor, ixO, ixO0, ixO1, ixO2, ixO3, ixL0, ixL1, ixL2, ixC, ixB, ixI0, ixI00, ixI1, ixI2, ixI3, upd2_rd, upd2_nd, Nat.reduceEqDiff, Nat.reduceAdd, Nat.add_left_cancel_iff, Nat.add_right_cancel_iff, reduceCtorEq, ↓reduceIte, and_self, and_true, true_and, and_false, false_and, true_or, or_true, false_or, or_false, not_true_eq_false, not_false_eq_true]); (try simp only [w32_em]); (first | done | omega))) (wp_gi (by omega) (by omega) (by omega) (wp_bnd (wp_bnd (wp_some ?_))))
          dsimp only [Sum.elim_inl]
          rw [ev]
          exact ⟨by omega, fin _ rfl⟩
        · refine wp_ite_f (by ((try simp (disch := omega) only [w32_and, w32_or, w32_shl, w32_shr, w32_xor, ixO, ixO0, ixO1, ixO2, ixO3, ixL0, ixL1, ixL2, ixC, ixB, ixI0, ixI00, ixI1, ixI2, ixI3, upd2_rd, upd2_nd, Nat.reduceEqDiff, Nat.reduceAdd, Nat.add_left_cancel_iff, Nat.add_right_cancel_iff, reduceCtorEq, ↓reduceIte, and_self, and_true, true_and, and_false, false_and, true_or, or_true, false_or, or_false, not_true_eq_false, not_false_eq_true]); (try simp only [w32_em]); (first | done | omega))) (wp_cl1 (wp_eq (X12room (S := S) (L := L) m140 hW (by omega) (by omega) (fun j z' hj hz2 => by rw [e150, if_neg (by omega), a2 151 (by decide)]; exact j3 j z' hj hz2)) (wp_cl1 (wp_eq (X12gr (by omega) (by omega)) (wp_gi (by omega) (by omega) (by omega) (wp_bnd (wp_bnd (wp_some ?_))))))))
          dsimp only [Sum.elim_inl]
          rw [ev]
          exact ⟨by omega, fin _ rfl⟩
      have c44 : ∀ (Q : ((Int × Mem) ⊕ ((Mem) ⊕ (Mem))) → Prop) (y0 : Int), y0 = tArr N (q k) S L k z → wp (j_X12_laysTimes_73_14 (k : Int) (z : Int) (3 * (k : Int) + (z : Int)) (3 * (k : Int) + (z : Int)) (tSt N (q k) S L k z) t) Q → wp (j_X12_laysTimes_44_14 (k : Int) (z : Int) (3 * (k : Int) + (z : Int)) y0 t) Q := by
        intro Q y0 hy c73
        subst hy
        unfold j_X12_laysTimes_44_14
        by_cases k0 : k = 0
        · have e : tSt N (q k) S L k z = tArr N (q k) S L k z := by unfold tSt tFree; rw [if_pos k0, imax_0 (by omega)]
          rw [e] at c73
          exact wp_ite_t (by rw [k0]; decide) c73
        · have x3 : ix (3 * (k : Int) + (z : Int) - 3) = 3 * (k - 1) + z := by rw [ix_of (by omega) (by omega)]; omega
          have e : t 151 (3 * (k - 1) + z) = tFree L k z := by unfold tFree; rw [if_neg k0]; exact (j3 (k - 1) z (by omega) hz').2
          refine wp_ite_f (by ((try simp (disch := omega) only [w32_and, w32_or, w32_shl, w32_shr, w32_xor, ixO, ixO0, ixO1, ixO2, ixO3, ixL0, ixL1, ixL2, ixC, ixB, ixI0, ixI00, ixI1, ixI2, ixI3, upd2_rd, upd2_nd, Nat.reduceEqDiff, Nat.reduceAdd, Nat.add_left_cancel_iff, Nat.add_right_cancel_iff, reduceCtorEq, ↓reduceIte, and_self, and_true, true_and, and_false, false_and, true_or, or_true, false_or, or_false, not_true_eq_false, not_false_eq_true]); (try simp only [w32_em]); (first | done | omega))) (wp_gi (by omega) (by omega) (by omega) (wp_cl1 ?_))
          rw [x3, e]
          exact wp_eq (X12gr (by omega) (by omega)) c73
      simp only [s_X12_laysTimes_14]
      refine wp_cl1 (wp_eq (X12zones t140 hW) (wp_ite_t (by ((try simp (disch := omega) only [w32_and, w32_or, w32_shl, w32_shr, w32_xor, ixO, ixO0, ixO1, ixO2, ixO3, ixL0, ixL1, ixL2, ixC, ixB, ixI0, ixI00, ixI1, ixI2, ixI3, upd2_rd, upd2_nd, Nat.reduceEqDiff, Nat.reduceAdd, Nat.add_left_cancel_iff, Nat.add_right_cancel_iff, reduceCtorEq, ↓reduceIte, and_self, and_true, true_and, and_false, false_and, true_or, or_true, false_or, or_false, not_true_eq_false, not_false_eq_true]); (try simp only [w32_em]); (first | done | omega))) (wp_bnd ?_)))
      by_cases z0 : z = 0
      · refine wp_ite_t (by rw [z0]; decide) (c44 _ 0 (by rw [z0]; rfl) c73)
      · have x1 : ix (3 * (k : Int) + (z : Int) - 1) = 3 * k + (z - 1) := by rw [ix_of (by omega) (by omega)]; omega
        have e : t 151 (3 * k + (z - 1)) = tArr N (q k) S L k z := by
          have := (j4 (z - 1) (by omega)).2
          rw [show z - 1 + 1 = z by omega] at this
          exact this
        refine wp_ite_f (by ((try simp (disch := omega) only [w32_and, w32_or, w32_shl, w32_shr, w32_xor, ixO, ixO0, ixO1, ixO2, ixO3, ixL0, ixL1, ixL2, ixC, ixB, ixI0, ixI00, ixI1, ixI2, ixI3, upd2_rd, upd2_nd, Nat.reduceEqDiff, Nat.reduceAdd, Nat.add_left_cancel_iff, Nat.add_right_cancel_iff, reduceCtorEq, ↓reduceIte, and_self, and_true, true_and, and_false, false_and, true_or, or_true, false_or, or_false, not_true_eq_false, not_false_eq_true]); (try simp only [w32_em]); (first | done | omega))) (wp_gi (by omega) (by omega) (by omega) ?_)
        rw [x1]
        exact c44 _ _ e c73
    · rintro ⟨c, t⟩ ⟨j1, j2, j3, j4⟩
      simp only at j1 j2 j3 j4
      subst j1
      have t140 : t 140 = N := by rw [j2 140 (by decide) (by decide), hN]
      simp only [s_X12_laysTimes_14]
      refine wp_cl1 (wp_eq (X12zones t140 hW) (wp_ite_f (by ((try simp (disch := omega) only [w32_and, w32_or, w32_shl, w32_shr, w32_xor, ixO, ixO0, ixO1, ixO2, ixO3, ixL0, ixL1, ixL2, ixC, ixB, ixI0, ixI00, ixI1, ixI2, ixI3, upd2_rd, upd2_nd, Nat.reduceEqDiff, Nat.reduceAdd, Nat.add_left_cancel_iff, Nat.add_right_cancel_iff, reduceCtorEq, ↓reduceIte, and_self, and_true, true_and, and_false, false_and, true_or, or_true, false_or, or_false, not_true_eq_false, not_false_eq_true]); (try simp only [w32_em]); (first | done | omega))) (wp_some ?_)))
      dsimp only [Sum.elim_inl, Sum.elim_inr]
      refine wp_bnd (wp_some ?_)
      dsimp only [Sum.elim_inl]
      refine ⟨by omega, j2, fun j z hj hz => ?_⟩
      by_cases e : j = k
      · subst e
        rw [tms_at.1, tms_at.2, hS, hL]
        exact j4 z (by omega)
      · have a : (tms N q (k + 1)).1 j z = S j z := by rw [← hS]; show (if j = k then _ else _) = _; rw [if_neg e]
        have b : (tms N q (k + 1)).2 j z = L j z := by rw [← hL]; show (if j = k then _ else _) = _; rw [if_neg e]
        rw [a, b]
        exact j3 j z (by omega) hz
  · rintro ⟨c, m⟩ ⟨k1, k2, k4⟩
    simp only at k1 k2 k4
    subst k1
    have e5 : m 140 5 = N 5 := by rw [k2 140 (by decide) (by decide), hN]
    simp only [s_X12_laysTimes_2]
    refine wp_ite_f (by ((try simp (disch := omega) only [w32_and, w32_or, w32_shl, w32_shr, w32_xor, ixO, ixO0, ixO1, ixO2, ixO3, ixL0, ixL1, ixL2, ixC, ixB, ixI0, ixI00, ixI1, ixI2, ixI3, upd2_rd, upd2_nd, Nat.reduceEqDiff, Nat.reduceAdd, Nat.add_left_cancel_iff, Nat.add_right_cancel_iff, reduceCtorEq, ↓reduceIte, and_self, and_true, true_and, and_false, false_and, true_or, or_true, false_or, or_false, not_true_eq_false, not_false_eq_true]); (try simp only [w32_em]); (first | done | omega))) (wp_some ?_)
    dsimp only [Sum.elim_inl, Sum.elim_inr]
    exact wp_some ⟨k2, fun k z hk hz => k4 k z (by omega) hz⟩
