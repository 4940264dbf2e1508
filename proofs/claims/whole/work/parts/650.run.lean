theorem X7exit {th : Nat} {M : Mem} {N : Nat → Int} (hR : HR 1 M N) (hW : WF N) {S L : Nat → Nat → Int} {k z : Nat} (hk : k < 8) (hz : (z : Int) < zns N) (hT : ∀ j z' : Nat, j < k → (z' : Int) < zns N → M (th + 11 + j) z' = S j z' ∧ M (th + 20 + j) z' = L j z') : f_X7_exitOpens th 2 (k : Int) (z : Int) M = some (tExit N S L k z) := by
  have hw2 := hW.2.1
  have cz := zn_rng N
  have hA := hR.1
  have hB := hR.2.1
  simp only [Nat.reduceAdd] at hA hB
  have xz : ix (z : Int) = z := ix_nat (by omega)
  have xz1 : ix ((z : Int) + 1) = z + 1 := by rw [ix_of (by omega) (by omega)]; omega
  apply wp_val
  unfold f_X7_exitOpens tExit
  rw [hA.2.2.2.1, show 2 + 2 = 4 from rfl, xz, xz1]
  by_cases q : ((z + 1 : Nat) : Int) < zns N
  · rw [if_pos q]
    have m4 : M 4 z = N (9 + z) := by
      rcases (show z = 0 ∨ z = 1 by omega) with rfl | rfl
      · exact hB.2.2.2.1
      · exact hB.2.2.2.2
    have cr : 0 ≤ N (9 + z) ∧ N (9 + z) ≤ 4 := by
      rcases (show z = 0 ∨ z = 1 by omega) with rfl | rfl
      · exact ⟨hw2.2.2.1, hw2.2.2.2.1⟩
      · exact ⟨hw2.2.2.2.2.1, hw2.2.2.2.2.2.1⟩
    refine wp_ite_t (by ((try simp (disch := omega) only [w32_and, w32_or, w32_shl, w32_shr, w32_xor, ixO, ixO0, ixO1, ixO2, ixO3, ixL0, ixL1, ixL2, ixC, ixB, ixI0, ixI00, ixI1, ixI2, ixI3, upd2_rd, upd2_nd, Nat.reduceEqDiff, Nat.reduceAdd, Nat.add_left_cancel_iff, Nat.add_right_cancel_iff, reduceCtorEq, ↓reduceIte, and_self, and_true, true_and, and_false, false_and, true_or, or_true, false_or, or_false, not_true_eq_false, not_false_eq_true]); (try simp only [w32_em]); (first | done | omega))) (wp_gi (by omega) (by omega) (by omega) (wp_bnd ?_))
    rw [m4]
    by_cases c0 : N (9 + z) = 0
    · rw [if_pos c0]
      refine wp_ite_t (by rw [c0]; decide) ?_
      unfold tFree
      by_cases k0 : k = 0
      · rw [if_pos k0]
        exact wp_ite_t (by rw [k0]; decide) (wp_some rfl)
      · rw [if_neg k0]
        have xk : ix ((k : Int) - 1) = k - 1 := by rw [ix_of (by omega) (by omega)]; omega
        refine wp_ite_f (by ((try simp (disch := omega) only [w32_and, w32_or, w32_shl, w32_shr, w32_xor, ixO, ixO0, ixO1, ixO2, ixO3, ixL0, ixL1, ixL2, ixC, ixB, ixI0, ixI00, ixI1, ixI2, ixI3, upd2_rd, upd2_nd, Nat.reduceEqDiff, Nat.reduceAdd, Nat.add_left_cancel_iff, Nat.add_right_cancel_iff, reduceCtorEq, ↓reduceIte, and_self, and_true, true_and, and_false, false_and, true_or, or_true, false_or, or_false, not_true_eq_false, not_false_eq_true]); (try simp only [w32_em]); (first | done | omega))) (wp_gi (by omega) (by omega) (by omega) (wp_gi (by omega) (by omega) (by omega) (wp_some ?_)))
        rw [xk, show th + 19 + 1 + (k - 1) = th + 20 + (k - 1) by omega]
        exact (hT (k - 1) (z + 1) (by omega) q).2
    · rw [if_neg c0]
      refine wp_ite_f (by ((try simp (disch := omega) only [w32_and, w32_or, w32_shl, w32_shr, w32_xor, ixO, ixO0, ixO1, ixO2, ixO3, ixL0, ixL1, ixL2, ixC, ixB, ixI0, ixI00, ixI1, ixI2, ixI3, upd2_rd, upd2_nd, Nat.reduceEqDiff, Nat.reduceAdd, Nat.add_left_cancel_iff, Nat.add_right_cancel_iff, reduceCtorEq, ↓reduceIte, and_self, and_true, true_and, and_false, false_and, true_or, or_true, false_or, or_false, not_true_eq_false, not_false_eq_true]); (try simp only [w32_em]); (first | done | omega))) ?_
      by_cases kc : (k : Int) < N (9 + z)
      · rw [if_pos kc]
        exact wp_ite_t (by ((try simp (disch := omega) only [w32_and, w32_or, w32_shl, w32_shr, w32_xor, ixO, ixO0, ixO1, ixO2, ixO3, ixL0, ixL1, ixL2, ixC, ixB, ixI0, ixI00, ixI1, ixI2, ixI3, upd2_rd, upd2_nd, Nat.reduceEqDiff, Nat.reduceAdd, Nat.add_left_cancel_iff, Nat.add_right_cancel_iff, reduceCtorEq, ↓reduceIte, and_self, and_true, true_and, and_false, false_and, true_or, or_true, false_or, or_false, not_true_eq_false, not_false_eq_true]); (try simp only [w32_em]); (first | done | omega))) (wp_some rfl)
      · rw [if_neg kc]
        have xk : ix ((k : Int) - N (9 + z)) = k - (N (9 + z)).toNat := by rw [ix_of (by omega) (by omega)]; omega
        refine wp_ite_f (by ((try simp (disch := omega) only [w32_and, w32_or, w32_shl, w32_shr, w32_xor, ixO, ixO0, ixO1, ixO2, ixO3, ixL0, ixL1, ixL2, ixC, ixB, ixI0, ixI00, ixI1, ixI2, ixI3, upd2_rd, upd2_nd, Nat.reduceEqDiff, Nat.reduceAdd, Nat.add_left_cancel_iff, Nat.add_right_cancel_iff, reduceCtorEq, ↓reduceIte, and_self, and_true, true_and, and_false, false_and, true_or, or_true, false_or, or_false, not_true_eq_false, not_false_eq_true]); (try simp only [w32_em]); (first | done | omega))) (wp_gi (by omega) (by omega) (by omega) (wp_gi (by omega) (by omega) (by omega) (wp_some ?_)))
        rw [xk, show th + 10 + 1 + (k - (N (9 + z)).toNat) = th + 11 + (k - (N (9 + z)).toNat) by omega]
        exact (hT (k - (N (9 + z)).toNat) (z + 1) (by omega) q).1
  · rw [if_neg q]
    exact wp_ite_f (by ((try simp (disch := omega) only [w32_and, w32_or, w32_shl, w32_shr, w32_xor, ixO, ixO0, ixO1, ixO2, ixO3, ixL0, ixL1, ixL2, ixC, ixB, ixI0, ixI00, ixI1, ixI2, ixI3, upd2_rd, upd2_nd, Nat.reduceEqDiff, Nat.reduceAdd, Nat.add_left_cancel_iff, Nat.add_right_cancel_iff, reduceCtorEq, ↓reduceIte, and_self, and_true, true_and, and_false, false_and, true_or, or_true, false_or, or_false, not_true_eq_false, not_false_eq_true]); (try simp only [w32_em]); (first | done | omega))) (wp_some rfl)
theorem X7run {th : Nat} (hth : 40 ≤ th) {M : Mem} {N : Nat → Int} (hR : HR 1 M N) (hW : WF N) {S L : Nat → Nat → Int} {k b : Nat} (hk : k < 8) (hb : b < 8) (hw : ∀ z : Nat, (z : Int) < zns N → M (th + 2 + b) z = wkS N b z) (hT : ∀ j z' : Nat, j < k → (z' : Int) < zns N → M (th + 11 + j) z' = S j z' ∧ M (th + 20 + j) z' = L j z') : wp (f_X7_run th 2 (k : Int) (b : Int) M) (fun r => (∀ a, a ≠ th + 11 + k → a ≠ th + 20 + k → r a = M a) ∧ ∀ z : Nat, (z : Int) < zns N → r (th + 11 + k) z = tSt N b S L k z ∧ r (th + 20 + k) z = tArr N b S L k (z + 1)) := by
  have cz := zn_rng N
  have xk : ix (k : Int) = k := ix_nat (by omega)
  have xb : ix (b : Int) = b := ix_nat (by omega)
  unfold f_X7_run
  refine wp_lpb (wp_forI (fun z y => y.1 = tArr N b S L k z ∧ y.2.1 = (z : Int) ∧ (∀ a, a ≠ th + 11 + k → a ≠ th + 20 + k → y.2.2 a = M a) ∧ ∀ z' : Nat, z' < z → y.2.2 (th + 11 + k) z' = tSt N b S L k z' ∧ y.2.2 (th + 20 + k) z' = tArr N b S L k (z' + 1)) (zns N).toNat ?_ ?_ (Nat.zero_le _) ⟨rfl, rfl, fun _ _ _ => rfl, fun z' hz => by omega⟩)
  · rintro z ⟨c1, c2, m⟩ hz ⟨q1, q2, q3, q4⟩
    simp only at q1 q2 q3 q4
    subst q1
    subst q2
    have hz' : (z : Int) < zns N := by omega
    have hRm : HR 1 m N := HR_congr (fun d d1 d2 => q3 _ (by omega) (by omega)) hR
    have hA := hRm.1
    simp only [Nat.reduceAdd] at hA
    have xz : ix (z : Int) = z := ix_nat (by omega)
    have tail : wp (j_X7_run_34_6 th 2 (k : Int) (b : Int) (tArr N b S L k z) (z : Int) (tFree L k z) m) (Sum.elim (fun y => y.1 = tArr N b S L k (z + 1) ∧ y.2.1 = ((z + 1 : Nat) : Int) ∧ (∀ a, a ≠ th + 11 + k → a ≠ th + 20 + k → y.2.2 a = M a) ∧ ∀ z' : Nat, z' < z + 1 → y.2.2 (th + 11 + k) z' = tSt N b S L k z' ∧ y.2.2 (th + 20 + k) z' = tArr N b S L k (z' + 1)) (fun a => wp (Sum.elim (fun z_20 => some z_20) (fun q => some q) a) fun r => (∀ a, a ≠ th + 11 + k → a ≠ th + 20 + k → r a = M a) ∧ ∀ z : Nat, (z : Int) < zns N → r (th + 11 + k) z = tSt N b S L k z ∧ r (th + 20 + k) z = tArr N b S L k (z + 1))) := by
      unfold j_X7_run_34_6
      rw [xk, xz, xb, show th + 10 + 1 + k = th + 11 + k by omega, show th + 19 + 1 + k = th + 20 + k by omega, show th + 1 + 1 + b = th + 2 + b by omega]
      refine wp_gi (by omega) (by omega) (by omega) (wp_gi (by omega) (by omega) (by omega) (wp_bnd (wp_gi (by omega) (by omega) (by omega) (wp_gi (by omega) (by omega) (by omega) (wp_gi (by omega) (by omega) (by omega) (wp_gi (by omega) (by omega) (by omega) (wp_bnd (wp_gi (by omega) (by omega) (by omega) (wp_cl1 ?_)))))))))
      generalize hm2 : upd2 m (th + 11 + k) z (i_max (tArr N b S L k z) (tFree L k z)) = m2
      have a2 : ∀ a, a ≠ th + 11 + k → m2 a = m a := fun a ha => by rw [← hm2, upd2_ne ha]
      have e2 : m2 (th + 11 + k) z = tSt N b S L k z := by rw [← hm2, upd2_same]; rfl
      have ew : m2 (th + 2 + b) z = wkS N b z := by rw [a2 _ (by omega), q3 _ (by omega) (by omega)]; exact hw z hz'
      have hR2 : HR 1 m2 N := HR_congr (fun d d1 d2 => a2 _ (by omega)) hRm
      refine wp_eq (X7exit (S := S) (L := L) hR2 hW hk hz' (fun j z' hj hz2 => by rw [a2 _ (by omega), a2 _ (by omega), q3 _ (by omega) (by omega), q3 _ (by omega) (by omega)]; exact hT j z' hj hz2)) ?_
      rw [e2, ew]
      refine wp_gi (by omega) (by omega) (by omega) (wp_bnd (wp_gi (by omega) (by omega) (by omega) (wp_gi (by omega) (by omega) (by omega) (wp_bnd (wp_bnd (wp_some ?_))))))
      dsimp only [Sum.elim_inl]
      have ev : i_max (tSt N b S L k z + wkS N b z) (tExit N S L k z) = tArr N b S L k (z + 1) := rfl
      rw [ev]
      refine ⟨by rw [upd2_same], by omega, fun a h1 h2 => by rw [upd2_ne h2, a2 a h1]; exact q3 a h1 h2, fun z' h => ?_⟩
      rw [upd2_ne (show th + 11 + k ≠ th + 20 + k by omega), upd2_at]
      by_cases e : z' = z
      · rw [e, if_pos rfl]
        exact ⟨e2, rfl⟩
      · rw [if_neg e, ← hm2, upd2_row e, upd2_ne (by omega)]
        exact q4 z' (by omega)
    simp only [s_X7_run_6]
    refine wp_ite_t (by rw [hA.2.2.2.1]; ((try simp (disch := omega) only [w32_and, w32_or, w32_shl, w32_shr, w32_xor, ixO, ixO0, ixO1, ixO2, ixO3, ixL0, ixL1, ixL2, ixC, ixB, ixI0, ixI00, ixI1, ixI2, ixI3, upd2_rd, upd2_nd, Nat.reduceEqDiff, Nat.reduceAdd, Nat.add_left_cancel_iff, Nat.add_right_cancel_iff, reduceCtorEq, ↓reduceIte, and_self, and_true, true_and, and_false, false_and, true_or, or_true, false_or, or_false, not_true_eq_false, not_false_eq_true]); (try simp only [w32_em]); (first | done | omega))) ?_
    by_cases k0 : k = 0
    · have tf : tFree L k z = 0 := by unfold tFree; rw [if_pos k0]
      rw [tf] at tail
      exact wp_ite_t (by rw [k0]; decide) tail
    · have xk1 : ix ((k : Int) - 1) = k - 1 := by rw [ix_of (by omega) (by omega)]; omega
      have tf : m (th + 19 + 1 + (k - 1)) z = tFree L k z := by
        unfold tFree
        rw [if_neg k0, show th + 19 + 1 + (k - 1) = th + 20 + (k - 1) by omega, q3 _ (by omega) (by omega)]
        exact (hT (k - 1) z (by omega) hz').2
      refine wp_ite_f (by ((try simp (disch := omega) only [w32_and, w32_or, w32_shl, w32_shr, w32_xor, ixO, ixO0, ixO1, ixO2, ixO3, ixL0, ixL1, ixL2, ixC, ixB, ixI0, ixI00, ixI1, ixI2, ixI3, upd2_rd, upd2_nd, Nat.reduceEqDiff, Nat.reduceAdd, Nat.add_left_cancel_iff, Nat.add_right_cancel_iff, reduceCtorEq, ↓reduceIte, and_self, and_true, true_and, and_false, false_and, true_or, or_true, false_or, or_false, not_true_eq_false, not_false_eq_true]); (try simp only [w32_em]); (first | done | omega))) (wp_gi (by omega) (by omega) (by omega) (wp_gi (by omega) (by omega) (by omega) ?_))
      rw [xk1, xz, tf]
      exact tail
  · rintro ⟨c1, c2, m⟩ ⟨q1, q2, q3, q4⟩
    simp only at q1 q2 q3 q4
    subst q1
    subst q2
    have hRm : HR 1 m N := HR_congr (fun d d1 d2 => q3 _ (by omega) (by omega)) hR
    have hA := hRm.1
    simp only [Nat.reduceAdd] at hA
    simp only [s_X7_run_6]
    refine wp_ite_f (by rw [hA.2.2.2.1]; ((try simp (disch := omega) only [w32_and, w32_or, w32_shl, w32_shr, w32_xor, ixO, ixO0, ixO1, ixO2, ixO3, ixL0, ixL1, ixL2, ixC, ixB, ixI0, ixI00, ixI1, ixI2, ixI3, upd2_rd, upd2_nd, Nat.reduceEqDiff, Nat.reduceAdd, Nat.add_left_cancel_iff, Nat.add_right_cancel_iff, reduceCtorEq, ↓reduceIte, and_self, and_true, true_and, and_false, false_and, true_or, or_true, false_or, or_false, not_true_eq_false, not_false_eq_true]); (try simp only [w32_em]); (first | done | omega))) (wp_some ?_)
    dsimp only [Sum.elim_inl, Sum.elim_inr]
    exact wp_some ⟨q3, fun z hz => q4 z (by omega)⟩
theorem tms_st {N : Nat → Int} {q : Nat → Nat} {j k : Nat} (h : j < k) : ∀ z, (tms N q k).1 j z = (tms N q (j + 1)).1 j z ∧ (tms N q k).2 j z = (tms N q (j + 1)).2 j z := by
  induction k with
  | zero => omega
  | succ k ih =>
    intro z
    by_cases e : j = k
    · rw [e]; exact ⟨rfl, rfl⟩
    · have := ih (by omega) z
      have a : (tms N q (k + 1)).1 j z = (tms N q k).1 j z := by show (if j = k then _ else _) = _; rw [if_neg e]
      have b : (tms N q (k + 1)).2 j z = (tms N q k).2 j z := by show (if j = k then _ else _) = _; rw [if_neg e]
      rw [a, b]
      exact this
theorem tms_at {N : Nat → Int} {q : Nat → Nat} {k z : Nat} : (tms N q (k + 1)).1 k z = tSt N (q k) (tms N q k).1 (tms N q k).2 k z ∧ (tms N q (k + 1)).2 k z = tArr N (q k) (tms N q k).1 (tms N q k).2 k (z + 1) := ⟨by show (if k = k then _ else _) = _; rw [if_pos rfl], by show (if k = k then _ else _) = _; rw [if_pos rfl]⟩
theorem X7all {th : Nat} (hth : 40 ≤ th) {M : Mem} {N : Nat → Int} (hR : HR 1 M N) (hW : WF N) : wp (f_X7_runAll th 1 M) (fun r => (∀ a, a < th + 2 ∨ th + 36 < a → r a = M a) ∧ (∀ b z : Nat, (b : Int) < N 5 → (z : Int) < zns N → r (th + 2 + b) z = wkS N b z) ∧ ∀ k z : Nat, (k : Int) < N 5 → (z : Int) < zns N → r (th + 11 + k) z = (tms N id (N 5).toNat).1 k z ∧ r (th + 20 + k) z = (tms N id (N 5).toNat).2 k z) := by
  have q5 := n5 hW
  unfold f_X7_runAll
  refine wp_cl1 (wp_use (X7work hth hR hW) (fun r hr => wp_lpb ?_))
  obtain ⟨r1, r2⟩ := hr
  refine wp_forI (fun i y => y.1 = (i : Int) ∧ (∀ a, a < th + 2 ∨ th + 36 < a → y.2 a = M a) ∧ (∀ b z : Nat, (b : Int) < N 5 → (z : Int) < zns N → y.2 (th + 2 + b) z = wkS N b z) ∧ ∀ k z : Nat, k < i → (z : Int) < zns N → y.2 (th + 11 + k) z = (tms N id i).1 k z ∧ y.2 (th + 20 + k) z = (tms N id i).2 k z) (N 5).toNat ?_ ?_ (Nat.zero_le _) ⟨rfl, fun a ha => r1 a (by omega), r2, fun k z hk => by omega⟩
  · rintro i ⟨c, m⟩ hi ⟨k1, k2, k3, k4⟩
    simp only at k1 k2 k3 k4
    subst k1
    have hRm : HR 1 m N := HR_fr hth hR (fun a ha => k2 a (by omega))
    have e17 : m 17 0 = N 5 := (HR_E hRm).1
    simp only [s_X7_runAll_7, Nat.reduceAdd]
    refine wp_ite_t (by ((try simp (disch := omega) only [w32_and, w32_or, w32_shl, w32_shr, w32_xor, ixO, ixO0, ixO1, ixO2, ixO3, ixL0, ixL1, ixL2, ixC, ixB, ixI0, ixI00, ixI1, ixI2, ixI3, upd2_rd, upd2_nd, Nat.reduceEqDiff, Nat.reduceAdd, Nat.add_left_cancel_iff, Nat.add_right_cancel_iff, reduceCtorEq, ↓reduceIte, and_self, and_true, true_and, and_false, false_and, true_or, or_true, false_or, or_false, not_true_eq_false, not_false_eq_true]); (try simp only [w32_em]); (first | done | omega))) (wp_cl1 (wp_use (X7run hth hRm hW (k := i) (b := i) (S := (tms N id i).1) (L := (tms N id i).2) (by omega) (by omega) (fun z hz => k3 i z (by omega) hz) (fun j z hj hz => k4 j z hj hz)) (fun g hg => wp_bnd (wp_some ?_))))
    obtain ⟨g1, g2⟩ := hg
    dsimp only [Sum.elim_inl]
    refine ⟨by omega, fun a ha => by rw [g1 a (by omega) (by omega)]; exact k2 a ha, fun b z hb hz => by rw [g1 _ (by omega) (by omega)]; exact k3 b z hb hz, fun k z hk hz => ?_⟩
    by_cases e : k = i
    · subst e
      rw [tms_at.1, tms_at.2]
      exact g2 z hz
    · have a : (tms N id (i + 1)).1 k z = (tms N id i).1 k z := by show (if k = i then _ else _) = _; rw [if_neg e]
      have b : (tms N id (i + 1)).2 k z = (tms N id i).2 k z := by show (if k = i then _ else _) = _; rw [if_neg e]
      rw [a, b, g1 _ (by omega) (by omega), g1 _ (by omega) (by omega)]
      exact k4 k z (by omega) hz
  · rintro ⟨c, m⟩ ⟨k1, k2, k3, k4⟩
    simp only at k1 k2 k3 k4
    subst k1
    have hRm : HR 1 m N := HR_fr hth hR (fun a ha => k2 a (by omega))
    have e17 : m 17 0 = N 5 := (HR_E hRm).1
    simp only [s_X7_runAll_7, Nat.reduceAdd]
    refine wp_ite_f (by ((try simp (disch := omega) only [w32_and, w32_or, w32_shl, w32_shr, w32_xor, ixO, ixO0, ixO1, ixO2, ixO3, ixL0, ixL1, ixL2, ixC, ixB, ixI0, ixI00, ixI1, ixI2, ixI3, upd2_rd, upd2_nd, Nat.reduceEqDiff, Nat.reduceAdd, Nat.add_left_cancel_iff, Nat.add_right_cancel_iff, reduceCtorEq, ↓reduceIte, and_self, and_true, true_and, and_false, false_and, true_or, or_true, false_or, or_false, not_true_eq_false, not_false_eq_true]); (try simp only [w32_em]); (first | done | omega))) (wp_some ?_)
    dsimp only [Sum.elim_inl, Sum.elim_inr]
    exact wp_some ⟨k2, k3, fun k z hk hz => k4 k z (by omega) hz⟩
