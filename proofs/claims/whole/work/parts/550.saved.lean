/-- an order is in state 1 just if a batch has it -/
theorem st_bF {N : Nat → Int} (hW : WF N) {o : Nat} (ho : (o : Int) < N 4) : N (110 + 22 * o) = 1 ↔ bF N o (N 5).toNat ≠ -1 := by
  have q5 := n5 hW
  rcases bF_spec (N := N) (o := o) (n := (N 5).toNat) with ⟨e1, e2⟩ | ⟨b, e1, e2, e3⟩
  · constructor
    · intro h
      obtain ⟨b, hb, q⟩ := hW.2.2.2.2.2.2 o ho h
      rw [e2 b (by omega)] at q
      cases q
    · intro h; exact absurd e1 h
  · constructor
    · intro _; omega
    · intro _
      exact ((hW.2.2.2.2.2.1 b (by omega)).2.2.1 o e3).2
theorem one_NN {N : Nat → Int} (hW : WF N) {o : Nat} (ho : (o : Int) < N 4) : NN (i_shl 1 (o : Int)) ∧ ∀ k, (N 4).toNat ≤ k → bit (i_shl 1 (o : Int)) k = false := by
  have q4 := n4 hW
  have s := shl_bits (show o < 31 by omega)
  exact ⟨s.1, fun k hk => by rw [s.2]; simp; omega⟩
def svB (N : Nat → Int) : Int := sm (fun b => lfS N (N (461 + b)) (N 6)) (N 5).toNat
def svO (N : Nat → Int) (n : Nat) : Int := sm (fun o => if N (110 + 22 * o) = 1 then lfS N (i_shl 1 (o : Int)) (N 6) else 0) n
theorem o_34 {M : Mem} (hI : Inv M) (p1 p2 p3 p4 : Int) : Ow (L_34 p1 p2 p3 p4 M) M := by
  have hR := hI.1; have hW := hI.2.1; have hw := hI.2.1.1; have hw2 := hI.2.1.2.1; have hw3 := hI.2.1.2.2.1; obtain ⟨hA, hB, hC⟩ := hI.1; have hC3 := hC.1.1; have hC4 := hC.2.1.1; have hC5 := hC.2.2.1; simp only [Nat.reduceAdd] at hA hB hC3 hC4 hC5; have hz : M 2 3 = 1 ∧ M 140 7 = -1 ∨ M 2 3 = 2 ∧ M 140 7 ≠ -1 ∧ M 140 8 = -1 ∨ M 2 3 = 3 ∧ M 140 7 ≠ -1 ∧ M 140 8 ≠ -1 := zn3 hA.2.2.2.1; show wp _ _
  have q4 := n4 hW
  have q5 := n5 hW
  simp only [L_34, f_X11_savedDistance, f_X12_savedDistance]
  refine wp_cl2 (wp_lpb ?_)
  refine wp_forI (fun i y => y.1 = - sm (fun b => lfS (M 140) (M 140 (461 + b)) (M 140 6)) i ∧ y.2.1 = (i : Int) ∧ ∀ a, a < 40 ∨ 139 ≤ a → y.2.2 a = M a) (M 140 5).toNat ?_ ?_ (Nat.zero_le _) ⟨by simp [sm], rfl, fun _ _ => rfl⟩
  · rintro i ⟨y1, y2, m⟩ hi ⟨k1, k2, k3⟩
    simp only at k1 k2 k3
    subst k1
    subst k2
    have hb : (i : Int) < M 140 5 := by omega
    have bm := bmem hW hb
    have hRm : HR 1 m (M 140) := HR_fr (th := 40) (by omega) hR (fun a ha => k3 a (by omega))
    have eb : m 18 i = M 140 (461 + i) := (HR_E hRm).2 i hb
    have e17 : m 17 0 = M 140 5 := (HR_E hRm).1
    have e25 : m 2 5 = M 140 6 := hRm.1.2.2.2.2.1
    simp only [s_X11_savedDistance_4]
    simp (disch := omega) only [ixO, ixO0, ixO1, ixO2, ixO3, ixL0, ixL1, ixL2, ixC, ixB, ixI0, ixI00, ixI1, ixI2, ixI3, eb, e25]
    refine wp_ite_t (by ((try simp (disch := omega) only [w32_and, w32_or, w32_shl, w32_shr, w32_xor, ixO, ixO0, ixO1, ixO2, ixO3, ixL0, ixL1, ixL2, ixC, ixB, ixI0, ixI00, ixI1, ixI2, ixI3, upd2_rd, upd2_nd, Nat.reduceEqDiff, Nat.reduceAdd, Nat.add_left_cancel_iff, Nat.add_right_cancel_iff, reduceCtorEq, ↓reduceIte, and_self, and_true, true_and, and_false, false_and, true_or, or_true, false_or, or_false, not_true_eq_false, not_false_eq_true]); (try simp only [w32_em]); (first | done | omega))) (wp_gi (by omega) (by omega) (by omega) (wp_cl2 (wp_use (X6for (th := 40) (by omega) hRm hW bm.1 (by omega)) (fun g hg => wp_bnd (wp_bnd (wp_some ?_))))))
    dsimp only [Sum.elim_inl]
    refine ⟨by simp only [sm]; rw [hg.1]; omega, by omega, fun a ha => by rw [hg.2 a (by omega)]; exact k3 a ha⟩
  · rintro ⟨y1, y2, m⟩ ⟨k1, k2, k3⟩
    simp only at k1 k2 k3
    subst k1
    subst k2
    have hRm : HR 1 m (M 140) := HR_fr (th := 40) (by omega) hR (fun a ha => k3 a (by omega))
    have e17 : m 17 0 = M 140 5 := (HR_E hRm).1
    simp only [s_X11_savedDistance_4]
    refine wp_ite_f (by ((try simp (disch := omega) only [w32_and, w32_or, w32_shl, w32_shr, w32_xor, ixO, ixO0, ixO1, ixO2, ixO3, ixL0, ixL1, ixL2, ixC, ixB, ixI0, ixI00, ixI1, ixI2, ixI3, upd2_rd, upd2_nd, Nat.reduceEqDiff, Nat.reduceAdd, Nat.add_left_cancel_iff, Nat.add_right_cancel_iff, reduceCtorEq, ↓reduceIte, and_self, and_true, true_and, and_false, false_and, true_or, or_true, false_or, or_false, not_true_eq_false, not_false_eq_true]); (try simp only [w32_em]); (first | done | omega))) (wp_some ?_)
    dsimp only [Sum.elim_inl, Sum.elim_inr]
    refine wp_lpb ?_
    refine wp_forI (fun i y => y.1 = - svB (M 140) + svO (M 140) i ∧ y.2.1 = (i : Int) ∧ ∀ a, a < 40 ∨ 139 ≤ a → y.2.2 a = M a) (M 140 4).toNat ?_ ?_ (Nat.zero_le _) ⟨by simp [svO, sm]; rfl, rfl, k3⟩
    · rintro i ⟨y1, y2, m2⟩ hi ⟨l1, l2, l3⟩
      simp only at l1 l2 l3
      subst l1
      subst l2
      have ho : (i : Int) < M 140 4 := by omega
      have on := one_NN hW ho
      have hRm2 : HR 1 m2 (M 140) := HR_fr (th := 40) (by omega) hR (fun a ha => l3 a (by omega))
      have e10 : m2 10 0 = M 140 4 := (HR_D hRm2).1
      have e12 : m2 12 i = M 140 (110 + 22 * i) := ((HR_D hRm2).2.2.2 i ho).2.1
      have e25 : m2 2 5 = M 140 6 := hRm2.1.2.2.2.2.1
      have wo := hW.2.2.2.2.1 i ho
      unfold WFo at wo
      simp only [s_X11_savedDistance_62, j_X11_savedDistance_119_62]
      simp (disch := omega) only [ixO, ixO0, ixO1, ixO2, ixO3, ixL0, ixL1, ixL2, ixC, ixB, ixI0, ixI00, ixI1, ixI2, ixI3, e12, e25]
      refine wp_ite_t (by ((try simp (disch := omega) only [w32_and, w32_or, w32_shl, w32_shr, w32_xor, ixO, ixO0, ixO1, ixO2, ixO3, ixL0, ixL1, ixL2, ixC, ixB, ixI0, ixI00, ixI1, ixI2, ixI3, upd2_rd, upd2_nd, Nat.reduceEqDiff, Nat.reduceAdd, Nat.add_left_cancel_iff, Nat.add_right_cancel_iff, reduceCtorEq, ↓reduceIte, and_self, and_true, true_and, and_false, false_and, true_or, or_true, false_or, or_false, not_true_eq_false, not_false_eq_true]); (try simp only [w32_em]); (first | done | omega))) (wp_gi (by omega) (by omega) (by omega) ?_)
      by_cases c : M 140 (110 + 22 * i) = 1
      · refine wp_ite_t (by ((try simp (disch := omega) only [w32_and, w32_or, w32_shl, w32_shr, w32_xor, ixO, ixO0, ixO1, ixO2, ixO3, ixL0, ixL1, ixL2, ixC, ixB, ixI0, ixI00, ixI1, ixI2, ixI3, upd2_rd, upd2_nd, Nat.reduceEqDiff, Nat.reduceAdd, Nat.add_left_cancel_iff, Nat.add_right_cancel_iff, reduceCtorEq, ↓reduceIte, and_self, and_true, true_and, and_false, false_and, true_or, or_true, false_or, or_false, not_true_eq_false, not_false_eq_true]); (try simp only [w32_em]); (first | done | omega))) (wp_cl2 (wp_use (X6for (th := 40) (by omega) hRm2 hW on.1 (by omega)) (fun g hg => wp_bnd (wp_bnd (wp_some ?_)))))
        dsimp only [Sum.elim_inl]
        refine ⟨?_, by omega, fun a ha => by rw [hg.2 a (by omega)]; exact l3 a ha⟩
        rw [hg.1]
        unfold svO
        simp only [sm, if_pos c]
        omega
      · refine wp_ite_f (by ((try simp (disch := omega) only [w32_and, w32_or, w32_shl, w32_shr, w32_xor, ixO, ixO0, ixO1, ixO2, ixO3, ixL0, ixL1, ixL2, ixC, ixB, ixI0, ixI00, ixI1, ixI2, ixI3, upd2_rd, upd2_nd, Nat.reduceEqDiff, Nat.reduceAdd, Nat.add_left_cancel_iff, Nat.add_right_cancel_iff, reduceCtorEq, ↓reduceIte, and_self, and_true, true_and, and_false, false_and, true_or, or_true, false_or, or_false, not_true_eq_false, not_false_eq_true]); (try simp only [w32_em]); (first | done | omega))) (wp_bnd (wp_some ?_))
        dsimp only [Sum.elim_inl]
        refine ⟨?_, by omega, l3⟩
        unfold svO
        simp only [sm, if_neg c]
        omega
    · rintro ⟨y1, y2, t⟩ ⟨l1, l2, l3⟩
      simp only at l1 l2 l3
      subst l1
      subst l2
      have hRm2 : HR 1 t (M 140) := HR_fr (th := 40) (by omega) hR (fun a ha => l3 a (by omega))
      have e10 : t 10 0 = M 140 4 := (HR_D hRm2).1
      have e140 : t 140 = M 140 := l3 140 (by omega)
      simp only [s_X11_savedDistance_62]
      refine wp_ite_f (by ((try simp (disch := omega) only [w32_and, w32_or, w32_shl, w32_shr, w32_xor, ixO, ixO0, ixO1, ixO2, ixO3, ixL0, ixL1, ixL2, ixC, ixB, ixI0, ixI00, ixI1, ixI2, ixI3, upd2_rd, upd2_nd, Nat.reduceEqDiff, Nat.reduceAdd, Nat.add_left_cancel_iff, Nat.add_right_cancel_iff, reduceCtorEq, ↓reduceIte, and_self, and_true, true_and, and_false, false_and, true_or, or_true, false_or, or_false, not_true_eq_false, not_false_eq_true]); (try simp only [w32_em]); (first | done | omega))) (wp_some ?_)
      dsimp only [Sum.elim_inl, Sum.elim_inr]
      refine wp_some (wp_cl2 (wp_bnd ?_))
      simp only
      generalize hM3 : upd2 t 139 0 0 = M3
      have m140 : M3 140 = M 140 := by rw [← hM3, upd2_ne (by decide), e140]
      refine wp_lpb ?_
      refine wp_forI (fun i y => y.1 = svO (M 140) i ∧ y.2.1 = (i : Int) ∧ (∀ a, a ≠ 139 → a ≠ 144 → a ≠ 145 → a ≠ 146 → y.2.2 a = M3 a) ∧ ∀ k, k ≠ 8 → k ≠ 9 → k ≠ 10 → y.2.2 139 k = M3 139 k) (M 140 4).toNat ?_ ?_ (Nat.zero_le _) ⟨rfl, rfl, fun _ _ _ _ _ => rfl, fun _ _ _ _ => rfl⟩
      · rintro i ⟨y1, y2, m2⟩ hi ⟨v1, v2, v3, v4⟩
        simp only at v1 v2 v3 v4
        subst v1
        subst v2
        have ho : (i : Int) < M 140 4 := by omega
        have on := one_NN hW ho
        have n140 : m2 140 = M 140 := by rw [v3 140 (by decide) (by decide) (by decide) (by decide), m140]
        have e4 : m2 140 4 = M 140 4 := by rw [n140]
        have e6 : m2 140 6 = M 140 6 := by rw [n140]
        have sb := st_bF hW ho
        have bs := bF_spec (N := M 140) (o := i) (n := (M 140 5).toNat)
        simp only [s_X12_savedDistance_9, j_X12_savedDistance_47_9]
        refine wp_ite_t (by ((try simp (disch := omega) only [w32_and, w32_or, w32_shl, w32_shr, w32_xor, ixO, ixO0, ixO1, ixO2, ixO3, ixL0, ixL1, ixL2, ixC, ixB, ixI0, ixI00, ixI1, ixI2, ixI3, upd2_rd, upd2_nd, Nat.reduceEqDiff, Nat.reduceAdd, Nat.add_left_cancel_iff, Nat.add_right_cancel_iff, reduceCtorEq, ↓reduceIte, and_self, and_true, true_and, and_false, false_and, true_or, or_true, false_or, or_false, not_true_eq_false, not_false_eq_true]); (try simp only [w32_em]); (first | done | omega))) (wp_cl1 (wp_eq (X12of n140 hW (by omega)) ?_))
        by_cases c : M 140 (110 + 22 * i) = 1
        · have nb := sb.mp c
          have rb : 0 ≤ bF (M 140) i (M 140 5).toNat ∧ bF (M 140) i (M 140 5).toNat ≤ 8 := by
            rcases bs with ⟨e, -⟩ | ⟨b, e1, e2, -⟩
            · exact absurd e nb
            · omega
          refine wp_ite_f (by ((try simp (disch := omega) only [w32_and, w32_or, w32_shl, w32_shr, w32_xor, ixO, ixO0, ixO1, ixO2, ixO3, ixL0, ixL1, ixL2, ixC, ixB, ixI0, ixI00, ixI1, ixI2, ixI3, upd2_rd, upd2_nd, Nat.reduceEqDiff, Nat.reduceAdd, Nat.add_left_cancel_iff, Nat.add_right_cancel_iff, reduceCtorEq, ↓reduceIte, and_self, and_true, true_and, and_false, false_and, true_or, or_true, false_or, or_false, not_true_eq_false, not_false_eq_true]); (try simp only [w32_em]); (first | done | omega))) (wp_cl2 (wp_use (X12routes' (N := M 140) n140 hW rfl on.1 on.2 e6 (by omega)) (fun g hg => wp_bnd (wp_bnd (wp_some ?_)))))
          dsimp only [Sum.elim_inl]
          refine ⟨?_, by omega, fun a a1 a2 a3 a4 => by rw [hg.2.1 a a1 a2 a3 a4]; exact v3 a a1 a2 a3 a4, fun k k1 k2 k3 => by rw [hg.2.2 k k1 k2 k3]; exact v4 k k1 k2 k3⟩
          rw [hg.1]
          unfold svO
          simp only [sm, if_pos c]
        · have nb : bF (M 140) i (M 140 5).toNat = -1 := by
            rcases bs with ⟨e, -⟩ | ⟨b, e1, e2, -⟩
            · exact e
            · exact absurd (sb.mpr (by omega)) c
          refine wp_ite_t (by rw [nb]; decide) (wp_bnd (wp_bnd (wp_some ?_)))
          dsimp only [Sum.elim_inl]
          refine ⟨?_, by omega, v3, v4⟩
          unfold svO
          simp only [sm, if_neg c]
      · rintro ⟨y1, y2, m2⟩ ⟨v1, v2, v3, v4⟩
        simp only at v1 v2 v3 v4
        subst v1
        subst v2
        have n140 : m2 140 = M 140 := by rw [v3 140 (by decide) (by decide) (by decide) (by decide), m140]
        have e4 : m2 140 4 = M 140 4 := by rw [n140]
        simp only [s_X12_savedDistance_9]
        refine wp_ite_f (by ((try simp (disch := omega) only [w32_and, w32_or, w32_shl, w32_shr, w32_xor, ixO, ixO0, ixO1, ixO2, ixO3, ixL0, ixL1, ixL2, ixC, ixB, ixI0, ixI00, ixI1, ixI2, ixI3, upd2_rd, upd2_nd, Nat.reduceEqDiff, Nat.reduceAdd, Nat.add_left_cancel_iff, Nat.add_right_cancel_iff, reduceCtorEq, ↓reduceIte, and_self, and_true, true_and, and_false, false_and, true_or, or_true, false_or, or_false, not_true_eq_false, not_false_eq_true]); (try simp only [w32_em]); (first | done | omega))) (wp_some ?_)
        dsimp only [Sum.elim_inl, Sum.elim_inr]
        refine wp_cl2 ?_
        unfold f_X12_allRoutes
        refine wp_lpb ?_
        refine wp_forI (fun i y => y.1 = sm (fun b => lfS (M 140) (M 140 (461 + b)) (M 140 6)) i ∧ y.2.1 = (i : Int) ∧ (∀ a, a ≠ 139 → a ≠ 144 → a ≠ 145 → a ≠ 146 → y.2.2 a = M3 a) ∧ ∀ k, k ≠ 8 → k ≠ 9 → k ≠ 10 → y.2.2 139 k = M3 139 k) (M 140 5).toNat ?_ ?_ (Nat.zero_le _) ⟨rfl, rfl, v3, v4⟩
        · rintro i ⟨y1, y2, m3⟩ hi ⟨w1, w2, w3, w4⟩
          simp only at w1 w2 w3 w4
          subst w1
          subst w2
          have hb : (i : Int) < M 140 5 := by omega
          have bm := bmem hW hb
          have k140 : m3 140 = M 140 := by rw [w3 140 (by decide) (by decide) (by decide) (by decide), m140]
          have e5 : m3 140 5 = M 140 5 := by rw [k140]
          have e6 : m3 140 6 = M 140 6 := by rw [k140]
          simp only [s_X12_allRoutes_4]
          simp (disch := omega) only [ixO, ixO0, ixO1, ixO2, ixO3, ixL0, ixL1, ixL2, ixC, ixB, ixI0, ixI00, ixI1, ixI2, ixI3]
          refine wp_ite_t (by ((try simp (disch := omega) only [w32_and, w32_or, w32_shl, w32_shr, w32_xor, ixO, ixO0, ixO1, ixO2, ixO3, ixL0, ixL1, ixL2, ixC, ixB, ixI0, ixI00, ixI1, ixI2, ixI3, upd2_rd, upd2_nd, Nat.reduceEqDiff, Nat.reduceAdd, Nat.add_left_cancel_iff, Nat.add_right_cancel_iff, reduceCtorEq, ↓reduceIte, and_self, and_true, true_and, and_false, false_and, true_or, or_true, false_or, or_false, not_true_eq_false, not_false_eq_true]); (try simp only [w32_em]); (first | done | omega))) (wp_gi (by omega) (by omega) (by omega) (wp_cl2 (wp_use (X12routes' (N := M 140) k140 hW (by rw [k140]) bm.1 bm.2 e6 (by omega)) (fun g hg => wp_bnd (wp_bnd (wp_some ?_))))))
          dsimp only [Sum.elim_inl]
          refine ⟨by simp only [sm]; rw [hg.1], by omega, fun a a1 a2 a3 a4 => by rw [hg.2.1 a a1 a2 a3 a4]; exact w3 a a1 a2 a3 a4, fun k k1 k2 k3 => by rw [hg.2.2 k k1 k2 k3]; exact w4 k k1 k2 k3⟩
        · rintro ⟨y1, y2, u⟩ ⟨w1, w2, w3, w4⟩
          simp only at w1 w2 w3 w4
          subst w1
          subst w2
          have k140 : u 140 = M 140 := by rw [w3 140 (by decide) (by decide) (by decide) (by decide), m140]
          have e5 : u 140 5 = M 140 5 := by rw [k140]
          simp only [s_X12_allRoutes_4]
          refine wp_ite_f (by ((try simp (disch := omega) only [w32_and, w32_or, w32_shl, w32_shr, w32_xor, ixO, ixO0, ixO1, ixO2, ixO3, ixL0, ixL1, ixL2, ixC, ixB, ixI0, ixI00, ixI1, ixI2, ixI3, upd2_rd, upd2_nd, Nat.reduceEqDiff, Nat.reduceAdd, Nat.add_left_cancel_iff, Nat.add_right_cancel_iff, reduceCtorEq, ↓reduceIte, and_self, and_true, true_and, and_false, false_and, true_or, or_true, false_or, or_false, not_true_eq_false, not_false_eq_true]); (try simp only [w32_em]); (first | done | omega))) (wp_some ?_)
          dsimp only [Sum.elim_inl, Sum.elim_inr]
          refine wp_some (wp_some (wp_ite_t ?_ (wp_some ?_)))
          · simp only
            unfold svB
            rw [show - sm (fun b => lfS (M 140) (M 140 (461 + b)) (M 140 6)) (M 140 5).toNat + svO (M 140) (M 140 4).toNat = svO (M 140) (M 140 4).toNat - sm (fun b => lfS (M 140) (M 140 (461 + b)) (M 140 6)) (M 140 5).toNat by omega]
          · simp only
            have sm1 : Sm M u := (Sm_cr l3).tr ((Sm.up (M := t) (a := 139) (i := 0) (v := 0) rfl).tr (by
              rw [hM3]
              refine Sm_rf (fun a ha => ?_) (fun k hk => w4 k (by omega) (by omega) (by omega))
              rcases Nat.lt_or_ge a 139 with h | h
              · exact w3 a (by omega) (by omega) (by omega) (by omega)
              · by_cases h9 : a = 139
                · omega
                · exact w3 a h9 (by omega) (by omega) (by omega)))
            exact ⟨Inv_Sm sm1 hI, sm1.1 37 rfl⟩
