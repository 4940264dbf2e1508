-- ===== late orders, tardiness =====
/-- when the batch at position k of the sequence q is complete -/
def cmq (N : Nat → Int) (q : Nat → Nat) (k : Nat) : Int := (tms N q (N 5).toNat).2 k (zns N - 1).toNat
theorem cmq_rng {N : Nat → Int} (hW : WF N) {q : Nat → Nat} {k : Nat} : 0 ≤ cmq N q k ∧ cmq N q k ≤ 72000 := by
  have q5 := n5 hW
  have cz := zn_rng N
  have h := (tms_rng hW (q := q) (N 5).toNat q5.2).2 k (zns N - 1).toNat (by omega)
  unfold cmq
  omega
theorem cmp_rng {N : Nat → Int} (hW : WF N) {k : Nat} : 0 ≤ cmp N k ∧ cmp N k ≤ 72000 := cmq_rng hW (q := id)
theorem HR_O {M : Mem} {N : Nat → Int} (hR : HR 1 M N) : M 10 0 = N 4 ∧ ∀ o : Nat, (o : Int) < N 4 → M 11 o = N (109 + 22 * o) ∧ M 12 o = N (110 + 22 * o) := by
  have hC := hR.2.2
  have d4 := hC.2.1.1
  have hO := hC.2.1.2.2.2
  simp only [Nat.reduceAdd] at d4 hO
  exact ⟨d4, fun o ho => ⟨(hO o ho).1, (hO o ho).2.1⟩⟩
theorem X5due {M : Mem} {N : Nat → Int} (hR : HR 1 M N) (hW : WF N) {m c : Int} (hm : NN m) (hc : 0 ≤ c ∧ c ≤ 72000) : wp (f_X5_dueBefore 10 m c M) (fun r => NN r ∧ ∀ k, bit r k = true ↔ k < (N 4).toNat ∧ bit m k = true ∧ N (109 + 22 * k) < c) := by
  have q4 := n4 hW
  obtain ⟨d4, hO⟩ := HR_O hR
  unfold f_X5_dueBefore
  refine wp_lpb (wp_forI (fun i x => x.2 = (i : Int) ∧ NN x.1 ∧ ∀ k, bit x.1 k = true ↔ k < i ∧ bit m k = true ∧ N (109 + 22 * k) < c) (N 4).toNat ?_ ?_ (Nat.zero_le _) ⟨rfl, ⟨by decide, by decide⟩, fun k => by simp [bit_zero]⟩)
  · rintro i ⟨x, y⟩ hi ⟨h1, h2, h3⟩
    simp only at h1 h2 h3
    subst h1
    have hi' : (i : Int) < N 4 := by omega
    have xi : ix (i : Int) = i := ix_nat (by omega)
    have e11 : M 11 i = N (109 + 22 * i) := (hO i hi').1
    have hWO := hW.2.2.2.2.1 i hi'
    unfold WFo at hWO
    simp only [s_X5_dueBefore_5, j_X5_dueBefore_41_5, Nat.reduceAdd, xi, e11]
    cases q : bit m i
    · have hq := tst_f hm (show i < 31 by omega) q
      refine wp_ite_t (by ((try simp (disch := omega) only [w32_and, w32_or, w32_shl, w32_shr, w32_xor, ixO, ixO0, ixO1, ixO2, ixO3, ixL0, ixL1, ixL2, ixC, ixB, ixI0, ixI00, ixI1, ixI2, ixI3, upd2_rd, upd2_nd, Nat.reduceEqDiff, Nat.reduceAdd, Nat.add_left_cancel_iff, Nat.add_right_cancel_iff, reduceCtorEq, ↓reduceIte, and_self, and_true, true_and, and_false, false_and, true_or, or_true, false_or, or_false, not_true_eq_false, not_false_eq_true]); (try simp only [w32_em]); (first | done | omega))) (wp_ite_t (by rw [hq]; decide) (wp_bnd (wp_some ?_)))
      dsimp only [Sum.elim_inl]
      refine ⟨by omega, h2, fun k => ?_⟩
      rw [h3]
      constructor
      · rintro ⟨a, b⟩
        exact ⟨by omega, b⟩
      · rintro ⟨a, b, c⟩
        by_cases ek : k = i
        · rw [ek, q] at b; cases b
        · exact ⟨by omega, b, c⟩
    · have hq := tst_t hm (show i < 31 by omega) q
      refine wp_ite_t (by ((try simp (disch := omega) only [w32_and, w32_or, w32_shl, w32_shr, w32_xor, ixO, ixO0, ixO1, ixO2, ixO3, ixL0, ixL1, ixL2, ixC, ixB, ixI0, ixI00, ixI1, ixI2, ixI3, upd2_rd, upd2_nd, Nat.reduceEqDiff, Nat.reduceAdd, Nat.add_left_cancel_iff, Nat.add_right_cancel_iff, reduceCtorEq, ↓reduceIte, and_self, and_true, true_and, and_false, false_and, true_or, or_true, false_or, or_false, not_true_eq_false, not_false_eq_true]); (try simp only [w32_em]); (first | done | omega))) (wp_ite_f (by rw [hq]; decide) (wp_gi (by omega) (by omega) (by omega) ?_))
      by_cases hd : N (109 + 22 * i) < c
      · refine wp_ite_t (by ((try simp (disch := omega) only [w32_and, w32_or, w32_shl, w32_shr, w32_xor, ixO, ixO0, ixO1, ixO2, ixO3, ixL0, ixL1, ixL2, ixC, ixB, ixI0, ixI00, ixI1, ixI2, ixI3, upd2_rd, upd2_nd, Nat.reduceEqDiff, Nat.reduceAdd, Nat.add_left_cancel_iff, Nat.add_right_cancel_iff, reduceCtorEq, ↓reduceIte, and_self, and_true, true_and, and_false, false_and, true_or, or_true, false_or, or_false, not_true_eq_false, not_false_eq_true]); (try simp only [w32_em]); (first | done | omega))) (wp_bnd (wp_bnd (wp_some ?_)))
        obtain ⟨s1, s2⟩ := shl_bits (show i < 31 by omega)
        obtain ⟨o1, o2⟩ := or_bits h2 s1
        dsimp only [Sum.elim_inl]
        refine ⟨by omega, o1, fun k => ?_⟩
        rw [o2, s2, Bool.or_eq_true, decide_eq_true_eq, h3]
        constructor
        · rintro (⟨a, b⟩ | rfl)
          · exact ⟨by omega, b⟩
          · exact ⟨by omega, q, hd⟩
        · rintro ⟨a, b⟩
          by_cases ek : k = i
          · exact Or.inr ek
          · exact Or.inl ⟨by omega, b⟩
      · refine wp_ite_f (by ((try simp (disch := omega) only [w32_and, w32_or, w32_shl, w32_shr, w32_xor, ixO, ixO0, ixO1, ixO2, ixO3, ixL0, ixL1, ixL2, ixC, ixB, ixI0, ixI00, ixI1, ixI2, ixI3, upd2_rd, upd2_nd, Nat.reduceEqDiff, Nat.reduceAdd, Nat.add_left_cancel_iff, Nat.add_right_cancel_iff, reduceCtorEq, ↓reduceIte, and_self, and_true, true_and, and_false, false_and, true_or, or_true, false_or, or_false, not_true_eq_false, not_false_eq_true]); (try simp only [w32_em]); (first | done | omega))) (wp_bnd (wp_some ?_))
        dsimp only [Sum.elim_inl]
        refine ⟨by omega, h2, fun k => ?_⟩
        rw [h3]
        constructor
        · rintro ⟨a, b⟩
          exact ⟨by omega, b⟩
        · rintro ⟨a, b, c⟩
          by_cases ek : k = i
          · rw [ek] at c; exact absurd c hd
          · exact ⟨by omega, b, c⟩
  · rintro ⟨x, y⟩ ⟨h1, h2, h3⟩
    simp only at h1 h2 h3
    subst h1
    simp only [s_X5_dueBefore_5]
    refine wp_ite_f (by ((try simp (disch := omega) only [w32_and, w32_or, w32_shl, w32_shr, w32_xor, ixO, ixO0, ixO1, ixO2, ixO3, ixL0, ixL1, ixL2, ixC, ixB, ixI0, ixI00, ixI1, ixI2, ixI3, upd2_rd, upd2_nd, Nat.reduceEqDiff, Nat.reduceAdd, Nat.add_left_cancel_iff, Nat.add_right_cancel_iff, reduceCtorEq, ↓reduceIte, and_self, and_true, true_and, and_false, false_and, true_or, or_true, false_or, or_false, not_true_eq_false, not_false_eq_true]); (try simp only [w32_em]); (first | done | omega))) (wp_some ?_)
    dsimp only [Sum.elim_inl, Sum.elim_inr]
    exact wp_some ⟨h2, h3⟩
/-- an order that its batch makes late -/
def ltB (N : Nat → Int) (n k : Nat) : Prop := ∃ b, b < n ∧ bit (N (461 + b)) k = true ∧ N (109 + 22 * k) < cmp N b
theorem X12due {M : Mem} {N : Nat → Int} (hN : M 140 = N) {i : Nat} (hi : i < 16) : f_X12_ofOrder (i : Int) 0 M = some (N (109 + 22 * i)) := by
  subst hN
  apply wp_val
  simp only [f_X12_ofOrder, f_X12_orderAt]
  have e : ix ((109 + (i : Int) * 22) + 0) = 109 + 22 * i := by rw [ix_of (by omega) (by omega)]; omega
  have e' : ix ((109 + 22 * (i : Int)) + 0) = 109 + 22 * i := by rw [ix_of (by omega) (by omega)]; omega
  (repeat' (first | with_reducible refine wp_bnd ?_ | with_reducible refine wp_cl1 ?_ | with_reducible refine wp_cl2 ?_ | with_reducible refine wp_cx1 ?_ | with_reducible refine wp_cx2 ?_ | with_reducible refine wp_some ?_ | with_reducible refine wp_ite_t (lcmp0 (by ((try simp (disch := omega) only [w32_and, w32_or, w32_shl, w32_shr, w32_xor, ixO, ixO0, ixO1, ixO2, ixO3, ixL0, ixL1, ixL2, ixC, ixB, ixI0, ixI00, ixI1, ixI2, ixI3, upd2_rd, upd2_nd, Nat.reduceEqDiff, Nat.reduceAdd, Nat.add_left_cancel_iff, Nat.add_right_cancel_iff, reduceCtorEq, ↓reduceIte, and_self, and_true, true_and, and_false, false_and, true_or, or_true, false_or, or_false, not_true_eq_false, not_false_eq_true]); (try simp only [w32_em]); (first | done | omega)))) ?_ | with_reducible refine wp_ite_t (by ((try simp (disch := omega) only [w32_and, w32_or, w32_shl, w32_shr, w32_xor, ixO, ixO0, ixO1, ixO2, ixO3, ixL0, ixL1, ixL2, ixC, ixB, ixI0, ixI00, ixI1, ixI2, ixI3, upd2_rd, upd2_nd, Nat.reduceEqDiff, Nat.reduceAdd, Nat.add_left_cancel_iff, Nat.add_right_cancel_iff, reduceCtorEq, ↓reduceIte, and_self, and_true, true_and, and_false, false_and, true_or, or_true, false_or, or_false, not_true_eq_false, not_false_eq_true]); (try simp only [w32_em]); (first | done | omega))) ?_ | with_reducible refine wp_ite_f (by ((try simp (disch := omega) only [w32_and, w32_or, w32_shl, w32_shr, w32_xor, ixO, ixO0, ixO1, ixO2, ixO3, ixL0, ixL1, ixL2, ixC, ixB, ixI0, ixI00, ixI1, ixI2, ixI3, upd2_rd, upd2_nd, Nat.reduceEqDiff, Nat.reduceAdd, Nat.add_left_cancel_iff, Nat.add_right_cancel_iff, reduceCtorEq, ↓reduceIte, and_self, and_true, true_and, and_false, false_and, true_or, or_true, false_or, or_false, not_true_eq_false, not_false_eq_true]); (try simp only [w32_em]); (first | done | omega))) ?_ | with_reducible refine wp_itei ?_ ?_ | (with_reducible refine wp_imp (fun hc => ?_); (try simp (disch := omega) only [w32_and, w32_or, w32_shl, w32_shr, w32_xor, ixO, ixO0, ixO1, ixO2, ixO3, ixL0, ixL1, ixL2, ixC, ixB, ixI0, ixI00, ixI1, ixI2, ixI3, upd2_rd, upd2_nd, Nat.reduceEqDiff, Nat.reduceAdd, Nat.add_left_cancel_iff, Nat.add_right_cancel_iff, reduceCtorEq, ↓reduceIte, and_self, and_true, true_and, and_false, false_and, true_or, or_true, false_or, or_false, not_true_eq_false, not_false_eq_true] at hc); (try simp only [w32_em] at hc)) | with_reducible refine wp_gi (by ((try simp (disch := omega) only [w32_and, w32_or, w32_shl, w32_shr, w32_xor, ixO, ixO0, ixO1, ixO2, ixO3, ixL0, ixL1, ixL2, ixC, ixB, ixI0, ixI00, ixI1, ixI2, ixI3, upd2_rd, upd2_nd, Nat.reduceEqDiff, Nat.reduceAdd, Nat.add_left_cancel_iff, Nat.add_right_cancel_iff, reduceCtorEq, ↓reduceIte, and_self, and_true, true_and, and_false, false_and, true_or, or_true, false_or, or_false, not_true_eq_false, not_false_eq_true]); (try simp only [w32_em]); (first | done | omega))) (by ((try simp (disch := omega) only [w32_and, w32_or, w32_shl, w32_shr, w32_xor, ixO, ixO0, ixO1, ixO2, ixO3, ixL0, ixL1, ixL2, ixC, ixB, ixI0, ixI00, ixI1, ixI2, ixI3, upd2_rd, upd2_nd, Nat.reduceEqDiff, Nat.reduceAdd, Nat.add_left_cancel_iff, Nat.add_right_cancel_iff, reduceCtorEq, ↓reduceIte, and_self, and_true, true_and, and_false, false_and, true_or, or_true, false_or, or_false, not_true_eq_false, not_false_eq_true]); (try simp only [w32_em]); (first | done | omega))) (by omega) ?_ | with_reducible refine wp_gz (by ((try simp (disch := omega) only [w32_and, w32_or, w32_shl, w32_shr, w32_xor, ixO, ixO0, ixO1, ixO2, ixO3, ixL0, ixL1, ixL2, ixC, ixB, ixI0, ixI00, ixI1, ixI2, ixI3, upd2_rd, upd2_nd, Nat.reduceEqDiff, Nat.reduceAdd, Nat.add_left_cancel_iff, Nat.add_right_cancel_iff, reduceCtorEq, ↓reduceIte, and_self, and_true, true_and, and_false, false_and, true_or, or_true, false_or, or_false, not_true_eq_false, not_false_eq_true]); (try simp only [w32_em]); (first | done | omega))) ?_ | dsimp only [Sum.elim_inl, Sum.elim_inr])) <;> (first | exact lf1 hI | exact lf2 hI | skip)
  all_goals (first | rw [e] | rw [e'] | simp (disch := omega) only [ixO, ixO0, ixO1, ixO2, ixO3, ixL0, ixL1, ixL2, ixC, ixB, ixI0, ixI00, ixI1, ixI2, ixI3])
theorem o_41 {M : Mem} (hI : Inv M) (p1 p2 p3 p4 : Int) : Ow (L_41 p1 p2 p3 p4 M) M := by
  have hR := hI.1; have hW := hI.2.1; have hw := hI.2.1.1; have hw2 := hI.2.1.2.1; have hw3 := hI.2.1.2.2.1; obtain ⟨hA, hB, hC⟩ := hI.1; have hC3 := hC.1.1; have hC4 := hC.2.1.1; have hC5 := hC.2.2.1; simp only [Nat.reduceAdd] at hA hB hC3 hC4 hC5; have hz : M 2 3 = 1 ∧ M 140 7 = -1 ∨ M 2 3 = 2 ∧ M 140 7 ≠ -1 ∧ M 140 8 = -1 ∨ M 2 3 = 3 ∧ M 140 7 ≠ -1 ∧ M 140 8 ≠ -1 := zn3 hA.2.2.2.1; show wp _ _
  have q5 := n5 hW
  have q4 := n4 hW
  simp only [L_41, f_X11_lateOrders, f_X12_lateOrders]
  refine wp_cl2 (wp_cl1 (wp_use (X7all (th := 49) (by omega) hR hW) (fun r hr => ?_)))
  obtain ⟨r1, r2, r3⟩ := hr
  have ta : ∀ a, a < 40 ∨ 139 ≤ a → r a = M a := fun a ha => r1 a (by omega)
  have hRr : HR 1 r (M 140) := HR_fr (th := 40) (by omega) hR (fun a ha => ta a (by omega))
  have e140 : r 140 = M 140 := ta 140 (by omega)
  have e17 : r 17 0 = M 140 5 := by rw [ta 17 (by omega), hC5]
  have nb : ∀ b k, b < (M 140 5).toNat → bit (M 140 (461 + b)) k = true → k < (M 140 4).toNat := fun b k hb h => by
    rcases Nat.lt_or_ge k (M 140 4).toNat with g | g
    · exact g
    · rw [(bmem hW (show (b : Int) < M 140 5 by omega)).2 k g] at h; cases h
  refine wp_lpb (wp_forI (fun i x => x.2 = (i : Int) ∧ NN x.1 ∧ ∀ k, bit x.1 k = true ↔ ltB (M 140) i k) (M 140 5).toNat ?_ ?_ (Nat.zero_le _) ⟨rfl, ⟨by decide, by decide⟩, fun k => ⟨fun h => (by rw [bit_zero] at h; cases h), fun ⟨b, hb, _⟩ => by omega⟩⟩)
  · rintro i ⟨x, y⟩ hi ⟨h1, h2, h3⟩
    simp only at h1 h2 h3
    subst h1
    have hb : (i : Int) < M 140 5 := by omega
    have xi : ix (i : Int) = i := ix_nat (by omega)
    have bm := bmem hW hb
    have e18 : r 18 i = M 140 (461 + i) := (HR_E hRr).2 i hb
    simp only [s_X11_lateOrders_15, xi, e18]
    refine wp_ite_t (by ((try simp (disch := omega) only [w32_and, w32_or, w32_shl, w32_shr, w32_xor, ixO, ixO0, ixO1, ixO2, ixO3, ixL0, ixL1, ixL2, ixC, ixB, ixI0, ixI00, ixI1, ixI2, ixI3, upd2_rd, upd2_nd, Nat.reduceEqDiff, Nat.reduceAdd, Nat.add_left_cancel_iff, Nat.add_right_cancel_iff, reduceCtorEq, ↓reduceIte, and_self, and_true, true_and, and_false, false_and, true_or, or_true, false_or, or_false, not_true_eq_false, not_false_eq_true]); (try simp only [w32_em]); (first | done | omega))) (wp_gi (by omega) (by omega) (by omega) (wp_cl1 (wp_eq (X7cmp hRr hW hb r3) (wp_cl1 (wp_use (X5due hRr hW bm.1 (cmp_rng hW)) (fun d hd => wp_bnd (wp_bnd (wp_some ?_))))))))
    obtain ⟨o1, o2⟩ := or_bits h2 hd.1
    dsimp only [Sum.elim_inl]
    refine ⟨by omega, o1, fun k => ?_⟩
    rw [o2, Bool.or_eq_true, h3, hd.2]
    constructor
    · rintro (⟨b, c1, c2⟩ | ⟨c1, c2⟩)
      · exact ⟨b, by omega, c2⟩
      · exact ⟨i, by omega, c2⟩
    · rintro ⟨b, c1, c2, c3⟩
      by_cases eb : b = i
      · subst eb
        exact Or.inr ⟨nb b k hi c2, c2, c3⟩
      · exact Or.inl ⟨b, by omega, c2, c3⟩
  · rintro ⟨x, y⟩ ⟨h1, h2, h3⟩
    simp only at h1 h2 h3
    subst h1
    simp only [s_X11_lateOrders_15]
    refine wp_ite_f (by ((try simp (disch := omega) only [w32_and, w32_or, w32_shl, w32_shr, w32_xor, ixO, ixO0, ixO1, ixO2, ixO3, ixL0, ixL1, ixL2, ixC, ixB, ixI0, ixI00, ixI1, ixI2, ixI3, upd2_rd, upd2_nd, Nat.reduceEqDiff, Nat.reduceAdd, Nat.add_left_cancel_iff, Nat.add_right_cancel_iff, reduceCtorEq, ↓reduceIte, and_self, and_true, true_and, and_false, false_and, true_or, or_true, false_or, or_false, not_true_eq_false, not_false_eq_true]); (try simp only [w32_em]); (first | done | omega))) (wp_some ?_)
    dsimp only [Sum.elim_inl, Sum.elim_inr]
    refine wp_some (wp_cl2 (wp_bnd (wp_cl1 (wp_use (X12sched (N := M 140) (by rw [upd2_ne (by decide)]; exact e140) hW) (fun u hu => ?_)))))
    have u140 : u 140 = M 140 := by rw [hu.1.1 140 (by omega), upd2_ne (by decide)]; exact e140
    have e4 : u 140 4 = M 140 4 := by rw [u140]
    have sM := Sm_ab5 ta hu.1
    refine wp_lpb (wp_forI (fun i z => z.2 = (i : Int) ∧ NN z.1 ∧ ∀ k, bit z.1 k = true ↔ k < i ∧ ltB (M 140) (M 140 5).toNat k) (M 140 4).toNat ?_ ?_ (Nat.zero_le _) ⟨rfl, ⟨by decide, by decide⟩, fun k => by simp [bit_zero]⟩)
    · rintro i ⟨x', y⟩ hi ⟨g1, g2, g3⟩
      simp only at g1 g2 g3
      subst g1
      have hi' : (i : Int) < M 140 4 := by omega
      have hWO := hW.2.2.2.2.1 i hi'
      unfold WFo at hWO
      have z0 := or_bits g2 (show NN 0 from ⟨by decide, by decide⟩)
      have no : ¬ ltB (M 140) (M 140 5).toNat i → NN (i_or x' 0) ∧ ∀ k, bit (i_or x' 0) k = true ↔ k < i + 1 ∧ ltB (M 140) (M 140 5).toNat k := fun hn => by
        refine ⟨z0.1, fun k => ?_⟩
        rw [z0.2, bit_zero, Bool.or_false, g3]
        constructor
        · rintro ⟨a, b⟩
          exact ⟨by omega, b⟩
        · rintro ⟨a, b⟩
          by_cases ek : k = i
          · rw [ek] at b; exact absurd b hn
          · exact ⟨by omega, b⟩
      simp only [s_X12_lateOrders_13, j_X12_lateOrders_55_13, j_X12_lateOrders_56_13]
      refine wp_ite_t (by ((try simp (disch := omega) only [w32_and, w32_or, w32_shl, w32_shr, w32_xor, ixO, ixO0, ixO1, ixO2, ixO3, ixL0, ixL1, ixL2, ixC, ixB, ixI0, ixI00, ixI1, ixI2, ixI3, upd2_rd, upd2_nd, Nat.reduceEqDiff, Nat.reduceAdd, Nat.add_left_cancel_iff, Nat.add_right_cancel_iff, reduceCtorEq, ↓reduceIte, and_self, and_true, true_and, and_false, false_and, true_or, or_true, false_or, or_false, not_true_eq_false, not_false_eq_true]); (try simp only [w32_em]); (first | done | omega))) (wp_cl1 (wp_eq (X12of u140 hW (show i < 31 by omega)) ?_))
      rcases bF_spec (N := M 140) (o := i) (n := (M 140 5).toNat) with ⟨e1, e2⟩ | ⟨b, e1, e2, e3⟩
      · rw [e1]
        refine wp_ite_t (by decide) (wp_bnd (wp_bnd (wp_some ?_)))
        dsimp only [Sum.elim_inl]
        exact ⟨by omega, no (fun ⟨b, c1, c2, _⟩ => by rw [e2 b c1] at c2; cases c2)⟩
      · rw [e2]
        have cr := cmp_rng hW (k := b)
        refine wp_ite_f (by ((try simp (disch := omega) only [w32_and, w32_or, w32_shl, w32_shr, w32_xor, ixO, ixO0, ixO1, ixO2, ixO3, ixL0, ixL1, ixL2, ixC, ixB, ixI0, ixI00, ixI1, ixI2, ixI3, upd2_rd, upd2_nd, Nat.reduceEqDiff, Nat.reduceAdd, Nat.add_left_cancel_iff, Nat.add_right_cancel_iff, reduceCtorEq, ↓reduceIte, and_self, and_true, true_and, and_false, false_and, true_or, or_true, false_or, or_false, not_true_eq_false, not_false_eq_true]); (try simp only [w32_em]); (first | done | omega))) (wp_cl1 (wp_eq (X12cmp u140 hW (by omega) hu.2.2.2) (wp_cl1 (wp_eq (X12due u140 (by omega)) ?_))))
        by_cases hd : M 140 (109 + 22 * i) < cmp (M 140) b
        · refine wp_ite_t (by ((try simp (disch := omega) only [w32_and, w32_or, w32_shl, w32_shr, w32_xor, ixO, ixO0, ixO1, ixO2, ixO3, ixL0, ixL1, ixL2, ixC, ixB, ixI0, ixI00, ixI1, ixI2, ixI3, upd2_rd, upd2_nd, Nat.reduceEqDiff, Nat.reduceAdd, Nat.add_left_cancel_iff, Nat.add_right_cancel_iff, reduceCtorEq, ↓reduceIte, and_self, and_true, true_and, and_false, false_and, true_or, or_true, false_or, or_false, not_true_eq_false, not_false_eq_true]); (try simp only [w32_em]); (first | done | omega))) (wp_bnd (wp_bnd (wp_some ?_)))
          obtain ⟨s1, s2⟩ := shl_bits (show i < 31 by omega)
          obtain ⟨o1, o2⟩ := or_bits g2 s1
          dsimp only [Sum.elim_inl]
          refine ⟨by omega, o1, fun k => ?_⟩
          rw [o2, s2, Bool.or_eq_true, decide_eq_true_eq, g3]
          constructor
          · rintro (⟨a, b⟩ | rfl)
            · exact ⟨by omega, b⟩
            · exact ⟨by omega, b, e1, e3, hd⟩
          · rintro ⟨a, b⟩
            by_cases ek : k = i
            · exact Or.inr ek
            · exact Or.inl ⟨by omega, b⟩
        · refine wp_ite_f (by ((try simp (disch := omega) only [w32_and, w32_or, w32_shl, w32_shr, w32_xor, ixO, ixO0, ixO1, ixO2, ixO3, ixL0, ixL1, ixL2, ixC, ixB, ixI0, ixI00, ixI1, ixI2, ixI3, upd2_rd, upd2_nd, Nat.reduceEqDiff, Nat.reduceAdd, Nat.add_left_cancel_iff, Nat.add_right_cancel_iff, reduceCtorEq, ↓reduceIte, and_self, and_true, true_and, and_false, false_and, true_or, or_true, false_or, or_false, not_true_eq_false, not_false_eq_true]); (try simp only [w32_em]); (first | done | omega))) (wp_bnd (wp_bnd (wp_some ?_)))
          dsimp only [Sum.elim_inl]
          refine ⟨by omega, no (fun ⟨b', c1, c2, c3⟩ => ?_)⟩
          have eb : b' = b := by
            by_cases e : b' = b
            · exact e
            · have := (hW.2.2.2.2.2.1 b (by omega)).2.2.2 b' (by omega) e i e3
              rw [this] at c2; cases c2
          rw [eb] at c3
          exact hd c3
    · rintro ⟨x', y⟩ ⟨g1, g2, g3⟩
      simp only at g1 g2 g3
      subst g1
      simp only [s_X12_lateOrders_13]
      refine wp_ite_f (by ((try simp (disch := omega) only [w32_and, w32_or, w32_shl, w32_shr, w32_xor, ixO, ixO0, ixO1, ixO2, ixO3, ixL0, ixL1, ixL2, ixC, ixB, ixI0, ixI00, ixI1, ixI2, ixI3, upd2_rd, upd2_nd, Nat.reduceEqDiff, Nat.reduceAdd, Nat.add_left_cancel_iff, Nat.add_right_cancel_iff, reduceCtorEq, ↓reduceIte, and_self, and_true, true_and, and_false, false_and, true_or, or_true, false_or, or_false, not_true_eq_false, not_false_eq_true]); (try simp only [w32_em]); (first | done | omega))) (wp_some ?_)
      dsimp only [Sum.elim_inl, Sum.elim_inr]
      have ee : x = x' := bit_ext h2 g2 (fun k => by
        rw [Bool.eq_iff_iff, h3, g3]
        constructor
        · rintro ⟨b, c1, c2, c3⟩
          exact ⟨nb b k c1 c2, b, c1, c2, c3⟩
        · rintro ⟨_, h⟩
          exact h)
      rw [ee]
      exact wp_some (wp_ite_t rfl (wp_some ⟨Inv_Sm sM hI, sM.1 37 rfl⟩))
