-- ===== tardiness =====
/-- tardiness of the orders of m below n, complete at c -/
def td (N : Nat → Int) (m c : Int) (n : Nat) : Int := sm (fun o => if bit m o = true then i_max 0 (c - N (109 + 22 * o)) else 0) n
/-- tardiness of the first n batches of the sequence q -/
def tdQ (N : Nat → Int) (q : Nat → Nat) (n : Nat) : Int := sm (fun k => td N (N (461 + q k)) (cmq N q k) (N 4).toNat) n
theorem imax0_rng {v : Int} (h : -100000 ≤ v ∧ v ≤ 100000) : 0 ≤ i_max 0 v ∧ i_max 0 v ≤ 100000 ∧ v ≤ i_max 0 v ∧ (v ≤ 0 → i_max 0 v = 0) ∧ (0 ≤ v → i_max 0 v = v) := by
  unfold i_max
  rw [w32_ok ⟨by omega, by omega⟩, w32_ok ⟨by omega, by omega⟩]
  split <;> omega
theorem X12gr0 {v : Int} {M : Mem} (h : -100000 ≤ v ∧ v ≤ 100000) : f_X12_greater 0 v M = some (i_max 0 v) := by
  have r := imax0_rng h
  unfold f_X12_greater
  rw [w32_ok ⟨by omega, by omega⟩, w32_ok ⟨by omega, by omega⟩]
  split
  · rw [r.2.2.2.1 (by omega)]
  · rw [r.2.2.2.2 (by omega)]
theorem td_rng {N : Nat → Int} (hW : WF N) {m c : Int} (hc : 0 ≤ c ∧ c ≤ 72000) : ∀ n : Nat, (n : Int) ≤ N 4 → 0 ≤ td N m c n ∧ td N m c n ≤ 100000 * (n : Int) := by
  intro n
  induction n with
  | zero => intro _; simp [td, sm]
  | succ n ih =>
    intro hn
    have i := ih (by omega)
    have hWO := hW.2.2.2.2.1 n (by omega)
    unfold WFo at hWO
    have r := imax0_rng (v := c - N (109 + 22 * n)) (by omega)
    simp only [td, sm] at i ⊢
    split <;> omega
theorem tdQ_rng {N : Nat → Int} (hW : WF N) {q : Nat → Nat} : ∀ n : Nat, 0 ≤ tdQ N q n ∧ tdQ N q n ≤ 1600000 * (n : Int) := by
  have q4 := n4 hW
  intro n
  induction n with
  | zero => simp [tdQ, sm]
  | succ n ih =>
    have r := td_rng hW (m := N (461 + q n)) (cmq_rng hW (q := q) (k := n)) (N 4).toNat (by omega)
    simp only [tdQ, sm] at ih ⊢
    omega
theorem X1tard {M : Mem} {N : Nat → Int} (hR : HR 1 M N) (hW : WF N) {b : Nat} {c : Int} (hb : (b : Int) < N 5) (hc : 0 ≤ c ∧ c ≤ 72000) : f_X1_tardinessOf 1 (b : Int) c M = some (td N (N (461 + b)) c (N 4).toNat) := by
  have q4 := n4 hW
  have q5 := n5 hW
  obtain ⟨d4, hO⟩ := HR_O hR
  have bm := bmem hW hb
  have xb : ix (b : Int) = b := ix_nat (by omega)
  have e18 : M 18 b = N (461 + b) := (HR_E hR).2 b hb
  apply wp_val
  unfold f_X1_tardinessOf
  refine wp_lpb (wp_forI (fun i x => x = (td N (N (461 + b)) c i, (i : Int))) (N 4).toNat ?_ ?_ (Nat.zero_le _) rfl)
  · rintro i x hi rfl
    have hi' : (i : Int) < N 4 := by omega
    have xi : ix (i : Int) = i := ix_nat (by omega)
    have e11 : M 11 i = N (109 + 22 * i) := (hO i hi').1
    simp only [s_X1_tardinessOf_5, j_X1_tardinessOf_53_5, Nat.reduceAdd, xi, xb, e11, e18]
    cases q : bit (N (461 + b)) i
    · have hq := tst_f bm.1 (show i < 31 by omega) q
      refine wp_ite_t (by ((try simp (disch := omega) only [w32_and, w32_or, w32_shl, w32_shr, w32_xor, ixO, ixO0, ixO1, ixO2, ixO3, ixL0, ixL1, ixL2, ixC, ixB, ixI0, ixI00, ixI1, ixI2, ixI3, upd2_rd, upd2_nd, Nat.reduceEqDiff, Nat.reduceAdd, Nat.add_left_cancel_iff, Nat.add_right_cancel_iff, reduceCtorEq, ↓reduceIte, and_self, and_true, true_and, and_false, false_and, true_or, or_true, false_or, or_false, not_true_eq_false, not_false_eq_true]); (try simp only [w32_em]); (first | done | omega))) (wp_gi (by omega) (by omega) (by omega) (wp_ite_t (by rw [hq]; decide) (wp_bnd (wp_some ?_))))
      dsimp only [Sum.elim_inl]
      simp only [td, sm, q, Int.natCast_succ]
      simp
    · have hq := tst_t bm.1 (show i < 31 by omega) q
      refine wp_ite_t (by ((try simp (disch := omega) only [w32_and, w32_or, w32_shl, w32_shr, w32_xor, ixO, ixO0, ixO1, ixO2, ixO3, ixL0, ixL1, ixL2, ixC, ixB, ixI0, ixI00, ixI1, ixI2, ixI3, upd2_rd, upd2_nd, Nat.reduceEqDiff, Nat.reduceAdd, Nat.add_left_cancel_iff, Nat.add_right_cancel_iff, reduceCtorEq, ↓reduceIte, and_self, and_true, true_and, and_false, false_and, true_or, or_true, false_or, or_false, not_true_eq_false, not_false_eq_true]); (try simp only [w32_em]); (first | done | omega))) (wp_gi (by omega) (by omega) (by omega) (wp_ite_f (by rw [hq]; decide) (wp_gi (by omega) (by omega) (by omega) (wp_bnd (wp_bnd (wp_some ?_))))))
      dsimp only [Sum.elim_inl]
      simp only [td, sm, q, Int.natCast_succ, ↓reduceIte]
  · rintro x rfl
    simp only [s_X1_tardinessOf_5, Nat.reduceAdd]
    refine wp_ite_f (by ((try simp (disch := omega) only [w32_and, w32_or, w32_shl, w32_shr, w32_xor, ixO, ixO0, ixO1, ixO2, ixO3, ixL0, ixL1, ixL2, ixC, ixB, ixI0, ixI00, ixI1, ixI2, ixI3, upd2_rd, upd2_nd, Nat.reduceEqDiff, Nat.reduceAdd, Nat.add_left_cancel_iff, Nat.add_right_cancel_iff, reduceCtorEq, ↓reduceIte, and_self, and_true, true_and, and_false, false_and, true_or, or_true, false_or, or_false, not_true_eq_false, not_false_eq_true]); (try simp only [w32_em]); (first | done | omega))) (wp_some ?_)
    dsimp only [Sum.elim_inl, Sum.elim_inr]
    exact wp_some rfl
theorem X11tard {M : Mem} {N : Nat → Int} (hR : HR 1 M N) (hW : WF N) : wp (f_X11_tardinessNow M) (fun r => r.1 = tdQ N id (N 5).toNat ∧ (∀ a, a < 40 ∨ 139 ≤ a → r.2 a = M a)) := by
  have q5 := n5 hW
  unfold f_X11_tardinessNow
  refine wp_cl1 (wp_use (X7all (th := 49) (by omega) hR hW) (fun r hr => ?_))
  obtain ⟨r1, r2, r3⟩ := hr
  have ta : ∀ a, a < 40 ∨ 139 ≤ a → r a = M a := fun a ha => r1 a (by omega)
  have hRr : HR 1 r N := HR_fr (th := 40) (by omega) hR (fun a ha => ta a (by omega))
  have e17 : r 17 0 = N 5 := (HR_E hRr).1
  refine wp_lpb (wp_forI (fun i x => x = (tdQ N id i, (i : Int))) (N 5).toNat ?_ ?_ (Nat.zero_le _) rfl)
  · rintro i x hi rfl
    have hb : (i : Int) < N 5 := by omega
    simp only [s_X11_tardinessNow_15]
    refine wp_ite_t (by ((try simp (disch := omega) only [w32_and, w32_or, w32_shl, w32_shr, w32_xor, ixO, ixO0, ixO1, ixO2, ixO3, ixL0, ixL1, ixL2, ixC, ixB, ixI0, ixI00, ixI1, ixI2, ixI3, upd2_rd, upd2_nd, Nat.reduceEqDiff, Nat.reduceAdd, Nat.add_left_cancel_iff, Nat.add_right_cancel_iff, reduceCtorEq, ↓reduceIte, and_self, and_true, true_and, and_false, false_and, true_or, or_true, false_or, or_false, not_true_eq_false, not_false_eq_true]); (try simp only [w32_em]); (first | done | omega))) (wp_cl1 (wp_eq (X7cmp hRr hW hb r3) (wp_cl1 (wp_eq (X1tard hRr hW hb (cmp_rng hW)) (wp_bnd (wp_bnd (wp_some ?_)))))))
    dsimp only [Sum.elim_inl]
    simp only [tdQ, sm, Int.natCast_succ, id]
    rfl
  · rintro x rfl
    simp only [s_X11_tardinessNow_15]
    refine wp_ite_f (by ((try simp (disch := omega) only [w32_and, w32_or, w32_shl, w32_shr, w32_xor, ixO, ixO0, ixO1, ixO2, ixO3, ixL0, ixL1, ixL2, ixC, ixB, ixI0, ixI00, ixI1, ixI2, ixI3, upd2_rd, upd2_nd, Nat.reduceEqDiff, Nat.reduceAdd, Nat.add_left_cancel_iff, Nat.add_right_cancel_iff, reduceCtorEq, ↓reduceIte, and_self, and_true, true_and, and_false, false_and, true_or, or_true, false_or, or_false, not_true_eq_false, not_false_eq_true]); (try simp only [w32_em]); (first | done | omega))) (wp_some ?_)
    dsimp only [Sum.elim_inl, Sum.elim_inr]
    exact wp_some ⟨rfl, ta⟩
theorem X12cmq {u : Mem} {N : Nat → Int} (hN : u 140 = N) (hW : WF N) {q : Nat → Nat} {k : Nat} (hk : (k : Int) < N 5) (hT : ∀ k z : Nat, (k : Int) < N 5 → (z : Int) < zns N → u 150 (3 * k + z) = (tms N q (N 5).toNat).1 k z ∧ u 151 (3 * k + z) = (tms N q (N 5).toNat).2 k z) : f_X12_completes (k : Int) u = some (cmq N q k) := by
  have q5 := n5 hW
  have cz := zn_rng N
  have xz : ix (3 * (k : Int) + zns N - 1) = 3 * k + (zns N - 1).toNat := by rw [ix_of (by omega) (by omega)]; omega
  apply wp_val
  unfold f_X12_completes cmq
  refine wp_cl1 (wp_eq (X12zones hN hW) (wp_gi (by omega) (by omega) (by omega) (wp_some ?_)))
  rw [xz]
  exact (hT k (zns N - 1).toNat hk (by omega)).2
theorem X12tard {u : Mem} {N : Nat → Int} (hN : u 140 = N) (hW : WF N) {q : Nat → Nat} (hq : ∀ k : Nat, (k : Int) < N 5 → u 149 k = ((q k : Nat) : Int) ∧ ((q k : Nat) : Int) < N 5) (hT : ∀ k z : Nat, (k : Int) < N 5 → (z : Int) < zns N → u 150 (3 * k + z) = (tms N q (N 5).toNat).1 k z ∧ u 151 (3 * k + z) = (tms N q (N 5).toNat).2 k z) : f_X12_tardiness u = some (tdQ N q (N 5).toNat) := by
  have q4 := n4 hW
  have q5 := n5 hW
  have e5 : u 140 5 = N 5 := by rw [hN]
  have e4 : u 140 4 = N 4 := by rw [hN]
  apply wp_val
  unfold f_X12_tardiness
  refine wp_lpb (wp_forI (fun i x => x = (tdQ N q i, (i : Int))) (N 5).toNat ?_ ?_ (Nat.zero_le _) rfl)
  · rintro k x hk rfl
    have hk' : (k : Int) < N 5 := by omega
    obtain ⟨s1, s2⟩ := hq k hk'
    have bm := bmem hW s2
    have cr := cmq_rng hW (q := q) (k := k)
    have xk : ix (k : Int) = k := ix_nat (by omega)
    have xq : ix (461 + ((q k : Nat) : Int)) = 461 + q k := by rw [ix_of (by omega) (by omega)]; omega
    have eb : u 140 (461 + q k) = N (461 + q k) := by rw [hN]
    simp only [s_X12_tardiness_4]
    refine wp_ite_t (by ((try simp (disch := omega) only [w32_and, w32_or, w32_shl, w32_shr, w32_xor, ixO, ixO0, ixO1, ixO2, ixO3, ixL0, ixL1, ixL2, ixC, ixB, ixI0, ixI00, ixI1, ixI2, ixI3, upd2_rd, upd2_nd, Nat.reduceEqDiff, Nat.reduceAdd, Nat.add_left_cancel_iff, Nat.add_right_cancel_iff, reduceCtorEq, ↓reduceIte, and_self, and_true, true_and, and_false, false_and, true_or, or_true, false_or, or_false, not_true_eq_false, not_false_eq_true]); (try simp only [w32_em]); (first | done | omega))) (wp_lpb (wp_forI (fun i x => x = (tdQ N q k + td N (N (461 + q k)) (cmq N q k) i, (i : Int))) (N 4).toNat ?_ ?_ (Nat.zero_le _) (by simp [td, sm])))
    · rintro i x hi rfl
      have hWO := hW.2.2.2.2.1 i (by omega)
      unfold WFo at hWO
      simp only [s_X12_tardiness_16, j_X12_tardiness_69_16, xk, s1, xq, eb]
      cases w : bit (N (461 + q k)) i
      · refine wp_ite_t (by ((try simp (disch := omega) only [w32_and, w32_or, w32_shl, w32_shr, w32_xor, ixO, ixO0, ixO1, ixO2, ixO3, ixL0, ixL1, ixL2, ixC, ixB, ixI0, ixI00, ixI1, ixI2, ixI3, upd2_rd, upd2_nd, Nat.reduceEqDiff, Nat.reduceAdd, Nat.add_left_cancel_iff, Nat.add_right_cancel_iff, reduceCtorEq, ↓reduceIte, and_self, and_true, true_and, and_false, false_and, true_or, or_true, false_or, or_false, not_true_eq_false, not_false_eq_true]); (try simp only [w32_em]); (first | done | omega))) (wp_gi (by omega) (by omega) (by omega) (wp_gi (by omega) (by omega) (by omega) (wp_cl1 (wp_eq (has_f bm.1 (show i < 31 by omega) w) (wp_ite_t (by decide) (wp_bnd (wp_bnd (wp_some ?_))))))))
        dsimp only [Sum.elim_inl]
        simp only [td, sm, w, Int.natCast_succ]
        simp
      · refine wp_ite_t (by ((try simp (disch := omega) only [w32_and, w32_or, w32_shl, w32_shr, w32_xor, ixO, ixO0, ixO1, ixO2, ixO3, ixL0, ixL1, ixL2, ixC, ixB, ixI0, ixI00, ixI1, ixI2, ixI3, upd2_rd, upd2_nd, Nat.reduceEqDiff, Nat.reduceAdd, Nat.add_left_cancel_iff, Nat.add_right_cancel_iff, reduceCtorEq, ↓reduceIte, and_self, and_true, true_and, and_false, false_and, true_or, or_true, false_or, or_false, not_true_eq_false, not_false_eq_true]); (try simp only [w32_em]); (first | done | omega))) (wp_gi (by omega) (by omega) (by omega) (wp_gi (by omega) (by omega) (by omega) (wp_cl1 (wp_eq (has_t bm.1 (show i < 31 by omega) w) (wp_ite_f (by decide) (wp_cl1 (wp_eq (X12cmq hN hW hk' hT) (wp_cl1 (wp_eq (X12due hN (by omega)) (wp_cl1 (wp_eq (X12gr0 (by omega)) (wp_bnd (wp_bnd (wp_some ?_))))))))))))))
        dsimp only [Sum.elim_inl]
        simp only [td, sm, w, Int.natCast_succ, ↓reduceIte, Int.add_assoc]
    · rintro x rfl
      simp only [s_X12_tardiness_16]
      refine wp_ite_f (by ((try simp (disch := omega) only [w32_and, w32_or, w32_shl, w32_shr, w32_xor, ixO, ixO0, ixO1, ixO2, ixO3, ixL0, ixL1, ixL2, ixC, ixB, ixI0, ixI00, ixI1, ixI2, ixI3, upd2_rd, upd2_nd, Nat.reduceEqDiff, Nat.reduceAdd, Nat.add_left_cancel_iff, Nat.add_right_cancel_iff, reduceCtorEq, ↓reduceIte, and_self, and_true, true_and, and_false, false_and, true_or, or_true, false_or, or_false, not_true_eq_false, not_false_eq_true]); (try simp only [w32_em]); (first | done | omega))) (wp_some ?_)
      dsimp only [Sum.elim_inl, Sum.elim_inr]
      refine wp_bnd (wp_some ?_)
      dsimp only [Sum.elim_inl]
      simp only [tdQ, sm, Int.natCast_succ]
  · rintro x rfl
    simp only [s_X12_tardiness_4]
    refine wp_ite_f (by ((try simp (disch := omega) only [w32_and, w32_or, w32_shl, w32_shr, w32_xor, ixO, ixO0, ixO1, ixO2, ixO3, ixL0, ixL1, ixL2, ixC, ixB, ixI0, ixI00, ixI1, ixI2, ixI3, upd2_rd, upd2_nd, Nat.reduceEqDiff, Nat.reduceAdd, Nat.add_left_cancel_iff, Nat.add_right_cancel_iff, reduceCtorEq, ↓reduceIte, and_self, and_true, true_and, and_false, false_and, true_or, or_true, false_or, or_false, not_true_eq_false, not_false_eq_true]); (try simp only [w32_em]); (first | done | omega))) (wp_some ?_)
    dsimp only [Sum.elim_inl, Sum.elim_inr]
    exact wp_some rfl
theorem X12total {M : Mem} {N : Nat → Int} (hN : M 140 = N) (hW : WF N) : wp (f_X12_laysSchedule M) (fun r => FT M r ∧ r 140 = N ∧ f_X12_tardiness r = some (tdQ N id (N 5).toNat)) := by
  refine wp_use (X12sched hN hW) (fun r hr => ?_)
  have e : r 140 = N := by rw [hr.1.1 140 (by omega)]; exact hN
  exact ⟨hr.1, e, X12tard e hW (q := id) (fun k hk => ⟨hr.2.2.1 k hk, hk⟩) hr.2.2.2⟩
theorem o_42 {M : Mem} (hI : Inv M) (p1 p2 p3 p4 : Int) : Ow (L_42 p1 p2 p3 p4 M) M := by
  have hR := hI.1; have hW := hI.2.1; have hw := hI.2.1.1; have hw2 := hI.2.1.2.1; have hw3 := hI.2.1.2.2.1; obtain ⟨hA, hB, hC⟩ := hI.1; have hC3 := hC.1.1; have hC4 := hC.2.1.1; have hC5 := hC.2.2.1; simp only [Nat.reduceAdd] at hA hB hC3 hC4 hC5; have hz : M 2 3 = 1 ∧ M 140 7 = -1 ∨ M 2 3 = 2 ∧ M 140 7 ≠ -1 ∧ M 140 8 = -1 ∨ M 2 3 = 3 ∧ M 140 7 ≠ -1 ∧ M 140 8 ≠ -1 := zn3 hA.2.2.2.1; show wp _ _
  simp only [L_42, f_X11_totalTardiness, f_X12_totalTardiness]
  refine wp_cl2 (wp_cl2 (wp_use (X11tard hR hW) (fun r hr => wp_some (wp_cl2 (wp_bnd (wp_cl1 (wp_use (X12total (N := M 140) (by rw [upd2_ne (by decide)]; exact hr.2 140 (by omega)) hW) (fun u hu => wp_cl1 (wp_eq hu.2.2 (wp_some ?_))))))))))
  have sM := Sm_ab5 hr.2 hu.1
  exact wp_ite_t (by rw [hr.1]) (wp_some ⟨Inv_Sm sM hI, sM.1 37 rfl⟩)
