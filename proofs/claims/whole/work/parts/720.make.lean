-- ===== making batches: weights, aisles, candidates, seeds, companions =====
theorem wO_rng {N : Nat → Int} (hW : WF N) {o : Nat} (ho : (o : Int) < N 4) : 0 ≤ wO N o ∧ wO N o ≤ 29700 := by
  obtain ⟨o16, e1, l6, hl⟩ := lnW hW ho
  have hWO := hW.2.2.2.2.1 o ho
  unfold WFo at hWO
  have := sm_bd (g := fun k => N (114 + 22 * o + 3 * k) * N (15 + 4 * itN N o k)) (n := lnN N o) (B := 4950) (by omega) (fun k hk => by
    have a := hWO.2.2.2.2.2.2 k (by omega)
    have b := hW.2.2.2.1 (itN N o k) (hl k hk).2.2
    unfold WFi at b
    have h1 : N (114 + 22 * o + 3 * k) * N (15 + 4 * itN N o k) ≤ 99 * 50 := Int.mul_le_mul (by omega) (by omega) (by omega) (by omega)
    exact ⟨Int.mul_nonneg (by omega) (by omega), by omega⟩)
  unfold wO
  omega
theorem wA_rng {N : Nat → Int} (hW : WF N) {m : Int} : 0 ≤ wA N m ∧ wA N m ≤ 475200 := by
  have q4 := n4 hW
  have := sm_bd (g := fun o => if bit m o = true then wO N o else 0) (n := (N 4).toNat) (B := 29700) (by omega) (fun o ho => by
    have := wO_rng hW (o := o) (by omega)
    try dsimp only
    split <;> omega)
  unfold wA
  omega
theorem NN0 : NN 0 := ⟨by decide, by decide⟩
theorem or_r0 {x : Int} (h : NN x) : i_or x 0 = x := by
  have a := or_bits h NN0
  exact bit_ext a.1 h (fun k => by rw [a.2, bit_zero, Bool.or_false])
theorem or_l0 {x : Int} (h : NN x) : i_or 0 x = x := by
  have a := or_bits NN0 h
  exact bit_ext a.1 h (fun k => by rw [a.2, bit_zero, Bool.false_or])
theorem om_bits {g : Nat → Int} {n c : Nat} (h : ∀ i, i < n → NN (g i) ∧ ∀ k, c ≤ k → bit (g i) k = false) : NN (om g n) ∧ ∀ k, c ≤ k → bit (om g n) k = false := by
  induction n with
  | zero => exact ⟨NN0, fun k _ => bit_zero k⟩
  | succ n ih =>
    have a := ih (fun i hi => h i (by omega))
    have b := h n (by omega)
    have c := or_bits a.1 b.1
    simp only [om]
    exact ⟨c.1, fun k hk => by rw [c.2, a.2 k hk, b.2 k hk]; rfl⟩
theorem aO_bits {N : Nat → Int} (hW : WF N) {o : Nat} (ho : (o : Int) < N 4) : NN (aO N o) ∧ ∀ k, 6 ≤ k → bit (aO N o) k = false := by
  obtain ⟨o16, e1, l6, hl⟩ := lnW hW ho
  have hw := hW.1
  unfold aO
  refine om_bits (fun k hk => ?_)
  have b := hW.2.2.2.1 (itN N o k) (hl k hk).2.2
  unfold WFi at b
  obtain ⟨a, ha⟩ : ∃ a : Nat, N (13 + 4 * itN N o k) = (a : Int) := ⟨(N (13 + 4 * itN N o k)).toNat, by omega⟩
  rw [ha]
  have s := shl_bits (show a < 31 by omega)
  exact ⟨s.1, fun j hj => by rw [s.2]; exact decide_eq_false (by omega)⟩
/-- the aisles of the orders of m below n -/
def aA (N : Nat → Int) (m : Int) (n : Nat) : Int := om (fun o => if bit m o = true then aO N o else 0) n
theorem aA_bits {N : Nat → Int} (hW : WF N) {m : Int} {n : Nat} (hn : (n : Int) ≤ N 4) : NN (aA N m n) ∧ ∀ k, 6 ≤ k → bit (aA N m n) k = false := by
  unfold aA
  refine om_bits (fun o ho => ?_)
  try dsimp only
  split
  · exact aO_bits hW (by omega)
  · exact ⟨NN0, fun k _ => bit_zero k⟩
theorem X8aisles {M : Mem} {N : Nat → Int} (hR : HR 1 M N) (hW : WF N) {m x2 x3 : Int} (hm : NN m) : wp (wh (fun x => s_X8_companionFor_6 1 m x2 x3 M x.1 x.2) (0, 0)) (fun r => r = .inl (aA N m (N 4).toNat)) := by
  have q4 := n4 hW
  obtain ⟨d4, hO⟩ := HR_O hR
  refine wp_forI (fun i x => x = (aA N m i, (i : Int))) (N 4).toNat ?_ ?_ (Nat.zero_le _) rfl
  · rintro i x hi rfl
    simp only [s_X8_companionFor_6, j_X8_companionFor_38_6, Nat.reduceAdd]
    cases q : bit m i
    · have hq := tst_f hm (show i < 31 by omega) q
      refine wp_ite_t (by ((try simp (disch := omega) only [w32_and, w32_or, w32_shl, w32_shr, w32_xor, ixO, ixO0, ixO1, ixO2, ixO3, ixL0, ixL1, ixL2, ixC, ixB, ixI0, ixI00, ixI1, ixI2, ixI3, upd2_rd, upd2_nd, Nat.reduceEqDiff, Nat.reduceAdd, Nat.add_left_cancel_iff, Nat.add_right_cancel_iff, reduceCtorEq, ↓reduceIte, and_self, and_true, true_and, and_false, false_and, true_or, or_true, false_or, or_false, not_true_eq_false, not_false_eq_true]); (try simp only [w32_em]); (first | done | omega))) (wp_ite_t (by rw [hq]; decide) (wp_bnd (wp_some ?_)))
      dsimp only [Sum.elim_inl]
      have := or_r0 (aA_bits hW (m := m) (n := i) (by omega)).1
      simp only [aA, om, q, Int.natCast_succ] at this ⊢
      simp only [Bool.false_eq_true, ↓reduceIte, this]
    · have hq := tst_t hm (show i < 31 by omega) q
      refine wp_ite_t (by ((try simp (disch := omega) only [w32_and, w32_or, w32_shl, w32_shr, w32_xor, ixO, ixO0, ixO1, ixO2, ixO3, ixL0, ixL1, ixL2, ixC, ixB, ixI0, ixI00, ixI1, ixI2, ixI3, upd2_rd, upd2_nd, Nat.reduceEqDiff, Nat.reduceAdd, Nat.add_left_cancel_iff, Nat.add_right_cancel_iff, reduceCtorEq, ↓reduceIte, and_self, and_true, true_and, and_false, false_and, true_or, or_true, false_or, or_false, not_true_eq_false, not_false_eq_true]); (try simp only [w32_em]); (first | done | omega))) (wp_ite_f (by rw [hq]; decide) (wp_cl1 (wp_eq (X1a hR hW (by omega)) (wp_bnd (wp_bnd (wp_some ?_))))))
      dsimp only [Sum.elim_inl]
      simp only [aA, om, q, Int.natCast_succ, ↓reduceIte]
  · rintro x rfl
    simp only [s_X8_companionFor_6, Nat.reduceAdd]
    refine wp_ite_f (by ((try simp (disch := omega) only [w32_and, w32_or, w32_shl, w32_shr, w32_xor, ixO, ixO0, ixO1, ixO2, ixO3, ixL0, ixL1, ixL2, ixC, ixB, ixI0, ixI00, ixI1, ixI2, ixI3, upd2_rd, upd2_nd, Nat.reduceEqDiff, Nat.reduceAdd, Nat.add_left_cancel_iff, Nat.add_right_cancel_iff, reduceCtorEq, ↓reduceIte, and_self, and_true, true_and, and_false, false_and, true_or, or_true, false_or, or_false, not_true_eq_false, not_false_eq_true]); (try simp only [w32_em]); (first | done | omega))) (wp_some ?_)
    dsimp only [Sum.elim_inl, Sum.elim_inr]
theorem aA_more {N : Nat → Int} (hW : WF N) {m : Int} (hh : ∀ o, (N 4).toNat ≤ o → bit m o = false) : ∀ n : Nat, (N 4).toNat ≤ n → aA N m n = aA N m (N 4).toNat := by
  have q4 := n4 hW
  intro n
  induction n with
  | zero => intro h; rw [show (N 4).toNat = 0 by omega]
  | succ n ih =>
    intro h
    by_cases e : (N 4).toNat = n + 1
    · rw [e]
    · have i := ih (by omega)
      have b := or_r0 (aA_bits hW (m := m) (n := (N 4).toNat) (by omega)).1
      have hz := hh n (by omega)
      unfold aA at i b ⊢
      simp only [om, hz, Bool.false_eq_true, ↓reduceIte]
      rw [i, b]
theorem X12aA {M : Mem} {N : Nat → Int} (hN : M 140 = N) (hW : WF N) {m : Int} (hm : NN m) (hh : ∀ o, (N 4).toNat ≤ o → bit m o = false) : f_X12_aislesOfAll m M = some (aA N m (N 4).toNat) := by
  have q4 := n4 hW
  apply wp_val
  unfold f_X12_aislesOfAll
  rw [← aA_more hW hh 16 (by omega)]
  refine wp_lpb (wp_forI (fun i x => x = (aA N m i, (i : Int))) 16 ?_ ?_ (Nat.zero_le _) rfl)
  · rintro i x hi rfl
    simp only [s_X12_aislesOfAll_4, j_X12_aislesOfAll_28_4]
    cases q : bit m i
    · refine wp_ite_t (by ((try simp (disch := omega) only [w32_and, w32_or, w32_shl, w32_shr, w32_xor, ixO, ixO0, ixO1, ixO2, ixO3, ixL0, ixL1, ixL2, ixC, ixB, ixI0, ixI00, ixI1, ixI2, ixI3, upd2_rd, upd2_nd, Nat.reduceEqDiff, Nat.reduceAdd, Nat.add_left_cancel_iff, Nat.add_right_cancel_iff, reduceCtorEq, ↓reduceIte, and_self, and_true, true_and, and_false, false_and, true_or, or_true, false_or, or_false, not_true_eq_false, not_false_eq_true]); (try simp only [w32_em]); (first | done | omega))) (wp_cl1 (wp_eq (has_f hm (show i < 31 by omega) q) (wp_ite_t (by decide) (wp_bnd (wp_bnd (wp_some ?_))))))
      dsimp only [Sum.elim_inl]
      simp only [aA, om, q, Int.natCast_succ, Bool.false_eq_true, ↓reduceIte]
    · have hi4 : (i : Int) < N 4 := by
        rcases Nat.lt_or_ge i (N 4).toNat with g | g
        · omega
        · rw [hh i g] at q; cases q
      refine wp_ite_t (by ((try simp (disch := omega) only [w32_and, w32_or, w32_shl, w32_shr, w32_xor, ixO, ixO0, ixO1, ixO2, ixO3, ixL0, ixL1, ixL2, ixC, ixB, ixI0, ixI00, ixI1, ixI2, ixI3, upd2_rd, upd2_nd, Nat.reduceEqDiff, Nat.reduceAdd, Nat.add_left_cancel_iff, Nat.add_right_cancel_iff, reduceCtorEq, ↓reduceIte, and_self, and_true, true_and, and_false, false_and, true_or, or_true, false_or, or_false, not_true_eq_false, not_false_eq_true]); (try simp only [w32_em]); (first | done | omega))) (wp_cl1 (wp_eq (has_t hm (show i < 31 by omega) q) (wp_ite_f (by decide) (wp_cl1 (wp_eq (X12a hN hW hi4) (wp_bnd (wp_bnd (wp_some ?_))))))))
      dsimp only [Sum.elim_inl]
      simp only [aA, om, q, Int.natCast_succ, ↓reduceIte]
  · rintro x rfl
    simp only [s_X12_aislesOfAll_4]
    refine wp_ite_f (by decide) (wp_some ?_)
    dsimp only [Sum.elim_inl, Sum.elim_inr]
    exact wp_some rfl
