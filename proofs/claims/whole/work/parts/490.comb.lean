-- ===== LARGEST_GAP's cost; COMBINED =====
def gaS (N : Nat → Int) (x : Int) (l : List Nat) : Int := if l.length < 2 then rtS N x l else 2 * thr N + sm (fun j => 2 * (thr N - (gap N x (l.getD (j + 1) 0)).2.2)) (l.length - 2)
theorem RT_upd {th : Nat} {M M' : Mem} {N : Nat → Int} {x : Int} {l : List Nat} (h : RT th M N x l) (e : ∀ b, th < b → b ≤ th + 5 → M' b = M b) (k : ∀ k, k = 0 ∨ k = 1 ∨ k = 6 → M' th k = M th k) : RT th M' N x l := by
  obtain ⟨⟨a1, a2, a3⟩, b, c⟩ := h
  refine ⟨⟨by rw [k 0 (by omega)]; exact a1, by rw [k 1 (by omega)]; exact a2, fun a ha => ?_⟩, by rw [k 6 (by omega)]; exact b, LR_congr c (e _ (by omega) (by omega))⟩
  rw [e (th + 1) (by omega) (by omega), e (th + 2) (by omega) (by omega), e (th + 3) (by omega) (by omega), e (th + 4) (by omega) (by omega)]
  exact a3 a ha
theorem X6gapC {th : Nat} {M : Mem} {N : Nat → Int} (hW : WF N) {x : Int} {l : List Nat} (hT : RT th M N x l) (hl : VL N x l) : wp (f_X6_largestGapCost th M) (fun r => r.1 = gaS N x l ∧ (∀ b, b ≠ th → r.2 b = M b) ∧ ∀ k, k ≠ 8 → k ≠ 9 → r.2 th k = M th k) := by
  have h6 := hT.2.1
  have hl6 := hl.1
  have tr := thr_rng hW
  have m1 : M th 1 = thr N := hT.1.2.1
  unfold f_X6_largestGapCost gaS
  by_cases q : l.length < 2
  · rw [if_pos q]
    refine wp_ite_t (by ((try simp (disch := omega) only [w32_and, w32_or, w32_shl, w32_shr, w32_xor, ixO, ixO0, ixO1, ixO2, ixO3, ixL0, ixL1, ixL2, ixC, ixB, ixI0, ixI00, ixI1, ixI2, ixI3, upd2_rd, upd2_nd, Nat.reduceEqDiff, Nat.reduceAdd, Nat.add_left_cancel_iff, Nat.add_right_cancel_iff, reduceCtorEq, ↓reduceIte, and_self, and_true, true_and, and_false, false_and, true_or, or_true, false_or, or_false, not_true_eq_false, not_false_eq_true]); (try simp only [w32_em]); (first | done | omega))) (wp_cl1 (wp_eq (X6ret hT hl) (wp_some ⟨rfl, fun _ _ => rfl, fun _ _ _ => rfl⟩)))
  · rw [if_neg q]
    refine wp_ite_f (by ((try simp (disch := omega) only [w32_and, w32_or, w32_shl, w32_shr, w32_xor, ixO, ixO0, ixO1, ixO2, ixO3, ixL0, ixL1, ixL2, ixC, ixB, ixI0, ixI00, ixI1, ixI2, ixI3, upd2_rd, upd2_nd, Nat.reduceEqDiff, Nat.reduceAdd, Nat.add_left_cancel_iff, Nat.add_right_cancel_iff, reduceCtorEq, ↓reduceIte, and_self, and_true, true_and, and_false, false_and, true_or, or_true, false_or, or_false, not_true_eq_false, not_false_eq_true]); (try simp only [w32_em]); (first | done | omega))) (wp_bnd (wp_lpb ?_))
    rw [m1]
    refine wp_forI (fun i y => y.1 = 2 * thr N + sm (fun j => 2 * (thr N - (gap N x (l.getD (j + 1) 0)).2.2)) i ∧ y.2.1 = ((i + 1 : Nat) : Int) ∧ (∀ b, b ≠ th → y.2.2 b = M b) ∧ ∀ k, k ≠ 8 → k ≠ 9 → y.2.2 th k = M th k) (l.length - 2) ?_ ?_ (Nat.zero_le _) ⟨by simp [sm], rfl, fun _ _ => rfl, fun _ _ _ => rfl⟩
    · rintro i ⟨c1, c2, m⟩ hi ⟨k1, k2, k3, k4⟩
      simp only at k1 k2 k3 k4
      subst k1
      subst k2
      have hT' : RT th m N x l := RT_upd hT (fun b b1 _ => k3 b (by omega)) (fun k hk => k4 k (by omega) (by omega))
      have g := VL_get hl (show i + 1 < l.length by omega)
      have e := LR_get hT'.2.2 (show i + 1 < l.length by omega)
      have h6' := hT'.2.1
      have xi : ix ((i + 1 : Nat) : Int) = i + 1 := ix_nat (by omega)
      simp only [s_X6_largestGapCost_22]
      refine wp_ite_t (by ((try simp (disch := omega) only [w32_and, w32_or, w32_shl, w32_shr, w32_xor, ixO, ixO0, ixO1, ixO2, ixO3, ixL0, ixL1, ixL2, ixC, ixB, ixI0, ixI00, ixI1, ixI2, ixI3, upd2_rd, upd2_nd, Nat.reduceEqDiff, Nat.reduceAdd, Nat.add_left_cancel_iff, Nat.add_right_cancel_iff, reduceCtorEq, ↓reduceIte, and_self, and_true, true_and, and_false, false_and, true_or, or_true, false_or, or_false, not_true_eq_false, not_false_eq_true]); (try simp only [w32_em]); (first | done | omega))) (wp_gi (by omega) (by omega) (by omega) (wp_cl1 ?_))
      rw [xi, e]
      refine wp_use (X6gap hW hT'.1 g.1) (fun r hr => wp_bnd (wp_bnd (wp_some ?_)))
      dsimp only [Sum.elim_inl]
      refine ⟨?_, by omega, fun b hb => by rw [hr.1 b hb]; exact k3 b hb, fun k a1 a2 => by rw [hr.2.1 k a1 a2]; exact k4 k a1 a2⟩
      rw [hr.2.2.2, hr.2.1 1 (by decide) (by decide), k4 1 (by decide) (by decide), m1]
      simp only [sm]
      omega
    · rintro ⟨c1, c2, m⟩ ⟨k1, k2, k3, k4⟩
      simp only at k1 k2 k3 k4
      subst k1
      subst k2
      have h6' : m th 6 = (l.length : Int) := by rw [k4 6 (by decide) (by decide)]; exact h6
      simp only [s_X6_largestGapCost_22]
      refine wp_ite_f (by ((try simp (disch := omega) only [w32_and, w32_or, w32_shl, w32_shr, w32_xor, ixO, ixO0, ixO1, ixO2, ixO3, ixL0, ixL1, ixL2, ixC, ixB, ixI0, ixI00, ixI1, ixI2, ixI3, upd2_rd, upd2_nd, Nat.reduceEqDiff, Nat.reduceAdd, Nat.add_left_cancel_iff, Nat.add_right_cancel_iff, reduceCtorEq, ↓reduceIte, and_self, and_true, true_and, and_false, false_and, true_or, or_true, false_or, or_false, not_true_eq_false, not_false_eq_true]); (try simp only [w32_em]); (first | done | omega))) (wp_some ?_)
      dsimp only [Sum.elim_inl, Sum.elim_inr]
      exact wp_some ⟨rfl, k3, k4⟩
theorem RA_upd {M M' : Mem} {N : Nat → Int} {x : Int} {l : List Nat} (h : RA M N x l) (e : ∀ b, b = 140 ∨ b = 144 ∨ b = 145 ∨ b = 146 → M' b = M b) (k : M' 139 8 = M 139 8) : RA M' N x l := by
  obtain ⟨a, b, c, d⟩ := h
  refine ⟨by rw [e 140 (by omega)]; exact a, ?_, by rw [k]; exact c, LR_congr d (e _ (by omega))⟩
  unfold S4 at b ⊢
  rw [e 144 (by omega), e 145 (by omega)]
  exact b
theorem X12gapC {M : Mem} {N : Nat → Int} (hW : WF N) {x : Int} (hx : Ims N x) {l : List Nat} (hA : RA M N x l) (hl : VL N x l) (h0 : 0 < l.length) : wp (f_X12_gapOf M) (fun r => r.1 = gaS N x l ∧ (∀ b, b ≠ 139 → r.2 b = M b) ∧ ∀ k, k ≠ 9 → k ≠ 10 → r.2 139 k = M 139 k) := by
  have h8 := hA.2.2.1
  have hl6 := hl.1
  have tr := thr_rng hW
  have m1 : M 140 1 + 1 = thr N := by rw [hA.1]; rfl
  unfold f_X12_gapOf gaS
  by_cases q : l.length < 2
  · rw [if_pos q]
    refine wp_ite_t (by ((try simp (disch := omega) only [w32_and, w32_or, w32_shl, w32_shr, w32_xor, ixO, ixO0, ixO1, ixO2, ixO3, ixL0, ixL1, ixL2, ixC, ixB, ixI0, ixI00, ixI1, ixI2, ixI3, upd2_rd, upd2_nd, Nat.reduceEqDiff, Nat.reduceAdd, Nat.add_left_cancel_iff, Nat.add_right_cancel_iff, reduceCtorEq, ↓reduceIte, and_self, and_true, true_and, and_false, false_and, true_or, or_true, false_or, or_false, not_true_eq_false, not_false_eq_true]); (try simp only [w32_em]); (first | done | omega))) (wp_cl1 (wp_eq (X12ret hW hx hA hl) (wp_some ⟨rfl, fun _ _ => rfl, fun _ _ _ => rfl⟩)))
  · rw [if_neg q]
    refine wp_ite_f (by ((try simp (disch := omega) only [w32_and, w32_or, w32_shl, w32_shr, w32_xor, ixO, ixO0, ixO1, ixO2, ixO3, ixL0, ixL1, ixL2, ixC, ixB, ixI0, ixI00, ixI1, ixI2, ixI3, upd2_rd, upd2_nd, Nat.reduceEqDiff, Nat.reduceAdd, Nat.add_left_cancel_iff, Nat.add_right_cancel_iff, reduceCtorEq, ↓reduceIte, and_self, and_true, true_and, and_false, false_and, true_or, or_true, false_or, or_false, not_true_eq_false, not_false_eq_true]); (try simp only [w32_em]); (first | done | omega))) (wp_cl1 ?_)
    refine wp_eq (show f_X12_through M = some (thr N) by unfold f_X12_through; rw [m1]) (wp_bnd (wp_lpb ?_))
    refine wp_forI (fun i y => y.1 = 2 * thr N + sm (fun j => 2 * (thr N - (gap N x (l.getD (j + 1) 0)).2.2)) i ∧ y.2.1 = ((i + 1 : Nat) : Int) ∧ (∀ b, b ≠ 139 → y.2.2 b = M b) ∧ ∀ k, k ≠ 9 → k ≠ 10 → y.2.2 139 k = M 139 k) (l.length - 2) ?_ ?_ (Nat.zero_le _) ⟨by simp [sm], rfl, fun _ _ => rfl, fun _ _ _ => rfl⟩
    · rintro i ⟨c1, c2, m⟩ hi ⟨k1, k2, k3, k4⟩
      simp only at k1 k2 k3 k4
      subst k1
      subst k2
      have hA' : RA m N x l := RA_upd hA (fun b hb => k3 b (by omega)) (k4 8 (by decide) (by decide))
      have g := VL_get hl (show i + 1 < l.length by omega)
      have e := LR_get hA'.2.2.2 (show i + 1 < l.length by omega)
      have h8' := hA'.2.2.1
      have xi : ix ((i + 1 : Nat) : Int) = i + 1 := ix_nat (by omega)
      simp only [s_X12_gapOf_22]
      refine wp_ite_t (by ((try simp (disch := omega) only [w32_and, w32_or, w32_shl, w32_shr, w32_xor, ixO, ixO0, ixO1, ixO2, ixO3, ixL0, ixL1, ixL2, ixC, ixB, ixI0, ixI00, ixI1, ixI2, ixI3, upd2_rd, upd2_nd, Nat.reduceEqDiff, Nat.reduceAdd, Nat.add_left_cancel_iff, Nat.add_right_cancel_iff, reduceCtorEq, ↓reduceIte, and_self, and_true, true_and, and_false, false_and, true_or, or_true, false_or, or_false, not_true_eq_false, not_false_eq_true]); (try simp only [w32_em]); (first | done | omega))) (wp_gi (by omega) (by omega) (by omega) (wp_cl1 ?_))
      rw [xi, e]
      refine wp_use (X12gap hA'.1 hW hx hA'.2.1 g.1) (fun r hr => wp_cl1 ?_)
      refine wp_eq (show f_X12_through r = some (thr N) by unfold f_X12_through; rw [hr.1 140 (by decide), hA'.1]; rfl) (wp_bnd (wp_bnd (wp_some ?_)))
      dsimp only [Sum.elim_inl]
      refine ⟨?_, by omega, fun b hb => by rw [hr.1 b hb]; exact k3 b hb, fun k a1 a2 => by rw [hr.2.1 k a1 a2]; exact k4 k a1 a2⟩
      rw [hr.2.2.2]
      simp only [sm]
      omega
    · rintro ⟨c1, c2, m⟩ ⟨k1, k2, k3, k4⟩
      simp only at k1 k2 k3 k4
      subst k1
      subst k2
      have h8' : m 139 8 = (l.length : Int) := by rw [k4 8 (by decide) (by decide)]; exact h8
      simp only [s_X12_gapOf_22]
      refine wp_ite_f (by ((try simp (disch := omega) only [w32_and, w32_or, w32_shl, w32_shr, w32_xor, ixO, ixO0, ixO1, ixO2, ixO3, ixL0, ixL1, ixL2, ixC, ixB, ixI0, ixI00, ixI1, ixI2, ixI3, upd2_rd, upd2_nd, Nat.reduceEqDiff, Nat.reduceAdd, Nat.add_left_cancel_iff, Nat.add_right_cancel_iff, reduceCtorEq, ↓reduceIte, and_self, and_true, true_and, and_false, false_and, true_or, or_true, false_or, or_false, not_true_eq_false, not_false_eq_true]); (try simp only [w32_em]); (first | done | omega))) (wp_some ?_)
      dsimp only [Sum.elim_inl, Sum.elim_inr]
      exact wp_some ⟨rfl, k3, k4⟩
-- COMBINED: from the back; r aisles are left, the first of them is number n - r
def cH (N : Nat → Int) (x : Int) (l : List Nat) (beh : Bool) (k : Nat) : Int := if beh = true then 2 * (thr N - loF N x (l.getD k 0)) else 2 * hiF N x (l.getD k 0)
/-- least cost of the last r aisles -/
def cW (N : Nat → Int) (x : Int) (l : List Nat) : Nat → Bool → Int
  | 0, beh => if beh = true then 1000000 else 0
  | r + 1, beh => if thr N + cW N x l r (!beh) < cH N x l beh (l.length - (r + 1)) + cW N x l r beh then thr N + cW N x l r (!beh) else cH N x l beh (l.length - (r + 1)) + cW N x l r beh
/-- the choice that takes it, crossing only where that is cheaper -/
def cG (N : Nat → Int) (x : Int) (l : List Nat) : Nat → Bool → Nat
  | 0, _ => 0
  | r + 1, beh => if thr N + cW N x l r (!beh) < cH N x l beh (l.length - (r + 1)) + cW N x l r beh then 2 ^ r + cG N x l r (!beh) else cG N x l r beh
/-- the cost of a choice -/
def cC (N : Nat → Int) (x : Int) (l : List Nat) (c : Nat) : Nat → Bool → Int
  | 0, beh => if beh = true then 1000000 else 0
  | r + 1, beh => if c.testBit r = true then thr N + cC N x l c r (!beh) else cH N x l beh (l.length - (r + 1)) + cC N x l c r beh
theorem mod2s (c r : Nat) : c % 2 ^ (r + 1) = c % 2 ^ r + 2 ^ r * (c.testBit r).toNat := by rw [Nat.mod_pow_succ, Nat.toNat_testBit]
theorem cG_lt {N : Nat → Int} {x : Int} {l : List Nat} : ∀ r beh, cG N x l r beh < 2 ^ r := by
  intro r
  induction r with
  | zero => intro beh; simp [cG]
  | succ r ih =>
    intro beh
    simp only [cG, Nat.pow_succ]
    split
    · have := ih (!beh); omega
    · have := ih beh; omega
theorem cW_le {N : Nat → Int} {x : Int} {l : List Nat} {c : Nat} : ∀ r beh, cW N x l r beh ≤ cC N x l c r beh := by
  intro r
  induction r with
  | zero => intro beh; exact Int.le_refl _
  | succ r ih =>
    intro beh
    have a := ih (!beh)
    have b := ih beh
    simp only [cW, cC]
    split <;> split <;> omega
theorem cG_eq {N : Nat → Int} {x : Int} {l : List Nat} {c : Nat} : ∀ r beh, c % 2 ^ r = cG N x l r beh → cC N x l c r beh = cW N x l r beh := by
  intro r
  induction r with
  | zero => intro beh _; rfl
  | succ r ih =>
    intro beh h
    rw [mod2s] at h
    simp only [cG] at h
    simp only [cW, cC]
    have lt := Nat.mod_lt c (Nat.two_pow_pos r)
    split at h
    · rename_i q
      have g := cG_lt (N := N) (x := x) (l := l) r (!beh)
      cases t : c.testBit r
      · rw [t] at h
        simp only [Bool.toNat_false, Nat.mul_zero, Nat.add_zero] at h
        omega
      · rw [t] at h
        simp only [Bool.toNat_true, Nat.mul_one] at h
        rw [if_pos rfl, if_pos q, ih (!beh) (by omega)]
    · rename_i q
      have g := cG_lt (N := N) (x := x) (l := l) r beh
      cases t : c.testBit r
      · rw [t] at h
        simp only [Bool.toNat_false, Nat.mul_zero, Nat.add_zero] at h
        rw [if_neg (by simp), if_neg q, ih beh h]
      · rw [t] at h
        simp only [Bool.toNat_true, Nat.mul_one] at h
        omega
theorem cG_first {N : Nat → Int} {x : Int} {l : List Nat} {c : Nat} : ∀ r beh, c % 2 ^ r < cG N x l r beh → cW N x l r beh < cC N x l c r beh := by
  intro r
  induction r with
  | zero => intro beh h; simp [cG] at h
  | succ r ih =>
    intro beh h
    rw [mod2s] at h
    simp only [cG] at h
    simp only [cW, cC]
    have lt := Nat.mod_lt c (Nat.two_pow_pos r)
    have b1 := cW_le (N := N) (x := x) (l := l) (c := c) r beh
    split at h
    · rename_i q
      rw [if_pos q]
      cases t : c.testBit r
      · rw [if_neg (by simp)]
        omega
      · rw [t] at h
        simp only [Bool.toNat_true, Nat.mul_one] at h
        rw [if_pos rfl]
        have := ih (!beh) (by omega)
        omega
    · rename_i q
      have g := cG_lt (N := N) (x := x) (l := l) r beh
      rw [if_neg q]
      cases t : c.testBit r
      · rw [t] at h
        simp only [Bool.toNat_false, Nat.mul_zero, Nat.add_zero] at h
        rw [if_neg (by simp)]
        have := ih beh h
        omega
      · rw [t] at h
        simp only [Bool.toNat_true, Nat.mul_one] at h
        omega
