-- ===== the mean tardiness: quotient, remainder, common divisor, ones =====
theorem bm32 {n : Nat} (h : n < 2147483648) : Int.bmod (n : Int) (2 ^ 32) = (n : Int) := by
  rw [Int.bmod_def]
  split <;> omega
theorem div_ok {a b : Nat} (ha : a < 2147483648) (hb : b < 2147483648) : i_div (a : Int) (b : Int) = ((a / b : Nat) : Int) := by
  have ea : (Int32.ofInt (a : Int)).toInt = (a : Int) := w32_ok ⟨by omega, by omega⟩
  have eb : (Int32.ofInt (b : Int)).toInt = (b : Int) := w32_ok ⟨by omega, by omega⟩
  unfold i_div
  rw [Int32.toInt_div, ea, eb]
  have : Int.tdiv (a : Int) (b : Int) = ((a / b : Nat) : Int) := rfl
  rw [this]
  exact bm32 (by have := Nat.div_le_self a b; omega)
theorem rem_ok {a b : Nat} (ha : a < 2147483648) (hb : b < 2147483648) : i_rem (a : Int) (b : Int) = ((a % b : Nat) : Int) := by
  have ea : (Int32.ofInt (a : Int)).toInt = (a : Int) := w32_ok ⟨by omega, by omega⟩
  have eb : (Int32.ofInt (b : Int)).toInt = (b : Int) := w32_ok ⟨by omega, by omega⟩
  have ed : (Int32.ofInt (a : Int) / Int32.ofInt (b : Int)).toInt = ((a / b : Nat) : Int) := div_ok ha hb
  have h1 : a / b * b ≤ a := Nat.div_mul_le_self a b
  have h2 := Nat.div_add_mod a b
  rw [Nat.mul_comm] at h2
  unfold i_rem
  rw [Int32.toInt_sub, Int32.toInt_mul, ed, ea, eb, ← Int.natCast_mul, bm32 (by omega)]
  rw [show (a : Int) - ((a / b * b : Nat) : Int) = ((a % b : Nat) : Int) by omega]
  exact bm32 (by omega)
theorem gcd_st {a b : Nat} : Nat.gcd b (a % b) = Nat.gcd a b := by
  rw [Nat.gcd_comm b (a % b), ← Nat.gcd_rec, Nat.gcd_comm]
theorem X11gcd {M : Mem} {a b : Nat} (ha : a < 2147483648) (hb : b ≤ 16) : f_X11_commonDivisor (a : Int) (b : Int) M = some (i_max 1 ((Nat.gcd a b : Nat) : Int)) := by
  apply wp_val
  unfold f_X11_commonDivisor
  refine wp_lpb (wp_wh (fun x => ∃ a' b' c' : Nat, x = ((a' : Int), (b' : Int), (c' : Int)) ∧ a' < 2147483648 ∧ b' + c' ≤ 16 ∧ Nat.gcd a' b' = Nat.gcd a b) (fun x => x.2.1.toNat) ?_ ⟨a, b, 0, rfl, ha, by omega, rfl⟩)
  rintro x ⟨a', b', c', rfl, h1, h2, h3⟩
  simp only [s_X11_commonDivisor_7]
  refine wp_ite_t (by ((try simp (disch := omega) only [w32_and, w32_or, w32_shl, w32_shr, w32_xor, ixO, ixO0, ixO1, ixO2, ixO3, ixL0, ixL1, ixL2, ixC, ixB, ixI0, ixI00, ixI1, ixI2, ixI3, upd2_rd, upd2_nd, Nat.reduceEqDiff, Nat.reduceAdd, Nat.add_left_cancel_iff, Nat.add_right_cancel_iff, reduceCtorEq, ↓reduceIte, and_self, and_true, true_and, and_false, false_and, true_or, or_true, false_or, or_false, not_true_eq_false, not_false_eq_true]); (try simp only [w32_em]); (first | done | omega))) ?_
  by_cases h0 : b' = 0
  · subst h0
    refine wp_ite_f (by decide) (wp_some ?_)
    dsimp only [Sum.elim_inl, Sum.elim_inr]
    rw [Nat.gcd_zero_right] at h3
    rw [h3]
    exact wp_some rfl
  · have hm : a' % b' < b' := Nat.mod_lt _ (by omega)
    refine wp_ite_t (by ((try simp (disch := omega) only [w32_and, w32_or, w32_shl, w32_shr, w32_xor, ixO, ixO0, ixO1, ixO2, ixO3, ixL0, ixL1, ixL2, ixC, ixB, ixI0, ixI00, ixI1, ixI2, ixI3, upd2_rd, upd2_nd, Nat.reduceEqDiff, Nat.reduceAdd, Nat.add_left_cancel_iff, Nat.add_right_cancel_iff, reduceCtorEq, ↓reduceIte, and_self, and_true, true_and, and_false, false_and, true_or, or_true, false_or, or_false, not_true_eq_false, not_false_eq_true]); (try simp only [w32_em]); (first | done | omega))) (wp_gn (by ((try simp (disch := omega) only [w32_and, w32_or, w32_shl, w32_shr, w32_xor, ixO, ixO0, ixO1, ixO2, ixO3, ixL0, ixL1, ixL2, ixC, ixB, ixI0, ixI00, ixI1, ixI2, ixI3, upd2_rd, upd2_nd, Nat.reduceEqDiff, Nat.reduceAdd, Nat.add_left_cancel_iff, Nat.add_right_cancel_iff, reduceCtorEq, ↓reduceIte, and_self, and_true, true_and, and_false, false_and, true_or, or_true, false_or, or_false, not_true_eq_false, not_false_eq_true]); (try simp only [w32_em]); (first | done | omega))) (wp_bnd (wp_bnd (wp_some ?_))))
    dsimp only [Sum.elim_inl, Sum.elim_inr]
    rw [rem_ok h1 (by omega)]
    exact ⟨⟨b', a' % b', c' + 1, rfl, by omega, by omega, by rw [gcd_st]; exact h3⟩, by rw [Int.toNat_natCast, Int.toNat_natCast]; exact hm⟩
theorem X12gcd {M : Mem} {a b : Nat} (ha : a < 2147483648) (hb : b < 2147483648) : f_X12_common (a : Int) (b : Int) M = some ((Nat.gcd a b : Nat) : Int) := by
  apply wp_val
  unfold f_X12_common
  refine wp_lpb (wp_wh (fun x => ∃ a' b' : Nat, x = ((a' : Int), (b' : Int)) ∧ a' < 2147483648 ∧ b' < 2147483648 ∧ Nat.gcd a' b' = Nat.gcd a b) (fun x => x.2.toNat) ?_ ⟨a, b, rfl, ha, hb, rfl⟩)
  rintro x ⟨a', b', rfl, h1, h2, h3⟩
  simp only [s_X12_common_4]
  by_cases h0 : b' = 0
  · subst h0
    refine wp_ite_t (by decide) (wp_some ?_)
    dsimp only [Sum.elim_inl, Sum.elim_inr]
    rw [Nat.gcd_zero_right] at h3
    rw [h3]
    exact wp_some rfl
  · have hm : a' % b' < b' := Nat.mod_lt _ (by omega)
    refine wp_ite_f (by ((try simp (disch := omega) only [w32_and, w32_or, w32_shl, w32_shr, w32_xor, ixO, ixO0, ixO1, ixO2, ixO3, ixL0, ixL1, ixL2, ixC, ixB, ixI0, ixI00, ixI1, ixI2, ixI3, upd2_rd, upd2_nd, Nat.reduceEqDiff, Nat.reduceAdd, Nat.add_left_cancel_iff, Nat.add_right_cancel_iff, reduceCtorEq, ↓reduceIte, and_self, and_true, true_and, and_false, false_and, true_or, or_true, false_or, or_false, not_true_eq_false, not_false_eq_true]); (try simp only [w32_em]); (first | done | omega))) (wp_gn (by ((try simp (disch := omega) only [w32_and, w32_or, w32_shl, w32_shr, w32_xor, ixO, ixO0, ixO1, ixO2, ixO3, ixL0, ixL1, ixL2, ixC, ixB, ixI0, ixI00, ixI1, ixI2, ixI3, upd2_rd, upd2_nd, Nat.reduceEqDiff, Nat.reduceAdd, Nat.add_left_cancel_iff, Nat.add_right_cancel_iff, reduceCtorEq, ↓reduceIte, and_self, and_true, true_and, and_false, false_and, true_or, or_true, false_or, or_false, not_true_eq_false, not_false_eq_true]); (try simp only [w32_em]); (first | done | omega))) (wp_bnd (wp_some ?_)))
    dsimp only [Sum.elim_inl, Sum.elim_inr]
    rw [rem_ok h1 h2]
    exact ⟨⟨b', a' % b', rfl, by omega, by omega, by rw [gcd_st]; exact h3⟩, by rw [Int.toNat_natCast, Int.toNat_natCast]; exact hm⟩
/-- how many ones stand below place n -/
def pc : Nat → Nat → Nat
  | 0, _ => 0
  | n + 1, x => x % 2 + pc n (x / 2)
theorem pc_clr : ∀ (n x : Nat), 0 < x → x < 2 ^ n → pc n (x &&& (x - 1)) + 1 = pc n x := by
  intro n
  induction n with
  | zero => intro x h1 h2; simp at h2; omega
  | succ n ih =>
    intro x h1 h2
    have e1 : (x &&& (x - 1)) % 2 = 0 := by
      have := Nat.and_mod_two_pow (a := x) (b := x - 1) (n := 1)
      simp only [Nat.pow_one] at this
      rw [this]
      rcases Nat.mod_two_eq_zero_or_one x with h | h
      · rw [h, Nat.zero_and]
      · rw [show (x - 1) % 2 = 0 by omega, Nat.and_zero]
    have e2 : (x &&& (x - 1)) / 2 = x / 2 &&& (x - 1) / 2 := Nat.and_div_two
    simp only [pc]
    rw [e1, e2]
    rcases Nat.mod_two_eq_zero_or_one x with h | h
    · rw [h, show (x - 1) / 2 = x / 2 - 1 by omega]
      have := ih (x / 2) (by omega) (by rw [Nat.pow_succ] at h2; omega)
      omega
    · rw [h, show (x - 1) / 2 = x / 2 by omega, Nat.and_self]
      omega
theorem sm_head {f : Nat → Int} : ∀ n : Nat, sm f (n + 1) = f 0 + sm (fun k => f (k + 1)) n := by
  intro n
  induction n with
  | zero => simp [sm]
  | succ n ih =>
    have : sm f (n + 1 + 1) = sm f (n + 1) + f (n + 1) := rfl
    rw [this, ih]
    simp only [sm]
    omega
theorem pc_sm : ∀ (n x : Nat), ((pc n x : Nat) : Int) = sm (fun o => if bit (x : Int) o = true then 1 else 0) n := by
  intro n
  induction n with
  | zero => intro x; rfl
  | succ n ih =>
    intro x
    rw [sm_head]
    simp only [pc, bit_nat, Nat.testBit_succ] at ih ⊢
    rw [Int.natCast_add, ih (x / 2)]
    congr 1
    rw [Nat.testBit_zero]
    rcases Nat.mod_two_eq_zero_or_one x with h | h <;> simp [h]
/-- how many orders a set has -/
def one (m : Int) : Int := sm (fun o => if bit m o = true then 1 else 0) 16
theorem X12ones {M : Mem} {m : Int} (h0 : 0 ≤ m) (h1 : m < 65536) : f_X12_ones m M = some (one m) := by
  obtain ⟨x, rfl⟩ : ∃ x : Nat, m = (x : Int) := ⟨m.toNat, by omega⟩
  have e : one (x : Int) = ((pc 16 x : Nat) : Int) := (pc_sm 16 x).symm
  apply wp_val
  rw [e]
  unfold f_X12_ones
  refine wp_lpb (wp_wh (fun y => ∃ c z : Nat, y = ((c : Int), (z : Int)) ∧ z < 65536 ∧ c + pc 16 z = pc 16 x) (fun y => y.2.toNat) ?_ ⟨0, x, rfl, by omega, by omega⟩)
  rintro y ⟨c, z, rfl, g1, g2⟩
  simp only [s_X12_ones_4]
  by_cases hz : z = 0
  · subst hz
    refine wp_ite_t (by decide) (wp_some ?_)
    dsimp only [Sum.elim_inl, Sum.elim_inr]
    have : pc 16 0 = 0 := by decide
    exact wp_some (by omega)
  · have ea : i_and (z : Int) ((z : Int) - 1) = ((z &&& (z - 1) : Nat) : Int) := by
      rw [show ((z : Int) - 1) = ((z - 1 : Nat) : Int) by omega]
      have a1 : NN ((z : Nat) : Int) := ⟨by omega, by omega⟩
      have a2 : NN (((z - 1 : Nat)) : Int) := ⟨by omega, by omega⟩
      have le : z &&& (z - 1) ≤ z := Nat.and_le_left
      have := and_bits a1 a2
      exact bit_ext this.1 ⟨by omega, by omega⟩ (fun k => by rw [this.2, bit_nat, bit_nat, bit_nat, Nat.testBit_and])
    have le : z &&& (z - 1) ≤ z - 1 := Nat.and_le_right
    have pk := pc_clr 16 z (by omega) (by omega)
    refine wp_ite_f (by ((try simp (disch := omega) only [w32_and, w32_or, w32_shl, w32_shr, w32_xor, ixO, ixO0, ixO1, ixO2, ixO3, ixL0, ixL1, ixL2, ixC, ixB, ixI0, ixI00, ixI1, ixI2, ixI3, upd2_rd, upd2_nd, Nat.reduceEqDiff, Nat.reduceAdd, Nat.add_left_cancel_iff, Nat.add_right_cancel_iff, reduceCtorEq, ↓reduceIte, and_self, and_true, true_and, and_false, false_and, true_or, or_true, false_or, or_false, not_true_eq_false, not_false_eq_true]); (try simp only [w32_em]); (first | done | omega))) (wp_bnd (wp_bnd (wp_some ?_)))
    dsimp only [Sum.elim_inl, Sum.elim_inr]
    rw [ea]
    exact ⟨⟨c + 1, z &&& (z - 1), rfl, by omega, by omega⟩, by rw [Int.toNat_natCast, Int.toNat_natCast]; omega⟩
theorem sm_swap {f : Nat → Nat → Int} {n m : Nat} : sm (fun b => sm (fun o => f b o) m) n = sm (fun o => sm (fun b => f b o) n) m := by
  induction n with
  | zero =>
    have : ∀ m : Nat, sm (fun _ => (0 : Int)) m = 0 := fun m => by rw [sm_const]; omega
    simp only [sm]
    exact (this m).symm
  | succ n ih =>
    simp only [sm]
    rw [ih, sm_add]
/-- how many orders are batched -/
def cnt1 (N : Nat → Int) (n : Nat) : Int := sm (fun o => if N (110 + 22 * o) = 1 then 1 else 0) n
theorem sB {N : Nat → Int} (hW : WF N) {o : Nat} : ∀ n : Nat, (n : Int) ≤ N 5 → sm (fun b => if bit (N (461 + b)) o = true then 1 else 0) n = if bF N o n = -1 then 0 else 1 := by
  intro n
  induction n with
  | zero => intro _; rfl
  | succ n ih =>
    intro hn
    have i := ih (by omega)
    have s1 : sm (fun b => if bit (N (461 + b)) o = true then 1 else 0) (n + 1) = sm (fun b => if bit (N (461 + b)) o = true then 1 else 0) n + (if bit (N (461 + n)) o = true then 1 else 0) := rfl
    rw [s1]
    rcases bF_spec (N := N) (o := o) (n := n) with ⟨e1, e2⟩ | ⟨b, e1, e2, e3⟩
    · rw [if_pos e1] at i
      cases q : bit (N (461 + n)) o
      · have up : bF N o (n + 1) = -1 := by simp [bF, e1, q]
        rw [i, if_pos up]
        simp
      · have up : bF N o (n + 1) = (n : Int) := by simp [bF, e1, q]
        rw [i, if_neg (show ¬ bF N o (n + 1) = -1 by omega)]
        simp
    · rw [if_neg (by omega)] at i
      have up : bF N o (n + 1) = (b : Int) := bF_mono e2 (by omega)
      have := (hW.2.2.2.2.2.1 b (by omega)).2.2.2 n (by omega) (by omega) o e3
      rw [i, this, if_neg (show ¬ bF N o (n + 1) = -1 by omega)]
      simp
theorem many_eq {N : Nat → Int} (hW : WF N) : sm (fun b => one (N (461 + b))) (N 5).toNat = cnt1 N (N 4).toNat := by
  have q5 := n5 hW
  have q4 := n4 hW
  unfold one
  rw [sm_swap, sm_more (n := (N 4).toNat) (by omega)]
  · refine sm_congr (fun o ho => ?_)
    rw [sB hW _ (by omega)]
    have := st_bF hW (o := o) (by omega)
    by_cases e : bF N o (N 5).toNat = -1
    · rw [if_pos e, if_neg (fun h => this.mp h e)]
    · rw [if_neg e, if_pos (this.mpr e)]
  · intro o h1 h2
    rw [sB hW _ (by omega)]
    rcases bF_spec (N := N) (o := o) (n := (N 5).toNat) with ⟨e1, e2⟩ | ⟨b, e1, e2, e3⟩
    · rw [if_pos e1]
    · rw [(bmem hW (show (b : Int) < N 5 by omega)).2 o h1] at e3
      cases e3
theorem X12many {M : Mem} {N : Nat → Int} (hN : M 140 = N) (hW : WF N) : f_X12_batchedMany M = some (cnt1 N (N 4).toNat) := by
  subst hN
  have q5 := n5 hW
  rw [← many_eq hW]
  apply wp_val
  unfold f_X12_batchedMany
  refine wp_lpb (wp_forI (fun i x => x = (sm (fun b => one (M 140 (461 + b))) i, (i : Int))) (M 140 5).toNat ?_ ?_ (Nat.zero_le _) rfl)
  · rintro i x hi rfl
    have hb := hW.2.2.2.2.2.1 i (by omega)
    unfold WFb at hb
    have xi : ix (461 + (i : Int)) = 461 + i := by rw [ix_of (by omega) (by omega)]; omega
    simp only [s_X12_batchedMany_4, xi]
    refine wp_ite_t (by ((try simp (disch := omega) only [w32_and, w32_or, w32_shl, w32_shr, w32_xor, ixO, ixO0, ixO1, ixO2, ixO3, ixL0, ixL1, ixL2, ixC, ixB, ixI0, ixI00, ixI1, ixI2, ixI3, upd2_rd, upd2_nd, Nat.reduceEqDiff, Nat.reduceAdd, Nat.add_left_cancel_iff, Nat.add_right_cancel_iff, reduceCtorEq, ↓reduceIte, and_self, and_true, true_and, and_false, false_and, true_or, or_true, false_or, or_false, not_true_eq_false, not_false_eq_true]); (try simp only [w32_em]); (first | done | omega))) (wp_gi (by omega) (by omega) (by omega) (wp_cl1 (wp_eq (X12ones (by omega) (by omega)) (wp_bnd (wp_bnd (wp_some ?_))))))
    dsimp only [Sum.elim_inl]
    simp only [sm, Int.natCast_succ]
  · rintro x rfl
    simp only [s_X12_batchedMany_4]
    refine wp_ite_f (by ((try simp (disch := omega) only [w32_and, w32_or, w32_shl, w32_shr, w32_xor, ixO, ixO0, ixO1, ixO2, ixO3, ixL0, ixL1, ixL2, ixC, ixB, ixI0, ixI00, ixI1, ixI2, ixI3, upd2_rd, upd2_nd, Nat.reduceEqDiff, Nat.reduceAdd, Nat.add_left_cancel_iff, Nat.add_right_cancel_iff, reduceCtorEq, ↓reduceIte, and_self, and_true, true_and, and_false, false_and, true_or, or_true, false_or, or_false, not_true_eq_false, not_false_eq_true]); (try simp only [w32_em]); (first | done | omega))) (wp_some ?_)
    dsimp only [Sum.elim_inl, Sum.elim_inr]
    exact wp_some rfl
theorem X5cnt {M : Mem} {N : Nat → Int} (hR : HR 1 M N) (hW : WF N) : f_X5_countIn 10 1 M = some (cnt1 N (N 4).toNat) := by
  have q4 := n4 hW
  obtain ⟨d4, hO⟩ := HR_O hR
  apply wp_val
  unfold f_X5_countIn
  refine wp_lpb (wp_forI (fun i x => x = (cnt1 N i, (i : Int))) (N 4).toNat ?_ ?_ (Nat.zero_le _) rfl)
  · rintro i x hi rfl
    have hi' : (i : Int) < N 4 := by omega
    have xi : ix (i : Int) = i := ix_nat (by omega)
    have e12 : M 12 i = N (110 + 22 * i) := (hO i hi').2
    have hWO := hW.2.2.2.2.1 i hi'
    unfold WFo at hWO
    simp only [s_X5_countIn_4, j_X5_countIn_25_4, Nat.reduceAdd, xi, e12]
    by_cases hs : N (110 + 22 * i) = 1
    · refine wp_ite_t (by ((try simp (disch := omega) only [w32_and, w32_or, w32_shl, w32_shr, w32_xor, ixO, ixO0, ixO1, ixO2, ixO3, ixL0, ixL1, ixL2, ixC, ixB, ixI0, ixI00, ixI1, ixI2, ixI3, upd2_rd, upd2_nd, Nat.reduceEqDiff, Nat.reduceAdd, Nat.add_left_cancel_iff, Nat.add_right_cancel_iff, reduceCtorEq, ↓reduceIte, and_self, and_true, true_and, and_false, false_and, true_or, or_true, false_or, or_false, not_true_eq_false, not_false_eq_true]); (try simp only [w32_em]); (first | done | omega))) (wp_gi (by omega) (by omega) (by omega) (wp_ite_t (by ((try simp (disch := omega) only [w32_and, w32_or, w32_shl, w32_shr, w32_xor, ixO, ixO0, ixO1, ixO2, ixO3, ixL0, ixL1, ixL2, ixC, ixB, ixI0, ixI00, ixI1, ixI2, ixI3, upd2_rd, upd2_nd, Nat.reduceEqDiff, Nat.reduceAdd, Nat.add_left_cancel_iff, Nat.add_right_cancel_iff, reduceCtorEq, ↓reduceIte, and_self, and_true, true_and, and_false, false_and, true_or, or_true, false_or, or_false, not_true_eq_false, not_false_eq_true]); (try simp only [w32_em]); (first | done | omega))) (wp_bnd (wp_bnd (wp_some ?_)))))
      dsimp only [Sum.elim_inl]
      simp only [cnt1, sm, Int.natCast_succ, hs, ↓reduceIte]
    · refine wp_ite_t (by ((try simp (disch := omega) only [w32_and, w32_or, w32_shl, w32_shr, w32_xor, ixO, ixO0, ixO1, ixO2, ixO3, ixL0, ixL1, ixL2, ixC, ixB, ixI0, ixI00, ixI1, ixI2, ixI3, upd2_rd, upd2_nd, Nat.reduceEqDiff, Nat.reduceAdd, Nat.add_left_cancel_iff, Nat.add_right_cancel_iff, reduceCtorEq, ↓reduceIte, and_self, and_true, true_and, and_false, false_and, true_or, or_true, false_or, or_false, not_true_eq_false, not_false_eq_true]); (try simp only [w32_em]); (first | done | omega))) (wp_gi (by omega) (by omega) (by omega) (wp_ite_f (by ((try simp (disch := omega) only [w32_and, w32_or, w32_shl, w32_shr, w32_xor, ixO, ixO0, ixO1, ixO2, ixO3, ixL0, ixL1, ixL2, ixC, ixB, ixI0, ixI00, ixI1, ixI2, ixI3, upd2_rd, upd2_nd, Nat.reduceEqDiff, Nat.reduceAdd, Nat.add_left_cancel_iff, Nat.add_right_cancel_iff, reduceCtorEq, ↓reduceIte, and_self, and_true, true_and, and_false, false_and, true_or, or_true, false_or, or_false, not_true_eq_false, not_false_eq_true]); (try simp only [w32_em]); (first | done | omega))) (wp_bnd (wp_some ?_))))
      dsimp only [Sum.elim_inl]
      simp only [cnt1, sm, Int.natCast_succ, hs, ↓reduceIte, Int.add_zero]
  · rintro x rfl
    simp only [s_X5_countIn_4]
    refine wp_ite_f (by ((try simp (disch := omega) only [w32_and, w32_or, w32_shl, w32_shr, w32_xor, ixO, ixO0, ixO1, ixO2, ixO3, ixL0, ixL1, ixL2, ixC, ixB, ixI0, ixI00, ixI1, ixI2, ixI3, upd2_rd, upd2_nd, Nat.reduceEqDiff, Nat.reduceAdd, Nat.add_left_cancel_iff, Nat.add_right_cancel_iff, reduceCtorEq, ↓reduceIte, and_self, and_true, true_and, and_false, false_and, true_or, or_true, false_or, or_false, not_true_eq_false, not_false_eq_true]); (try simp only [w32_em]); (first | done | omega))) (wp_some ?_)
    dsimp only [Sum.elim_inl, Sum.elim_inr]
    exact wp_some rfl
theorem sm_nz {g : Nat → Int} : ∀ n : Nat, sm g n ≠ 0 → ∃ i, i < n ∧ g i ≠ 0 := by
  intro n
  induction n with
  | zero => intro h; exact absurd rfl h
  | succ n ih =>
    intro h
    by_cases e : g n = 0
    · simp only [sm, e, Int.add_zero] at h
      obtain ⟨i, hi, q⟩ := ih h
      exact ⟨i, by omega, q⟩
    · exact ⟨n, by omega, e⟩
theorem sm_pos {g : Nat → Int} (h : ∀ i, 0 ≤ g i) {j : Nat} (hj : 0 < g j) : ∀ n : Nat, j < n → 0 < sm g n := by
  intro n
  induction n with
  | zero => intro h; omega
  | succ n ih =>
    intro hn
    simp only [sm]
    have := h n
    by_cases e : j = n
    · have := sm_mono h (Nat.zero_le n)
      simp only [sm] at this
      rw [← e] at this ⊢
      omega
    · have := ih (by omega)
      omega
theorem cnt_rng {N : Nat → Int} : ∀ n : Nat, 0 ≤ cnt1 N n ∧ cnt1 N n ≤ (n : Int) := by
  intro n
  induction n with
  | zero => exact ⟨Int.le_refl _, Int.le_refl _⟩
  | succ n ih =>
    simp only [cnt1, sm] at ih ⊢
    split <;> omega
theorem td_cnt {N : Nat → Int} (hW : WF N) (h : tdQ N id (N 5).toNat ≠ 0) : 1 ≤ cnt1 N (N 4).toNat := by
  have q5 := n5 hW
  obtain ⟨k, hk, h1⟩ := sm_nz _ h
  obtain ⟨o, ho, h2⟩ := sm_nz _ h1
  simp only [id] at h2
  by_cases e : bit (N (461 + k)) o = true
  · have hs := ((hW.2.2.2.2.2.1 k (by omega)).2.2.1 o e).2
    have := sm_pos (g := fun o => if N (110 + 22 * o) = 1 then 1 else 0) (fun i => by split <;> omega) (j := o) (by rw [if_pos hs]; omega) _ ho
    exact this
  · rw [if_neg e] at h2
    exact absurd rfl h2
theorem mean_ok {N : Nat → Int} (hW : WF N) : ∃ t c g : Nat, tdQ N id (N 5).toNat = (t : Int) ∧ t < 2147483648 ∧ i_max 1 (cnt1 N (N 4).toNat) = (c : Int) ∧ 1 ≤ c ∧ c ≤ 16 ∧ Nat.gcd t c = g ∧ 1 ≤ g ∧ g ≤ c ∧ i_max 1 (g : Int) = (g : Int) ∧ (t ≠ 0 → cnt1 N (N 4).toNat = (c : Int)) := by
  have q5 := n5 hW
  have q4 := n4 hW
  have r := tdQ_rng hW (q := id) (N 5).toNat
  have s := cnt_rng (N := N) (N 4).toNat
  have tc := td_cnt hW
  have m1 : i_max 1 (cnt1 N (N 4).toNat) = if 1 < cnt1 N (N 4).toNat then cnt1 N (N 4).toNat else 1 := by
    unfold i_max
    rw [w32_ok ⟨by omega, by omega⟩, w32_ok ⟨by omega, by omega⟩]
  obtain ⟨t, ht⟩ : ∃ t : Nat, tdQ N id (N 5).toNat = (t : Int) := ⟨(tdQ N id (N 5).toNat).toNat, by omega⟩
  obtain ⟨c, hc⟩ : ∃ c : Nat, i_max 1 (cnt1 N (N 4).toNat) = (c : Int) := ⟨(i_max 1 (cnt1 N (N 4).toNat)).toNat, by rw [m1]; split <;> omega⟩
  have hc1 : 1 ≤ c ∧ c ≤ 16 ∧ (1 ≤ cnt1 N (N 4).toNat → cnt1 N (N 4).toNat = (c : Int)) := by
    rw [m1] at hc
    split at hc <;> omega
  have g1 : 1 ≤ Nat.gcd t c := Nat.gcd_pos_of_pos_right _ (by omega)
  have g2 : Nat.gcd t c ≤ c := Nat.gcd_le_right _ (by omega)
  refine ⟨t, c, Nat.gcd t c, ht, by omega, hc, hc1.1, hc1.2.1, rfl, g1, g2, ?_, fun h => hc1.2.2 (tc (by omega))⟩
  unfold i_max
  rw [w32_ok ⟨by omega, by omega⟩, w32_ok ⟨by omega, by omega⟩]
  split <;> omega
theorem o_43 {M : Mem} (hI : Inv M) (p1 p2 p3 p4 : Int) : Ow (L_43 p1 p2 p3 p4 M) M := by
  have hR := hI.1; have hW := hI.2.1; have hw := hI.2.1.1; have hw2 := hI.2.1.2.1; have hw3 := hI.2.1.2.2.1; obtain ⟨hA, hB, hC⟩ := hI.1; have hC3 := hC.1.1; have hC4 := hC.2.1.1; have hC5 := hC.2.2.1; simp only [Nat.reduceAdd] at hA hB hC3 hC4 hC5; have hz : M 2 3 = 1 ∧ M 140 7 = -1 ∨ M 2 3 = 2 ∧ M 140 7 ≠ -1 ∧ M 140 8 = -1 ∨ M 2 3 = 3 ∧ M 140 7 ≠ -1 ∧ M 140 8 ≠ -1 := zn3 hA.2.2.2.1; show wp _ _
  obtain ⟨t, c, g, t1, t2, c1, c2, c3, g1, g2, g3, g4, tc⟩ := mean_ok hW
  simp only [L_43, f_X11_meanTardinessNumerator, f_X12_meanTardinessNumerator, f_X11_batchedOrders]
  refine wp_cl2 (wp_cl2 (wp_use (X11tard hR hW) (fun r hr => ?_)))
  have hRr : HR 1 r.2 (M 140) := HR_fr (th := 40) (by omega) hR (fun a ha => hr.2 a (by omega))
  rw [hr.1, t1]
  refine wp_cl1 (wp_cl1 (wp_eq (X5cnt hRr hW) (wp_some ?_)))
  rw [c1]
  refine wp_cl1 (wp_eq (X11gcd t2 c3) ?_)
  rw [g1, g4]
  refine wp_gn (by ((try simp (disch := omega) only [w32_and, w32_or, w32_shl, w32_shr, w32_xor, ixO, ixO0, ixO1, ixO2, ixO3, ixL0, ixL1, ixL2, ixC, ixB, ixI0, ixI00, ixI1, ixI2, ixI3, upd2_rd, upd2_nd, Nat.reduceEqDiff, Nat.reduceAdd, Nat.add_left_cancel_iff, Nat.add_right_cancel_iff, reduceCtorEq, ↓reduceIte, and_self, and_true, true_and, and_false, false_and, true_or, or_true, false_or, or_false, not_true_eq_false, not_false_eq_true]); (try simp only [w32_em]); (first | done | omega))) (wp_some (wp_cl2 (wp_bnd (wp_cl1 (wp_use (X12total (N := M 140) (by rw [upd2_ne (by decide)]; exact hr.2 140 (by omega)) hW) (fun u hu => wp_cl1 (wp_eq hu.2.2 ?_)))))))
  have sM := Sm_ab5 hr.2 hu.1
  have fin := (⟨Inv_Sm sM hI, sM.1 37 rfl⟩ : Inv u ∧ u 37 = M 37)
  rw [t1, div_ok t2 (by omega)]
  by_cases h0 : t = 0
  · subst h0
    refine wp_ite_t (by decide) (wp_some (wp_ite_t ?_ (wp_some fin)))
    rw [Nat.zero_div]
    rfl
  · refine wp_ite_f (by ((try simp (disch := omega) only [w32_and, w32_or, w32_shl, w32_shr, w32_xor, ixO, ixO0, ixO1, ixO2, ixO3, ixL0, ixL1, ixL2, ixC, ixB, ixI0, ixI00, ixI1, ixI2, ixI3, upd2_rd, upd2_nd, Nat.reduceEqDiff, Nat.reduceAdd, Nat.add_left_cancel_iff, Nat.add_right_cancel_iff, reduceCtorEq, ↓reduceIte, and_self, and_true, true_and, and_false, false_and, true_or, or_true, false_or, or_false, not_true_eq_false, not_false_eq_true]); (try simp only [w32_em]); (first | done | omega))) (wp_cl1 (wp_eq (X12many hu.2.1 hW) ?_))
    rw [tc h0]
    refine wp_cl1 (wp_eq (X12gcd t2 (by omega)) ?_)
    rw [g1]
    refine wp_gn (by ((try simp (disch := omega) only [w32_and, w32_or, w32_shl, w32_shr, w32_xor, ixO, ixO0, ixO1, ixO2, ixO3, ixL0, ixL1, ixL2, ixC, ixB, ixI0, ixI00, ixI1, ixI2, ixI3, upd2_rd, upd2_nd, Nat.reduceEqDiff, Nat.reduceAdd, Nat.add_left_cancel_iff, Nat.add_right_cancel_iff, reduceCtorEq, ↓reduceIte, and_self, and_true, true_and, and_false, false_and, true_or, or_true, false_or, or_false, not_true_eq_false, not_false_eq_true]); (try simp only [w32_em]); (first | done | omega))) (wp_some (wp_ite_t ?_ (wp_some fin)))
    rw [div_ok t2 (by omega)]
theorem o_44 {M : Mem} (hI : Inv M) (p1 p2 p3 p4 : Int) : Ow (L_44 p1 p2 p3 p4 M) M := by
  have hR := hI.1; have hW := hI.2.1; have hw := hI.2.1.1; have hw2 := hI.2.1.2.1; have hw3 := hI.2.1.2.2.1; obtain ⟨hA, hB, hC⟩ := hI.1; have hC3 := hC.1.1; have hC4 := hC.2.1.1; have hC5 := hC.2.2.1; simp only [Nat.reduceAdd] at hA hB hC3 hC4 hC5; have hz : M 2 3 = 1 ∧ M 140 7 = -1 ∨ M 2 3 = 2 ∧ M 140 7 ≠ -1 ∧ M 140 8 = -1 ∨ M 2 3 = 3 ∧ M 140 7 ≠ -1 ∧ M 140 8 ≠ -1 := zn3 hA.2.2.2.1; show wp _ _
  obtain ⟨t, c, g, t1, t2, c1, c2, c3, g1, g2, g3, g4, tc⟩ := mean_ok hW
  simp only [L_44, f_X11_meanTardinessDenominator, f_X12_meanTardinessDenominator, f_X11_batchedOrders]
  refine wp_cl2 (wp_cl1 (wp_cl1 (wp_eq (X5cnt hR hW) (wp_some ?_))))
  refine wp_cl2 (wp_use (X11tard hR hW) (fun r hr => ?_))
  have hRr : HR 1 r.2 (M 140) := HR_fr (th := 40) (by omega) hR (fun a ha => hr.2 a (by omega))
  rw [hr.1, t1]
  refine wp_cl1 (wp_cl1 (wp_eq (X5cnt hRr hW) (wp_some ?_)))
  rw [c1]
  refine wp_cl1 (wp_eq (X11gcd t2 c3) ?_)
  rw [g1, g4]
  refine wp_gn (by ((try simp (disch := omega) only [w32_and, w32_or, w32_shl, w32_shr, w32_xor, ixO, ixO0, ixO1, ixO2, ixO3, ixL0, ixL1, ixL2, ixC, ixB, ixI0, ixI00, ixI1, ixI2, ixI3, upd2_rd, upd2_nd, Nat.reduceEqDiff, Nat.reduceAdd, Nat.add_left_cancel_iff, Nat.add_right_cancel_iff, reduceCtorEq, ↓reduceIte, and_self, and_true, true_and, and_false, false_and, true_or, or_true, false_or, or_false, not_true_eq_false, not_false_eq_true]); (try simp only [w32_em]); (first | done | omega))) (wp_some (wp_cl2 (wp_bnd (wp_cl1 (wp_use (X12total (N := M 140) (by rw [upd2_ne (by decide)]; exact hr.2 140 (by omega)) hW) (fun u hu => wp_cl1 (wp_eq hu.2.2 ?_)))))))
  have sM := Sm_ab5 hr.2 hu.1
  have fin := (⟨Inv_Sm sM hI, sM.1 37 rfl⟩ : Inv u ∧ u 37 = M 37)
  rw [t1, div_ok (by omega) (by omega)]
  by_cases h0 : t = 0
  · subst h0
    rw [Nat.gcd_zero_left] at g1
    refine wp_ite_t (by decide) (wp_some (wp_ite_t ?_ (wp_some fin)))
    rw [g1, Nat.div_self (by omega)]
    rfl
  · refine wp_ite_f (by ((try simp (disch := omega) only [w32_and, w32_or, w32_shl, w32_shr, w32_xor, ixO, ixO0, ixO1, ixO2, ixO3, ixL0, ixL1, ixL2, ixC, ixB, ixI0, ixI00, ixI1, ixI2, ixI3, upd2_rd, upd2_nd, Nat.reduceEqDiff, Nat.reduceAdd, Nat.add_left_cancel_iff, Nat.add_right_cancel_iff, reduceCtorEq, ↓reduceIte, and_self, and_true, true_and, and_false, false_and, true_or, or_true, false_or, or_false, not_true_eq_false, not_false_eq_true]); (try simp only [w32_em]); (first | done | omega))) (wp_cl1 (wp_eq (X12many hu.2.1 hW) (wp_cl1 (wp_eq (X12many hu.2.1 hW) ?_))))
    rw [tc h0]
    refine wp_cl1 (wp_eq (X12gcd t2 (by omega)) ?_)
    rw [g1]
    refine wp_gn (by ((try simp (disch := omega) only [w32_and, w32_or, w32_shl, w32_shr, w32_xor, ixO, ixO0, ixO1, ixO2, ixO3, ixL0, ixL1, ixL2, ixC, ixB, ixI0, ixI00, ixI1, ixI2, ixI3, upd2_rd, upd2_nd, Nat.reduceEqDiff, Nat.reduceAdd, Nat.add_left_cancel_iff, Nat.add_right_cancel_iff, reduceCtorEq, ↓reduceIte, and_self, and_true, true_and, and_false, false_and, true_or, or_true, false_or, or_false, not_true_eq_false, not_false_eq_true]); (try simp only [w32_em]); (first | done | omega))) (wp_some (wp_ite_t ?_ (wp_some fin)))
    rw [div_ok (by omega) (by omega)]
