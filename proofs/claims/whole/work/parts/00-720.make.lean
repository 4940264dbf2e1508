-- ===== making batches: weights, aisles, candidates, seeds, companions =====
theorem wO_rng {N : Nat → Int} (hW : WF N) {o : Nat} (ho : (o : Int) < N 4) : 0 ≤ wO N o ∧ wO N o ≤ 29700 := by
  obtain ⟨o16, e1, l6, hl⟩ := lnW hW ho
  have hWO := hW.2.2.2.2.1 o ho
  unfold WFo at hWO
  have := sm_bd (g := fun k => N (114 + 22 * o + 3 * k) * N (15 + 4 * itN N o k)) (n := lnN N o) (B := 4950) (by omega) (fun k hk => by
    have a := hWO.2.2.2.2.2.2 k (by omega)
    have b := hW.2.2.2.1 (itN N o k) (hl k hk).2.2
    unfold WFi at b
    have h1 : N (114 + 22 * o + 3 * k) * N (15 + 4 * itN N o k) ≤ 99 * 50 := Int.mul_le_mul (by omega) (by omega) (by omega) (by omega)
    exact ⟨Int.mul_nonneg (by omega) (by omega), by omega⟩)
  unfold wO
  omega
theorem wA_rng {N : Nat → Int} (hW : WF N) {m : Int} : 0 ≤ wA N m ∧ wA N m ≤ 475200 := by
  have q4 := n4 hW
  have := sm_bd (g := fun o => if bit m o = true then wO N o else 0) (n := (N 4).toNat) (B := 29700) (by omega) (fun o ho => by
    have := wO_rng hW (o := o) (by omega)
    dsimp only
    split <;> omega)
  unfold wA
  omega
theorem NN0 : NN 0 := ⟨by decide, by decide⟩
theorem or_r0 {x : Int} (h : NN x) : i_or x 0 = x := by
  have a := or_bits h NN0
  exact bit_ext a.1 h (fun k => by rw [a.2, bit_zero, Bool.or_false])
theorem or_l0 {x : Int} (h : NN x) : i_or 0 x = x := by
  have a := or_bits NN0 h
  exact bit_ext a.1 h (fun k => by rw [a.2, bit_zero, Bool.false_or])
theorem om_bits {g : Nat → Int} {n c : Nat} (h : ∀ i, i < n → NN (g i) ∧ ∀ k, c ≤ k → bit (g i) k = false) : NN (om g n) ∧ ∀ k, c ≤ k → bit (om g n) k = false := by
  induction n with
  | zero => exact ⟨NN0, fun k _ => bit_zero k⟩
  | succ n ih =>
    have a := ih (fun i hi => h i (by omega))
    have b := h n (by omega)
    have c := or_bits a.1 b.1
    simp only [om]
    exact ⟨c.1, fun k hk => by rw [c.2, a.2 k hk, b.2 k hk]; rfl⟩
theorem aO_bits {N : Nat → Int} (hW : WF N) {o : Nat} (ho : (o : Int) < N 4) : NN (aO N o) ∧ ∀ k, 6 ≤ k → bit (aO N o) k = false := by
  obtain ⟨o16, e1, l6, hl⟩ := lnW hW ho
  have hw := hW.1
  unfold aO
  refine om_bits (fun k hk => ?_)
  have b := hW.2.2.2.1 (itN N o k) (hl k hk).2.2
  unfold WFi at b
  obtain ⟨a, ha⟩ : ∃ a : Nat, N (13 + 4 * itN N o k) = (a : Int) := ⟨(N (13 + 4 * itN N o k)).toNat, by omega⟩
  rw [ha]
  have s := shl_bits (show a < 31 by omega)
  exact ⟨s.1, fun j hj => by rw [s.2]; exact decide_eq_false (by omega)⟩
/-- the aisles of the orders of m below n -/
def aA (N : Nat → Int) (m : Int) (n : Nat) : Int := om (fun o => if bit m o = true then aO N o else 0) n
theorem aA_bits {N : Nat → Int} (hW : WF N) {m : Int} {n : Nat} (hn : (n : Int) ≤ N 4) : NN (aA N m n) ∧ ∀ k, 6 ≤ k → bit (aA N m n) k = false := by
  unfold aA
  refine om_bits (fun o ho => ?_)
  dsimp only
  split
  · exact aO_bits hW (by omega)
  · exact ⟨NN0, fun k _ => bit_zero k⟩
theorem X8aisles {M : Mem} {N : Nat → Int} (hR : HR 1 M N) (hW : WF N) {m x2 x3 : Int} (hm : NN m) : wp (wh (fun x => s_X8_companionFor_6 1 m x2 x3 M x.1 x.2) (0, 0)) (fun r => r = .inl (aA N m (N 4).toNat)) := by
  have q4 := n4 hW
  obtain ⟨d4, hO⟩ := HR_O hR
  refine wp_forI (fun i x => x = (aA N m i, (i : Int))) (N 4).toNat ?_ ?_ (Nat.zero_le _) rfl
  · rintro i x hi rfl
    simp only [s_X8_companionFor_6, j_X8_companionFor_38_6, Nat.reduceAdd]
    cases q : bit m i
    · have hq := tst_f hm (show i < 31 by omega) q
      refine wp_ite_t (by ((try simp (disch := omega) only [w32_and, w32_or, w32_shl, w32_shr, w32_xor, ixO, ixO0, ixO1, ixO2, ixO3, ixL0, ixL1, ixL2, ixC, ixB, ixI0, ixI00, ixI1, ixI2, ixI3, upd2_rd, upd2_nd, Nat.reduceEqDiff, Nat.reduceAdd, Nat.add_left_cancel_iff, Nat.add_right_cancel_iff, reduceCtorEq, ↓reduceIte, and_self, and_true, true_and, and_false, false_and, true_or, or_true, false_or, or_false, not_true_eq_false, not_false_eq_true]); (try simp only [w32_em]); (first | done | omega))) (wp_ite_t (by rw [hq]; decide) (wp_bnd (wp_some ?_)))
      dsimp only [Sum.elim_inl]
      have := or_r0 (aA_bits hW (m := m) (n := i) (by omega)).1
      simp only [aA, om, q, Int.natCast_succ] at this ⊢
      simp only [Bool.false_eq_true, ↓reduceIte, this]
    · have hq := tst_t hm (show i < 31 by omega) q
      refine wp_ite_t (by ((try simp (disch := omega) only [w32_and, w32_or, w32_shl, w32_shr, w32_xor, ixO, ixO0, ixO1, ixO2, ixO3, ixL0, ixL1, ixL2, ixC, ixB, ixI0, ixI00, ixI1, ixI2, ixI3, upd2_rd, upd2_nd, Nat.reduceEqDiff, Nat.reduceAdd, Nat.add_left_cancel_iff, Nat.add_right_cancel_iff, reduceCtorEq, ↓reduceIte, and_self, and_true, true_and, and_false, false_and, true_or, or_true, false_or, or_false, not_true_eq_false, not_false_eq_true]); (try simp only [w32_em]); (first | done | omega))) (wp_ite_f (by rw [hq]; decide) (wp_cl1 (wp_eq (X1a hR hW (by omega)) (wp_bnd (wp_bnd (wp_some ?_))))))
      dsimp only [Sum.elim_inl]
      simp only [aA, om, q, Int.natCast_succ, ↓reduceIte]
  · rintro x rfl
    simp only [s_X8_companionFor_6, Nat.reduceAdd]
    refine wp_ite_f (by ((try simp (disch := omega) only [w32_and, w32_or, w32_shl, w32_shr, w32_xor, ixO, ixO0, ixO1, ixO2, ixO3, ixL0, ixL1, ixL2, ixC, ixB, ixI0, ixI00, ixI1, ixI2, ixI3, upd2_rd, upd2_nd, Nat.reduceEqDiff, Nat.reduceAdd, Nat.add_left_cancel_iff, Nat.add_right_cancel_iff, reduceCtorEq, ↓reduceIte, and_self, and_true, true_and, and_false, false_and, true_or, or_true, false_or, or_false, not_true_eq_false, not_false_eq_true]); (try simp only [w32_em]); (first | done | omega))) (wp_some ?_)
    dsimp only [Sum.elim_inl, Sum.elim_inr]
theorem aA_more {N : Nat → Int} (hW : WF N) {m : Int} (hh : ∀ o, (N 4).toNat ≤ o → bit m o = false) : ∀ n : Nat, (N 4).toNat ≤ n → aA N m n = aA N m (N 4).toNat := by
  have q4 := n4 hW
  intro n
  induction n with
  | zero => intro h; rw [show (N 4).toNat = 0 by omega]
  | succ n ih =>
    intro h
    by_cases e : (N 4).toNat = n + 1
    · rw [e]
    · have i := ih (by omega)
      have b := or_r0 (aA_bits hW (m := m) (n := (N 4).toNat) (by omega)).1
      have hz := hh n (by omega)
      unfold aA at i b ⊢
      simp only [om, hz, Bool.false_eq_true, ↓reduceIte]
      rw [i, b]
theorem X12aA {M : Mem} {N : Nat → Int} (hN : M 140 = N) (hW : WF N) {m : Int} (hm : NN m) (hh : ∀ o, (N 4).toNat ≤ o → bit m o = false) : f_X12_aislesOfAll m M = some (aA N m (N 4).toNat) := by
  have q4 := n4 hW
  apply wp_val
  unfold f_X12_aislesOfAll
  rw [← aA_more hW hh 16 (by omega)]
  refine wp_lpb (wp_forI (fun i x => x = (aA N m i, (i : Int))) 16 ?_ ?_ (Nat.zero_le _) rfl)
  · rintro i x hi rfl
    simp only [s_X12_aislesOfAll_4, j_X12_aislesOfAll_28_4]
    cases q : bit m i
    · refine wp_ite_t (by ((try simp (disch := omega) only [w32_and, w32_or, w32_shl, w32_shr, w32_xor, ixO, ixO0, ixO1, ixO2, ixO3, ixL0, ixL1, ixL2, ixC, ixB, ixI0, ixI00, ixI1, ixI2, ixI3, upd2_rd, upd2_nd, Nat.reduceEqDiff, Nat.reduceAdd, Nat.add_left_cancel_iff, Nat.add_right_cancel_iff, reduceCtorEq, ↓reduceIte, and_self, and_true, true_and, and_false, false_and, true_or, or_true, false_or, or_false, not_true_eq_false, not_false_eq_true]); (try simp only [w32_em]); (first | done | omega))) (wp_cl1 (wp_eq (has_f hm (show i < 31 by omega) q) (wp_ite_t (by decide) (wp_bnd (wp_bnd (wp_some ?_))))))
      dsimp only [Sum.elim_inl]
      simp only [aA, om, q, Int.natCast_succ, Bool.false_eq_true, ↓reduceIte]
    · have hi4 : (i : Int) < N 4 := by
        rcases Nat.lt_or_ge i (N 4).toNat with g | g
        · omega
        · rw [hh i g] at q; cases q
      refine wp_ite_t (by ((try simp (disch := omega) only [w32_and, w32_or, w32_shl, w32_shr, w32_xor, ixO, ixO0, ixO1, ixO2, ixO3, ixL0, ixL1, ixL2, ixC, ixB, ixI0, ixI00, ixI1, ixI2, ixI3, upd2_rd, upd2_nd, Nat.reduceEqDiff, Nat.reduceAdd, Nat.add_left_cancel_iff, Nat.add_right_cancel_iff, reduceCtorEq, ↓reduceIte, and_self, and_true, true_and, and_false, false_and, true_or, or_true, false_or, or_false, not_true_eq_false, not_false_eq_true]); (try simp only [w32_em]); (first | done | omega))) (wp_cl1 (wp_eq (has_t hm (show i < 31 by omega) q) (wp_ite_f (by decide) (wp_cl1 (wp_eq (X12a hN hW hi4) (wp_bnd (wp_bnd (wp_some ?_))))))))
      dsimp only [Sum.elim_inl]
      simp only [aA, om, q, Int.natCast_succ, ↓reduceIte]
  · rintro x rfl
    simp only [s_X12_aislesOfAll_4]
    refine wp_ite_f (by decide) (wp_some ?_)
    dsimp only [Sum.elim_inl, Sum.elim_inr]
    exact wp_some rfl
theorem bc_dec : ∀ v : Nat, v < 64 → f_J6_bitCount_0f7a4 (v : Int) (fun _ _ => 0) = some (one (v : Int)) := by decide
theorem bc_ok {M : Mem} {a : Int} (h : NN a) (hb : ∀ k, 6 ≤ k → bit a k = false) : f_J6_bitCount_0f7a4 a M = some (one a) := by
  have l := bit_lt h (by omega) hb
  have l' : a < 64 := l
  obtain ⟨v, rfl⟩ : ∃ v : Nat, a = (v : Int) := ⟨a.toNat, by unfold NN at h; omega⟩
  exact bc_dec v (by omega)
theorem one_rng {a : Int} : 0 ≤ one a ∧ one a ≤ 16 := by
  have := sm_bd (g := fun o => if bit a o = true then 1 else 0) (n := 16) (B := 1) (by omega) (fun o _ => by dsimp only; split <;> omega)
  unfold one
  omega
theorem X12one {M : Mem} {a : Int} (h : NN a) (hb : ∀ k, 6 ≤ k → bit a k = false) : f_X12_ones a M = some (one a) := by
  have l := bit_lt h (by omega) hb
  have l' : a < 64 := l
  exact X12ones h.1 (by omega)
/-- the candidates below n -/
def cnd (N : Nat → Int) (lim : Int) : Nat → Int
  | 0 => 0
  | n + 1 => if canB N n = true ∧ wO N n ≤ lim then i_or (cnd N lim n) (i_shl 1 (n : Int)) else cnd N lim n
theorem cnd_bits {N : Nat → Int} (hW : WF N) {lim : Int} : ∀ n : Nat, (n : Int) ≤ N 4 → NN (cnd N lim n) ∧ ∀ k, bit (cnd N lim n) k = true → k < n ∧ N (110 + 22 * k) = 0 := by
  have q4 := n4 hW
  intro n
  induction n with
  | zero => intro _; exact ⟨NN0, fun k h => by rw [cnd, bit_zero] at h; cases h⟩
  | succ n ih =>
    intro hn
    have i := ih (by omega)
    simp only [cnd]
    split
    · rename_i hc
      have s := shl_bits (show n < 31 by omega)
      have r := or_bits i.1 s.1
      refine ⟨r.1, fun k hk => ?_⟩
      rw [r.2, s.2, Bool.or_eq_true, decide_eq_true_eq] at hk
      rcases hk with h | rfl
      · have := i.2 k h
        exact ⟨by omega, this.2⟩
      · have := hc.1
        unfold canB at this
        simp at this
        exact ⟨by omega, this.1⟩
    · exact ⟨i.1, fun k hk => by have := i.2 k hk; exact ⟨by omega, this.2⟩⟩
theorem can1 {N : Nat → Int} {o : Nat} (ho : o < 16) : ∀ n : Nat, canA N (i_shl 1 (o : Int)) n = if o < n then canB N o else true := by
  have s := (shl_bits (show o < 31 by omega)).2
  intro n
  induction n with
  | zero => rfl
  | succ n ih =>
    simp only [canA, ih, s]
    by_cases e : n = o
    · subst e
      simp
    · by_cases l : o < n
      · simp [e, l, show o < n + 1 by omega]
      · simp [e, l, show ¬ o < n + 1 by omega]
theorem X8cand {M : Mem} {N : Nat → Int} (hR : HR 1 M N) (hW : WF N) {lim : Int} (hl : 1 ≤ lim ∧ lim ≤ 99999) : f_X8_candidatesIn 1 lim M = some (cnd N lim (N 4).toNat) := by
  have q4 := n4 hW
  obtain ⟨d4, hO⟩ := HR_O hR
  apply wp_val
  unfold f_X8_candidatesIn
  refine wp_lpb (wp_forI (fun i x => x = (cnd N lim i, (i : Int))) (N 4).toNat ?_ ?_ (Nat.zero_le _) rfl)
  · rintro i x hi rfl
    have hi' : (i : Int) < N 4 := by omega
    have wr := wO_rng hW hi'
    have c1 := X1can hR hW (shl_bits (show i < 31 by omega)).1
    rw [can1 (by omega), if_pos hi] at c1
    simp only [s_X8_candidatesIn_4, j_X8_candidatesIn_40_4, Nat.reduceAdd]
    refine wp_ite_t (by ((try simp (disch := omega) only [w32_and, w32_or, w32_shl, w32_shr, w32_xor, ixO, ixO0, ixO1, ixO2, ixO3, ixL0, ixL1, ixL2, ixC, ixB, ixI0, ixI00, ixI1, ixI2, ixI3, upd2_rd, upd2_nd, Nat.reduceEqDiff, Nat.reduceAdd, Nat.add_left_cancel_iff, Nat.add_right_cancel_iff, reduceCtorEq, ↓reduceIte, and_self, and_true, true_and, and_false, false_and, true_or, or_true, false_or, or_false, not_true_eq_false, not_false_eq_true]); (try simp only [w32_em]); (first | done | omega))) (wp_cl1 (wp_eq c1 ?_))
    cases hc : canB N i
    · refine wp_ite_t (by decide) (wp_bnd (wp_some ?_))
      dsimp only [Sum.elim_inl]
      simp only [cnd, hc, Int.natCast_succ, Bool.false_eq_true, false_and, ↓reduceIte]
    · refine wp_ite_f (by decide) (wp_cl1 (wp_eq (X1w hR hW hi') ?_))
      by_cases hw : wO N i ≤ lim
      · refine wp_ite_f (by ((try simp (disch := omega) only [w32_and, w32_or, w32_shl, w32_shr, w32_xor, ixO, ixO0, ixO1, ixO2, ixO3, ixL0, ixL1, ixL2, ixC, ixB, ixI0, ixI00, ixI1, ixI2, ixI3, upd2_rd, upd2_nd, Nat.reduceEqDiff, Nat.reduceAdd, Nat.add_left_cancel_iff, Nat.add_right_cancel_iff, reduceCtorEq, ↓reduceIte, and_self, and_true, true_and, and_false, false_and, true_or, or_true, false_or, or_false, not_true_eq_false, not_false_eq_true]); (try simp only [w32_em]); (first | done | omega))) (wp_bnd (wp_bnd (wp_some ?_)))
        dsimp only [Sum.elim_inl]
        simp only [cnd, hc, hw, Int.natCast_succ, and_self, ↓reduceIte]
      · refine wp_ite_t (by ((try simp (disch := omega) only [w32_and, w32_or, w32_shl, w32_shr, w32_xor, ixO, ixO0, ixO1, ixO2, ixO3, ixL0, ixL1, ixL2, ixC, ixB, ixI0, ixI00, ixI1, ixI2, ixI3, upd2_rd, upd2_nd, Nat.reduceEqDiff, Nat.reduceAdd, Nat.add_left_cancel_iff, Nat.add_right_cancel_iff, reduceCtorEq, ↓reduceIte, and_self, and_true, true_and, and_false, false_and, true_or, or_true, false_or, or_false, not_true_eq_false, not_false_eq_true]); (try simp only [w32_em]); (first | done | omega))) (wp_bnd (wp_some ?_))
        dsimp only [Sum.elim_inl]
        simp only [cnd, hc, hw, Int.natCast_succ, and_false, ↓reduceIte]
  · rintro x rfl
    simp only [s_X8_candidatesIn_4, Nat.reduceAdd]
    refine wp_ite_f (by ((try simp (disch := omega) only [w32_and, w32_or, w32_shl, w32_shr, w32_xor, ixO, ixO0, ixO1, ixO2, ixO3, ixL0, ixL1, ixL2, ixC, ixB, ixI0, ixI00, ixI1, ixI2, ixI3, upd2_rd, upd2_nd, Nat.reduceEqDiff, Nat.reduceAdd, Nat.add_left_cancel_iff, Nat.add_right_cancel_iff, reduceCtorEq, ↓reduceIte, and_self, and_true, true_and, and_false, false_and, true_or, or_true, false_or, or_false, not_true_eq_false, not_false_eq_true]); (try simp only [w32_em]); (first | done | omega))) (wp_some ?_)
    dsimp only [Sum.elim_inl, Sum.elim_inr]
    exact wp_some rfl
theorem X12cand {M : Mem} {N : Nat → Int} (hN : M 140 = N) (hW : WF N) {lim : Int} (hl : 1 ≤ lim ∧ lim ≤ 99999) : f_X12_candidates lim M = some (cnd N lim (N 4).toNat) := by
  have q4 := n4 hW
  have e4 : M 140 4 = N 4 := by rw [hN]
  apply wp_val
  unfold f_X12_candidates
  refine wp_lpb (wp_forI (fun i x => x = (cnd N lim i, (i : Int))) (N 4).toNat ?_ ?_ (Nat.zero_le _) rfl)
  · rintro i x hi rfl
    have hi' : (i : Int) < N 4 := by omega
    have wr := wO_rng hW hi'
    have z := or_r0 (cnd_bits hW (lim := lim) i (by omega)).1
    simp only [s_X12_candidates_4, j_X12_candidates_38_4, j_X12_candidates_39_4]
    refine wp_ite_t (by ((try simp (disch := omega) only [w32_and, w32_or, w32_shl, w32_shr, w32_xor, ixO, ixO0, ixO1, ixO2, ixO3, ixL0, ixL1, ixL2, ixC, ixB, ixI0, ixI00, ixI1, ixI2, ixI3, upd2_rd, upd2_nd, Nat.reduceEqDiff, Nat.reduceAdd, Nat.add_left_cancel_iff, Nat.add_right_cancel_iff, reduceCtorEq, ↓reduceIte, and_self, and_true, true_and, and_false, false_and, true_or, or_true, false_or, or_false, not_true_eq_false, not_false_eq_true]); (try simp only [w32_em]); (first | done | omega))) (wp_cl1 (wp_eq (X12canB hN hW hi') ?_))
    cases hc : canB N i
    · refine wp_ite_t (by decide) (wp_bnd (wp_bnd (wp_some ?_)))
      dsimp only [Sum.elim_inl]
      simp only [cnd, hc, z, Int.natCast_succ, Bool.false_eq_true, false_and, ↓reduceIte]
    · refine wp_ite_f (by decide) (wp_cl1 (wp_eq (X12w hN hW hi') ?_))
      by_cases hw : wO N i ≤ lim
      · refine wp_ite_f (by ((try simp (disch := omega) only [w32_and, w32_or, w32_shl, w32_shr, w32_xor, ixO, ixO0, ixO1, ixO2, ixO3, ixL0, ixL1, ixL2, ixC, ixB, ixI0, ixI00, ixI1, ixI2, ixI3, upd2_rd, upd2_nd, Nat.reduceEqDiff, Nat.reduceAdd, Nat.add_left_cancel_iff, Nat.add_right_cancel_iff, reduceCtorEq, ↓reduceIte, and_self, and_true, true_and, and_false, false_and, true_or, or_true, false_or, or_false, not_true_eq_false, not_false_eq_true]); (try simp only [w32_em]); (first | done | omega))) (wp_bnd (wp_bnd (wp_some ?_)))
        dsimp only [Sum.elim_inl]
        simp only [cnd, hc, hw, Int.natCast_succ, and_self, ↓reduceIte]
      · refine wp_ite_t (by ((try simp (disch := omega) only [w32_and, w32_or, w32_shl, w32_shr, w32_xor, ixO, ixO0, ixO1, ixO2, ixO3, ixL0, ixL1, ixL2, ixC, ixB, ixI0, ixI00, ixI1, ixI2, ixI3, upd2_rd, upd2_nd, Nat.reduceEqDiff, Nat.reduceAdd, Nat.add_left_cancel_iff, Nat.add_right_cancel_iff, reduceCtorEq, ↓reduceIte, and_self, and_true, true_and, and_false, false_and, true_or, or_true, false_or, or_false, not_true_eq_false, not_false_eq_true]); (try simp only [w32_em]); (first | done | omega))) (wp_bnd (wp_bnd (wp_some ?_)))
        dsimp only [Sum.elim_inl]
        simp only [cnd, hc, hw, z, Int.natCast_succ, and_false, ↓reduceIte]
  · rintro x rfl
    simp only [s_X12_candidates_4]
    refine wp_ite_f (by ((try simp (disch := omega) only [w32_and, w32_or, w32_shl, w32_shr, w32_xor, ixO, ixO0, ixO1, ixO2, ixO3, ixL0, ixL1, ixL2, ixC, ixB, ixI0, ixI00, ixI1, ixI2, ixI3, upd2_rd, upd2_nd, Nat.reduceEqDiff, Nat.reduceAdd, Nat.add_left_cancel_iff, Nat.add_right_cancel_iff, reduceCtorEq, ↓reduceIte, and_self, and_true, true_and, and_false, false_and, true_or, or_true, false_or, or_false, not_true_eq_false, not_false_eq_true]); (try simp only [w32_em]); (first | done | omega))) (wp_some ?_)
    dsimp only [Sum.elim_inl, Sum.elim_inr]
    exact wp_some rfl
/-- what a seed is chosen by -/
def sv (N : Nat → Int) (k : Int) (o : Nat) : Int := if k = 1 then wO N o else if k = 2 then one (aO N o) else - N (109 + 22 * o)
theorem sv_rng {N : Nat → Int} (hW : WF N) {k : Int} {o : Nat} (ho : (o : Int) < N 4) : -9999 ≤ sv N k o ∧ sv N k o ≤ 29700 := by
  have w := wO_rng hW ho
  have a := one_rng (a := aO N o)
  have hWO := hW.2.2.2.2.1 o ho
  unfold WFo at hWO
  unfold sv
  split
  · omega
  · split <;> omega
theorem X8val {M : Mem} {N : Nat → Int} (hR : HR 1 M N) (hW : WF N) {k : Int} (hk : 0 ≤ k ∧ k ≤ 2) {o : Nat} (ho : (o : Int) < N 4) : f_X8_seedValue 1 (o : Int) k M = some (sv N k o) := by
  have q4 := n4 hW
  have xo : ix (o : Int) = o := ix_nat (by omega)
  have a := aO_bits hW ho
  have e11 : M 11 o = N (109 + 22 * o) := ((HR_O hR).2 o ho).1
  apply wp_val
  unfold f_X8_seedValue sv
  by_cases h1 : k = 1
  · rw [if_pos h1]
    exact wp_ite_t (by ((try simp (disch := omega) only [w32_and, w32_or, w32_shl, w32_shr, w32_xor, ixO, ixO0, ixO1, ixO2, ixO3, ixL0, ixL1, ixL2, ixC, ixB, ixI0, ixI00, ixI1, ixI2, ixI3, upd2_rd, upd2_nd, Nat.reduceEqDiff, Nat.reduceAdd, Nat.add_left_cancel_iff, Nat.add_right_cancel_iff, reduceCtorEq, ↓reduceIte, and_self, and_true, true_and, and_false, false_and, true_or, or_true, false_or, or_false, not_true_eq_false, not_false_eq_true]); (try simp only [w32_em]); (first | done | omega))) (wp_cl1 (wp_eq (X1w hR hW ho) (wp_some rfl)))
  · rw [if_neg h1]
    refine wp_ite_f (by ((try simp (disch := omega) only [w32_and, w32_or, w32_shl, w32_shr, w32_xor, ixO, ixO0, ixO1, ixO2, ixO3, ixL0, ixL1, ixL2, ixC, ixB, ixI0, ixI00, ixI1, ixI2, ixI3, upd2_rd, upd2_nd, Nat.reduceEqDiff, Nat.reduceAdd, Nat.add_left_cancel_iff, Nat.add_right_cancel_iff, reduceCtorEq, ↓reduceIte, and_self, and_true, true_and, and_false, false_and, true_or, or_true, false_or, or_false, not_true_eq_false, not_false_eq_true]); (try simp only [w32_em]); (first | done | omega))) ?_
    by_cases h2 : k = 2
    · rw [if_pos h2]
      exact wp_ite_t (by ((try simp (disch := omega) only [w32_and, w32_or, w32_shl, w32_shr, w32_xor, ixO, ixO0, ixO1, ixO2, ixO3, ixL0, ixL1, ixL2, ixC, ixB, ixI0, ixI00, ixI1, ixI2, ixI3, upd2_rd, upd2_nd, Nat.reduceEqDiff, Nat.reduceAdd, Nat.add_left_cancel_iff, Nat.add_right_cancel_iff, reduceCtorEq, ↓reduceIte, and_self, and_true, true_and, and_false, false_and, true_or, or_true, false_or, or_false, not_true_eq_false, not_false_eq_true]); (try simp only [w32_em]); (first | done | omega))) (wp_cl1 (wp_eq (X1a hR hW ho) (wp_cl1 (wp_eq (bc_ok a.1 a.2) (wp_some rfl)))))
    · rw [if_neg h2]
      simp only [Nat.reduceAdd, xo, e11]
      exact wp_ite_f (by ((try simp (disch := omega) only [w32_and, w32_or, w32_shl, w32_shr, w32_xor, ixO, ixO0, ixO1, ixO2, ixO3, ixL0, ixL1, ixL2, ixC, ixB, ixI0, ixI00, ixI1, ixI2, ixI3, upd2_rd, upd2_nd, Nat.reduceEqDiff, Nat.reduceAdd, Nat.add_left_cancel_iff, Nat.add_right_cancel_iff, reduceCtorEq, ↓reduceIte, and_self, and_true, true_and, and_false, false_and, true_or, or_true, false_or, or_false, not_true_eq_false, not_false_eq_true]); (try simp only [w32_em]); (first | done | omega))) (wp_gi (by omega) (by omega) (by omega) (wp_some rfl))
theorem X12val {M : Mem} {N : Nat → Int} (hN : M 140 = N) (hW : WF N) {k : Int} (hk : 0 ≤ k ∧ k ≤ 2) {o : Nat} (ho : (o : Int) < N 4) : f_X12_seedBy (o : Int) k M = some (sv N k o) := by
  have q4 := n4 hW
  have a := aO_bits hW ho
  apply wp_val
  unfold f_X12_seedBy sv
  by_cases h1 : k = 1
  · rw [if_pos h1]
    exact wp_ite_f (by ((try simp (disch := omega) only [w32_and, w32_or, w32_shl, w32_shr, w32_xor, ixO, ixO0, ixO1, ixO2, ixO3, ixL0, ixL1, ixL2, ixC, ixB, ixI0, ixI00, ixI1, ixI2, ixI3, upd2_rd, upd2_nd, Nat.reduceEqDiff, Nat.reduceAdd, Nat.add_left_cancel_iff, Nat.add_right_cancel_iff, reduceCtorEq, ↓reduceIte, and_self, and_true, true_and, and_false, false_and, true_or, or_true, false_or, or_false, not_true_eq_false, not_false_eq_true]); (try simp only [w32_em]); (first | done | omega))) (wp_ite_t (by ((try simp (disch := omega) only [w32_and, w32_or, w32_shl, w32_shr, w32_xor, ixO, ixO0, ixO1, ixO2, ixO3, ixL0, ixL1, ixL2, ixC, ixB, ixI0, ixI00, ixI1, ixI2, ixI3, upd2_rd, upd2_nd, Nat.reduceEqDiff, Nat.reduceAdd, Nat.add_left_cancel_iff, Nat.add_right_cancel_iff, reduceCtorEq, ↓reduceIte, and_self, and_true, true_and, and_false, false_and, true_or, or_true, false_or, or_false, not_true_eq_false, not_false_eq_true]); (try simp only [w32_em]); (first | done | omega))) (wp_cl1 (wp_eq (X12w hN hW ho) (wp_some rfl))))
  · rw [if_neg h1]
    by_cases h2 : k = 2
    · rw [if_pos h2]
      exact wp_ite_f (by ((try simp (disch := omega) only [w32_and, w32_or, w32_shl, w32_shr, w32_xor, ixO, ixO0, ixO1, ixO2, ixO3, ixL0, ixL1, ixL2, ixC, ixB, ixI0, ixI00, ixI1, ixI2, ixI3, upd2_rd, upd2_nd, Nat.reduceEqDiff, Nat.reduceAdd, Nat.add_left_cancel_iff, Nat.add_right_cancel_iff, reduceCtorEq, ↓reduceIte, and_self, and_true, true_and, and_false, false_and, true_or, or_true, false_or, or_false, not_true_eq_false, not_false_eq_true]); (try simp only [w32_em]); (first | done | omega))) (wp_ite_f (by ((try simp (disch := omega) only [w32_and, w32_or, w32_shl, w32_shr, w32_xor, ixO, ixO0, ixO1, ixO2, ixO3, ixL0, ixL1, ixL2, ixC, ixB, ixI0, ixI00, ixI1, ixI2, ixI3, upd2_rd, upd2_nd, Nat.reduceEqDiff, Nat.reduceAdd, Nat.add_left_cancel_iff, Nat.add_right_cancel_iff, reduceCtorEq, ↓reduceIte, and_self, and_true, true_and, and_false, false_and, true_or, or_true, false_or, or_false, not_true_eq_false, not_false_eq_true]); (try simp only [w32_em]); (first | done | omega))) (wp_cl1 (wp_eq (X12a hN hW ho) (wp_cl1 (wp_eq (X12one a.1 a.2) (wp_some rfl))))))
    · rw [if_neg h2]
      exact wp_ite_t (by ((try simp (disch := omega) only [w32_and, w32_or, w32_shl, w32_shr, w32_xor, ixO, ixO0, ixO1, ixO2, ixO3, ixL0, ixL1, ixL2, ixC, ixB, ixI0, ixI00, ixI1, ixI2, ixI3, upd2_rd, upd2_nd, Nat.reduceEqDiff, Nat.reduceAdd, Nat.add_left_cancel_iff, Nat.add_right_cancel_iff, reduceCtorEq, ↓reduceIte, and_self, and_true, true_and, and_false, false_and, true_or, or_true, false_or, or_false, not_true_eq_false, not_false_eq_true]); (try simp only [w32_em]); (first | done | omega))) (wp_cl1 (wp_eq (X12due hN (by omega)) (wp_some rfl)))
/-- the seed among the orders of C below n -/
def sd (N : Nat → Int) (k C : Int) : Nat → Int
  | 0 => -1
  | n + 1 => if bit C n = true then (if sd N k C n = -1 then (n : Int) else if sv N k (sd N k C n).toNat < sv N k n then (n : Int) else sd N k C n) else sd N k C n
theorem sd_spec {N : Nat → Int} {k C : Int} : ∀ n : Nat, (sd N k C n = -1 ∧ ∀ o, o < n → bit C o = false) ∨ ∃ o : Nat, o < n ∧ sd N k C n = (o : Int) ∧ bit C o = true := by
  intro n
  induction n with
  | zero => exact Or.inl ⟨rfl, fun o h => by omega⟩
  | succ n ih =>
    simp only [sd]
    cases q : bit C n
    · simp only [Bool.false_eq_true, ↓reduceIte]
      rcases ih with ⟨h1, h2⟩ | ⟨o, h1, h2, h3⟩
      · exact Or.inl ⟨h1, fun o ho => by
          by_cases e : o = n
          · rw [e]; exact q
          · exact h2 o (by omega)⟩
      · exact Or.inr ⟨o, by omega, h2, h3⟩
    · simp only [↓reduceIte]
      refine Or.inr ?_
      rcases ih with ⟨h1, h2⟩ | ⟨o, h1, h2, h3⟩
      · rw [if_pos h1]; exact ⟨n, by omega, rfl, q⟩
      · rw [if_neg (by omega)]
        split
        · exact ⟨n, by omega, rfl, q⟩
        · exact ⟨o, by omega, h2, h3⟩
theorem X8seed {M : Mem} {N : Nat → Int} (hR : HR 1 M N) (hW : WF N) {k C : Int} (hk : 0 ≤ k ∧ k ≤ 2) (hC : NN C) {s : Nat} (hs : sd N k C (N 4).toNat = (s : Int)) : f_X8_seedAmong 1 C k M = some (s : Int) := by
  have q4 := n4 hW
  obtain ⟨d4, hO⟩ := HR_O hR
  apply wp_val
  unfold f_X8_seedAmong
  refine wp_lpb (wp_forI (fun i x => x.2.2 = (i : Int) ∧ (sd N k C i = -1 ∧ x.2.1 = -10000 ∨ ∃ o : Nat, o < i ∧ sd N k C i = (o : Int) ∧ x.1 = (o : Int) ∧ x.2.1 = sv N k o)) (N 4).toNat ?_ ?_ (Nat.zero_le _) ⟨rfl, Or.inl ⟨rfl, rfl⟩⟩)
  · rintro i ⟨x1, x2, x3⟩ hi ⟨h1, h2⟩
    simp only at h1 h2
    subst h1
    have hi' : (i : Int) < N 4 := by omega
    have sr := sv_rng hW (k := k) hi'
    simp only [s_X8_seedAmong_10, j_X8_seedAmong_55_10, Nat.reduceAdd]
    cases q : bit C i
    · have hq := tst_f hC (show i < 31 by omega) q
      refine wp_ite_t (by ((try simp (disch := omega) only [w32_and, w32_or, w32_shl, w32_shr, w32_xor, ixO, ixO0, ixO1, ixO2, ixO3, ixL0, ixL1, ixL2, ixC, ixB, ixI0, ixI00, ixI1, ixI2, ixI3, upd2_rd, upd2_nd, Nat.reduceEqDiff, Nat.reduceAdd, Nat.add_left_cancel_iff, Nat.add_right_cancel_iff, reduceCtorEq, ↓reduceIte, and_self, and_true, true_and, and_false, false_and, true_or, or_true, false_or, or_false, not_true_eq_false, not_false_eq_true]); (try simp only [w32_em]); (first | done | omega))) (wp_ite_t (by rw [hq]; decide) (wp_bnd (wp_some ?_)))
      dsimp only [Sum.elim_inl]
      refine ⟨by omega, ?_⟩
      simp only [sd, q, Bool.false_eq_true, ↓reduceIte]
      rcases h2 with h | ⟨o, ho, h⟩
      · exact Or.inl h
      · exact Or.inr ⟨o, by omega, h⟩
    · have hq := tst_t hC (show i < 31 by omega) q
      refine wp_ite_t (by ((try simp (disch := omega) only [w32_and, w32_or, w32_shl, w32_shr, w32_xor, ixO, ixO0, ixO1, ixO2, ixO3, ixL0, ixL1, ixL2, ixC, ixB, ixI0, ixI00, ixI1, ixI2, ixI3, upd2_rd, upd2_nd, Nat.reduceEqDiff, Nat.reduceAdd, Nat.add_left_cancel_iff, Nat.add_right_cancel_iff, reduceCtorEq, ↓reduceIte, and_self, and_true, true_and, and_false, false_and, true_or, or_true, false_or, or_false, not_true_eq_false, not_false_eq_true]); (try simp only [w32_em]); (first | done | omega))) (wp_ite_f (by rw [hq]; decide) (wp_cl1 (wp_eq (X8val hR hW hk hi') ?_)))
      simp only [sd, q, ↓reduceIte]
      rcases h2 with ⟨h2, h3⟩ | ⟨o, ho, h2, h3, h4⟩
      · subst h3
        refine wp_ite_t (by ((try simp (disch := omega) only [w32_and, w32_or, w32_shl, w32_shr, w32_xor, ixO, ixO0, ixO1, ixO2, ixO3, ixL0, ixL1, ixL2, ixC, ixB, ixI0, ixI00, ixI1, ixI2, ixI3, upd2_rd, upd2_nd, Nat.reduceEqDiff, Nat.reduceAdd, Nat.add_left_cancel_iff, Nat.add_right_cancel_iff, reduceCtorEq, ↓reduceIte, and_self, and_true, true_and, and_false, false_and, true_or, or_true, false_or, or_false, not_true_eq_false, not_false_eq_true]); (try simp only [w32_em]); (first | done | omega))) (wp_cl1 (wp_eq (X8val hR hW hk hi') (wp_bnd (wp_some ?_))))
        dsimp only [Sum.elim_inl]
        refine ⟨by omega, Or.inr ⟨i, by omega, ?_, rfl, rfl⟩⟩
        rw [if_pos h2]
      · subst h3 h4
        have so := sv_rng hW (k := k) (show (o : Int) < N 4 by omega)
        rw [if_neg (by omega), h2, Int.toNat_natCast]
        by_cases hv : sv N k o < sv N k i
        · refine wp_ite_t (by ((try simp (disch := omega) only [w32_and, w32_or, w32_shl, w32_shr, w32_xor, ixO, ixO0, ixO1, ixO2, ixO3, ixL0, ixL1, ixL2, ixC, ixB, ixI0, ixI00, ixI1, ixI2, ixI3, upd2_rd, upd2_nd, Nat.reduceEqDiff, Nat.reduceAdd, Nat.add_left_cancel_iff, Nat.add_right_cancel_iff, reduceCtorEq, ↓reduceIte, and_self, and_true, true_and, and_false, false_and, true_or, or_true, false_or, or_false, not_true_eq_false, not_false_eq_true]); (try simp only [w32_em]); (first | done | omega))) (wp_cl1 (wp_eq (X8val hR hW hk hi') (wp_bnd (wp_some ?_))))
          dsimp only [Sum.elim_inl]
          refine ⟨by omega, Or.inr ⟨i, by omega, ?_, rfl, rfl⟩⟩
          rw [if_pos hv]
        · refine wp_ite_f (by ((try simp (disch := omega) only [w32_and, w32_or, w32_shl, w32_shr, w32_xor, ixO, ixO0, ixO1, ixO2, ixO3, ixL0, ixL1, ixL2, ixC, ixB, ixI0, ixI00, ixI1, ixI2, ixI3, upd2_rd, upd2_nd, Nat.reduceEqDiff, Nat.reduceAdd, Nat.add_left_cancel_iff, Nat.add_right_cancel_iff, reduceCtorEq, ↓reduceIte, and_self, and_true, true_and, and_false, false_and, true_or, or_true, false_or, or_false, not_true_eq_false, not_false_eq_true]); (try simp only [w32_em]); (first | done | omega))) (wp_bnd (wp_some ?_))
          dsimp only [Sum.elim_inl]
          refine ⟨by omega, Or.inr ⟨o, by omega, ?_, rfl, rfl⟩⟩
          rw [if_neg hv]
  · rintro ⟨x1, x2, x3⟩ ⟨h1, h2⟩
    simp only at h1 h2
    subst h1
    simp only [s_X8_seedAmong_10, Nat.reduceAdd]
    refine wp_ite_f (by ((try simp (disch := omega) only [w32_and, w32_or, w32_shl, w32_shr, w32_xor, ixO, ixO0, ixO1, ixO2, ixO3, ixL0, ixL1, ixL2, ixC, ixB, ixI0, ixI00, ixI1, ixI2, ixI3, upd2_rd, upd2_nd, Nat.reduceEqDiff, Nat.reduceAdd, Nat.add_left_cancel_iff, Nat.add_right_cancel_iff, reduceCtorEq, ↓reduceIte, and_self, and_true, true_and, and_false, false_and, true_or, or_true, false_or, or_false, not_true_eq_false, not_false_eq_true]); (try simp only [w32_em]); (first | done | omega))) (wp_some ?_)
    dsimp only [Sum.elim_inl, Sum.elim_inr]
    rcases h2 with ⟨h2, h3⟩ | ⟨o, ho, h2, h3, h4⟩
    · omega
    · exact wp_some (by omega)
theorem sd_more {N : Nat → Int} {k C : Int} {n0 : Nat} (hh : ∀ o, n0 ≤ o → bit C o = false) : ∀ n : Nat, n0 ≤ n → sd N k C n = sd N k C n0 := by
  intro n
  induction n with
  | zero => intro h; rw [show n0 = 0 by omega]
  | succ n ih =>
    intro h
    by_cases e : n0 = n + 1
    · rw [e]
    · simp only [sd, hh n (by omega), Bool.false_eq_true, ↓reduceIte]
      exact ih (by omega)
theorem X12seed {M : Mem} {N : Nat → Int} (hN : M 140 = N) (hW : WF N) {k C : Int} (hk : 0 ≤ k ∧ k ≤ 2) (hC : NN C) (hh : ∀ o, (N 4).toNat ≤ o → bit C o = false) : f_X12_seedOf C k M = some (sd N k C (N 4).toNat) := by
  have q4 := n4 hW
  rw [← sd_more hh 16 (by omega)]
  have hlt : ∀ i, bit C i = true → (i : Int) < N 4 := fun i q => by
    rcases Nat.lt_or_ge i (N 4).toNat with g | g
    · omega
    · rw [hh i g] at q; cases q
  apply wp_val
  unfold f_X12_seedOf
  refine wp_lpb (wp_forI (fun i x => x = (sd N k C i, (i : Int))) 16 ?_ ?_ (Nat.zero_le _) rfl)
  · rintro i x hi rfl
    simp only [s_X12_seedOf_5, j_X12_seedOf_45_5, j_X12_seedOf_42_5]
    cases q : bit C i
    · refine wp_ite_t (by ((try simp (disch := omega) only [w32_and, w32_or, w32_shl, w32_shr, w32_xor, ixO, ixO0, ixO1, ixO2, ixO3, ixL0, ixL1, ixL2, ixC, ixB, ixI0, ixI00, ixI1, ixI2, ixI3, upd2_rd, upd2_nd, Nat.reduceEqDiff, Nat.reduceAdd, Nat.add_left_cancel_iff, Nat.add_right_cancel_iff, reduceCtorEq, ↓reduceIte, and_self, and_true, true_and, and_false, false_and, true_or, or_true, false_or, or_false, not_true_eq_false, not_false_eq_true]); (try simp only [w32_em]); (first | done | omega))) (wp_cl1 (wp_eq (has_f hC (show i < 31 by omega) q) (wp_ite_t (by decide) (wp_bnd (wp_some ?_)))))
      dsimp only [Sum.elim_inl]
      simp only [sd, q, Bool.false_eq_true, ↓reduceIte, Int.natCast_succ]
    · have hi4 := hlt i q
      have sr := sv_rng hW (k := k) hi4
      refine wp_ite_t (by ((try simp (disch := omega) only [w32_and, w32_or, w32_shl, w32_shr, w32_xor, ixO, ixO0, ixO1, ixO2, ixO3, ixL0, ixL1, ixL2, ixC, ixB, ixI0, ixI00, ixI1, ixI2, ixI3, upd2_rd, upd2_nd, Nat.reduceEqDiff, Nat.reduceAdd, Nat.add_left_cancel_iff, Nat.add_right_cancel_iff, reduceCtorEq, ↓reduceIte, and_self, and_true, true_and, and_false, false_and, true_or, or_true, false_or, or_false, not_true_eq_false, not_false_eq_true]); (try simp only [w32_em]); (first | done | omega))) (wp_cl1 (wp_eq (has_t hC (show i < 31 by omega) q) (wp_ite_f (by decide) ?_)))
      simp only [sd, q, ↓reduceIte, Int.natCast_succ]
      rcases sd_spec (N := N) (k := k) (C := C) i with ⟨h1, h2⟩ | ⟨o, h1, h2, h3⟩
      · rw [h1]
        refine wp_ite_t (by decide) (wp_bnd (wp_some ?_))
        rfl
      · have ho4 := hlt o h3
        have so := sv_rng hW (k := k) ho4
        rw [h2, if_neg (by omega), Int.toNat_natCast]
        refine wp_ite_f (by ((try simp (disch := omega) only [w32_and, w32_or, w32_shl, w32_shr, w32_xor, ixO, ixO0, ixO1, ixO2, ixO3, ixL0, ixL1, ixL2, ixC, ixB, ixI0, ixI00, ixI1, ixI2, ixI3, upd2_rd, upd2_nd, Nat.reduceEqDiff, Nat.reduceAdd, Nat.add_left_cancel_iff, Nat.add_right_cancel_iff, reduceCtorEq, ↓reduceIte, and_self, and_true, true_and, and_false, false_and, true_or, or_true, false_or, or_false, not_true_eq_false, not_false_eq_true]); (try simp only [w32_em]); (first | done | omega))) (wp_cl1 (wp_eq (X12val hN hW hk hi4) (wp_cl1 (wp_eq (X12val hN hW hk ho4) ?_))))
        by_cases hv : sv N k o < sv N k i
        · rw [if_pos hv]
          refine wp_ite_t (by ((try simp (disch := omega) only [w32_and, w32_or, w32_shl, w32_shr, w32_xor, ixO, ixO0, ixO1, ixO2, ixO3, ixL0, ixL1, ixL2, ixC, ixB, ixI0, ixI00, ixI1, ixI2, ixI3, upd2_rd, upd2_nd, Nat.reduceEqDiff, Nat.reduceAdd, Nat.add_left_cancel_iff, Nat.add_right_cancel_iff, reduceCtorEq, ↓reduceIte, and_self, and_true, true_and, and_false, false_and, true_or, or_true, false_or, or_false, not_true_eq_false, not_false_eq_true]); (try simp only [w32_em]); (first | done | omega))) (wp_bnd (wp_some ?_))
          rfl
        · rw [if_neg hv]
          refine wp_ite_f (by ((try simp (disch := omega) only [w32_and, w32_or, w32_shl, w32_shr, w32_xor, ixO, ixO0, ixO1, ixO2, ixO3, ixL0, ixL1, ixL2, ixC, ixB, ixI0, ixI00, ixI1, ixI2, ixI3, upd2_rd, upd2_nd, Nat.reduceEqDiff, Nat.reduceAdd, Nat.add_left_cancel_iff, Nat.add_right_cancel_iff, reduceCtorEq, ↓reduceIte, and_self, and_true, true_and, and_false, false_and, true_or, or_true, false_or, or_false, not_true_eq_false, not_false_eq_true]); (try simp only [w32_em]); (first | done | omega))) (wp_bnd (wp_some ?_))
          rfl
  · rintro x rfl
    simp only [s_X12_seedOf_5]
    refine wp_ite_f (by decide) (wp_some ?_)
    dsimp only [Sum.elim_inl, Sum.elim_inr]
    exact wp_some rfl
