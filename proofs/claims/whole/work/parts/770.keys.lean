-- ===== the keys that batches are sorted by; sorting =====
def ed (N : Nat → Int) (m : Int) : Nat → Int
  | 0 => 9999
  | n + 1 => if bit m n = true then (if N (109 + 22 * n) < ed N m n then N (109 + 22 * n) else ed N m n) else ed N m n
set_option maxHeartbeats 600000 in
theorem ed_rng {N : Nat → Int} (hW : WF N) {m : Int} : ∀ n : Nat, (n : Int) ≤ N 4 → 0 ≤ ed N m n ∧ ed N m n ≤ 9999 := by
  intro n
  induction n with
  | zero => intro _; simp [ed]
  | succ n ih =>
    intro hn
    have i := ih (by omega)
    have hWO := hW.2.2.2.2.1 n (by omega)
    unfold WFo at hWO
    simp only [ed]
    split
    · split <;> omega
    · exact i
set_option maxHeartbeats 600000 in
theorem imin_ed {a b : Int} (ha : 0 ≤ a ∧ a ≤ 9999) (hb : 0 ≤ b ∧ b ≤ 9999) : i_min a b = if b < a then b else a := by
  unfold i_min
  rw [w32_ok ⟨by omega, by omega⟩, w32_ok ⟨by omega, by omega⟩]
set_option maxHeartbeats 600000 in
theorem X1early {M : Mem} {N : Nat → Int} (hR : HR 1 M N) (hW : WF N) {b : Nat} (hb : (b : Int) < N 5) : f_X1_earliestDue 1 (b : Int) M = some (ed N (N (461 + b)) (N 4).toNat) := by
  have q4 := n4 hW
  have q5 := n5 hW
  obtain ⟨d4, hO⟩ := HR_O hR
  have bm := bmem hW hb
  have xb : ix (b : Int) = b := ix_nat (by omega)
  have e18 : M 18 b = N (461 + b) := (HR_E hR).2 b hb
  apply wp_val
  unfold f_X1_earliestDue
  refine wp_lpb (wp_forI (fun i x => x = (ed N (N (461 + b)) i, (i : Int))) (N 4).toNat ?_ ?_ (Nat.zero_le _) rfl)
  · rintro i x hi rfl
    have hi' : (i : Int) < N 4 := by omega
    have xi : ix (i : Int) = i := ix_nat (by omega)
    have e11 : M 11 i = N (109 + 22 * i) := (hO i hi').1
    have er := ed_rng hW (m := N (461 + b)) i (by omega)
    have hWO := hW.2.2.2.2.1 i hi'
    unfold WFo at hWO
    simp only [s_X1_earliestDue_6, j_X1_earliestDue_47_6, Nat.reduceAdd, xi, xb, e11, e18]
    cases q : bit (N (461 + b)) i
    · have hq := tst_f bm.1 (show i < 31 by omega) q
      refine wp_ite_t (by ((try simp (disch := omega) only [w32_and, w32_or, w32_shl, w32_shr, w32_xor, ixO, ixO0, ixO1, ixO2, ixO3, ixL0, ixL1, ixL2, ixC, ixB, ixI0, ixI00, ixI1, ixI2, ixI3, upd2_rd, upd2_nd, Nat.reduceEqDiff, Nat.reduceAdd, Nat.add_left_cancel_iff, Nat.add_right_cancel_iff, reduceCtorEq, ↓reduceIte, and_self, and_true, true_and, and_false, false_and, true_or, or_true, false_or, or_false, not_true_eq_false, not_false_eq_true]); (try simp only [w32_em]); (first | done | omega))) (wp_gi (by omega) (by omega) (by omega) (wp_ite_t (by rw [hq]; decide) (wp_bnd (wp_some ?_))))
      dsimp only [Sum.elim_inl]
      simp only [ed, q, Int.natCast_succ, Bool.false_eq_true, ↓reduceIte]
    · have hq := tst_t bm.1 (show i < 31 by omega) q
      refine wp_ite_t (by ((try simp (disch := omega) only [w32_and, w32_or, w32_shl, w32_shr, w32_xor, ixO, ixO0, ixO1, ixO2, ixO3, ixL0, ixL1, ixL2, ixC, ixB, ixI0, ixI00, ixI1, ixI2, ixI3, upd2_rd, upd2_nd, Nat.reduceEqDiff, Nat.reduceAdd, Nat.add_left_cancel_iff, Nat.add_right_cancel_iff, reduceCtorEq, ↓reduceIte, and_self, and_true, true_and, and_false, false_and, true_or, or_true, false_or, or_false, not_true_eq_false, not_false_eq_true]); (try simp only [w32_em]); (first | done | omega))) (wp_gi (by omega) (by omega) (by omega) (wp_ite_f (by rw [hq]; decide) (wp_gi (by omega) (by omega) (by omega) (wp_bnd (wp_bnd (wp_some ?_))))))
      dsimp only [Sum.elim_inl]
      rw [imin_ed er (by omega)]
      simp only [ed, q, Int.natCast_succ, ↓reduceIte]
  · rintro x rfl
    simp only [s_X1_earliestDue_6, Nat.reduceAdd]
    refine wp_ite_f (by ((try simp (disch := omega) only [w32_and, w32_or, w32_shl, w32_shr, w32_xor, ixO, ixO0, ixO1, ixO2, ixO3, ixL0, ixL1, ixL2, ixC, ixB, ixI0, ixI00, ixI1, ixI2, ixI3, upd2_rd, upd2_nd, Nat.reduceEqDiff, Nat.reduceAdd, Nat.add_left_cancel_iff, Nat.add_right_cancel_iff, reduceCtorEq, ↓reduceIte, and_self, and_true, true_and, and_false, false_and, true_or, or_true, false_or, or_false, not_true_eq_false, not_false_eq_true]); (try simp only [w32_em]); (first | done | omega))) (wp_some ?_)
    dsimp only [Sum.elim_inl, Sum.elim_inr]
    exact wp_some rfl
set_option maxHeartbeats 600000 in
theorem X12early {M : Mem} {N : Nat → Int} (hN : M 140 = N) (hW : WF N) {m : Int} (hm : NN m) : f_X12_earliestOf m M = some (ed N m (N 4).toNat) := by
  have q4 := n4 hW
  have e4 : M 140 4 = N 4 := by rw [hN]
  apply wp_val
  unfold f_X12_earliestOf
  refine wp_lpb (wp_forI (fun i x => x = (ed N m i, (i : Int))) (N 4).toNat ?_ ?_ (Nat.zero_le _) rfl)
  · rintro i x hi rfl
    have er := ed_rng hW (m := m) i (by omega)
    have hWO := hW.2.2.2.2.1 i (by omega)
    unfold WFo at hWO
    simp only [s_X12_earliestOf_6, j_X12_earliestOf_43_6, j_X12_earliestOf_44_6]
    cases q : bit m i
    · refine wp_ite_t (by ((try simp (disch := omega) only [w32_and, w32_or, w32_shl, w32_shr, w32_xor, ixO, ixO0, ixO1, ixO2, ixO3, ixL0, ixL1, ixL2, ixC, ixB, ixI0, ixI00, ixI1, ixI2, ixI3, upd2_rd, upd2_nd, Nat.reduceEqDiff, Nat.reduceAdd, Nat.add_left_cancel_iff, Nat.add_right_cancel_iff, reduceCtorEq, ↓reduceIte, and_self, and_true, true_and, and_false, false_and, true_or, or_true, false_or, or_false, not_true_eq_false, not_false_eq_true]); (try simp only [w32_em]); (first | done | omega))) (wp_cl1 (wp_eq (has_f hm (show i < 31 by omega) q) (wp_ite_t (by decide) (wp_bnd (wp_some ?_)))))
      dsimp only [Sum.elim_inl]
      simp only [ed, q, Int.natCast_succ, Bool.false_eq_true, ↓reduceIte]
    · refine wp_ite_t (by ((try simp (disch := omega) only [w32_and, w32_or, w32_shl, w32_shr, w32_xor, ixO, ixO0, ixO1, ixO2, ixO3, ixL0, ixL1, ixL2, ixC, ixB, ixI0, ixI00, ixI1, ixI2, ixI3, upd2_rd, upd2_nd, Nat.reduceEqDiff, Nat.reduceAdd, Nat.add_left_cancel_iff, Nat.add_right_cancel_iff, reduceCtorEq, ↓reduceIte, and_self, and_true, true_and, and_false, false_and, true_or, or_true, false_or, or_false, not_true_eq_false, not_false_eq_true]); (try simp only [w32_em]); (first | done | omega))) (wp_cl1 (wp_eq (has_t hm (show i < 31 by omega) q) (wp_ite_f (by decide) (wp_cl1 (wp_eq (X12due hN (by omega)) ?_)))))
      by_cases hv : N (109 + 22 * i) < ed N m i
      · refine wp_ite_t (by ((try simp (disch := omega) only [w32_and, w32_or, w32_shl, w32_shr, w32_xor, ixO, ixO0, ixO1, ixO2, ixO3, ixL0, ixL1, ixL2, ixC, ixB, ixI0, ixI00, ixI1, ixI2, ixI3, upd2_rd, upd2_nd, Nat.reduceEqDiff, Nat.reduceAdd, Nat.add_left_cancel_iff, Nat.add_right_cancel_iff, reduceCtorEq, ↓reduceIte, and_self, and_true, true_and, and_false, false_and, true_or, or_true, false_or, or_false, not_true_eq_false, not_false_eq_true]); (try simp only [w32_em]); (first | done | omega))) (wp_cl1 (wp_eq (X12due hN (by omega)) (wp_bnd (wp_some ?_))))
        dsimp only [Sum.elim_inl]
        simp only [ed, q, Int.natCast_succ, ↓reduceIte, if_pos hv]
      · refine wp_ite_f (by ((try simp (disch := omega) only [w32_and, w32_or, w32_shl, w32_shr, w32_xor, ixO, ixO0, ixO1, ixO2, ixO3, ixL0, ixL1, ixL2, ixC, ixB, ixI0, ixI00, ixI1, ixI2, ixI3, upd2_rd, upd2_nd, Nat.reduceEqDiff, Nat.reduceAdd, Nat.add_left_cancel_iff, Nat.add_right_cancel_iff, reduceCtorEq, ↓reduceIte, and_self, and_true, true_and, and_false, false_and, true_or, or_true, false_or, or_false, not_true_eq_false, not_false_eq_true]); (try simp only [w32_em]); (first | done | omega))) (wp_bnd (wp_some ?_))
        dsimp only [Sum.elim_inl]
        simp only [ed, q, Int.natCast_succ, ↓reduceIte, if_neg hv]
  · rintro x rfl
    simp only [s_X12_earliestOf_6]
    refine wp_ite_f (by ((try simp (disch := omega) only [w32_and, w32_or, w32_shl, w32_shr, w32_xor, ixO, ixO0, ixO1, ixO2, ixO3, ixL0, ixL1, ixL2, ixC, ixB, ixI0, ixI00, ixI1, ixI2, ixI3, upd2_rd, upd2_nd, Nat.reduceEqDiff, Nat.reduceAdd, Nat.add_left_cancel_iff, Nat.add_right_cancel_iff, reduceCtorEq, ↓reduceIte, and_self, and_true, true_and, and_false, false_and, true_or, or_true, false_or, or_false, not_true_eq_false, not_false_eq_true]); (try simp only [w32_em]); (first | done | omega))) (wp_some ?_)
    dsimp only [Sum.elim_inl, Sum.elim_inr]
    exact wp_some rfl
/-- the key of batch b -/
def kyS (N : Nat → Int) (x : Int) (b : Nat) : Int := if x = 1 then sm (fun z => wkS N b z) (zns N).toNat else ed N (N (461 + b)) (N 4).toNat
set_option maxHeartbeats 600000 in
theorem ky_rng {N : Nat → Int} (hW : WF N) {x : Int} {b : Nat} : 0 ≤ kyS N x b ∧ kyS N x b ≤ 9999 := by
  have q4 := n4 hW
  have cz := zn_rng N
  unfold kyS
  split
  · have := sm_bd (g := fun z => wkS N b z) (n := (zns N).toNat) (B := 3000) (by omega) (fun z hz => wkS_rng hW (by omega))
    omega
  · exact ed_rng hW _ (by omega)
set_option maxHeartbeats 600000 in
theorem X7wia {M : Mem} {N : Nat → Int} (hR : HR 1 M N) (hW : WF N) {b : Nat} (hb : (b : Int) < N 5) (hw : ∀ b z : Nat, (b : Int) < N 5 → (z : Int) < zns N → M (98 + 2 + b) z = wkS N b z) : f_X7_workInAll 98 2 (b : Int) M = some (sm (fun z => wkS N b z) (zns N).toNat) := by
  have q5 := n5 hW
  have cz := zn_rng N
  have hA := hR.1
  simp only [Nat.reduceAdd] at hA
  have xb : ix (b : Int) = b := ix_nat (by omega)
  apply wp_val
  unfold f_X7_workInAll
  refine wp_lpb (wp_forI (fun i x => x = (sm (fun z => wkS N b z) i, (i : Int))) (zns N).toNat ?_ ?_ (Nat.zero_le _) rfl)
  · rintro i x hi rfl
    have xi : ix (i : Int) = i := ix_nat (by omega)
    have w := hw b i hb (by omega)
    simp only [Nat.reduceAdd] at w
    simp only [s_X7_workInAll_5, Nat.reduceAdd, xi, xb, w, hA.2.2.2.1]
    refine wp_ite_t (by ((try simp (disch := omega) only [w32_and, w32_or, w32_shl, w32_shr, w32_xor, ixO, ixO0, ixO1, ixO2, ixO3, ixL0, ixL1, ixL2, ixC, ixB, ixI0, ixI00, ixI1, ixI2, ixI3, upd2_rd, upd2_nd, Nat.reduceEqDiff, Nat.reduceAdd, Nat.add_left_cancel_iff, Nat.add_right_cancel_iff, reduceCtorEq, ↓reduceIte, and_self, and_true, true_and, and_false, false_and, true_or, or_true, false_or, or_false, not_true_eq_false, not_false_eq_true]); (try simp only [w32_em]); (first | done | omega))) (wp_gi (by omega) (by omega) (by omega) (wp_gi (by omega) (by omega) (by omega) (wp_bnd (wp_bnd (wp_some ?_)))))
    dsimp only [Sum.elim_inl]
    simp only [sm, Int.natCast_succ]
  · rintro x rfl
    simp only [s_X7_workInAll_5, hA.2.2.2.1]
    refine wp_ite_f (by ((try simp (disch := omega) only [w32_and, w32_or, w32_shl, w32_shr, w32_xor, ixO, ixO0, ixO1, ixO2, ixO3, ixL0, ixL1, ixL2, ixC, ixB, ixI0, ixI00, ixI1, ixI2, ixI3, upd2_rd, upd2_nd, Nat.reduceEqDiff, Nat.reduceAdd, Nat.add_left_cancel_iff, Nat.add_right_cancel_iff, reduceCtorEq, ↓reduceIte, and_self, and_true, true_and, and_false, false_and, true_or, or_true, false_or, or_false, not_true_eq_false, not_false_eq_true]); (try simp only [w32_em]); (first | done | omega))) (wp_some ?_)
    dsimp only [Sum.elim_inl, Sum.elim_inr]
    exact wp_some rfl
set_option maxHeartbeats 600000 in
theorem X9keys {M : Mem} {N : Nat → Int} (hR : HR 1 M N) (hW : WF N) {x : Int} (hx : x = 0 ∨ x = 1) (hw : ∀ b z : Nat, (b : Int) < N 5 → (z : Int) < zns N → M (98 + 2 + b) z = wkS N b z) : wp (f_X9_fillKeys 1 x M) (fun r => (∀ a, a ≠ 135 → r a = M a) ∧ ∀ b : Nat, (b : Int) < N 5 → r 135 b = kyS N x b) := by
  have q5 := n5 hW
  unfold f_X9_fillKeys
  refine wp_lpb (wp_forI (fun i y => y.1 = (i : Int) ∧ (∀ a, a ≠ 135 → y.2 a = M a) ∧ ∀ b : Nat, b < i → y.2 135 b = kyS N x b) (N 5).toNat ?_ ?_ (Nat.zero_le _) ⟨rfl, fun _ _ => rfl, fun b hb => by omega⟩)
  · rintro i ⟨y, m⟩ hi ⟨k1, k2, k3⟩
    simp only at k1 k2 k3
    subst k1
    have hi' : (i : Int) < N 5 := by omega
    have xi : ix (i : Int) = i := ix_nat (by omega)
    have hRm : HR 1 m N := HR_fr (th := 40) (by omega) hR (fun a ha => k2 a (by omega))
    have m5 : m 17 0 = N 5 := (HR_E hRm).1
    have fin : ∀ v : Int, v = kyS N x i → ((i : Int) + 1 = ((i + 1 : Nat) : Int) ∧ (∀ a, a ≠ 135 → upd2 m 135 i v a = M a) ∧ ∀ b : Nat, b < i + 1 → upd2 m 135 i v 135 b = kyS N x b) := fun v hv => by
      refine ⟨by omega, fun a ha => by rw [upd2_ne ha]; exact k2 a ha, fun b hb => ?_⟩
      rw [upd2_at]
      by_cases e : b = i
      · rw [if_pos e, e]; exact hv
      · rw [if_neg e]; exact k3 b (by omega)
    simp only [s_X9_fillKeys_2, j_X9_fillKeys_43_2, Nat.reduceAdd, xi]
    rcases hx with rfl | rfl
    · refine wp_ite_t (by ((try simp (disch := omega) only [w32_and, w32_or, w32_shl, w32_shr, w32_xor, ixO, ixO0, ixO1, ixO2, ixO3, ixL0, ixL1, ixL2, ixC, ixB, ixI0, ixI00, ixI1, ixI2, ixI3, upd2_rd, upd2_nd, Nat.reduceEqDiff, Nat.reduceAdd, Nat.add_left_cancel_iff, Nat.add_right_cancel_iff, reduceCtorEq, ↓reduceIte, and_self, and_true, true_and, and_false, false_and, true_or, or_true, false_or, or_false, not_true_eq_false, not_false_eq_true]); (try simp only [w32_em]); (first | done | omega))) (wp_ite_f (by decide) (wp_cl1 (wp_eq (X1early hRm hW hi') (wp_gi (by omega) (by omega) (by omega) (wp_bnd (wp_bnd (wp_some ?_)))))))
      exact fin _ (by unfold kyS; rw [if_neg (by decide)])
    · refine wp_ite_t (by ((try simp (disch := omega) only [w32_and, w32_or, w32_shl, w32_shr, w32_xor, ixO, ixO0, ixO1, ixO2, ixO3, ixL0, ixL1, ixL2, ixC, ixB, ixI0, ixI00, ixI1, ixI2, ixI3, upd2_rd, upd2_nd, Nat.reduceEqDiff, Nat.reduceAdd, Nat.add_left_cancel_iff, Nat.add_right_cancel_iff, reduceCtorEq, ↓reduceIte, and_self, and_true, true_and, and_false, false_and, true_or, or_true, false_or, or_false, not_true_eq_false, not_false_eq_true]); (try simp only [w32_em]); (first | done | omega))) (wp_ite_t (by decide) (wp_cl1 (wp_eq (X7wia hRm hW hi' (fun b z hb hz => by rw [k2 _ (by omega)]; exact hw b z hb hz)) (wp_gi (by omega) (by omega) (by omega) (wp_bnd (wp_bnd (wp_some ?_)))))))
      exact fin _ (by unfold kyS; rw [if_pos rfl])
  · rintro ⟨y, m⟩ ⟨k1, k2, k3⟩
    simp only at k1 k2 k3
    subst k1
    have m5 : m 17 0 = N 5 := by rw [k2 17 (by decide)]; exact (HR_E hR).1
    simp only [s_X9_fillKeys_2, Nat.reduceAdd]
    refine wp_ite_f (by ((try simp (disch := omega) only [w32_and, w32_or, w32_shl, w32_shr, w32_xor, ixO, ixO0, ixO1, ixO2, ixO3, ixL0, ixL1, ixL2, ixC, ixB, ixI0, ixI00, ixI1, ixI2, ixI3, upd2_rd, upd2_nd, Nat.reduceEqDiff, Nat.reduceAdd, Nat.add_left_cancel_iff, Nat.add_right_cancel_iff, reduceCtorEq, ↓reduceIte, and_self, and_true, true_and, and_false, false_and, true_or, or_true, false_or, or_false, not_true_eq_false, not_false_eq_true]); (try simp only [w32_em]); (first | done | omega))) (wp_some ?_)
    dsimp only [Sum.elim_inl, Sum.elim_inr]
    exact wp_some ⟨k2, fun b hb => k3 b (by omega)⟩
set_option maxHeartbeats 600000 in
theorem X12keys {M : Mem} {N : Nat → Int} (hN : M 140 = N) (hW : WF N) {x : Int} (hx : x = 0 ∨ x = 1) (hw : ∀ b z : Nat, (b : Int) < N 5 → (z : Int) < zns N → M 148 (3 * b + z) = wkS N b z) : wp (wh (fun y => s_X12_sortsBy_2 x y.1 y.2) (0, M)) (fun r => ∃ u : Mem, r = .inl u ∧ (∀ a, a ≠ 152 → u a = M a) ∧ ∀ b : Nat, (b : Int) < N 5 → u 152 b = kyS N x b) := by
  have q5 := n5 hW
  have cz := zn_rng N
  refine wp_forI (fun i y => y.1 = (i : Int) ∧ (∀ a, a ≠ 152 → y.2 a = M a) ∧ ∀ b : Nat, b < i → y.2 152 b = kyS N x b) (N 5).toNat ?_ ?_ (Nat.zero_le _) ⟨rfl, fun _ _ => rfl, fun b hb => by omega⟩
  · rintro i ⟨y, m⟩ hi ⟨k1, k2, k3⟩
    simp only at k1 k2 k3
    subst k1
    have hi' : (i : Int) < N 5 := by omega
    have xi : ix (i : Int) = i := ix_nat (by omega)
    have xc : ix (461 + (i : Int)) = 461 + i := ixB (by omega)
    have mN : m 140 = N := by rw [k2 140 (by decide)]; exact hN
    have m5 : m 140 5 = N 5 := by rw [mN]
    have mb : m 140 (461 + i) = N (461 + i) := by rw [mN]
    have fin : ∀ v : Int, v = kyS N x i → ((i : Int) + 1 = ((i + 1 : Nat) : Int) ∧ (∀ a, a ≠ 152 → upd2 m 152 i v a = M a) ∧ ∀ b : Nat, b < i + 1 → upd2 m 152 i v 152 b = kyS N x b) := fun v hv => by
      refine ⟨by omega, fun a ha => by rw [upd2_ne ha]; exact k2 a ha, fun b hb => ?_⟩
      rw [upd2_at]
      by_cases e : b = i
      · rw [if_pos e, e]; exact hv
      · rw [if_neg e]; exact k3 b (by omega)
    simp only [s_X12_sortsBy_2, j_X12_sortsBy_79_2, xi, xc, mb]
    refine wp_ite_t (by ((try simp (disch := omega) only [w32_and, w32_or, w32_shl, w32_shr, w32_xor, ixO, ixO0, ixO1, ixO2, ixO3, ixL0, ixL1, ixL2, ixC, ixB, ixI0, ixI00, ixI1, ixI2, ixI3, upd2_rd, upd2_nd, Nat.reduceEqDiff, Nat.reduceAdd, Nat.add_left_cancel_iff, Nat.add_right_cancel_iff, reduceCtorEq, ↓reduceIte, and_self, and_true, true_and, and_false, false_and, true_or, or_true, false_or, or_false, not_true_eq_false, not_false_eq_true]); (try simp only [w32_em]); (first | done | omega))) (wp_bnd (wp_lpb (wp_forI (fun z t => t = (sm (fun z => wkS N i z) z, (z : Int))) (zns N).toNat ?_ ?_ (Nat.zero_le _) rfl)))
    · rintro z t hz rfl
      have xz : ix (3 * (i : Int) + (z : Int)) = 3 * i + z := by rw [ix_of (by omega) (by omega)]; omega
      have w : m 148 (3 * i + z) = wkS N i z := by rw [k2 148 (by decide)]; exact hw i z hi' (by omega)
      simp only [s_X12_sortsBy_22, xz, w]
      refine wp_cl1 (wp_eq (X12zones mN hW) (wp_ite_t (by ((try simp (disch := omega) only [w32_and, w32_or, w32_shl, w32_shr, w32_xor, ixO, ixO0, ixO1, ixO2, ixO3, ixL0, ixL1, ixL2, ixC, ixB, ixI0, ixI00, ixI1, ixI2, ixI3, upd2_rd, upd2_nd, Nat.reduceEqDiff, Nat.reduceAdd, Nat.add_left_cancel_iff, Nat.add_right_cancel_iff, reduceCtorEq, ↓reduceIte, and_self, and_true, true_and, and_false, false_and, true_or, or_true, false_or, or_false, not_true_eq_false, not_false_eq_true]); (try simp only [w32_em]); (first | done | omega))) (wp_gi (by omega) (by omega) (by omega) (wp_bnd (wp_bnd (wp_some ?_))))))
      dsimp only [Sum.elim_inl]
      simp only [sm, Int.natCast_succ]
    · rintro t rfl
      simp only [s_X12_sortsBy_22]
      refine wp_cl1 (wp_eq (X12zones mN hW) (wp_ite_f (by ((try simp (disch := omega) only [w32_and, w32_or, w32_shl, w32_shr, w32_xor, ixO, ixO0, ixO1, ixO2, ixO3, ixL0, ixL1, ixL2, ixC, ixB, ixI0, ixI00, ixI1, ixI2, ixI3, upd2_rd, upd2_nd, Nat.reduceEqDiff, Nat.reduceAdd, Nat.add_left_cancel_iff, Nat.add_right_cancel_iff, reduceCtorEq, ↓reduceIte, and_self, and_true, true_and, and_false, false_and, true_or, or_true, false_or, or_false, not_true_eq_false, not_false_eq_true]); (try simp only [w32_em]); (first | done | omega))) (wp_some ?_)))
      dsimp only [Sum.elim_inl, Sum.elim_inr]
      rcases hx with rfl | rfl
      · refine wp_ite_t (by decide) (wp_gi (by omega) (by omega) (by omega) (wp_cl1 (wp_eq (X12early mN hW (bmem hW hi').1) (wp_gi (by omega) (by omega) (by omega) (wp_bnd (wp_bnd (wp_some ?_)))))))
        exact fin _ (by unfold kyS; rw [if_neg (by decide)])
      · refine wp_ite_f (by decide) (wp_gi (by omega) (by omega) (by omega) (wp_bnd (wp_bnd (wp_some ?_))))
        exact fin _ (by unfold kyS; rw [if_pos rfl])
  · rintro ⟨y, m⟩ ⟨k1, k2, k3⟩
    simp only at k1 k2 k3
    subst k1
    have m5 : m 140 5 = N 5 := by rw [k2 140 (by decide), hN]
    simp only [s_X12_sortsBy_2]
    refine wp_ite_f (by ((try simp (disch := omega) only [w32_and, w32_or, w32_shl, w32_shr, w32_xor, ixO, ixO0, ixO1, ixO2, ixO3, ixL0, ixL1, ixL2, ixC, ixB, ixI0, ixI00, ixI1, ixI2, ixI3, upd2_rd, upd2_nd, Nat.reduceEqDiff, Nat.reduceAdd, Nat.add_left_cancel_iff, Nat.add_right_cancel_iff, reduceCtorEq, ↓reduceIte, and_self, and_true, true_and, and_false, false_and, true_or, or_true, false_or, or_false, not_true_eq_false, not_false_eq_true]); (try simp only [w32_em]); (first | done | omega))) (wp_some ?_)
    dsimp only [Sum.elim_inl, Sum.elim_inr]
    exact ⟨m, rfl, k2, fun b hb => k3 b (by omega)⟩
