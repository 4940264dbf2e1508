-- ===== insertion =====
def shq (key : Nat → Int) (x : Nat) : Nat → (Nat → Nat) → Nat × (Nat → Nat)
  | 0, q => (0, q)
  | p + 1, q => if key x < key (q p) then shq key x p (fun j => if j = p + 1 then q p else q j) else (p + 1, q)
def srt (key : Nat → Int) : Nat → Nat → Nat
  | 0 => fun _ => 0
  | i + 1 => fun j => if j = (shq key i i (srt key i)).1 then i else (shq key i i (srt key i)).2 j
/-- q puts the numbers below i in an order -/
def PMq (i : Nat) (q : Nat → Nat) : Prop := (∀ j, j < i → q j < i) ∧ (∀ j k, j < i → k < i → q j = q k → j = k) ∧ ∀ v, v < i → ∃ j, j < i ∧ q j = v
/-- the same, with a hole at p -/
def HOq (i p : Nat) (q : Nat → Nat) : Prop := p ≤ i ∧ (∀ j, j ≤ i → j ≠ p → q j < i) ∧ (∀ j k, j ≤ i → k ≤ i → j ≠ p → k ≠ p → q j = q k → j = k) ∧ ∀ v, v < i → ∃ j, j ≤ i ∧ j ≠ p ∧ q j = v
set_option maxHeartbeats 600000 in
theorem HO_sh {i p : Nat} {q : Nat → Nat} (h : HOq i (p + 1) q) : HOq i p (fun j => if j = p + 1 then q p else q j) := by
  obtain ⟨h1, h2, h3, h4⟩ := h
  refine ⟨by omega, fun j hj hp => ?_, fun j k hj hk jp kp e => ?_, fun v hv => ?_⟩
  · try dsimp only
    by_cases a : j = p + 1
    · rw [if_pos a]; exact h2 p (by omega) (by omega)
    · rw [if_neg a]; exact h2 j hj a
  · try dsimp only at e
    by_cases a : j = p + 1
    · by_cases b : k = p + 1
      · omega
      · rw [if_pos a, if_neg b] at e
        have := h3 p k (by omega) hk (by omega) b e
        omega
    · by_cases b : k = p + 1
      · rw [if_neg a, if_pos b] at e
        have := h3 j p hj (by omega) a (by omega) e
        omega
      · rw [if_neg a, if_neg b] at e
        exact h3 j k hj hk a b e
  · obtain ⟨j, j1, j2, j3⟩ := h4 v hv
    by_cases a : j = p
    · exact ⟨p + 1, h1, by omega, by (try dsimp only); rw [if_pos rfl, ← a]; exact j3⟩
    · exact ⟨j, j1, a, by (try dsimp only); rw [if_neg j2]; exact j3⟩
set_option maxHeartbeats 600000 in
theorem shq_ok {key : Nat → Int} {x i : Nat} : ∀ (p : Nat) (q : Nat → Nat), HOq i p q → HOq i (shq key x p q).1 (shq key x p q).2 := by
  intro p
  induction p with
  | zero => intro q h; exact h
  | succ p ih =>
    intro q h
    simp only [shq]
    split
    · exact ih _ (HO_sh h)
    · exact h
set_option maxHeartbeats 600000 in
theorem HO_of {i : Nat} {q : Nat → Nat} (h : PMq i q) : HOq i i q := by
  obtain ⟨h1, h2, h3⟩ := h
  refine ⟨Nat.le_refl _, fun j hj hp => h1 j (by omega), fun j k hj hk jp kp e => h2 j k (by omega) (by omega) e, fun v hv => ?_⟩
  obtain ⟨j, a, b⟩ := h3 v hv
  exact ⟨j, by omega, by omega, b⟩
set_option maxHeartbeats 600000 in
theorem PM_put {i p : Nat} {q : Nat → Nat} (h : HOq i p q) : PMq (i + 1) (fun j => if j = p then i else q j) := by
  obtain ⟨h1, h2, h3, h4⟩ := h
  refine ⟨fun j hj => ?_, fun j k hj hk e => ?_, fun v hv => ?_⟩
  · try dsimp only
    by_cases a : j = p
    · rw [if_pos a]; omega
    · rw [if_neg a]; have := h2 j (by omega) a; omega
  · try dsimp only at e
    by_cases a : j = p
    · by_cases b : k = p
      · omega
      · rw [if_pos a, if_neg b] at e
        have := h2 k (by omega) b
        omega
    · by_cases b : k = p
      · rw [if_neg a, if_pos b] at e
        have := h2 j (by omega) a
        omega
      · rw [if_neg a, if_neg b] at e
        exact h3 j k (by omega) (by omega) a b e
  · by_cases a : v = i
    · exact ⟨p, by omega, by (try dsimp only); rw [if_pos rfl]; exact a.symm⟩
    · obtain ⟨j, j1, j2, j3⟩ := h4 v (by omega)
      exact ⟨j, by omega, by (try dsimp only); rw [if_neg j2]; exact j3⟩
set_option maxHeartbeats 600000 in
theorem srt_pm {key : Nat → Int} : ∀ i : Nat, PMq i (srt key i) := by
  intro i
  induction i with
  | zero => exact ⟨fun j h => by omega, fun j k h => by omega, fun v h => by omega⟩
  | succ i ih => exact PM_put (shq_ok i _ (HO_of ih))
set_option maxHeartbeats 600000 in
theorem X9ins {key : Nat → Int} (hkr : ∀ j, 0 ≤ key j ∧ key j ≤ 9999) {i n : Nat} (hi : i < n) (h8 : n ≤ 8) {x1 : Int} : ∀ (p : Nat) (q : Nat → Nat) (M : Mem), HOq i p q → (∀ j, j < n → M 135 j = key j) → (∀ j, j ≤ i → j ≠ p → M 137 j = ((q j : Nat) : Int)) → wp (wh (fun x => s_X9_sortByKeys_9 x1 (i : Int) x.1 x.2) ((p : Int), M)) (fun r => ∃ z : Mem, r = .inl (((shq key i p q).1 : Int), z) ∧ (∀ a, a ≠ 137 → z a = M a) ∧ ∀ j, j ≤ i → j ≠ (shq key i p q).1 → z 137 j = (((shq key i p q).2 j : Nat) : Int)) := by
  intro p
  induction p with
  | zero =>
    intro q M _ _ hq
    refine wp_unroll ?_
    simp only [s_X9_sortByKeys_9]
    refine wp_ite_f (by decide) (wp_some ?_)
    exact ⟨M, rfl, fun _ _ => rfl, hq⟩
  | succ p ih =>
    intro q M h hk hq
    have hp := h.1
    have b1 := h.2.1 p (by omega) (by omega)
    have e1 : ((p + 1 : Nat) : Int) - 1 = (p : Int) := by omega
    have xp : ix (p : Int) = p := ix_nat (by omega)
    have xp1 : ix ((p + 1 : Nat) : Int) = p + 1 := ix_nat (by omega)
    have xi : ix (i : Int) = i := ix_nat (by omega)
    have m1 : M 137 p = ((q p : Nat) : Int) := hq p (by omega) (by omega)
    have xq : ix ((q p : Nat) : Int) = q p := ix_nat (by omega)
    have k1 := hk i hi
    have k2 := hk (q p) (by omega)
    have r1 := hkr i
    have r2 := hkr (q p)
    refine wp_unroll (wp_use (P := Sum.elim (fun y => key i < key (q p) ∧ y = ((p : Int), upd2 M 137 (p + 1) ((q p : Nat) : Int))) (fun r => ¬ key i < key (q p) ∧ r = .inl (((p + 1 : Nat) : Int), M))) ?_ (fun a ha => ?_))
    · show wp (s_X9_sortByKeys_9 x1 (i : Int) ((p + 1 : Nat) : Int) M) _
      simp only [s_X9_sortByKeys_9, e1, xp, m1, xq, xi, k1, k2]
      refine wp_ite_t (by ((try simp (disch := omega) only [w32_and, w32_or, w32_shl, w32_shr, w32_xor, ixO, ixO0, ixO1, ixO2, ixO3, ixL0, ixL1, ixL2, ixC, ixB, ixI0, ixI00, ixI1, ixI2, ixI3, upd2_rd, upd2_nd, Nat.reduceEqDiff, Nat.reduceAdd, Nat.add_left_cancel_iff, Nat.add_right_cancel_iff, reduceCtorEq, ↓reduceIte, and_self, and_true, true_and, and_false, false_and, true_or, or_true, false_or, or_false, not_true_eq_false, not_false_eq_true]); (try simp only [w32_em]); (first | done | omega))) (wp_gi (by omega) (by omega) (by omega) (wp_gi (by omega) (by omega) (by omega) (wp_gi (by omega) (by omega) (by omega) ?_)))
      by_cases c : key i < key (q p)
      · refine wp_ite_t (by ((try simp (disch := omega) only [w32_and, w32_or, w32_shl, w32_shr, w32_xor, ixO, ixO0, ixO1, ixO2, ixO3, ixL0, ixL1, ixL2, ixC, ixB, ixI0, ixI00, ixI1, ixI2, ixI3, upd2_rd, upd2_nd, Nat.reduceEqDiff, Nat.reduceAdd, Nat.add_left_cancel_iff, Nat.add_right_cancel_iff, reduceCtorEq, ↓reduceIte, and_self, and_true, true_and, and_false, false_and, true_or, or_true, false_or, or_false, not_true_eq_false, not_false_eq_true]); (try simp only [w32_em]); (first | done | omega))) (wp_gi (by omega) (by omega) (by omega) (wp_gi (by omega) (by omega) (by omega) (wp_bnd (wp_bnd (wp_some ?_)))))
        dsimp only [Sum.elim_inl]
        rw [show ((p + 1 : Nat) : Int) + -1 = (p : Int) by omega, xp1]
        exact ⟨c, rfl⟩
      · refine wp_ite_f (by ((try simp (disch := omega) only [w32_and, w32_or, w32_shl, w32_shr, w32_xor, ixO, ixO0, ixO1, ixO2, ixO3, ixL0, ixL1, ixL2, ixC, ixB, ixI0, ixI00, ixI1, ixI2, ixI3, upd2_rd, upd2_nd, Nat.reduceEqDiff, Nat.reduceAdd, Nat.add_left_cancel_iff, Nat.add_right_cancel_iff, reduceCtorEq, ↓reduceIte, and_self, and_true, true_and, and_false, false_and, true_or, or_true, false_or, or_false, not_true_eq_false, not_false_eq_true]); (try simp only [w32_em]); (first | done | omega))) (wp_some ?_)
        exact ⟨c, rfl⟩
    · cases a with
      | inl y =>
        obtain ⟨c, rfl⟩ := ha
        have es : shq key i (p + 1) q = shq key i p (fun j => if j = p + 1 then q p else q j) := by simp only [shq, if_pos c]
        rw [es]
        dsimp only [Sum.elim_inl]
        refine wp_use (ih (fun j => if j = p + 1 then q p else q j) _ (HO_sh h) (fun j hj => by rw [upd2_ne (by decide)]; exact hk j hj) (fun j hj hne => ?_)) (fun r hr => ?_)
        · rw [upd2_at]
          by_cases a : j = p + 1
          · rw [if_pos a]; simp only [a, ↓reduceIte]
          · rw [if_neg a]; simp only [a, ↓reduceIte]; exact hq j hj a
        · obtain ⟨z, z1, z2, z3⟩ := hr
          exact ⟨z, z1, fun a ha => by rw [z2 a ha, upd2_ne ha], z3⟩
      | inr r =>
        obtain ⟨c, rfl⟩ := ha
        have es : shq key i (p + 1) q = (p + 1, q) := by simp only [shq, if_neg c]
        rw [es]
        dsimp only [Sum.elim_inr]
        exact ⟨M, rfl, fun _ _ => rfl, hq⟩
set_option maxHeartbeats 600000 in
theorem X12ins {key : Nat → Int} (hkr : ∀ j, 0 ≤ key j ∧ key j ≤ 9999) {i n : Nat} (hi : i < n) (h8 : n ≤ 8) {x2 : Int} : ∀ (p : Nat) (q : Nat → Nat) (M : Mem), HOq i p q → (∀ j, j < n → M 152 j = key j) → (∀ j, j ≤ i → j ≠ p → M 149 j = ((q j : Nat) : Int)) → wp (wh (fun x => s_X12_sortsBy_108 x2 (i : Int) x.1 x.2) ((p : Int), M)) (fun r => ∃ z : Mem, r = .inl (((shq key i p q).1 : Int), z) ∧ (∀ a, a ≠ 149 → z a = M a) ∧ (∀ j, i < j → z 149 j = M 149 j) ∧ ∀ j, j ≤ i → j ≠ (shq key i p q).1 → z 149 j = (((shq key i p q).2 j : Nat) : Int)) := by
  intro p
  induction p with
  | zero =>
    intro q M _ _ hq
    refine wp_unroll ?_
    simp only [s_X12_sortsBy_108]
    refine wp_ite_f (by decide) (wp_some ?_)
    exact ⟨M, rfl, fun _ _ => rfl, fun _ _ => rfl, hq⟩
  | succ p ih =>
    intro q M h hk hq
    have hp := h.1
    have b1 := h.2.1 p (by omega) (by omega)
    have e1 : ((p + 1 : Nat) : Int) - 1 = (p : Int) := by omega
    have xp : ix (p : Int) = p := ix_nat (by omega)
    have xp1 : ix ((p + 1 : Nat) : Int) = p + 1 := ix_nat (by omega)
    have xi : ix (i : Int) = i := ix_nat (by omega)
    have m1 : M 149 p = ((q p : Nat) : Int) := hq p (by omega) (by omega)
    have xq : ix ((q p : Nat) : Int) = q p := ix_nat (by omega)
    have k1 := hk i hi
    have k2 := hk (q p) (by omega)
    have r1 := hkr i
    have r2 := hkr (q p)
    refine wp_unroll (wp_use (P := Sum.elim (fun y => key i < key (q p) ∧ y = ((p : Int), upd2 M 149 (p + 1) ((q p : Nat) : Int))) (fun r => ¬ key i < key (q p) ∧ r = .inl (((p + 1 : Nat) : Int), M))) ?_ (fun a ha => ?_))
    · show wp (s_X12_sortsBy_108 x2 (i : Int) ((p + 1 : Nat) : Int) M) _
      simp only [s_X12_sortsBy_108, e1, xp, m1, xq, xi, k1, k2]
      refine wp_ite_t (by ((try simp (disch := omega) only [w32_and, w32_or, w32_shl, w32_shr, w32_xor, ixO, ixO0, ixO1, ixO2, ixO3, ixL0, ixL1, ixL2, ixC, ixB, ixI0, ixI00, ixI1, ixI2, ixI3, upd2_rd, upd2_nd, Nat.reduceEqDiff, Nat.reduceAdd, Nat.add_left_cancel_iff, Nat.add_right_cancel_iff, reduceCtorEq, ↓reduceIte, and_self, and_true, true_and, and_false, false_and, true_or, or_true, false_or, or_false, not_true_eq_false, not_false_eq_true]); (try simp only [w32_em]); (first | done | omega))) (wp_gi (by omega) (by omega) (by omega) (wp_gi (by omega) (by omega) (by omega) (wp_gi (by omega) (by omega) (by omega) ?_)))
      by_cases c : key i < key (q p)
      · refine wp_ite_t (by ((try simp (disch := omega) only [w32_and, w32_or, w32_shl, w32_shr, w32_xor, ixO, ixO0, ixO1, ixO2, ixO3, ixL0, ixL1, ixL2, ixC, ixB, ixI0, ixI00, ixI1, ixI2, ixI3, upd2_rd, upd2_nd, Nat.reduceEqDiff, Nat.reduceAdd, Nat.add_left_cancel_iff, Nat.add_right_cancel_iff, reduceCtorEq, ↓reduceIte, and_self, and_true, true_and, and_false, false_and, true_or, or_true, false_or, or_false, not_true_eq_false, not_false_eq_true]); (try simp only [w32_em]); (first | done | omega))) (wp_gi (by omega) (by omega) (by omega) (wp_gi (by omega) (by omega) (by omega) (wp_bnd (wp_bnd (wp_some ?_)))))
        dsimp only [Sum.elim_inl]
        rw [show ((p + 1 : Nat) : Int) + -1 = (p : Int) by omega, xp1]
        exact ⟨c, rfl⟩
      · refine wp_ite_f (by ((try simp (disch := omega) only [w32_and, w32_or, w32_shl, w32_shr, w32_xor, ixO, ixO0, ixO1, ixO2, ixO3, ixL0, ixL1, ixL2, ixC, ixB, ixI0, ixI00, ixI1, ixI2, ixI3, upd2_rd, upd2_nd, Nat.reduceEqDiff, Nat.reduceAdd, Nat.add_left_cancel_iff, Nat.add_right_cancel_iff, reduceCtorEq, ↓reduceIte, and_self, and_true, true_and, and_false, false_and, true_or, or_true, false_or, or_false, not_true_eq_false, not_false_eq_true]); (try simp only [w32_em]); (first | done | omega))) (wp_some ?_)
        exact ⟨c, rfl⟩
    · cases a with
      | inl y =>
        obtain ⟨c, rfl⟩ := ha
        have es : shq key i (p + 1) q = shq key i p (fun j => if j = p + 1 then q p else q j) := by simp only [shq, if_pos c]
        rw [es]
        dsimp only [Sum.elim_inl]
        refine wp_use (ih (fun j => if j = p + 1 then q p else q j) _ (HO_sh h) (fun j hj => by rw [upd2_ne (by decide)]; exact hk j hj) (fun j hj hne => ?_)) (fun r hr => ?_)
        · rw [upd2_at]
          by_cases a : j = p + 1
          · rw [if_pos a]; simp only [a, ↓reduceIte]
          · rw [if_neg a]; simp only [a, ↓reduceIte]; exact hq j hj a
        · obtain ⟨z, z1, z2, z4, z3⟩ := hr
          exact ⟨z, z1, fun a ha => by rw [z2 a ha, upd2_ne ha], fun j hj => by rw [z4 j hj, upd2_row (by omega)], z3⟩
      | inr r =>
        obtain ⟨c, rfl⟩ := ha
        have es : shq key i (p + 1) q = (p + 1, q) := by simp only [shq, if_neg c]
        rw [es]
        dsimp only [Sum.elim_inr]
        exact ⟨M, rfl, fun _ _ => rfl, fun _ _ => rfl, hq⟩
set_option maxHeartbeats 600000 in
theorem X9sort {key : Nat → Int} (hkr : ∀ j, 0 ≤ key j ∧ key j ≤ 9999) {n : Nat} (h8 : n ≤ 8) {M : Mem} (hk : ∀ j, j < n → M 135 j = key j) : wp (f_X9_sortByKeys (n : Int) M) (fun r => (∀ a, a ≠ 137 → r a = M a) ∧ ∀ j, j < n → r 137 j = ((srt key n j : Nat) : Int)) := by
  unfold f_X9_sortByKeys
  refine wp_lpb (wp_forI (fun i x => x.1 = (i : Int) ∧ (∀ a, a ≠ 137 → x.2 a = M a) ∧ ∀ j, j < i → x.2 137 j = ((srt key i j : Nat) : Int)) n ?_ ?_ (Nat.zero_le _) ⟨rfl, fun _ _ => rfl, fun j hj => by omega⟩)
  · rintro i ⟨y, m⟩ hi ⟨k1, k2, k3⟩
    simp only at k1 k2 k3
    subst k1
    have ho := HO_of (srt_pm (key := key) i)
    simp only [s_X9_sortByKeys_2, j_X9_sortByKeys_55_2]
    refine wp_ite_t (by ((try simp (disch := omega) only [w32_and, w32_or, w32_shl, w32_shr, w32_xor, ixO, ixO0, ixO1, ixO2, ixO3, ixL0, ixL1, ixL2, ixC, ixB, ixI0, ixI00, ixI1, ixI2, ixI3, upd2_rd, upd2_nd, Nat.reduceEqDiff, Nat.reduceAdd, Nat.add_left_cancel_iff, Nat.add_right_cancel_iff, reduceCtorEq, ↓reduceIte, and_self, and_true, true_and, and_false, false_and, true_or, or_true, false_or, or_false, not_true_eq_false, not_false_eq_true]); (try simp only [w32_em]); (first | done | omega))) (wp_lpb (wp_use (X9ins hkr hi h8 i _ m ho (fun j hj => by rw [k2 135 (by decide)]; exact hk j hj) (fun j hj hne => k3 j (by omega))) (fun r hr => ?_)))
    obtain ⟨z, rfl, z2, z3⟩ := hr
    have hp := (shq_ok (key := key) (x := i) i _ ho).1
    have xp : ix (((shq key i i (srt key i)).1 : Nat) : Int) = (shq key i i (srt key i)).1 := ix_nat (by omega)
    dsimp only [Sum.elim_inl, Sum.elim_inr]
    rw [xp]
    refine wp_gi (by omega) (by omega) (by omega) (wp_bnd (wp_bnd (wp_some ⟨by (try dsimp only); omega, fun a ha => ?_, fun j hj => ?_⟩)))
    · try dsimp only
      rw [upd2_ne ha, z2 a ha]
      exact k2 a ha
    · try dsimp only
      simp only [srt]
      rw [upd2_at]
      by_cases e : j = (shq key i i (srt key i)).1
      · rw [if_pos e, if_pos e]
      · rw [if_neg e, if_neg e]
        exact z3 j (by omega) e
  · rintro ⟨y, m⟩ ⟨k1, k2, k3⟩
    simp only at k1 k2 k3
    subst k1
    simp only [s_X9_sortByKeys_2]
    refine wp_ite_f (by ((try simp (disch := omega) only [w32_and, w32_or, w32_shl, w32_shr, w32_xor, ixO, ixO0, ixO1, ixO2, ixO3, ixL0, ixL1, ixL2, ixC, ixB, ixI0, ixI00, ixI1, ixI2, ixI3, upd2_rd, upd2_nd, Nat.reduceEqDiff, Nat.reduceAdd, Nat.add_left_cancel_iff, Nat.add_right_cancel_iff, reduceCtorEq, ↓reduceIte, and_self, and_true, true_and, and_false, false_and, true_or, or_true, false_or, or_false, not_true_eq_false, not_false_eq_true]); (try simp only [w32_em]); (first | done | omega))) (wp_some ?_)
    dsimp only [Sum.elim_inl, Sum.elim_inr]
    exact wp_some ⟨k2, k3⟩
set_option maxHeartbeats 600000 in
theorem X12sort {key : Nat → Int} (hkr : ∀ j, 0 ≤ key j ∧ key j ≤ 9999) {n : Nat} (h8 : n ≤ 8) {M : Mem} (h5 : M 140 5 = (n : Int)) (hk : ∀ j, j < n → M 152 j = key j) (h0 : ∀ j : Nat, j < n → M 149 j = (j : Int)) : wp (wh (fun x => s_X12_sortsBy_88 x.1 x.2) (1, M)) (fun r => ∃ u : Mem, r = .inl u ∧ (∀ a, a ≠ 149 → u a = M a) ∧ ∀ j, j < n → u 149 j = ((srt key n j : Nat) : Int)) := by
  have he : ∀ i : Nat, n ≤ i → i ≤ 8 → ∀ m : Mem, (∀ a, a ≠ 149 → m a = M a) → (∀ j, j < n → m 149 j = ((srt key n j : Nat) : Int)) → wp (s_X12_sortsBy_88 (i : Int) m) (Sum.elim (fun _ => False) (fun r => ∃ u : Mem, r = .inl u ∧ (∀ a, a ≠ 149 → u a = M a) ∧ ∀ j, j < n → u 149 j = ((srt key n j : Nat) : Int))) := fun i hi h8 m k2 k3 => by
    have m5 : m 140 5 = (n : Int) := by rw [k2 140 (by decide)]; exact h5
    simp only [s_X12_sortsBy_88]
    refine wp_ite_f (by ((try simp (disch := omega) only [w32_and, w32_or, w32_shl, w32_shr, w32_xor, ixO, ixO0, ixO1, ixO2, ixO3, ixL0, ixL1, ixL2, ixC, ixB, ixI0, ixI00, ixI1, ixI2, ixI3, upd2_rd, upd2_nd, Nat.reduceEqDiff, Nat.reduceAdd, Nat.add_left_cancel_iff, Nat.add_right_cancel_iff, reduceCtorEq, ↓reduceIte, and_self, and_true, true_and, and_false, false_and, true_or, or_true, false_or, or_false, not_true_eq_false, not_false_eq_true]); (try simp only [w32_em]); (first | done | omega))) (wp_some ?_)
    exact ⟨m, rfl, k2, k3⟩
  by_cases n0 : n = 0
  · refine wp_unroll (wp_use (he 1 (by omega) (by omega) M (fun _ _ => rfl) (fun j hj => by omega)) (fun a ha => ?_))
    cases a with
    | inl y => exact ha.elim
    | inr r => exact ha
  · refine wp_forI (fun i x => x.1 = (i : Int) ∧ (∀ a, a ≠ 149 → x.2 a = M a) ∧ (∀ j, j < i → x.2 149 j = ((srt key i j : Nat) : Int)) ∧ ∀ j : Nat, i ≤ j → j < n → x.2 149 j = (j : Int)) n ?_ ?_ (show 1 ≤ n by omega) ⟨rfl, fun _ _ => rfl, fun j hj => ?_, fun j _ hj => h0 j hj⟩
    · rintro i ⟨y, m⟩ hi ⟨k1, k2, k3, k4⟩
      simp only at k1 k2 k3 k4
      subst k1
      have ho := HO_of (srt_pm (key := key) i)
      have xi : ix (i : Int) = i := ix_nat (by omega)
      have m5 : m 140 5 = (n : Int) := by rw [k2 140 (by decide)]; exact h5
      have mi : m 149 i = (i : Int) := k4 i (Nat.le_refl _) hi
      simp only [s_X12_sortsBy_88, j_X12_sortsBy_158_88, xi, mi]
      refine wp_ite_t (by ((try simp (disch := omega) only [w32_and, w32_or, w32_shl, w32_shr, w32_xor, ixO, ixO0, ixO1, ixO2, ixO3, ixL0, ixL1, ixL2, ixC, ixB, ixI0, ixI00, ixI1, ixI2, ixI3, upd2_rd, upd2_nd, Nat.reduceEqDiff, Nat.reduceAdd, Nat.add_left_cancel_iff, Nat.add_right_cancel_iff, reduceCtorEq, ↓reduceIte, and_self, and_true, true_and, and_false, false_and, true_or, or_true, false_or, or_false, not_true_eq_false, not_false_eq_true]); (try simp only [w32_em]); (first | done | omega))) (wp_gi (by omega) (by omega) (by omega) (wp_bnd (wp_lpb (wp_use (X12ins hkr hi h8 i _ m ho (fun j hj => by rw [k2 152 (by decide)]; exact hk j hj) (fun j hj hne => k3 j (by omega))) (fun r hr => ?_)))))
      obtain ⟨z, rfl, z2, z4, z3⟩ := hr
      have hp := (shq_ok (key := key) (x := i) i _ ho).1
      have xp : ix (((shq key i i (srt key i)).1 : Nat) : Int) = (shq key i i (srt key i)).1 := ix_nat (by omega)
      dsimp only [Sum.elim_inl, Sum.elim_inr]
      rw [xp]
      refine wp_gi (by omega) (by omega) (by omega) (wp_bnd (wp_bnd (wp_some ⟨by (try dsimp only); omega, fun a ha => ?_, fun j hj => ?_, fun j hj hn => ?_⟩)))
      · try dsimp only
        rw [upd2_ne ha, z2 a ha]
        exact k2 a ha
      · try dsimp only
        simp only [srt]
        rw [upd2_at]
        by_cases e : j = (shq key i i (srt key i)).1
        · rw [if_pos e, if_pos e]
        · rw [if_neg e, if_neg e]
          exact z3 j (by omega) e
      · try dsimp only
        rw [upd2_row (by omega), z4 j (by omega)]
        exact k4 j (by omega) hn
    · rintro ⟨y, m⟩ ⟨k1, k2, k3, k4⟩
      simp only at k1 k2 k3 k4
      subst k1
      exact he n (Nat.le_refl _) h8 m k2 k3
    · have : j = 0 := by omega
      subst this
      show M 149 0 = _
      rw [h0 0 (by omega)]
      simp only [srt, shq, ↓reduceIte]
/-- the batches in the order q -/
def opPerm (N : Nat → Int) (q : Nat → Nat) : Nat → Int := fun k => if 461 ≤ k ∧ k < 461 + (N 5).toNat then N (461 + q (k - 461)) else N k
set_option maxHeartbeats 600000 in
theorem pm_k {N : Nat → Int} {q : Nat → Nat} {k : Nat} (hk : k < 461) : opPerm N q k = N k := by
  unfold opPerm
  rw [if_neg (by omega)]
set_option maxHeartbeats 600000 in
theorem pm_b {N : Nat → Int} {q : Nat → Nat} {j : Nat} (hj : j < (N 5).toNat) : opPerm N q (461 + j) = N (461 + q j) := by
  unfold opPerm
  rw [if_pos (by omega), show 461 + j - 461 = j by omega]
set_option maxHeartbeats 600000 in
theorem WF_perm {N : Nat → Int} (hW : WF N) {q : Nat → Nat} (hq : PMq (N 5).toNat q) : WF (opPerm N q) := by
  have q5 := n5 hW
  have q4 := n4 hW
  have p5 : opPerm N q 5 = N 5 := pm_k (by omega)
  refine WF_st hW (fun k _ h2 _ => pm_k h2) (fun o ho => ?_) ⟨by rw [p5]; omega, by rw [p5]; omega⟩ (fun j hj => ?_) (fun o ho hs => ?_)
  · rw [pm_k (by omega)]
    have := hW.2.2.2.2.1 o ho
    unfold WFo at this
    omega
  · rw [p5] at hj
    have hj' : j < (N 5).toNat := by omega
    have w := hW.2.2.2.2.2.1 (q j) (by have := hq.1 j hj'; omega)
    unfold WFb at w ⊢
    rw [pm_b hj', pm_k (show 4 < 461 by omega), p5]
    refine ⟨w.1, w.2.1, fun o ho => ?_, fun i hi hne o ho => ?_⟩
    · have c := w.2.2.1 o ho
      rw [pm_k (by omega)]
      exact c
    · have hi' : i < (N 5).toNat := by omega
      rw [pm_b hi']
      exact w.2.2.2 (q i) (by have := hq.1 i hi'; omega) (fun e => hne (hq.2.1 i j hi' hj' e)) o ho
  · rw [pm_k (by omega)] at ho
    rw [pm_k (by omega)] at hs
    obtain ⟨b, hb, h⟩ := hW.2.2.2.2.2.2 o ho hs
    obtain ⟨j, j1, j2⟩ := hq.2.2 b (by omega)
    exact ⟨j, by rw [p5]; omega, by rw [pm_b j1, j2]; exact h⟩
set_option maxHeartbeats 600000 in
theorem HR_perm {M M' : Mem} {N : Nat → Int} (hR : HR 1 M N) (hW : WF N) {q : Nat → Nat} (e : ∀ a, a ≠ 18 → 1 < a → a < 19 → M' a = M a) (e18 : ∀ j, j < (N 5).toNat → M' 18 j = N (461 + q j)) : HR 1 M' (opPerm N q) := by
  have q5 := n5 hW
  refine HR_mkw hR (WF_w hW) (fun d a b => e _ (by omega) (by omega) (by omega)) (fun k hk => pm_k (by omega)) (Or.inl ⟨fun d a b => e _ (by omega) (by omega) (by omega), fun k hk => pm_k (by omega)⟩) (Or.inl ⟨fun d a b => e _ (by omega) (by omega) (by omega), fun k hk => pm_k (by omega)⟩) (Or.inr ⟨?_, fun j hj => ?_⟩)
  · rw [pm_k (by omega), e (1 + 16) (by omega) (by omega) (by omega)]
    exact (HR_E hR).1
  · rw [pm_k (by omega)] at hj
    have hj' : j < (N 5).toNat := by omega
    show M' 18 j = _
    rw [e18 j hj', pm_b hj']
set_option maxHeartbeats 600000 in
theorem X9apply {M : Mem} {N : Nat → Int} (hR : HR 1 M N) (hW : WF N) {q : Nat → Nat} (hq : PMq (N 5).toNat q) (h137 : ∀ j, j < (N 5).toNat → M 137 j = ((q j : Nat) : Int)) : wp (f_X9_applyTo 17 M) (fun r => (∀ a, a ≠ 18 → a ≠ 138 → r a = M a) ∧ HR 1 r (opPerm N q)) := by
  have q5 := n5 hW
  have hE := HR_E hR
  have h5 : M 17 0 = N 5 := hE.1
  unfold f_X9_applyTo
  refine wp_bnd ?_
  simp only [Nat.reduceAdd]
  have c1 : ∀ a, a ≠ 138 → cpy2 M 18 138 8 a = M a := fun a ha => by unfold cpy2; rw [if_neg ha]
  have c2 : ∀ j, j < 8 → cpy2 M 18 138 8 138 j = M 18 j := fun j hj => by
    unfold cpy2
    rw [if_pos rfl]
    try dsimp only
    rw [if_pos hj]
  refine wp_lpb (wp_forI (fun i x => x.1 = (i : Int) ∧ (∀ a, a ≠ 18 → x.2 a = cpy2 M 18 138 8 a) ∧ ∀ j, j < i → x.2 18 j = N (461 + q j)) (N 5).toNat ?_ ?_ (Nat.zero_le _) ⟨rfl, fun _ _ => rfl, fun j hj => by omega⟩)
  · rintro i ⟨y, m⟩ hi ⟨k1, k2, k3⟩
    simp only at k1 k2 k3
    subst k1
    have qi := hq.1 i hi
    have xi : ix (i : Int) = i := ix_nat (by omega)
    have xq : ix ((q i : Nat) : Int) = q i := ix_nat (by omega)
    have m5 : m 17 0 = N 5 := by rw [k2 17 (by decide), c1 17 (by decide)]; exact h5
    have m7 : m 137 i = ((q i : Nat) : Int) := by rw [k2 137 (by decide), c1 137 (by decide)]; exact h137 i hi
    have m8 : m 138 (q i) = N (461 + q i) := by rw [k2 138 (by decide), c2 _ (by omega)]; exact hE.2 (q i) (by omega)
    simp only [s_X9_applyTo_17, Nat.reduceAdd, xi, m7, xq, m8]
    refine wp_ite_t (by ((try simp (disch := omega) only [w32_and, w32_or, w32_shl, w32_shr, w32_xor, ixO, ixO0, ixO1, ixO2, ixO3, ixL0, ixL1, ixL2, ixC, ixB, ixI0, ixI00, ixI1, ixI2, ixI3, upd2_rd, upd2_nd, Nat.reduceEqDiff, Nat.reduceAdd, Nat.add_left_cancel_iff, Nat.add_right_cancel_iff, reduceCtorEq, ↓reduceIte, and_self, and_true, true_and, and_false, false_and, true_or, or_true, false_or, or_false, not_true_eq_false, not_false_eq_true]); (try simp only [w32_em]); (first | done | omega))) (wp_gi (by omega) (by omega) (by omega) (wp_gi (by omega) (by omega) (by omega) (wp_gi (by omega) (by omega) (by omega) (wp_bnd (wp_bnd (wp_some ⟨by (try dsimp only); omega, fun a ha => ?_, fun j hj => ?_⟩))))))
    · try dsimp only
      rw [upd2_ne ha]
      exact k2 a ha
    · try dsimp only
      rw [upd2_at]
      by_cases e : j = i
      · rw [if_pos e, e]
      · rw [if_neg e]
        exact k3 j (by omega)
  · rintro ⟨y, m⟩ ⟨k1, k2, k3⟩
    simp only at k1 k2 k3
    subst k1
    have m5 : m 17 0 = N 5 := by rw [k2 17 (by decide), c1 17 (by decide)]; exact h5
    simp only [s_X9_applyTo_17]
    refine wp_ite_f (by ((try simp (disch := omega) only [w32_and, w32_or, w32_shl, w32_shr, w32_xor, ixO, ixO0, ixO1, ixO2, ixO3, ixL0, ixL1, ixL2, ixC, ixB, ixI0, ixI00, ixI1, ixI2, ixI3, upd2_rd, upd2_nd, Nat.reduceEqDiff, Nat.reduceAdd, Nat.add_left_cancel_iff, Nat.add_right_cancel_iff, reduceCtorEq, ↓reduceIte, and_self, and_true, true_and, and_false, false_and, true_or, or_true, false_or, or_false, not_true_eq_false, not_false_eq_true]); (try simp only [w32_em]); (first | done | omega))) (wp_some ?_)
    dsimp only [Sum.elim_inl, Sum.elim_inr]
    exact wp_some ⟨fun a a1 a2 => by rw [k2 a a1, c1 a a2], HR_perm hR hW (fun a a1 a2 a3 => by rw [k2 a a1, c1 a (by omega)]) k3⟩
set_option maxHeartbeats 600000 in
theorem X12apply {M : Mem} {N : Nat → Int} (hN : M 140 = N) (hW : WF N) {q : Nat → Nat} (hq : PMq (N 5).toNat q) (h149 : ∀ j, j < (N 5).toNat → M 149 j = ((q j : Nat) : Int)) : wp (wh (fun x => s_X12_sortBatches_70 x.1 x.2) (0, M)) (fun r => ∃ u : Mem, r = .inl u ∧ (∀ a, a ≠ 154 → u a = M a) ∧ wp (wh (fun x => s_X12_sortBatches_109 x.1 x.2) (0, u)) (fun s => ∃ w : Mem, s = .inl w ∧ w 140 = opPerm N q ∧ ∀ a, a ≠ 154 → a ≠ 140 → w a = M a)) := by
  have q5 := n5 hW
  have h5 : M 140 5 = N 5 := by rw [hN]
  refine wp_forI (fun i x => x.1 = (i : Int) ∧ (∀ a, a ≠ 154 → x.2 a = M a) ∧ ∀ j, j < i → x.2 154 j = N (461 + q j)) (N 5).toNat ?_ ?_ (Nat.zero_le _) ⟨rfl, fun _ _ => rfl, fun j hj => by omega⟩
  · rintro i ⟨y, m⟩ hi ⟨k1, k2, k3⟩
    simp only at k1 k2 k3
    subst k1
    have qi := hq.1 i hi
    have xi : ix (i : Int) = i := ix_nat (by omega)
    have m5 : m 140 5 = N 5 := by rw [k2 140 (by decide)]; exact h5
    have m9 : m 149 i = ((q i : Nat) : Int) := by rw [k2 149 (by decide)]; exact h149 i hi
    have xq : ix (461 + ((q i : Nat) : Int)) = 461 + q i := ixB (by omega)
    have m0 : m 140 (461 + q i) = N (461 + q i) := by rw [k2 140 (by decide), hN]
    simp only [s_X12_sortBatches_70, xi, m9, xq, m0]
    refine wp_ite_t (by ((try simp (disch := omega) only [w32_and, w32_or, w32_shl, w32_shr, w32_xor, ixO, ixO0, ixO1, ixO2, ixO3, ixL0, ixL1, ixL2, ixC, ixB, ixI0, ixI00, ixI1, ixI2, ixI3, upd2_rd, upd2_nd, Nat.reduceEqDiff, Nat.reduceAdd, Nat.add_left_cancel_iff, Nat.add_right_cancel_iff, reduceCtorEq, ↓reduceIte, and_self, and_true, true_and, and_false, false_and, true_or, or_true, false_or, or_false, not_true_eq_false, not_false_eq_true]); (try simp only [w32_em]); (first | done | omega))) (wp_gi (by omega) (by omega) (by omega) (wp_gi (by omega) (by omega) (by omega) (wp_gi (by omega) (by omega) (by omega) (wp_bnd (wp_bnd (wp_some ⟨by (try dsimp only); omega, fun a ha => ?_, fun j hj => ?_⟩))))))
    · try dsimp only
      rw [upd2_ne ha]
      exact k2 a ha
    · try dsimp only
      rw [upd2_at]
      by_cases e : j = i
      · rw [if_pos e, e]
      · rw [if_neg e]
        exact k3 j (by omega)
  · rintro ⟨y, u⟩ ⟨k1, k2, k3⟩
    simp only at k1 k2 k3
    subst k1
    have m5 : u 140 5 = N 5 := by rw [k2 140 (by decide)]; exact h5
    simp only [s_X12_sortBatches_70]
    refine wp_ite_f (by ((try simp (disch := omega) only [w32_and, w32_or, w32_shl, w32_shr, w32_xor, ixO, ixO0, ixO1, ixO2, ixO3, ixL0, ixL1, ixL2, ixC, ixB, ixI0, ixI00, ixI1, ixI2, ixI3, upd2_rd, upd2_nd, Nat.reduceEqDiff, Nat.reduceAdd, Nat.add_left_cancel_iff, Nat.add_right_cancel_iff, reduceCtorEq, ↓reduceIte, and_self, and_true, true_and, and_false, false_and, true_or, or_true, false_or, or_false, not_true_eq_false, not_false_eq_true]); (try simp only [w32_em]); (first | done | omega))) (wp_some ?_)
    dsimp only [Sum.elim_inl, Sum.elim_inr]
    refine ⟨u, rfl, k2, wp_forI (fun i x => x.1 = (i : Int) ∧ (∀ a, a ≠ 140 → x.2 a = u a) ∧ ∀ k, x.2 140 k = if 461 ≤ k ∧ k < 461 + i then N (461 + q (k - 461)) else N k) (N 5).toNat ?_ ?_ (Nat.zero_le _) ⟨rfl, fun _ _ => rfl, fun k => ?_⟩⟩
    · rintro i ⟨y, m⟩ hi ⟨c1, c2, c3⟩
      simp only at c1 c2 c3
      subst c1
      have xi : ix (i : Int) = i := ix_nat (by omega)
      have xc : ix (461 + (i : Int)) = 461 + i := ixB (by omega)
      have n5' : m 140 5 = N 5 := by rw [c3, if_neg (by omega)]
      have n4' : m 154 i = N (461 + q i) := by rw [c2 154 (by decide)]; exact k3 i hi
      simp only [s_X12_sortBatches_109, xi, xc, n4']
      refine wp_ite_t (by ((try simp (disch := omega) only [w32_and, w32_or, w32_shl, w32_shr, w32_xor, ixO, ixO0, ixO1, ixO2, ixO3, ixL0, ixL1, ixL2, ixC, ixB, ixI0, ixI00, ixI1, ixI2, ixI3, upd2_rd, upd2_nd, Nat.reduceEqDiff, Nat.reduceAdd, Nat.add_left_cancel_iff, Nat.add_right_cancel_iff, reduceCtorEq, ↓reduceIte, and_self, and_true, true_and, and_false, false_and, true_or, or_true, false_or, or_false, not_true_eq_false, not_false_eq_true]); (try simp only [w32_em]); (first | done | omega))) (wp_gi (by omega) (by omega) (by omega) (wp_gi (by omega) (by omega) (by omega) (wp_bnd (wp_bnd (wp_some ⟨by (try dsimp only); omega, fun a ha => ?_, fun k => ?_⟩)))))
      · try dsimp only
        rw [upd2_ne ha]
        exact c2 a ha
      · try dsimp only
        rw [upd2_at, c3]
        by_cases e : k = 461 + i
        · rw [if_pos e, if_pos (by omega), e, show 461 + i - 461 = i by omega]
        · rw [if_neg e]
          by_cases e2 : 461 ≤ k ∧ k < 461 + i
          · rw [if_pos e2, if_pos (by omega)]
          · rw [if_neg e2, if_neg (by omega)]
    · rintro ⟨y, m⟩ ⟨c1, c2, c3⟩
      simp only at c1 c2 c3
      subst c1
      have n5' : m 140 5 = N 5 := by rw [c3, if_neg (by omega)]
      simp only [s_X12_sortBatches_109]
      refine wp_ite_f (by ((try simp (disch := omega) only [w32_and, w32_or, w32_shl, w32_shr, w32_xor, ixO, ixO0, ixO1, ixO2, ixO3, ixL0, ixL1, ixL2, ixC, ixB, ixI0, ixI00, ixI1, ixI2, ixI3, upd2_rd, upd2_nd, Nat.reduceEqDiff, Nat.reduceAdd, Nat.add_left_cancel_iff, Nat.add_right_cancel_iff, reduceCtorEq, ↓reduceIte, and_self, and_true, true_and, and_false, false_and, true_or, or_true, false_or, or_false, not_true_eq_false, not_false_eq_true]); (try simp only [w32_em]); (first | done | omega))) (wp_some ?_)
      dsimp only [Sum.elim_inl, Sum.elim_inr]
      exact ⟨m, rfl, funext c3, fun a a1 a2 => by rw [c2 a a2, k2 a a1]⟩
    · try dsimp only
      rw [if_neg (by omega), k2 140 (by decide), hN]
