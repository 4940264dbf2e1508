-- ===== the reader reads a whole text =====
def PCa (M0 : Mem) (t : Nat → Int) (n : Nat) (q : Er ⊕ (Nat → Int)) (r : Int × Mem) : Prop := match q with
  | .inl e => r.1 = 0 ∧ CEr M0 e r.2
  | .inr N => r.1 = 1 ∧ CBs M0 t n N r.2
set_option maxHeartbeats 600000 in
theorem sq34 {a1 : Nat} {x2 : Int} {M : Mem} : s_X10_readInto_34 a1 x2 M = (if 600 < w32 x2 then some (.inr (.inl M)) else cl1 (f_X10_nextToken M) (fun M_9 => (if w32 (M_9 38 4) = 0 then some (.inr (.inr (1, M_9))) else cl2 (f_X10_readStatement a1 M_9) (fun r_10 M_11 => (if w32 r_10 = 0 then some (.inr (.inr (0, M_11))) else bnd (x2 + 1) (fun x2_12 => some (.inl (x2_12, M_11)))))))) := rfl
set_option maxHeartbeats 600000 in
theorem C_loop {M0 : Mem} {t : Nat → Int} {n : Nat} : ∀ (f : Nat) (N : Nat → Int) (p x : Nat) (m : Mem), CKp M0 t n N p m → n + 2 ≤ p + f → x ≤ p → wp (wh (fun y => s_X10_readInto_34 19 y.1 y.2) ((x : Int), m)) (fun r => ∃ y : Int × Mem, r = .inr y ∧ PCa M0 t n (rAll t n f N p) y) := by
  intro f
  induction f with
  | zero =>
    intro N p x m h h1 h2
    have := h.2.2
    omega
  | succ f ih =>
    intro N p x m h h1 h2
    have h600 := h.1.1.2.1
    have hp := h.2.2
    have tr := tk_rng (t := t) hp
    refine wp_unroll ?_
    show wp (s_X10_readInto_34 19 (x : Int) m) _
    rw [sq34]
    refine wp_ite_f (by ((try simp (disch := omega) only [w32_and, w32_or, w32_shl, w32_shr, w32_xor, ixO, ixO0, ixO1, ixO2, ixO3, ixL0, ixL1, ixL2, ixC, ixB, ixI0, ixI00, ixI1, ixI2, ixI3, upd2_rd, upd2_nd, Nat.reduceEqDiff, Nat.reduceAdd, Nat.add_left_cancel_iff, Nat.add_right_cancel_iff, reduceCtorEq, ↓reduceIte, and_self, and_true, true_and, and_false, false_and, true_or, or_true, false_or, or_false, not_true_eq_false, not_false_eq_true]); (try simp only [w32_em]); (first | done | omega))) (wp_cl1 (wp_use (C_next h) (fun z hz => ?_)))
    obtain ⟨zB, zC⟩ := hz
    rw [zC.1]
    simp only [rAll]
    by_cases k : tK t n p = 0
    · rw [if_pos k]
      exact wp_ite_t (by ((try simp (disch := omega) only [w32_and, w32_or, w32_shl, w32_shr, w32_xor, ixO, ixO0, ixO1, ixO2, ixO3, ixL0, ixL1, ixL2, ixC, ixB, ixI0, ixI00, ixI1, ixI2, ixI3, upd2_rd, upd2_nd, Nat.reduceEqDiff, Nat.reduceAdd, Nat.add_left_cancel_iff, Nat.add_right_cancel_iff, reduceCtorEq, ↓reduceIte, and_self, and_true, true_and, and_false, false_and, true_or, or_true, false_or, or_false, not_true_eq_false, not_false_eq_true]); (try simp only [w32_em]); (first | done | omega))) (wp_some ⟨_, rfl, rfl, zB⟩)
    · rw [if_neg k]
      refine wp_ite_f (by ((try simp (disch := omega) only [w32_and, w32_or, w32_shl, w32_shr, w32_xor, ixO, ixO0, ixO1, ixO2, ixO3, ixL0, ixL1, ixL2, ixC, ixB, ixI0, ixI00, ixI1, ixI2, ixI3, upd2_rd, upd2_nd, Nat.reduceEqDiff, Nat.reduceAdd, Nat.add_left_cancel_iff, Nat.add_right_cancel_iff, reduceCtorEq, ↓reduceIte, and_self, and_true, true_and, and_false, false_and, true_or, or_true, false_or, or_false, not_true_eq_false, not_false_eq_true]); (try simp only [w32_em]); (first | done | omega))) (wp_cl2 (wp_use (C_stm zB hp zC k) (fun r hr => ?_)))
      cases e : rStm t n N p with
      | inl er =>
        rw [e] at hr
        exact wp_ite_t (by rw [hr.1]; decide) (wp_some ⟨_, rfl, rfl, hr.2⟩)
      | inr y =>
        rw [e] at hr
        obtain ⟨r1, r2, r3⟩ := hr
        rw [bd_r]
        refine wp_ite_f (by rw [r1]; decide) (wp_bnd (wp_some ?_))
        dsimp only [Sum.elim_inl]
        rw [show (x : Int) + 1 = ((x + 1 : Nat) : Int) by omega]
        exact ih y.2 y.1 (x + 1) r.2 r2 (by omega) (by omega)
set_option maxHeartbeats 600000 in
theorem HR_row0 {m : Mem} {N : Nat → Int} (h20 : m 20 0 = 4 ∧ m 20 1 = 10 ∧ m 20 2 = 2 ∧ m 20 3 = 1 ∧ m 20 5 = 0 ∧ m 20 6 = 0 ∧ m 20 7 = 1) (h21 : m 21 0 = 0 ∧ m 21 1 = -1 ∧ m 21 2 = -1 ∧ m 22 0 = 1 ∧ m 22 1 = 1) (h23 : m 23 0 = 0) (h28 : m 28 0 = 0 ∧ m 28 1 = 0) (h35 : m 35 0 = 0) : HR 19 m (row0 N) := by
  have z : zns (row0 N) = 1 := by unfold zns row0; simp
  have r3 : row0 N 3 = 0 := by unfold row0; simp
  have r4 : row0 N 4 = 0 := by unfold row0; simp
  have r5 : row0 N 5 = 0 := by unfold row0; simp
  refine ⟨?_, ?_, ⟨?_, fun i hi => ?_⟩, ⟨?_, ?_, ⟨?_, fun o _ => ?_⟩, fun o ho => ?_⟩, ⟨?_, fun b hb => ?_⟩⟩
  · simp only [Nat.reduceAdd]
    rw [z]
    unfold row0
    simpa using h20
  · simp only [Nat.reduceAdd]
    unfold row0
    simpa using h21
  · simp only [Nat.reduceAdd]; rw [h23, r3]
  · rw [r3] at hi; omega
  · simp only [Nat.reduceAdd]; rw [h28.1, r4]
  · simp only [Nat.reduceAdd]; rw [h28.2]; omega
  · simp only [Nat.reduceAdd]; rw [h28.2]; omega
  · simp only [Nat.reduceAdd]; rw [h28.2]; exact bit_zero o
  · rw [r4] at ho; omega
  · simp only [Nat.reduceAdd]; rw [h35, r5]
  · rw [r5] at hb; omega
set_option maxHeartbeats 600000 in
theorem C_into {M : Mem} {t : Nat → Int} {n : Nat} (hT : TXt t n M) : wp (f_X10_readInto 19 M) (fun r => PCa (upd2 M 38 0 (M 38 0)) t n (rTxt t n (M 140)) r) := by
  have f0 : upd2 M 38 0 (M 38 0) = M := by
    funext a j
    unfold upd2
    by_cases e : a = 38
    · rw [if_pos e]
      try dsimp only
      by_cases e2 : j = 0
      · rw [if_pos e2, e, e2]
      · rw [if_neg e2]
    · rw [if_neg e]
  rw [f0]
  unfold f_X10_readInto f_X1_reset f_X3_reset f_X3_build f_X3_divide j_X3_divide_20
  refine wp_bnd (wp_bnd (wp_bnd (wp_cl1 (wp_cl1 (wp_cl1 (wp_bnd (wp_bnd (wp_bnd (wp_cl1 (wp_ite_t (by decide) (wp_bnd (wp_bnd (wp_bnd (wp_bnd (wp_some (wp_some (wp_bnd (wp_bnd (wp_bnd (wp_bnd (wp_bnd (wp_some (wp_bnd (wp_bnd (wp_bnd (wp_bnd (wp_some ?_)))))))))))))))))))))))))))
  simp only [Nat.reduceAdd]
  refine wp_cl2 (wp_use (C_hall (M0 := M) (t := t) (n := n) (p := 0) (N := row0 (M 140)) ?_ ?_) (fun r hr => ?_))
  · refine ⟨⟨⟨?_, hT.2.1, fun i hi => ?_⟩, ?_, ?_, HR_row0 ?_ ?_ ?_ ?_ ?_, WF_row0, fun a a1 a2 => ?_⟩, ?_, Nat.zero_le _⟩
    · simp only [upd2_rd, upd2_nd, Nat.reduceEqDiff, Nat.reduceAdd, Nat.add_left_cancel_iff, Nat.add_right_cancel_iff, reduceCtorEq, ↓reduceIte, and_self, and_true, true_and, and_false, false_and, true_or, or_true, false_or, or_false, not_true_eq_false, not_false_eq_true]; exact hT.1
    · simp (disch := omega) only [upd2_ne]; exact hT.2.2 i hi
    · simp only [upd2_rd, upd2_nd, Nat.reduceEqDiff, Nat.reduceAdd, Nat.add_left_cancel_iff, Nat.add_right_cancel_iff, reduceCtorEq, ↓reduceIte, and_self, and_true, true_and, and_false, false_and, true_or, or_true, false_or, or_false, not_true_eq_false, not_false_eq_true]
    · simp only [upd2_rd, upd2_nd, Nat.reduceEqDiff, Nat.reduceAdd, Nat.add_left_cancel_iff, Nat.add_right_cancel_iff, reduceCtorEq, ↓reduceIte, and_self, and_true, true_and, and_false, false_and, true_or, or_true, false_or, or_false, not_true_eq_false, not_false_eq_true]
    · simp only [upd2_rd, upd2_nd, Nat.reduceEqDiff, Nat.reduceAdd, Nat.add_left_cancel_iff, Nat.add_right_cancel_iff, reduceCtorEq, ↓reduceIte, and_self, and_true, true_and, and_false, false_and, true_or, or_true, false_or, or_false, not_true_eq_false, not_false_eq_true]
    · simp only [upd2_rd, upd2_nd, Nat.reduceEqDiff, Nat.reduceAdd, Nat.add_left_cancel_iff, Nat.add_right_cancel_iff, reduceCtorEq, ↓reduceIte, and_self, and_true, true_and, and_false, false_and, true_or, or_true, false_or, or_false, not_true_eq_false, not_false_eq_true]
    · simp only [upd2_rd, upd2_nd, Nat.reduceEqDiff, Nat.reduceAdd, Nat.add_left_cancel_iff, Nat.add_right_cancel_iff, reduceCtorEq, ↓reduceIte, and_self, and_true, true_and, and_false, false_and, true_or, or_true, false_or, or_false, not_true_eq_false, not_false_eq_true]
    · simp only [upd2_rd, upd2_nd, Nat.reduceEqDiff, Nat.reduceAdd, Nat.add_left_cancel_iff, Nat.add_right_cancel_iff, reduceCtorEq, ↓reduceIte, and_self, and_true, true_and, and_false, false_and, true_or, or_true, false_or, or_false, not_true_eq_false, not_false_eq_true]
    · simp only [upd2_rd, upd2_nd, Nat.reduceEqDiff, Nat.reduceAdd, Nat.add_left_cancel_iff, Nat.add_right_cancel_iff, reduceCtorEq, ↓reduceIte, and_self, and_true, true_and, and_false, false_and, true_or, or_true, false_or, or_false, not_true_eq_false, not_false_eq_true]
    · simp (disch := omega) only [upd2_ne]
    · simp only [upd2_rd, upd2_nd, Nat.reduceEqDiff, Nat.reduceAdd, Nat.add_left_cancel_iff, Nat.add_right_cancel_iff, reduceCtorEq, ↓reduceIte, and_self, and_true, true_and, and_false, false_and, true_or, or_true, false_or, or_false, not_true_eq_false, not_false_eq_true]; rfl
  · unfold row0; simp
  · unfold rTxt
    cases e : rHal t n (row0 (M 140)) 0 with
    | inl er =>
      rw [e] at hr
      exact wp_ite_t (by rw [hr.1]; decide) (wp_some ⟨rfl, hr.2⟩)
    | inr y =>
      rw [e] at hr
      obtain ⟨r1, r2, r3⟩ := hr
      rw [bd_r]
      refine wp_ite_f (by rw [r1]; decide) (wp_lpb (wp_use (C_loop (n + 2) y.2 y.1 0 r.2 r2 (by omega) (Nat.zero_le _)) (fun s hs => ?_)))
      obtain ⟨w, rfl, hw⟩ := hs
      exact wp_some hw
