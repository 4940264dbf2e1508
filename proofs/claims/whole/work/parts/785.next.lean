-- ===== the reference goes from sequence to sequence =====
set_option maxHeartbeats 600000 in
theorem X12fI {M : Mem} {a : Nat → Nat} {n : Nat} (hn : n ≤ 8) (ha : ∀ j, j < n → a j < 8) (h149 : ∀ j, j < n → M 149 j = ((a j : Nat) : Int)) {x1 : Int} : ∀ m : Nat, m < n → wp (wh (fun x => s_X12_goesOn_11 x1 M x) ((m : Int) - 1)) (fun r => ∃ z : Int, r = .inl z ∧ ((fI a m = none ∧ z = -1) ∨ ∃ i : Nat, fI a m = some i ∧ z = (i : Int) ∧ i < m)) := by
  intro m
  induction m with
  | zero =>
    intro _
    refine wp_unroll ?_
    show wp (s_X12_goesOn_11 x1 M (((0 : Nat) : Int) - 1)) _
    unfold s_X12_goesOn_11
    refine wp_ite_t (by decide) (wp_some ?_)
    exact ⟨_, rfl, Or.inl ⟨rfl, rfl⟩⟩
  | succ m ih =>
    intro hm
    have e1 : ((m + 1 : Nat) : Int) - 1 = (m : Int) := by omega
    have xm : ix (m : Int) = m := ix_nat (by omega)
    have xm1 : ix ((m : Int) + 1) = m + 1 := by rw [ix_of (by omega) (by omega)]; omega
    have v1 := h149 m (by omega)
    have v2 := h149 (m + 1) hm
    have b1 := ha m (by omega)
    have b2 := ha (m + 1) hm
    rw [e1]
    refine wp_unroll (wp_use (P := Sum.elim (fun y => a (m + 1) < a m ∧ y = (m : Int) - 1) (fun r => ¬ a (m + 1) < a m ∧ r = .inl (m : Int))) ?_ (fun b hb => ?_))
    · show wp (s_X12_goesOn_11 x1 M (m : Int)) _
      simp only [s_X12_goesOn_11, xm, xm1, v1, v2]
      refine wp_ite_f (by ((try simp (disch := omega) only [w32_and, w32_or, w32_shl, w32_shr, w32_xor, ixO, ixO0, ixO1, ixO2, ixO3, ixL0, ixL1, ixL2, ixC, ixB, ixI0, ixI00, ixI1, ixI2, ixI3, upd2_rd, upd2_nd, Nat.reduceEqDiff, Nat.reduceAdd, Nat.add_left_cancel_iff, Nat.add_right_cancel_iff, reduceCtorEq, ↓reduceIte, and_self, and_true, true_and, and_false, false_and, true_or, or_true, false_or, or_false, not_true_eq_false, not_false_eq_true]); (try simp only [w32_em]); (first | done | omega))) (wp_gi (by omega) (by omega) (by omega) (wp_gi (by omega) (by omega) (by omega) ?_))
      by_cases c : a (m + 1) < a m
      · refine wp_ite_t (by ((try simp (disch := omega) only [w32_and, w32_or, w32_shl, w32_shr, w32_xor, ixO, ixO0, ixO1, ixO2, ixO3, ixL0, ixL1, ixL2, ixC, ixB, ixI0, ixI00, ixI1, ixI2, ixI3, upd2_rd, upd2_nd, Nat.reduceEqDiff, Nat.reduceAdd, Nat.add_left_cancel_iff, Nat.add_right_cancel_iff, reduceCtorEq, ↓reduceIte, and_self, and_true, true_and, and_false, false_and, true_or, or_true, false_or, or_false, not_true_eq_false, not_false_eq_true]); (try simp only [w32_em]); (first | done | omega))) (wp_bnd (wp_some ?_))
        exact ⟨c, rfl⟩
      · refine wp_ite_f (by ((try simp (disch := omega) only [w32_and, w32_or, w32_shl, w32_shr, w32_xor, ixO, ixO0, ixO1, ixO2, ixO3, ixL0, ixL1, ixL2, ixC, ixB, ixI0, ixI00, ixI1, ixI2, ixI3, upd2_rd, upd2_nd, Nat.reduceEqDiff, Nat.reduceAdd, Nat.add_left_cancel_iff, Nat.add_right_cancel_iff, reduceCtorEq, ↓reduceIte, and_self, and_true, true_and, and_false, false_and, true_or, or_true, false_or, or_false, not_true_eq_false, not_false_eq_true]); (try simp only [w32_em]); (first | done | omega))) (wp_some ?_)
        exact ⟨c, rfl⟩
    · cases b with
      | inl y =>
        obtain ⟨c, rfl⟩ := hb
        dsimp only [Sum.elim_inl]
        refine wp_use (ih (by omega)) (fun r hr => ?_)
        have es : fI a (m + 1) = fI a m := by simp only [fI, if_pos c]
        rw [es]
        obtain ⟨z, z1, z2⟩ := hr
        refine ⟨z, z1, ?_⟩
        rcases z2 with z2 | ⟨i, i1, i2, i3⟩
        · exact Or.inl z2
        · exact Or.inr ⟨i, i1, i2, by omega⟩
      | inr r =>
        obtain ⟨c, rfl⟩ := hb
        have es : fI a (m + 1) = some m := by simp only [fI, if_neg c]
        rw [es]
        exact ⟨_, rfl, Or.inr ⟨m, rfl, rfl, by omega⟩⟩
set_option maxHeartbeats 600000 in
theorem X12fK {M : Mem} {a : Nat → Nat} {n i : Nat} (hn : n ≤ 8) (hi : i < n) (ha : ∀ j, j < n → a j < 8) (h149 : ∀ j, j < n → M 149 j = ((a j : Nat) : Int)) {x1 : Int} : ∀ k : Nat, i ≤ k → k < n → wp (wh (fun x => s_X12_goesOn_48 x1 (i : Int) M x) (k : Int)) (fun r => r = .inl ((fK a (a i) k : Nat) : Int) ∧ fK a (a i) k < n) := by
  have xi : ix (i : Int) = i := ix_nat (by omega)
  have vi := h149 i hi
  have bi := ha i hi
  intro k
  induction k with
  | zero =>
    intro h1 h2
    have e : i = 0 := by omega
    subst e
    refine wp_unroll ?_
    show wp (s_X12_goesOn_48 x1 ((0 : Nat) : Int) M ((0 : Nat) : Int)) _
    simp only [s_X12_goesOn_48, xi, vi]
    refine wp_gi (by omega) (by omega) (by omega) (wp_gi (by omega) (by omega) (by omega) (wp_ite_f (by omega) (wp_some ?_)))
    exact ⟨rfl, h2⟩
  | succ k ih =>
    intro h1 h2
    have xk : ix ((k + 1 : Nat) : Int) = k + 1 := ix_nat (by omega)
    have vk := h149 (k + 1) h2
    have bk := ha (k + 1) h2
    refine wp_unroll (wp_use (P := Sum.elim (fun y => a (k + 1) < a i ∧ y = (k : Int)) (fun r => ¬ a (k + 1) < a i ∧ r = .inl ((k + 1 : Nat) : Int))) ?_ (fun b hb => ?_))
    · show wp (s_X12_goesOn_48 x1 (i : Int) M ((k + 1 : Nat) : Int)) _
      simp only [s_X12_goesOn_48, xk, xi, vk, vi]
      refine wp_gi (by omega) (by omega) (by omega) (wp_gi (by omega) (by omega) (by omega) ?_)
      by_cases c : a (k + 1) < a i
      · refine wp_ite_t (by ((try simp (disch := omega) only [w32_and, w32_or, w32_shl, w32_shr, w32_xor, ixO, ixO0, ixO1, ixO2, ixO3, ixL0, ixL1, ixL2, ixC, ixB, ixI0, ixI00, ixI1, ixI2, ixI3, upd2_rd, upd2_nd, Nat.reduceEqDiff, Nat.reduceAdd, Nat.add_left_cancel_iff, Nat.add_right_cancel_iff, reduceCtorEq, ↓reduceIte, and_self, and_true, true_and, and_false, false_and, true_or, or_true, false_or, or_false, not_true_eq_false, not_false_eq_true]); (try simp only [w32_em]); (first | done | omega))) (wp_bnd (wp_some ?_))
        exact ⟨c, by omega⟩
      · refine wp_ite_f (by ((try simp (disch := omega) only [w32_and, w32_or, w32_shl, w32_shr, w32_xor, ixO, ixO0, ixO1, ixO2, ixO3, ixL0, ixL1, ixL2, ixC, ixB, ixI0, ixI00, ixI1, ixI2, ixI3, upd2_rd, upd2_nd, Nat.reduceEqDiff, Nat.reduceAdd, Nat.add_left_cancel_iff, Nat.add_right_cancel_iff, reduceCtorEq, ↓reduceIte, and_self, and_true, true_and, and_false, false_and, true_or, or_true, false_or, or_false, not_true_eq_false, not_false_eq_true]); (try simp only [w32_em]); (first | done | omega))) (wp_some ?_)
        exact ⟨c, rfl⟩
    · cases b with
      | inl y =>
        obtain ⟨c, rfl⟩ := hb
        have ne : i ≠ k + 1 := fun e => by rw [e] at c; omega
        have es : fK a (a i) (k + 1) = fK a (a i) k := by simp only [fK, if_pos c]
        rw [es]
        exact ih (by omega) (by omega)
      | inr r =>
        obtain ⟨c, rfl⟩ := hb
        have es : fK a (a i) (k + 1) = k + 1 := by simp only [fK, if_neg c]
        rw [es]
        exact ⟨rfl, h2⟩
set_option maxHeartbeats 600000 in
theorem X12exch {M : Mem} {a : Nat → Nat} {n i k : Nat} (hn : n ≤ 8) (hi : i < n) (hk : k < n) (h149 : ∀ j, j < n → M 149 j = ((a j : Nat) : Int)) : wp (f_X12_exchanges (i : Int) (k : Int) M) (fun r => (∀ c, c ≠ 149 → r c = M c) ∧ ∀ j, j < n → r 149 j = ((swq a i k j : Nat) : Int)) := by
  have xi : ix (i : Int) = i := ix_nat (by omega)
  have xk : ix (k : Int) = k := ix_nat (by omega)
  unfold f_X12_exchanges
  rw [xi, xk]
  refine wp_gi (by omega) (by omega) (by omega) (wp_bnd (wp_gi (by omega) (by omega) (by omega) (wp_gi (by omega) (by omega) (by omega) (wp_bnd (wp_gi (by omega) (by omega) (by omega) (wp_bnd (wp_some ⟨fun c hc => ?_, fun j hj => ?_⟩)))))))
  · rw [upd2_ne hc, upd2_ne hc]
  · unfold swq
    rw [upd2_at]
    by_cases e : j = k
    · rw [if_pos e, if_pos e]
      exact h149 i hi
    · rw [if_neg e, if_neg e, upd2_at]
      by_cases e2 : j = i
      · rw [if_pos e2, if_pos e2]
        exact h149 k hk
      · rw [if_neg e2, if_neg e2]
        exact h149 j hj
set_option maxHeartbeats 600000 in
theorem X12rv {n : Nat} (hn : n ≤ 8) : ∀ (f lo hi : Nat) (a : Nat → Nat) (M : Mem), hi ≤ lo + 2 * f → lo ≤ n → hi < n → (∀ j, j < n → M 149 j = ((a j : Nat) : Int)) → wp (wh (fun x => s_X12_goesOn_85 x.1 x.2.1 x.2.2) ((lo : Int), (hi : Int), M)) (fun r => ∃ z : Mem, r = .inl z ∧ (∀ c, c ≠ 149 → z c = M c) ∧ ∀ j, j < n → z 149 j = ((rvq f lo hi a j : Nat) : Int)) := by
  have stop : ∀ (lo hi : Nat) (b : Nat → Nat) (M : Mem), lo ≤ n → hi < n → ¬ lo < hi → (∀ j, j < n → M 149 j = ((b j : Nat) : Int)) → wp (wh (fun x => s_X12_goesOn_85 x.1 x.2.1 x.2.2) ((lo : Int), (hi : Int), M)) (fun r => ∃ z : Mem, r = .inl z ∧ (∀ c, c ≠ 149 → z c = M c) ∧ ∀ j, j < n → z 149 j = ((b j : Nat) : Int)) := fun lo hi b M h0 h1 h2 h3 => by
    refine wp_unroll ?_
    show wp (s_X12_goesOn_85 (lo : Int) (hi : Int) M) _
    unfold s_X12_goesOn_85
    refine wp_ite_f (by ((try simp (disch := omega) only [w32_and, w32_or, w32_shl, w32_shr, w32_xor, ixO, ixO0, ixO1, ixO2, ixO3, ixL0, ixL1, ixL2, ixC, ixB, ixI0, ixI00, ixI1, ixI2, ixI3, upd2_rd, upd2_nd, Nat.reduceEqDiff, Nat.reduceAdd, Nat.add_left_cancel_iff, Nat.add_right_cancel_iff, reduceCtorEq, ↓reduceIte, and_self, and_true, true_and, and_false, false_and, true_or, or_true, false_or, or_false, not_true_eq_false, not_false_eq_true]); (try simp only [w32_em]); (first | done | omega))) (wp_some ?_)
    exact ⟨M, rfl, fun _ _ => rfl, h3⟩
  intro f
  induction f with
  | zero =>
    intro lo hi a M h0 h1 h2 h3
    exact stop lo hi a M h1 h2 (by omega) h3
  | succ f ih =>
    intro lo hi a M h0 h1 h2 h3
    by_cases c : lo < hi
    · have es : rvq (f + 1) lo hi a = rvq f (lo + 1) (hi - 1) (swq a lo hi) := by simp only [rvq, if_pos c]
      rw [es]
      refine wp_unroll (wp_use (P := Sum.elim (fun y => ∃ m : Mem, y = (((lo + 1 : Nat) : Int), ((hi - 1 : Nat) : Int), m) ∧ (∀ c, c ≠ 149 → m c = M c) ∧ ∀ j, j < n → m 149 j = ((swq a lo hi j : Nat) : Int)) (fun _ => False)) ?_ (fun b hb => ?_))
      · show wp (s_X12_goesOn_85 (lo : Int) (hi : Int) M) _
        unfold s_X12_goesOn_85
        refine wp_ite_t (by ((try simp (disch := omega) only [w32_and, w32_or, w32_shl, w32_shr, w32_xor, ixO, ixO0, ixO1, ixO2, ixO3, ixL0, ixL1, ixL2, ixC, ixB, ixI0, ixI00, ixI1, ixI2, ixI3, upd2_rd, upd2_nd, Nat.reduceEqDiff, Nat.reduceAdd, Nat.add_left_cancel_iff, Nat.add_right_cancel_iff, reduceCtorEq, ↓reduceIte, and_self, and_true, true_and, and_false, false_and, true_or, or_true, false_or, or_false, not_true_eq_false, not_false_eq_true]); (try simp only [w32_em]); (first | done | omega))) (wp_cl1 (wp_use (X12exch hn (show lo < n by omega) h2 h3) (fun r hr => wp_bnd (wp_bnd (wp_some ?_)))))
        refine ⟨r, ?_, hr.1, hr.2⟩
        rw [show (lo : Int) + 1 = ((lo + 1 : Nat) : Int) by omega, show (hi : Int) + -1 = ((hi - 1 : Nat) : Int) by omega]
      · cases b with
        | inl y =>
          obtain ⟨m, rfl, m1, m2⟩ := hb
          dsimp only [Sum.elim_inl]
          refine wp_use (ih (lo + 1) (hi - 1) (swq a lo hi) m (by omega) (by omega) (by omega) m2) (fun r hr => ?_)
          obtain ⟨z, z1, z2, z3⟩ := hr
          exact ⟨z, z1, fun c hc => (z2 c hc).trans (m1 c hc), z3⟩
        | inr r => exact hb.elim
    · have es : rvq (f + 1) lo hi a = a := by simp only [rvq, if_neg c]
      rw [es]
      exact stop lo hi a M h1 h2 c h3
set_option maxHeartbeats 600000 in
theorem X12goes {M : Mem} {a : Nat → Nat} {n : Nat} (hn : n ≤ 8) (h5 : M 140 5 = (n : Int)) (ha : ∀ j, j < n → a j < 8) (h149 : ∀ j, j < n → M 149 j = ((a j : Nat) : Int)) : wp (f_X12_goesOn M) (fun r => (∀ c, c ≠ 149 → r.2 c = M c) ∧ ((nxf n a = none ∧ r.1 = 0) ∨ ∃ b, nxf n a = some b ∧ r.1 = 1 ∧ ∀ j, j < n → r.2 149 j = ((b j : Nat) : Int))) := by
  unfold f_X12_goesOn
  rw [h5]
  refine wp_bnd (wp_bnd ?_)
  by_cases n0 : n = 0
  · subst n0
    refine wp_lpb (wp_unroll ?_)
    show wp (s_X12_goesOn_11 _ M (((0 : Nat) : Int) - 2)) _
    unfold s_X12_goesOn_11
    refine wp_ite_t (by decide) (wp_some ?_)
    dsimp only [Sum.elim_inl, Sum.elim_inr]
    unfold j_X12_goesOn_38
    refine wp_ite_t (by decide) (wp_some ⟨fun _ _ => rfl, Or.inl ⟨rfl, rfl⟩⟩)
  · have es : (n : Int) - 2 = ((n - 1 : Nat) : Int) - 1 := by omega
    rw [es]
    refine wp_lpb (wp_use (X12fI hn ha h149 (n - 1) (by omega)) (fun r hr => ?_))
    obtain ⟨z, rfl, hz⟩ := hr
    dsimp only [Sum.elim_inl, Sum.elim_inr]
    unfold j_X12_goesOn_38
    rcases hz with ⟨z1, rfl⟩ | ⟨i, z1, rfl, z2⟩
    · refine wp_ite_t (by decide) (wp_some ⟨fun _ _ => rfl, Or.inl ⟨?_, rfl⟩⟩)
      unfold nxf
      rw [z1]
    · have e1 : (n : Int) - 1 = ((n - 1 : Nat) : Int) := by omega
      rw [e1]
      refine wp_ite_f (by ((try simp (disch := omega) only [w32_and, w32_or, w32_shl, w32_shr, w32_xor, ixO, ixO0, ixO1, ixO2, ixO3, ixL0, ixL1, ixL2, ixC, ixB, ixI0, ixI00, ixI1, ixI2, ixI3, upd2_rd, upd2_nd, Nat.reduceEqDiff, Nat.reduceAdd, Nat.add_left_cancel_iff, Nat.add_right_cancel_iff, reduceCtorEq, ↓reduceIte, and_self, and_true, true_and, and_false, false_and, true_or, or_true, false_or, or_false, not_true_eq_false, not_false_eq_true]); (try simp only [w32_em]); (first | done | omega))) (wp_bnd (wp_lpb (wp_use (X12fK hn (show i < n by omega) ha h149 (n - 1) (by omega) (by omega)) (fun r hr => ?_))))
      obtain ⟨rfl, hk⟩ := hr
      dsimp only [Sum.elim_inl, Sum.elim_inr]
      refine wp_cl1 (wp_use (X12exch hn (show i < n by omega) hk h149) (fun m hm => wp_bnd (wp_bnd ?_)))
      rw [show (i : Int) + 1 = ((i + 1 : Nat) : Int) by omega]
      refine wp_lpb (wp_use (X12rv hn 8 (i + 1) (n - 1) _ m (by omega) (by omega) (by omega) hm.2) (fun r hr => ?_))
      obtain ⟨w, rfl, w1, w2⟩ := hr
      dsimp only [Sum.elim_inl, Sum.elim_inr]
      refine wp_some ⟨fun c hc => (w1 c hc).trans (hm.1 c hc), Or.inr ⟨_, ?_, rfl, w2⟩⟩
      unfold nxf
      rw [z1]
set_option maxHeartbeats 600000 in
theorem X12keeps {M : Mem} {n : Nat} (hn : n ≤ 8) (h5 : M 140 5 = (n : Int)) : wp (f_X12_keepsBest M) (fun r => (∀ c, c ≠ 153 → r c = M c) ∧ ∀ j, j < n → r 153 j = M 149 j) := by
  unfold f_X12_keepsBest
  refine wp_lpb (wp_forI (fun i x => x.1 = (i : Int) ∧ (∀ c, c ≠ 153 → x.2 c = M c) ∧ ∀ j, j < i → x.2 153 j = M 149 j) n ?_ ?_ (Nat.zero_le _) ⟨rfl, fun _ _ => rfl, fun j hj => by omega⟩)
  · rintro i ⟨y, m⟩ hi ⟨k1, k2, k3⟩
    simp only at k1 k2 k3
    subst k1
    have xi : ix (i : Int) = i := ix_nat (by omega)
    have m5 : m 140 5 = (n : Int) := by rw [k2 140 (by decide)]; exact h5
    simp only [s_X12_keepsBest_2, xi]
    refine wp_ite_t (by ((try simp (disch := omega) only [w32_and, w32_or, w32_shl, w32_shr, w32_xor, ixO, ixO0, ixO1, ixO2, ixO3, ixL0, ixL1, ixL2, ixC, ixB, ixI0, ixI00, ixI1, ixI2, ixI3, upd2_rd, upd2_nd, Nat.reduceEqDiff, Nat.reduceAdd, Nat.add_left_cancel_iff, Nat.add_right_cancel_iff, reduceCtorEq, ↓reduceIte, and_self, and_true, true_and, and_false, false_and, true_or, or_true, false_or, or_false, not_true_eq_false, not_false_eq_true]); (try simp only [w32_em]); (first | done | omega))) (wp_gi (by omega) (by omega) (by omega) (wp_gi (by omega) (by omega) (by omega) (wp_bnd (wp_bnd (wp_some ⟨by (try dsimp only); omega, fun c hc => ?_, fun j hj => ?_⟩)))))
    · try dsimp only
      rw [upd2_ne hc]
      exact k2 c hc
    · try dsimp only
      rw [upd2_at]
      by_cases e : j = i
      · rw [if_pos e, k2 149 (by decide), e]
      · rw [if_neg e]
        exact k3 j (by omega)
  · rintro ⟨y, m⟩ ⟨k1, k2, k3⟩
    simp only at k1 k2 k3
    subst k1
    have m5 : m 140 5 = (n : Int) := by rw [k2 140 (by decide)]; exact h5
    simp only [s_X12_keepsBest_2]
    refine wp_ite_f (by ((try simp (disch := omega) only [w32_and, w32_or, w32_shl, w32_shr, w32_xor, ixO, ixO0, ixO1, ixO2, ixO3, ixL0, ixL1, ixL2, ixC, ixB, ixI0, ixI00, ixI1, ixI2, ixI3, upd2_rd, upd2_nd, Nat.reduceEqDiff, Nat.reduceAdd, Nat.add_left_cancel_iff, Nat.add_right_cancel_iff, reduceCtorEq, ↓reduceIte, and_self, and_true, true_and, and_false, false_and, true_or, or_true, false_or, or_false, not_true_eq_false, not_false_eq_true]); (try simp only [w32_em]); (first | done | omega))) (wp_some ?_)
    dsimp only [Sum.elim_inl, Sum.elim_inr]
    exact wp_some ⟨k2, k3⟩
