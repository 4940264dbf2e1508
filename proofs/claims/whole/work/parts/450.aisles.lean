-- ===== highest and lowest places; the aisles that a route visits =====
theorem Sp_iff {N : Nat → Int} (hW : WF N) {x : Int} (hx : Ims N x) {a p : Nat} (hp : p ≤ 20) : Sp N x (21 * a + p) ↔ ∃ j, bit x j = true ∧ N (13 + 4 * j) = (a : Int) ∧ N (14 + 4 * j) = (p : Int) := by
  have q3 := n3 hW
  have hw := hW.1
  constructor
  · rintro ⟨j, j1, j2, j3⟩
    have wi := hW.2.2.2.1 j (hx.2 j j2)
    unfold WFi at wi
    exact ⟨j, j2, by omega, by omega⟩
  · rintro ⟨j, j2, j3, j4⟩
    have := hx.2 j j2
    exact ⟨j, by omega, j2, by omega⟩
def hiF (N : Nat → Int) (x : Int) (a : Nat) : Int := hiA N x a (N 3).toNat
def loF (N : Nat → Int) (x : Int) (a : Nat) : Int := loA N x a (N 3).toNat
def plF (N : Nat → Int) (x : Int) (a : Nat) : Int := plA N x a (N 3).toNat
def cnF (N : Nat → Int) (x : Int) (a : Nat) : Int := cnA N x a (N 3).toNat
theorem hiA_ok {N : Nat → Int} (hW : WF N) {x : Int} {a : Nat} : ∀ n : Nat, (n : Int) ≤ N 3 → 0 ≤ hiA N x a n ∧ hiA N x a n ≤ N 1 ∧ (∀ j, j < n → bit x j = true → N (13 + 4 * j) = (a : Int) → N (14 + 4 * j) ≤ hiA N x a n) ∧ (hiA N x a n = 0 ∨ ∃ j, j < n ∧ bit x j = true ∧ N (13 + 4 * j) = (a : Int) ∧ N (14 + 4 * j) = hiA N x a n) := by
  have hw := hW.1
  intro n
  induction n with
  | zero => intro _; exact ⟨by simp [hiA], by simp only [hiA]; omega, fun j hj => by omega, Or.inl rfl⟩
  | succ n ih =>
    intro hn
    obtain ⟨h1, h2, h3, h4⟩ := ih (by omega)
    have wi := hW.2.2.2.1 n (by omega)
    unfold WFi at wi
    simp only [hiA]
    by_cases c : bit x n = true ∧ N (13 + 4 * n) = (a : Int)
    · rw [if_pos c]
      unfold i_max
      rw [w32_ok ⟨by omega, by omega⟩, w32_ok ⟨by omega, by omega⟩]
      by_cases q : hiA N x a n < N (14 + 4 * n)
      · rw [if_pos q]
        refine ⟨by omega, by omega, fun j hj b1 b2 => ?_, Or.inr ⟨n, by omega, c.1, c.2, rfl⟩⟩
        by_cases e : j = n
        · rw [e]; omega
        · have := h3 j (by omega) b1 b2
          omega
      · rw [if_neg q]
        refine ⟨h1, h2, fun j hj b1 b2 => ?_, ?_⟩
        · by_cases e : j = n
          · rw [e]; omega
          · exact h3 j (by omega) b1 b2
        · rcases h4 with h4 | ⟨j, j1, j2⟩
          · exact Or.inl h4
          · exact Or.inr ⟨j, by omega, j2⟩
    · rw [if_neg c]
      refine ⟨h1, h2, fun j hj b1 b2 => ?_, ?_⟩
      · by_cases e : j = n
        · rw [e] at b1 b2; exact absurd ⟨b1, b2⟩ c
        · exact h3 j (by omega) b1 b2
      · rcases h4 with h4 | ⟨j, j1, j2⟩
        · exact Or.inl h4
        · exact Or.inr ⟨j, by omega, j2⟩
theorem loA_ok {N : Nat → Int} (hW : WF N) {x : Int} {a : Nat} : ∀ n : Nat, (n : Int) ≤ N 3 → 1 ≤ loA N x a n ∧ loA N x a n ≤ 20 ∧ (∀ j, j < n → bit x j = true → N (13 + 4 * j) = (a : Int) → loA N x a n ≤ N (14 + 4 * j)) ∧ (loA N x a n = 20 ∨ ∃ j, j < n ∧ bit x j = true ∧ N (13 + 4 * j) = (a : Int) ∧ N (14 + 4 * j) = loA N x a n) := by
  have hw := hW.1
  intro n
  induction n with
  | zero => intro _; exact ⟨by simp [loA], by simp [loA], fun j hj => by omega, Or.inl rfl⟩
  | succ n ih =>
    intro hn
    obtain ⟨h1, h2, h3, h4⟩ := ih (by omega)
    have wi := hW.2.2.2.1 n (by omega)
    unfold WFi at wi
    simp only [loA]
    by_cases c : bit x n = true ∧ N (13 + 4 * n) = (a : Int)
    · rw [if_pos c]
      unfold i_min
      rw [w32_ok ⟨by omega, by omega⟩, w32_ok ⟨by omega, by omega⟩]
      by_cases q : N (14 + 4 * n) < loA N x a n
      · rw [if_pos q]
        refine ⟨by omega, by omega, fun j hj b1 b2 => ?_, Or.inr ⟨n, by omega, c.1, c.2, rfl⟩⟩
        by_cases e : j = n
        · rw [e]; omega
        · have := h3 j (by omega) b1 b2
          omega
      · rw [if_neg q]
        refine ⟨h1, h2, fun j hj b1 b2 => ?_, ?_⟩
        · by_cases e : j = n
          · rw [e]; omega
          · exact h3 j (by omega) b1 b2
        · rcases h4 with h4 | ⟨j, j1, j2⟩
          · exact Or.inl h4
          · exact Or.inr ⟨j, by omega, j2⟩
    · rw [if_neg c]
      refine ⟨h1, h2, fun j hj b1 b2 => ?_, ?_⟩
      · by_cases e : j = n
        · rw [e] at b1 b2; exact absurd ⟨b1, b2⟩ c
        · exact h3 j (by omega) b1 b2
      · rcases h4 with h4 | ⟨j, j1, j2⟩
        · exact Or.inl h4
        · exact Or.inr ⟨j, by omega, j2⟩
theorem plA_ok {N : Nat → Int} (hW : WF N) {x : Int} {a : Nat} : ∀ n : Nat, (n : Int) ≤ N 3 → NN (plA N x a n) ∧ ∀ p, bit (plA N x a n) p = true ↔ ∃ j, j < n ∧ bit x j = true ∧ N (13 + 4 * j) = (a : Int) ∧ N (14 + 4 * j) = (p : Int) := by
  have hw := hW.1
  intro n
  induction n with
  | zero => intro _; exact ⟨⟨by simp [plA], by simp [plA]⟩, fun p => by simp [plA, bit_zero]⟩
  | succ n ih =>
    intro hn
    obtain ⟨h1, h2⟩ := ih (by omega)
    have wi := hW.2.2.2.1 n (by omega)
    unfold WFi at wi
    simp only [plA]
    by_cases c : bit x n = true ∧ N (13 + 4 * n) = (a : Int)
    · rw [if_pos c]
      obtain ⟨q, hq⟩ : ∃ q : Nat, N (14 + 4 * n) = (q : Int) := ⟨(N (14 + 4 * n)).toNat, by omega⟩
      rw [hq]
      have s := shl_bits (show q < 31 by omega)
      have b := or_bits h1 s.1
      refine ⟨b.1, fun p => ?_⟩
      rw [b.2, s.2]
      simp only [Bool.or_eq_true, decide_eq_true_eq, h2]
      constructor
      · rintro (⟨j, j1, j2⟩ | rfl)
        · exact ⟨j, by omega, j2⟩
        · exact ⟨n, by omega, c.1, c.2, hq⟩
      · rintro ⟨j, j1, j2, j3, j4⟩
        by_cases e : j = n
        · subst e; right; omega
        · left; exact ⟨j, by omega, j2, j3, j4⟩
    · rw [if_neg c]
      refine ⟨h1, fun p => ?_⟩
      rw [h2]
      constructor
      · rintro ⟨j, j1, j2⟩
        exact ⟨j, by omega, j2⟩
      · rintro ⟨j, j1, j2, j3, j4⟩
        by_cases e : j = n
        · subst e; exact absurd ⟨j2, j3⟩ c
        · exact ⟨j, by omega, j2, j3, j4⟩
/-- an aisle is visited in both by the same test -/
theorem pl_hi {N : Nat → Int} (hW : WF N) {x : Int} {a : Nat} : plF N x a = 0 ↔ ¬ 0 < hiF N x a := by
  have q3 := n3 hW
  obtain ⟨h1, h2, h3, h4⟩ := hiA_ok (x := x) (a := a) hW (N 3).toNat (by omega)
  obtain ⟨p1, p2⟩ := plA_ok (x := x) (a := a) hW (N 3).toNat (by omega)
  unfold plF hiF
  constructor
  · intro e hpos
    rcases h4 with h4 | ⟨j, j1, j2, j3, j4⟩
    · omega
    · have := (p2 (N (14 + 4 * j)).toNat).mpr ⟨j, j1, j2, j3, by omega⟩
      rw [e, bit_zero] at this
      cases this
  · intro e
    refine bit_eq0 p1 (fun p => ?_)
    cases q : bit (plA N x a (N 3).toNat) p
    · rfl
    · obtain ⟨j, j1, j2, j3, j4⟩ := (p2 p).mp q
      have w := hW.2.2.2.1 j (by omega)
      unfold WFi at w
      have := h3 j j1 j2 j3
      omega
theorem X12hi {M : Mem} {N : Nat → Int} (hN : M 140 = N) (hW : WF N) {x : Int} (hx : Ims N x) (hS : S4 N x M) {a : Nat} (ha : a < 6) : f_X12_highest (a : Int) M = some (hiF N x a) := by
  subst hN
  have q3 := n3 hW
  have hw := hW.1
  obtain ⟨D, hD⟩ : ∃ D : Nat, M 140 1 = (D : Int) := ⟨(M 140 1).toNat, by omega⟩
  obtain ⟨h1, h2, h3, h4⟩ := hiA_ok (x := x) (a := a) hW (M 140 3).toNat (by omega)
  have sp : ∀ p : Nat, p ≤ 20 → Sp (M 140) x (21 * a + p) → (p : Int) ≤ hiF (M 140) x a := fun p hp hs => by
    obtain ⟨j, j1, j2, j3⟩ := (Sp_iff hW hx hp).mp hs
    have l := hx.2 j j1
    have := h3 j (by omega) j1 j2
    unfold hiF
    omega
  have sp2 : hiF (M 140) x a = 0 ∨ Sp (M 140) x (21 * a + (hiF (M 140) x a).toNat) := by
    unfold hiF
    rcases h4 with h4 | ⟨j, j1, j2, j3, j4⟩
    · exact Or.inl h4
    · exact Or.inr ((Sp_iff hW hx (by omega)).mpr ⟨j, j2, j3, by omega⟩)
  have hr : 0 ≤ hiF (M 140) x a ∧ hiF (M 140) x a ≤ M 140 1 := ⟨h1, h2⟩
  generalize hiF (M 140) x a = H at *
  apply wp_val
  unfold f_X12_highest
  refine wp_bnd (wp_lpb ?_)
  rw [hD]
  refine wp_forI (fun i y => y = ((D - i : Nat) : Int) ∧ H ≤ ((D - i : Nat) : Int)) D ?_ ?_ (Nat.zero_le _) ⟨rfl, by rw [Nat.sub_zero]; omega⟩
  · rintro i y hi ⟨rfl, hH⟩
    have x1 : ix (21 * (a : Int) + ((D - i : Nat) : Int)) = 21 * a + (D - i) := by rw [ix_of (by omega) (by omega)]; omega
    simp only [s_X12_highest_7]
    rw [x1]
    rcases hS.1 (21 * a + (D - i)) (by omega) with ⟨s1, s2⟩ | ⟨s1, s2⟩
    · (repeat' (first | with_reducible refine wp_bnd ?_ | with_reducible refine wp_cl1 ?_ | with_reducible refine wp_cl2 ?_ | with_reducible refine wp_cx1 ?_ | with_reducible refine wp_cx2 ?_ | with_reducible refine wp_some ?_ | with_reducible refine wp_ite_t (lcmp0 (by ((try simp (disch := omega) only [w32_and, w32_or, w32_shl, w32_shr, w32_xor, ixO, ixO0, ixO1, ixO2, ixO3, ixL0, ixL1, ixL2, ixC, ixB, ixI0, ixI00, ixI1, ixI2, ixI3, upd2_rd, upd2_nd, Nat.reduceEqDiff, Nat.reduceAdd, Nat.add_left_cancel_iff, Nat.add_right_cancel_iff, reduceCtorEq, ↓reduceIte, and_self, and_true, true_and, and_false, false_and, true_or, or_true, false_or, or_false, not_true_eq_false, not_false_eq_true]); (try simp only [w32_em]); (first | done | omega)))) ?_ | with_reducible refine wp_ite_t (by ((try simp (disch := omega) only [w32_and, w32_or, w32_shl, w32_shr, w32_xor, ixO, ixO0, ixO1, ixO2, ixO3, ixL0, ixL1, ixL2, ixC, ixB, ixI0, ixI00, ixI1, ixI2, ixI3, upd2_rd, upd2_nd, Nat.reduceEqDiff, Nat.reduceAdd, Nat.add_left_cancel_iff, Nat.add_right_cancel_iff, reduceCtorEq, ↓reduceIte, and_self, and_true, true_and, and_false, false_and, true_or, or_true, false_or, or_false, not_true_eq_false, not_false_eq_true]); (try simp only [w32_em]); (first | done | omega))) ?_ | with_reducible refine wp_ite_f (by ((try simp (disch := omega) only [w32_and, w32_or, w32_shl, w32_shr, w32_xor, ixO, ixO0, ixO1, ixO2, ixO3, ixL0, ixL1, ixL2, ixC, ixB, ixI0, ixI00, ixI1, ixI2, ixI3, upd2_rd, upd2_nd, Nat.reduceEqDiff, Nat.reduceAdd, Nat.add_left_cancel_iff, Nat.add_right_cancel_iff, reduceCtorEq, ↓reduceIte, and_self, and_true, true_and, and_false, false_and, true_or, or_true, false_or, or_false, not_true_eq_false, not_false_eq_true]); (try simp only [w32_em]); (first | done | omega))) ?_ | with_reducible refine wp_itei ?_ ?_ | (with_reducible refine wp_imp (fun hc => ?_); (try simp (disch := omega) only [w32_and, w32_or, w32_shl, w32_shr, w32_xor, ixO, ixO0, ixO1, ixO2, ixO3, ixL0, ixL1, ixL2, ixC, ixB, ixI0, ixI00, ixI1, ixI2, ixI3, upd2_rd, upd2_nd, Nat.reduceEqDiff, Nat.reduceAdd, Nat.add_left_cancel_iff, Nat.add_right_cancel_iff, reduceCtorEq, ↓reduceIte, and_self, and_true, true_and, and_false, false_and, true_or, or_true, false_or, or_false, not_true_eq_false, not_false_eq_true] at hc); (try simp only [w32_em] at hc)) | with_reducible refine wp_gi (by ((try simp (disch := omega) only [w32_and, w32_or, w32_shl, w32_shr, w32_xor, ixO, ixO0, ixO1, ixO2, ixO3, ixL0, ixL1, ixL2, ixC, ixB, ixI0, ixI00, ixI1, ixI2, ixI3, upd2_rd, upd2_nd, Nat.reduceEqDiff, Nat.reduceAdd, Nat.add_left_cancel_iff, Nat.add_right_cancel_iff, reduceCtorEq, ↓reduceIte, and_self, and_true, true_and, and_false, false_and, true_or, or_true, false_or, or_false, not_true_eq_false, not_false_eq_true]); (try simp only [w32_em]); (first | done | omega))) (by ((try simp (disch := omega) only [w32_and, w32_or, w32_shl, w32_shr, w32_xor, ixO, ixO0, ixO1, ixO2, ixO3, ixL0, ixL1, ixL2, ixC, ixB, ixI0, ixI00, ixI1, ixI2, ixI3, upd2_rd, upd2_nd, Nat.reduceEqDiff, Nat.reduceAdd, Nat.add_left_cancel_iff, Nat.add_right_cancel_iff, reduceCtorEq, ↓reduceIte, and_self, and_true, true_and, and_false, false_and, true_or, or_true, false_or, or_false, not_true_eq_false, not_false_eq_true]); (try simp only [w32_em]); (first | done | omega))) (by omega) ?_ | with_reducible refine wp_gz (by ((try simp (disch := omega) only [w32_and, w32_or, w32_shl, w32_shr, w32_xor, ixO, ixO0, ixO1, ixO2, ixO3, ixL0, ixL1, ixL2, ixC, ixB, ixI0, ixI00, ixI1, ixI2, ixI3, upd2_rd, upd2_nd, Nat.reduceEqDiff, Nat.reduceAdd, Nat.add_left_cancel_iff, Nat.add_right_cancel_iff, reduceCtorEq, ↓reduceIte, and_self, and_true, true_and, and_false, false_and, true_or, or_true, false_or, or_false, not_true_eq_false, not_false_eq_true]); (try simp only [w32_em]); (first | done | omega))) ?_ | dsimp only [Sum.elim_inl, Sum.elim_inr])) <;> (first | exact lf1 hI | exact lf2 hI | skip)
      refine ⟨by omega, ?_⟩
      by_cases e : H = ((D - i : Nat) : Int)
      · rcases sp2 with e0 | e0
        · omega
        · rw [show H.toNat = D - i by omega] at e0
          exact absurd e0 s2
      · omega
    · have := sp (D - i) (by omega) s2
      (repeat' (first | with_reducible refine wp_bnd ?_ | with_reducible refine wp_cl1 ?_ | with_reducible refine wp_cl2 ?_ | with_reducible refine wp_cx1 ?_ | with_reducible refine wp_cx2 ?_ | with_reducible refine wp_some ?_ | with_reducible refine wp_ite_t (lcmp0 (by ((try simp (disch := omega) only [w32_and, w32_or, w32_shl, w32_shr, w32_xor, ixO, ixO0, ixO1, ixO2, ixO3, ixL0, ixL1, ixL2, ixC, ixB, ixI0, ixI00, ixI1, ixI2, ixI3, upd2_rd, upd2_nd, Nat.reduceEqDiff, Nat.reduceAdd, Nat.add_left_cancel_iff, Nat.add_right_cancel_iff, reduceCtorEq, ↓reduceIte, and_self, and_true, true_and, and_false, false_and, true_or, or_true, false_or, or_false, not_true_eq_false, not_false_eq_true]); (try simp only [w32_em]); (first | done | omega)))) ?_ | with_reducible refine wp_ite_t (by ((try simp (disch := omega) only [w32_and, w32_or, w32_shl, w32_shr, w32_xor, ixO, ixO0, ixO1, ixO2, ixO3, ixL0, ixL1, ixL2, ixC, ixB, ixI0, ixI00, ixI1, ixI2, ixI3, upd2_rd, upd2_nd, Nat.reduceEqDiff, Nat.reduceAdd, Nat.add_left_cancel_iff, Nat.add_right_cancel_iff, reduceCtorEq, ↓reduceIte, and_self, and_true, true_and, and_false, false_and, true_or, or_true, false_or, or_false, not_true_eq_false, not_false_eq_true]); (try simp only [w32_em]); (first | done | omega))) ?_ | with_reducible refine wp_ite_f (by ((try simp (disch := omega) only [w32_and, w32_or, w32_shl, w32_shr, w32_xor, ixO, ixO0, ixO1, ixO2, ixO3, ixL0, ixL1, ixL2, ixC, ixB, ixI0, ixI00, ixI1, ixI2, ixI3, upd2_rd, upd2_nd, Nat.reduceEqDiff, Nat.reduceAdd, Nat.add_left_cancel_iff, Nat.add_right_cancel_iff, reduceCtorEq, ↓reduceIte, and_self, and_true, true_and, and_false, false_and, true_or, or_true, false_or, or_false, not_true_eq_false, not_false_eq_true]); (try simp only [w32_em]); (first | done | omega))) ?_ | with_reducible refine wp_itei ?_ ?_ | (with_reducible refine wp_imp (fun hc => ?_); (try simp (disch := omega) only [w32_and, w32_or, w32_shl, w32_shr, w32_xor, ixO, ixO0, ixO1, ixO2, ixO3, ixL0, ixL1, ixL2, ixC, ixB, ixI0, ixI00, ixI1, ixI2, ixI3, upd2_rd, upd2_nd, Nat.reduceEqDiff, Nat.reduceAdd, Nat.add_left_cancel_iff, Nat.add_right_cancel_iff, reduceCtorEq, ↓reduceIte, and_self, and_true, true_and, and_false, false_and, true_or, or_true, false_or, or_false, not_true_eq_false, not_false_eq_true] at hc); (try simp only [w32_em] at hc)) | with_reducible refine wp_gi (by ((try simp (disch := omega) only [w32_and, w32_or, w32_shl, w32_shr, w32_xor, ixO, ixO0, ixO1, ixO2, ixO3, ixL0, ixL1, ixL2, ixC, ixB, ixI0, ixI00, ixI1, ixI2, ixI3, upd2_rd, upd2_nd, Nat.reduceEqDiff, Nat.reduceAdd, Nat.add_left_cancel_iff, Nat.add_right_cancel_iff, reduceCtorEq, ↓reduceIte, and_self, and_true, true_and, and_false, false_and, true_or, or_true, false_or, or_false, not_true_eq_false, not_false_eq_true]); (try simp only [w32_em]); (first | done | omega))) (by ((try simp (disch := omega) only [w32_and, w32_or, w32_shl, w32_shr, w32_xor, ixO, ixO0, ixO1, ixO2, ixO3, ixL0, ixL1, ixL2, ixC, ixB, ixI0, ixI00, ixI1, ixI2, ixI3, upd2_rd, upd2_nd, Nat.reduceEqDiff, Nat.reduceAdd, Nat.add_left_cancel_iff, Nat.add_right_cancel_iff, reduceCtorEq, ↓reduceIte, and_self, and_true, true_and, and_false, false_and, true_or, or_true, false_or, or_false, not_true_eq_false, not_false_eq_true]); (try simp only [w32_em]); (first | done | omega))) (by omega) ?_ | with_reducible refine wp_gz (by ((try simp (disch := omega) only [w32_and, w32_or, w32_shl, w32_shr, w32_xor, ixO, ixO0, ixO1, ixO2, ixO3, ixL0, ixL1, ixL2, ixC, ixB, ixI0, ixI00, ixI1, ixI2, ixI3, upd2_rd, upd2_nd, Nat.reduceEqDiff, Nat.reduceAdd, Nat.add_left_cancel_iff, Nat.add_right_cancel_iff, reduceCtorEq, ↓reduceIte, and_self, and_true, true_and, and_false, false_and, true_or, or_true, false_or, or_false, not_true_eq_false, not_false_eq_true]); (try simp only [w32_em]); (first | done | omega))) ?_ | dsimp only [Sum.elim_inl, Sum.elim_inr])) <;> (first | exact lf1 hI | exact lf2 hI | skip)
      omega
  · rintro y ⟨rfl, hH⟩
    simp only [s_X12_highest_7]
    (repeat' (first | with_reducible refine wp_bnd ?_ | with_reducible refine wp_cl1 ?_ | with_reducible refine wp_cl2 ?_ | with_reducible refine wp_cx1 ?_ | with_reducible refine wp_cx2 ?_ | with_reducible refine wp_some ?_ | with_reducible refine wp_ite_t (lcmp0 (by ((try simp (disch := omega) only [w32_and, w32_or, w32_shl, w32_shr, w32_xor, ixO, ixO0, ixO1, ixO2, ixO3, ixL0, ixL1, ixL2, ixC, ixB, ixI0, ixI00, ixI1, ixI2, ixI3, upd2_rd, upd2_nd, Nat.reduceEqDiff, Nat.reduceAdd, Nat.add_left_cancel_iff, Nat.add_right_cancel_iff, reduceCtorEq, ↓reduceIte, and_self, and_true, true_and, and_false, false_and, true_or, or_true, false_or, or_false, not_true_eq_false, not_false_eq_true]); (try simp only [w32_em]); (first | done | omega)))) ?_ | with_reducible refine wp_ite_t (by ((try simp (disch := omega) only [w32_and, w32_or, w32_shl, w32_shr, w32_xor, ixO, ixO0, ixO1, ixO2, ixO3, ixL0, ixL1, ixL2, ixC, ixB, ixI0, ixI00, ixI1, ixI2, ixI3, upd2_rd, upd2_nd, Nat.reduceEqDiff, Nat.reduceAdd, Nat.add_left_cancel_iff, Nat.add_right_cancel_iff, reduceCtorEq, ↓reduceIte, and_self, and_true, true_and, and_false, false_and, true_or, or_true, false_or, or_false, not_true_eq_false, not_false_eq_true]); (try simp only [w32_em]); (first | done | omega))) ?_ | with_reducible refine wp_ite_f (by ((try simp (disch := omega) only [w32_and, w32_or, w32_shl, w32_shr, w32_xor, ixO, ixO0, ixO1, ixO2, ixO3, ixL0, ixL1, ixL2, ixC, ixB, ixI0, ixI00, ixI1, ixI2, ixI3, upd2_rd, upd2_nd, Nat.reduceEqDiff, Nat.reduceAdd, Nat.add_left_cancel_iff, Nat.add_right_cancel_iff, reduceCtorEq, ↓reduceIte, and_self, and_true, true_and, and_false, false_and, true_or, or_true, false_or, or_false, not_true_eq_false, not_false_eq_true]); (try simp only [w32_em]); (first | done | omega))) ?_ | with_reducible refine wp_itei ?_ ?_ | (with_reducible refine wp_imp (fun hc => ?_); (try simp (disch := omega) only [w32_and, w32_or, w32_shl, w32_shr, w32_xor, ixO, ixO0, ixO1, ixO2, ixO3, ixL0, ixL1, ixL2, ixC, ixB, ixI0, ixI00, ixI1, ixI2, ixI3, upd2_rd, upd2_nd, Nat.reduceEqDiff, Nat.reduceAdd, Nat.add_left_cancel_iff, Nat.add_right_cancel_iff, reduceCtorEq, ↓reduceIte, and_self, and_true, true_and, and_false, false_and, true_or, or_true, false_or, or_false, not_true_eq_false, not_false_eq_true] at hc); (try simp only [w32_em] at hc)) | with_reducible refine wp_gi (by ((try simp (disch := omega) only [w32_and, w32_or, w32_shl, w32_shr, w32_xor, ixO, ixO0, ixO1, ixO2, ixO3, ixL0, ixL1, ixL2, ixC, ixB, ixI0, ixI00, ixI1, ixI2, ixI3, upd2_rd, upd2_nd, Nat.reduceEqDiff, Nat.reduceAdd, Nat.add_left_cancel_iff, Nat.add_right_cancel_iff, reduceCtorEq, ↓reduceIte, and_self, and_true, true_and, and_false, false_and, true_or, or_true, false_or, or_false, not_true_eq_false, not_false_eq_true]); (try simp only [w32_em]); (first | done | omega))) (by ((try simp (disch := omega) only [w32_and, w32_or, w32_shl, w32_shr, w32_xor, ixO, ixO0, ixO1, ixO2, ixO3, ixL0, ixL1, ixL2, ixC, ixB, ixI0, ixI00, ixI1, ixI2, ixI3, upd2_rd, upd2_nd, Nat.reduceEqDiff, Nat.reduceAdd, Nat.add_left_cancel_iff, Nat.add_right_cancel_iff, reduceCtorEq, ↓reduceIte, and_self, and_true, true_and, and_false, false_and, true_or, or_true, false_or, or_false, not_true_eq_false, not_false_eq_true]); (try simp only [w32_em]); (first | done | omega))) (by omega) ?_ | with_reducible refine wp_gz (by ((try simp (disch := omega) only [w32_and, w32_or, w32_shl, w32_shr, w32_xor, ixO, ixO0, ixO1, ixO2, ixO3, ixL0, ixL1, ixL2, ixC, ixB, ixI0, ixI00, ixI1, ixI2, ixI3, upd2_rd, upd2_nd, Nat.reduceEqDiff, Nat.reduceAdd, Nat.add_left_cancel_iff, Nat.add_right_cancel_iff, reduceCtorEq, ↓reduceIte, and_self, and_true, true_and, and_false, false_and, true_or, or_true, false_or, or_false, not_true_eq_false, not_false_eq_true]); (try simp only [w32_em]); (first | done | omega))) ?_ | dsimp only [Sum.elim_inl, Sum.elim_inr])) <;> (first | exact lf1 hI | exact lf2 hI | skip)
    omega
theorem X12lo {M : Mem} {N : Nat → Int} (hN : M 140 = N) (hW : WF N) {x : Int} (hx : Ims N x) (hS : S4 N x M) {a : Nat} (ha : a < 6) (hpos : 0 < hiF N x a) : f_X12_lowest (a : Int) M = some (loF N x a) := by
  subst hN
  have q3 := n3 hW
  have hw := hW.1
  obtain ⟨D, hD⟩ : ∃ D : Nat, M 140 1 = (D : Int) := ⟨(M 140 1).toNat, by omega⟩
  obtain ⟨g1, g2, g3, g4⟩ := hiA_ok (x := x) (a := a) hW (M 140 3).toNat (by omega)
  obtain ⟨h1, h2, h3, h4⟩ := loA_ok (x := x) (a := a) hW (M 140 3).toNat (by omega)
  unfold hiF at hpos
  obtain ⟨j0, k1, k2, k3, k4⟩ : ∃ j, j < (M 140 3).toNat ∧ bit x j = true ∧ M 140 (13 + 4 * j) = (a : Int) ∧ M 140 (14 + 4 * j) = hiA (M 140) x a (M 140 3).toNat := by
    rcases g4 with g4 | g4
    · omega
    · exact g4
  have lD : loF (M 140) x a ≤ M 140 1 := by have := h3 j0 k1 k2 k3; unfold loF; omega
  have sp : ∀ p : Nat, p ≤ 20 → Sp (M 140) x (21 * a + p) → loF (M 140) x a ≤ (p : Int) := fun p hp hs => by
    obtain ⟨j, j1, j2, j3⟩ := (Sp_iff hW hx hp).mp hs
    have l := hx.2 j j1
    have := h3 j (by omega) j1 j2
    unfold loF
    omega
  have sp2 : Sp (M 140) x (21 * a + (loF (M 140) x a).toNat) := by
    unfold loF at lD ⊢
    rcases h4 with h4 | ⟨j, j1, j2, j3, j4⟩
    · refine (Sp_iff hW hx (by omega)).mpr ⟨j0, k2, k3, ?_⟩
      have := h3 j0 k1 k2 k3
      omega
    · exact (Sp_iff hW hx (by omega)).mpr ⟨j, j2, j3, by omega⟩
  have hr : 1 ≤ loF (M 140) x a ∧ loF (M 140) x a ≤ 20 := ⟨h1, h2⟩
  generalize loF (M 140) x a = L at *
  apply wp_val
  unfold f_X12_lowest
  refine wp_lpb ?_
  refine wp_forI (fun i y => y = ((i + 1 : Nat) : Int) ∧ ((i + 1 : Nat) : Int) ≤ L) D ?_ ?_ (Nat.zero_le _) ⟨rfl, by omega⟩
  · rintro i y hi ⟨rfl, hH⟩
    have x1 : ix (21 * (a : Int) + ((i + 1 : Nat) : Int)) = 21 * a + (i + 1) := by rw [ix_of (by omega) (by omega)]; omega
    simp only [s_X12_lowest_2]
    rw [x1]
    rcases hS.1 (21 * a + (i + 1)) (by omega) with ⟨s1, s2⟩ | ⟨s1, s2⟩
    · (repeat' (first | with_reducible refine wp_bnd ?_ | with_reducible refine wp_cl1 ?_ | with_reducible refine wp_cl2 ?_ | with_reducible refine wp_cx1 ?_ | with_reducible refine wp_cx2 ?_ | with_reducible refine wp_some ?_ | with_reducible refine wp_ite_t (lcmp0 (by ((try simp (disch := omega) only [w32_and, w32_or, w32_shl, w32_shr, w32_xor, ixO, ixO0, ixO1, ixO2, ixO3, ixL0, ixL1, ixL2, ixC, ixB, ixI0, ixI00, ixI1, ixI2, ixI3, upd2_rd, upd2_nd, Nat.reduceEqDiff, Nat.reduceAdd, Nat.add_left_cancel_iff, Nat.add_right_cancel_iff, reduceCtorEq, ↓reduceIte, and_self, and_true, true_and, and_false, false_and, true_or, or_true, false_or, or_false, not_true_eq_false, not_false_eq_true]); (try simp only [w32_em]); (first | done | omega)))) ?_ | with_reducible refine wp_ite_t (by ((try simp (disch := omega) only [w32_and, w32_or, w32_shl, w32_shr, w32_xor, ixO, ixO0, ixO1, ixO2, ixO3, ixL0, ixL1, ixL2, ixC, ixB, ixI0, ixI00, ixI1, ixI2, ixI3, upd2_rd, upd2_nd, Nat.reduceEqDiff, Nat.reduceAdd, Nat.add_left_cancel_iff, Nat.add_right_cancel_iff, reduceCtorEq, ↓reduceIte, and_self, and_true, true_and, and_false, false_and, true_or, or_true, false_or, or_false, not_true_eq_false, not_false_eq_true]); (try simp only [w32_em]); (first | done | omega))) ?_ | with_reducible refine wp_ite_f (by ((try simp (disch := omega) only [w32_and, w32_or, w32_shl, w32_shr, w32_xor, ixO, ixO0, ixO1, ixO2, ixO3, ixL0, ixL1, ixL2, ixC, ixB, ixI0, ixI00, ixI1, ixI2, ixI3, upd2_rd, upd2_nd, Nat.reduceEqDiff, Nat.reduceAdd, Nat.add_left_cancel_iff, Nat.add_right_cancel_iff, reduceCtorEq, ↓reduceIte, and_self, and_true, true_and, and_false, false_and, true_or, or_true, false_or, or_false, not_true_eq_false, not_false_eq_true]); (try simp only [w32_em]); (first | done | omega))) ?_ | with_reducible refine wp_itei ?_ ?_ | (with_reducible refine wp_imp (fun hc => ?_); (try simp (disch := omega) only [w32_and, w32_or, w32_shl, w32_shr, w32_xor, ixO, ixO0, ixO1, ixO2, ixO3, ixL0, ixL1, ixL2, ixC, ixB, ixI0, ixI00, ixI1, ixI2, ixI3, upd2_rd, upd2_nd, Nat.reduceEqDiff, Nat.reduceAdd, Nat.add_left_cancel_iff, Nat.add_right_cancel_iff, reduceCtorEq, ↓reduceIte, and_self, and_true, true_and, and_false, false_and, true_or, or_true, false_or, or_false, not_true_eq_false, not_false_eq_true] at hc); (try simp only [w32_em] at hc)) | with_reducible refine wp_gi (by ((try simp (disch := omega) only [w32_and, w32_or, w32_shl, w32_shr, w32_xor, ixO, ixO0, ixO1, ixO2, ixO3, ixL0, ixL1, ixL2, ixC, ixB, ixI0, ixI00, ixI1, ixI2, ixI3, upd2_rd, upd2_nd, Nat.reduceEqDiff, Nat.reduceAdd, Nat.add_left_cancel_iff, Nat.add_right_cancel_iff, reduceCtorEq, ↓reduceIte, and_self, and_true, true_and, and_false, false_and, true_or, or_true, false_or, or_false, not_true_eq_false, not_false_eq_true]); (try simp only [w32_em]); (first | done | omega))) (by ((try simp (disch := omega) only [w32_and, w32_or, w32_shl, w32_shr, w32_xor, ixO, ixO0, ixO1, ixO2, ixO3, ixL0, ixL1, ixL2, ixC, ixB, ixI0, ixI00, ixI1, ixI2, ixI3, upd2_rd, upd2_nd, Nat.reduceEqDiff, Nat.reduceAdd, Nat.add_left_cancel_iff, Nat.add_right_cancel_iff, reduceCtorEq, ↓reduceIte, and_self, and_true, true_and, and_false, false_and, true_or, or_true, false_or, or_false, not_true_eq_false, not_false_eq_true]); (try simp only [w32_em]); (first | done | omega))) (by omega) ?_ | with_reducible refine wp_gz (by ((try simp (disch := omega) only [w32_and, w32_or, w32_shl, w32_shr, w32_xor, ixO, ixO0, ixO1, ixO2, ixO3, ixL0, ixL1, ixL2, ixC, ixB, ixI0, ixI00, ixI1, ixI2, ixI3, upd2_rd, upd2_nd, Nat.reduceEqDiff, Nat.reduceAdd, Nat.add_left_cancel_iff, Nat.add_right_cancel_iff, reduceCtorEq, ↓reduceIte, and_self, and_true, true_and, and_false, false_and, true_or, or_true, false_or, or_false, not_true_eq_false, not_false_eq_true]); (try simp only [w32_em]); (first | done | omega))) ?_ | dsimp only [Sum.elim_inl, Sum.elim_inr])) <;> (first | exact lf1 hI | exact lf2 hI | skip)
      refine ⟨by omega, ?_⟩
      by_cases e : L = ((i + 1 : Nat) : Int)
      · rw [show L.toNat = i + 1 by omega] at sp2
        exact absurd sp2 s2
      · omega
    · have := sp (i + 1) (by omega) s2
      (repeat' (first | with_reducible refine wp_bnd ?_ | with_reducible refine wp_cl1 ?_ | with_reducible refine wp_cl2 ?_ | with_reducible refine wp_cx1 ?_ | with_reducible refine wp_cx2 ?_ | with_reducible refine wp_some ?_ | with_reducible refine wp_ite_t (lcmp0 (by ((try simp (disch := omega) only [w32_and, w32_or, w32_shl, w32_shr, w32_xor, ixO, ixO0, ixO1, ixO2, ixO3, ixL0, ixL1, ixL2, ixC, ixB, ixI0, ixI00, ixI1, ixI2, ixI3, upd2_rd, upd2_nd, Nat.reduceEqDiff, Nat.reduceAdd, Nat.add_left_cancel_iff, Nat.add_right_cancel_iff, reduceCtorEq, ↓reduceIte, and_self, and_true, true_and, and_false, false_and, true_or, or_true, false_or, or_false, not_true_eq_false, not_false_eq_true]); (try simp only [w32_em]); (first | done | omega)))) ?_ | with_reducible refine wp_ite_t (by ((try simp (disch := omega) only [w32_and, w32_or, w32_shl, w32_shr, w32_xor, ixO, ixO0, ixO1, ixO2, ixO3, ixL0, ixL1, ixL2, ixC, ixB, ixI0, ixI00, ixI1, ixI2, ixI3, upd2_rd, upd2_nd, Nat.reduceEqDiff, Nat.reduceAdd, Nat.add_left_cancel_iff, Nat.add_right_cancel_iff, reduceCtorEq, ↓reduceIte, and_self, and_true, true_and, and_false, false_and, true_or, or_true, false_or, or_false, not_true_eq_false, not_false_eq_true]); (try simp only [w32_em]); (first | done | omega))) ?_ | with_reducible refine wp_ite_f (by ((try simp (disch := omega) only [w32_and, w32_or, w32_shl, w32_shr, w32_xor, ixO, ixO0, ixO1, ixO2, ixO3, ixL0, ixL1, ixL2, ixC, ixB, ixI0, ixI00, ixI1, ixI2, ixI3, upd2_rd, upd2_nd, Nat.reduceEqDiff, Nat.reduceAdd, Nat.add_left_cancel_iff, Nat.add_right_cancel_iff, reduceCtorEq, ↓reduceIte, and_self, and_true, true_and, and_false, false_and, true_or, or_true, false_or, or_false, not_true_eq_false, not_false_eq_true]); (try simp only [w32_em]); (first | done | omega))) ?_ | with_reducible refine wp_itei ?_ ?_ | (with_reducible refine wp_imp (fun hc => ?_); (try simp (disch := omega) only [w32_and, w32_or, w32_shl, w32_shr, w32_xor, ixO, ixO0, ixO1, ixO2, ixO3, ixL0, ixL1, ixL2, ixC, ixB, ixI0, ixI00, ixI1, ixI2, ixI3, upd2_rd, upd2_nd, Nat.reduceEqDiff, Nat.reduceAdd, Nat.add_left_cancel_iff, Nat.add_right_cancel_iff, reduceCtorEq, ↓reduceIte, and_self, and_true, true_and, and_false, false_and, true_or, or_true, false_or, or_false, not_true_eq_false, not_false_eq_true] at hc); (try simp only [w32_em] at hc)) | with_reducible refine wp_gi (by ((try simp (disch := omega) only [w32_and, w32_or, w32_shl, w32_shr, w32_xor, ixO, ixO0, ixO1, ixO2, ixO3, ixL0, ixL1, ixL2, ixC, ixB, ixI0, ixI00, ixI1, ixI2, ixI3, upd2_rd, upd2_nd, Nat.reduceEqDiff, Nat.reduceAdd, Nat.add_left_cancel_iff, Nat.add_right_cancel_iff, reduceCtorEq, ↓reduceIte, and_self, and_true, true_and, and_false, false_and, true_or, or_true, false_or, or_false, not_true_eq_false, not_false_eq_true]); (try simp only [w32_em]); (first | done | omega))) (by ((try simp (disch := omega) only [w32_and, w32_or, w32_shl, w32_shr, w32_xor, ixO, ixO0, ixO1, ixO2, ixO3, ixL0, ixL1, ixL2, ixC, ixB, ixI0, ixI00, ixI1, ixI2, ixI3, upd2_rd, upd2_nd, Nat.reduceEqDiff, Nat.reduceAdd, Nat.add_left_cancel_iff, Nat.add_right_cancel_iff, reduceCtorEq, ↓reduceIte, and_self, and_true, true_and, and_false, false_and, true_or, or_true, false_or, or_false, not_true_eq_false, not_false_eq_true]); (try simp only [w32_em]); (first | done | omega))) (by omega) ?_ | with_reducible refine wp_gz (by ((try simp (disch := omega) only [w32_and, w32_or, w32_shl, w32_shr, w32_xor, ixO, ixO0, ixO1, ixO2, ixO3, ixL0, ixL1, ixL2, ixC, ixB, ixI0, ixI00, ixI1, ixI2, ixI3, upd2_rd, upd2_nd, Nat.reduceEqDiff, Nat.reduceAdd, Nat.add_left_cancel_iff, Nat.add_right_cancel_iff, reduceCtorEq, ↓reduceIte, and_self, and_true, true_and, and_false, false_and, true_or, or_true, false_or, or_false, not_true_eq_false, not_false_eq_true]); (try simp only [w32_em]); (first | done | omega))) ?_ | dsimp only [Sum.elim_inl, Sum.elim_inr])) <;> (first | exact lf1 hI | exact lf2 hI | skip)
      omega
  · rintro y ⟨rfl, hH⟩
    omega
