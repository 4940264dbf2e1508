-- ===== the reference finds words =====
set_option maxHeartbeats 600000 in
theorem X12whi {t : Nat → Int} {n p v : Nat} {m : Mem} (hT : TXr t n m) (hp : p ≤ n) (hC : RTk t n p m) (hv : v < 12) {x2 : Int} : wp (wh (fun x => s_X12_wordHere_23 ((wOff.getD v 0 : Nat) : Int) x2 m x.1 x.2) (0, 1)) (fun r => ∃ f : Int, r = .inl (((lenS.getD v 0 : Nat) : Int), f) ∧ ((f = 1 ∧ ∀ k, k < lenS.getD v 0 → tS t n p + k < tE t n p ∧ t (tS t n p + k) = s_chr v (k : Int)) ∨ (f = 0 ∧ ¬ ∀ k, k < lenS.getD v 0 → tS t n p + k < tE t n p ∧ t (tS t n p + k) = s_chr v (k : Int)))) := by
  have h600 := hT.2.1
  have tr := tk_rng (t := t) hp
  have wd := w_dec v hv
  have wt := w_tab v hv
  obtain ⟨c26, c25, c24, _⟩ := hC
  have c156 : ∀ j, m 156 j = mW 156 j := fun j => by rw [hT.2.2.2]
  generalize wOff.getD v 0 = o at *
  generalize lenS.getD v 0 = len at *
  generalize tS t n p = s at *
  generalize tE t n p = e at *
  refine wp_forI (fun i x => x.1 = (i : Int) ∧ ((x.2 = 1 ∧ ∀ k, k < i → s + k < e ∧ t (s + k) = s_chr v (k : Int)) ∨ (x.2 = 0 ∧ ¬ ∀ k, k < i → s + k < e ∧ t (s + k) = s_chr v (k : Int)))) len ?_ ?_ (Nat.zero_le _) ⟨rfl, Or.inl ⟨rfl, fun k hk => by omega⟩⟩
  · rintro i ⟨x, f⟩ hi ⟨h1, h2⟩
    simp only at h1 h2
    subst h1
    have w := wt.1 i hi
    have xo : ix ((o : Int) + (i : Int)) = o + i := by rw [ix_of (by omega) (by omega)]; omega
    simp only [s_X12_wordHere_23, j_X12_wordHere_80_23, j_X12_wordHere_81_23, c24, c25, xo, c156, w.1]
    refine wp_gi (by omega) (by omega) (by omega) (wp_ite_f (by rw [w32_ok ⟨by omega, by omega⟩]; omega) ?_)
    have no : (¬ ∀ k, k < i + 1 → s + k < e ∧ t (s + k) = s_chr v (k : Int)) → Sum.elim (fun (x : Int × Int) => x.1 = ((i + 1 : Nat) : Int) ∧ ((x.2 = 1 ∧ ∀ k, k < i + 1 → s + k < e ∧ t (s + k) = s_chr v (k : Int)) ∨ (x.2 = 0 ∧ ¬ ∀ k, k < i + 1 → s + k < e ∧ t (s + k) = s_chr v (k : Int)))) (fun (r : (Int × Int) ⊕ Int) => ∃ f : Int, r = .inl ((len : Int), f) ∧ ((f = 1 ∧ ∀ k, k < len → s + k < e ∧ t (s + k) = s_chr v (k : Int)) ∨ (f = 0 ∧ ¬ ∀ k, k < len → s + k < e ∧ t (s + k) = s_chr v (k : Int)))) (Sum.inl ((i : Int) + 1, 0)) := fun h => ⟨by (try dsimp only); omega, Or.inr ⟨rfl, h⟩⟩
    rcases h2 with ⟨rfl, h2⟩ | ⟨rfl, h2⟩
    · refine wp_ite_f (by decide) ?_
      by_cases l : s + i < e
      · have et := hT.2.2.1 (s + i) (by omega)
        have xs : ix ((s : Int) + (i : Int)) = s + i := by rw [ix_of (by omega) (by omega)]; omega
        rw [xs, et.1]
        refine wp_ite_t (by ((try simp (disch := omega) only [w32_and, w32_or, w32_shl, w32_shr, w32_xor, ixO, ixO0, ixO1, ixO2, ixO3, ixL0, ixL1, ixL2, ixC, ixB, ixI0, ixI00, ixI1, ixI2, ixI3, upd2_rd, upd2_nd, Nat.reduceEqDiff, Nat.reduceAdd, Nat.add_left_cancel_iff, Nat.add_right_cancel_iff, reduceCtorEq, ↓reduceIte, and_self, and_true, true_and, and_false, false_and, true_or, or_true, false_or, or_false, not_true_eq_false, not_false_eq_true]); (try simp only [w32_em]); (first | done | omega))) (wp_gi (by omega) (by omega) (by omega) (wp_gi (by omega) (by omega) (by omega) ?_))
        by_cases c : t (s + i) = s_chr v (i : Int)
        · refine wp_ite_t (by rw [c]) (wp_bnd (wp_some ?_))
          refine ⟨by (try dsimp only); omega, Or.inl ⟨rfl, fun k hk => ?_⟩⟩
          by_cases ek : k = i
          · rw [ek]; exact ⟨l, c⟩
          · exact h2 k (by omega)
        · refine wp_ite_f (by rw [w32_ok ⟨by omega, by omega⟩, w32_ok ⟨by omega, by omega⟩]; exact c) (wp_bnd (wp_some (no (fun h => c (h i (by omega)).2))))
      · exact wp_ite_f (by ((try simp (disch := omega) only [w32_and, w32_or, w32_shl, w32_shr, w32_xor, ixO, ixO0, ixO1, ixO2, ixO3, ixL0, ixL1, ixL2, ixC, ixB, ixI0, ixI00, ixI1, ixI2, ixI3, upd2_rd, upd2_nd, Nat.reduceEqDiff, Nat.reduceAdd, Nat.add_left_cancel_iff, Nat.add_right_cancel_iff, reduceCtorEq, ↓reduceIte, and_self, and_true, true_and, and_false, false_and, true_or, or_true, false_or, or_false, not_true_eq_false, not_false_eq_true]); (try simp only [w32_em]); (first | done | omega))) (wp_bnd (wp_some (no (fun h => l (h i (by omega)).1))))
    · exact wp_ite_t (by decide) (wp_bnd (wp_some (no (fun h => h2 (fun k hk => h k (by omega))))))
  · rintro ⟨x, f⟩ ⟨h1, h2⟩
    simp only at h1 h2
    subst h1
    have xo : ix ((o : Int) + (len : Int)) = o + len := by rw [ix_of (by omega) (by omega)]; omega
    simp only [s_X12_wordHere_23, xo, c156, wt.2]
    exact wp_gi (by omega) (by omega) (by omega) (wp_ite_t (by decide) (wp_some ⟨f, rfl, h2⟩))
set_option maxHeartbeats 600000 in
theorem X12wh {t : Nat → Int} {n p : Nat} {m : Mem} (hT : TXr t n m) (hp : p ≤ n) (hC : RTk t n p m) : wp (f_X12_wordHere m) (fun r => (r = -1 ∧ ∀ v, v < 12 → ¬ WdI t n p v) ∨ ∃ v : Nat, v < 12 ∧ r = (v : Int) ∧ WdI t n p v) := by
  have h600 := hT.2.1
  have tr := tk_rng (t := t) hp
  have hC' := hC
  obtain ⟨c26, c25, c24, _⟩ := hC'
  unfold f_X12_wordHere
  have key : wp (wh (fun x => s_X12_wordHere_4 m x.1 x.2) (0, 0)) (fun r => (r = .inl () ∧ ∀ v, v < 12 → ¬ WdI t n p v) ∨ ∃ v : Nat, v < 12 ∧ r = .inr (v : Int) ∧ WdI t n p v) := by
    refine wp_forI (fun v x => x = (((wOff.getD v 0 : Nat) : Int), (v : Int)) ∧ ∀ w, w < v → ¬ WdI t n p w) 12 ?_ ?_ (Nat.zero_le _) ⟨rfl, fun w hw => by omega⟩
    · rintro v x hv ⟨rfl, hx⟩
      have wd := w_dec v hv
      have q1 : s_X12_wordHere_4 m ((wOff.getD v 0 : Nat) : Int) (v : Int) = (if w32 (m 139 26) = 1 then (if w32 (v : Int) < 12 then lpb (wh (fun x => s_X12_wordHere_23 ((wOff.getD v 0 : Nat) : Int) (v : Int) m x.1 x.2) (0, 1)) (fun z_5 => (if w32 z_5.2 = 0 then j_X12_wordHere_109_4 ((wOff.getD v 0 : Nat) : Int) (v : Int) z_5.1 m else (if w32 ((m 139 24) - (m 139 25)) = w32 z_5.1 then some (.inr (.inr (v : Int))) else j_X12_wordHere_109_4 ((wOff.getD v 0 : Nat) : Int) (v : Int) z_5.1 m))) (fun q => some (.inr (.inr q))) else some (.inr (.inl ()))) else some (.inr (.inl ()))) := rfl
      show wp (s_X12_wordHere_4 m ((wOff.getD v 0 : Nat) : Int) (v : Int)) _
      rw [q1, c26, c25, c24]
      by_cases k1 : tK t n p = 1
      · refine wp_ite_t (by ((try simp (disch := omega) only [w32_and, w32_or, w32_shl, w32_shr, w32_xor, ixO, ixO0, ixO1, ixO2, ixO3, ixL0, ixL1, ixL2, ixC, ixB, ixI0, ixI00, ixI1, ixI2, ixI3, upd2_rd, upd2_nd, Nat.reduceEqDiff, Nat.reduceAdd, Nat.add_left_cancel_iff, Nat.add_right_cancel_iff, reduceCtorEq, ↓reduceIte, and_self, and_true, true_and, and_false, false_and, true_or, or_true, false_or, or_false, not_true_eq_false, not_false_eq_true]); (try simp only [w32_em]); (first | done | omega))) (wp_ite_t (by ((try simp (disch := omega) only [w32_and, w32_or, w32_shl, w32_shr, w32_xor, ixO, ixO0, ixO1, ixO2, ixO3, ixL0, ixL1, ixL2, ixC, ixB, ixI0, ixI00, ixI1, ixI2, ixI3, upd2_rd, upd2_nd, Nat.reduceEqDiff, Nat.reduceAdd, Nat.add_left_cancel_iff, Nat.add_right_cancel_iff, reduceCtorEq, ↓reduceIte, and_self, and_true, true_and, and_false, false_and, true_or, or_true, false_or, or_false, not_true_eq_false, not_false_eq_true]); (try simp only [w32_em]); (first | done | omega))) (wp_lpb (wp_use (X12whi hT hp hC hv) (fun r hr => ?_))))
        obtain ⟨f, rfl, hf⟩ := hr
        dsimp only [Sum.elim_inl, Sum.elim_inr]
        have go : ¬ WdI t n p v → wp (j_X12_wordHere_109_4 ((wOff.getD v 0 : Nat) : Int) (v : Int) ((lenS.getD v 0 : Nat) : Int) m) (Sum.elim (fun x => x = (((wOff.getD (v + 1) 0 : Nat) : Int), ((v + 1 : Nat) : Int)) ∧ ∀ w, w < v + 1 → ¬ WdI t n p w) (fun r => (r = .inl () ∧ ∀ v, v < 12 → ¬ WdI t n p v) ∨ ∃ v : Nat, v < 12 ∧ r = .inr (v : Int) ∧ WdI t n p v)) := fun h => by
          unfold j_X12_wordHere_109_4
          refine wp_bnd (wp_bnd (wp_some ⟨?_, fun w hw => ?_⟩))
          · rw [wd.2.2.1, show ((wOff.getD v 0 : Nat) : Int) + (((lenS.getD v 0 : Nat) : Int) + 1) = ((wOff.getD v 0 + lenS.getD v 0 + 1 : Nat) : Int) by omega, show (v : Int) + 1 = ((v + 1 : Nat) : Int) by omega]
          · by_cases e : w = v
            · rw [e]; exact h
            · exact hx w (by omega)
        rcases hf with ⟨rfl, hf⟩ | ⟨rfl, hf⟩
        · refine wp_ite_f (by decide) ?_
          by_cases k2 : tE t n p = tS t n p + lenS.getD v 0
          · refine wp_ite_t (by rw [k2]; congr 1; omega) (wp_some ?_)
            exact Or.inr ⟨v, hv, rfl, k1, k2, fun k hk => (hf k hk).2⟩
          · exact wp_ite_f (by rw [w32_ok ⟨by omega, by omega⟩, w32_ok ⟨by omega, by omega⟩]; omega) (go (fun h => k2 h.2.1))
        · exact wp_ite_t (by decide) (go (fun h => hf (fun k hk => ⟨by have := h.2.1; omega, h.2.2 k hk⟩)))
      · refine wp_ite_f (by ((try simp (disch := omega) only [w32_and, w32_or, w32_shl, w32_shr, w32_xor, ixO, ixO0, ixO1, ixO2, ixO3, ixL0, ixL1, ixL2, ixC, ixB, ixI0, ixI00, ixI1, ixI2, ixI3, upd2_rd, upd2_nd, Nat.reduceEqDiff, Nat.reduceAdd, Nat.add_left_cancel_iff, Nat.add_right_cancel_iff, reduceCtorEq, ↓reduceIte, and_self, and_true, true_and, and_false, false_and, true_or, or_true, false_or, or_false, not_true_eq_false, not_false_eq_true]); (try simp only [w32_em]); (first | done | omega))) (wp_some ?_)
        exact Or.inl ⟨rfl, fun v _ h => k1 h.1⟩
    · rintro x ⟨rfl, hx⟩
      simp only [s_X12_wordHere_4, c26]
      by_cases k1 : tK t n p = 1
      · exact wp_ite_t (by ((try simp (disch := omega) only [w32_and, w32_or, w32_shl, w32_shr, w32_xor, ixO, ixO0, ixO1, ixO2, ixO3, ixL0, ixL1, ixL2, ixC, ixB, ixI0, ixI00, ixI1, ixI2, ixI3, upd2_rd, upd2_nd, Nat.reduceEqDiff, Nat.reduceAdd, Nat.add_left_cancel_iff, Nat.add_right_cancel_iff, reduceCtorEq, ↓reduceIte, and_self, and_true, true_and, and_false, false_and, true_or, or_true, false_or, or_false, not_true_eq_false, not_false_eq_true]); (try simp only [w32_em]); (first | done | omega))) (wp_ite_f (by decide) (wp_some (Or.inl ⟨rfl, hx⟩)))
      · exact wp_ite_f (by ((try simp (disch := omega) only [w32_and, w32_or, w32_shl, w32_shr, w32_xor, ixO, ixO0, ixO1, ixO2, ixO3, ixL0, ixL1, ixL2, ixC, ixB, ixI0, ixI00, ixI1, ixI2, ixI3, upd2_rd, upd2_nd, Nat.reduceEqDiff, Nat.reduceAdd, Nat.add_left_cancel_iff, Nat.add_right_cancel_iff, reduceCtorEq, ↓reduceIte, and_self, and_true, true_and, and_false, false_and, true_or, or_true, false_or, or_false, not_true_eq_false, not_false_eq_true]); (try simp only [w32_em]); (first | done | omega))) (wp_some (Or.inl ⟨rfl, fun v _ h => k1 h.1⟩))
  refine wp_lpb (wp_use key (fun r hr => ?_))
  rcases hr with ⟨rfl, h⟩ | ⟨v, hv, rfl, h⟩
  · exact wp_some (Or.inl ⟨rfl, h⟩)
  · exact wp_some (Or.inr ⟨v, hv, rfl, h⟩)
