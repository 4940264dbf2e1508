-- ===== words =====
def wOff : List Nat := [0, 5, 10, 16, 21, 27, 34, 40, 47, 54, 61, 65, 74]
/-- the token of place p is the word v -/
def WdI (t : Nat → Int) (n p v : Nat) : Prop := tK t n p = 1 ∧ tE t n p = tS t n p + lenS.getD v 0 ∧ ∀ k : Nat, k < lenS.getD v 0 → t (tS t n p + k) = s_chr v (k : Int)
set_option maxHeartbeats 600000 in
theorem w_dec : ∀ v, v < 12 → lenS.getD v 0 ≤ 8 ∧ 1 ≤ lenS.getD v 0 ∧ wOff.getD (v + 1) 0 = wOff.getD v 0 + lenS.getD v 0 + 1 ∧ wOff.getD v 0 + lenS.getD v 0 < 74 := by decide +kernel
set_option maxHeartbeats 600000 in
theorem w_tab : ∀ v, v < 12 → (∀ k, k < lenS.getD v 0 → mW 156 (wOff.getD v 0 + k) = s_chr v (k : Int) ∧ 97 ≤ s_chr v (k : Int) ∧ s_chr v (k : Int) ≤ 122) ∧ mW 156 (wOff.getD v 0 + lenS.getD v 0) = 32 := by decide +kernel
set_option maxHeartbeats 600000 in
theorem w_dif : ∀ v, v < 12 → ∀ w, w < 12 → v = w ∨ lenS.getD v 0 ≠ lenS.getD w 0 ∨ ∃ k, k < lenS.getD v 0 ∧ s_chr v (k : Int) ≠ s_chr w (k : Int) := by decide +kernel
set_option maxHeartbeats 600000 in
theorem Wd_one {t : Nat → Int} {n p v w : Nat} (hv : v < 12) (hw : w < 12) (h1 : WdI t n p v) (h2 : WdI t n p w) : v = w := by
  rcases w_dif v hv w hw with h | h | ⟨k, hk, h⟩
  · exact h
  · exact absurd (by have := h1.2.1; have := h2.2.1; omega) h
  · have e : lenS.getD v 0 = lenS.getD w 0 := by have := h1.2.1; have := h2.2.1; omega
    exact absurd ((h1.2.2 k hk).symm.trans (h2.2.2 k (by omega))) h
set_option maxHeartbeats 600000 in
theorem X10isW {t : Nat → Int} {n p v : Nat} {m : Mem} (hT : TXt t n m) (hp : p ≤ n) (hC : CTk t n p m) (hv : v < 12) : wp (f_X10_isWord v m) (fun r => (r = 1 ∧ WdI t n p v) ∨ (r = 0 ∧ ¬ WdI t n p v)) := by
  have h600 := hT.2.1
  have tr := tk_rng (t := t) hp
  have wd := w_dec v hv
  obtain ⟨c4, c5, c6, _⟩ := hC
  have sl : s_len v = ((lenS.getD v 0 : Nat) : Int) := rfl
  unfold f_X10_isWord
  rw [c4, c5, c6, sl]
  by_cases k1 : tK t n p = 1
  · refine wp_ite_t (by ((try simp (disch := omega) only [w32_and, w32_or, w32_shl, w32_shr, w32_xor, ixO, ixO0, ixO1, ixO2, ixO3, ixL0, ixL1, ixL2, ixC, ixB, ixI0, ixI00, ixI1, ixI2, ixI3, upd2_rd, upd2_nd, Nat.reduceEqDiff, Nat.reduceAdd, Nat.add_left_cancel_iff, Nat.add_right_cancel_iff, reduceCtorEq, ↓reduceIte, and_self, and_true, true_and, and_false, false_and, true_or, or_true, false_or, or_false, not_true_eq_false, not_false_eq_true]); (try simp only [w32_em]); (first | done | omega))) ?_
    by_cases k2 : tE t n p = tS t n p + lenS.getD v 0
    · refine wp_ite_t (by rw [k2]; congr 1; omega) ?_
      have key : wp (wh (fun x => s_X10_isWord_28 v m x) 0) (fun r => (r = .inl () ∧ WdI t n p v) ∨ (r = .inr 0 ∧ ¬ WdI t n p v)) := by
        refine wp_forI (fun i x => x = (i : Int) ∧ ∀ k : Nat, k < i → t (tS t n p + k) = s_chr v (k : Int)) (lenS.getD v 0) ?_ ?_ (Nat.zero_le _) ⟨rfl, fun k hk => by omega⟩
        · rintro i x hi ⟨rfl, hx⟩
          have xi : ix (((tS t n p : Nat) : Int) + (i : Int)) = tS t n p + i := by rw [ix_of (by omega) (by omega)]; omega
          have et := hT.2.2 (tS t n p + i) (by omega)
          have wt := (w_tab v hv).1 i hi
          simp only [s_X10_isWord_28, c5, sl, xi, et.1]
          refine wp_ite_t (by ((try simp (disch := omega) only [w32_and, w32_or, w32_shl, w32_shr, w32_xor, ixO, ixO0, ixO1, ixO2, ixO3, ixL0, ixL1, ixL2, ixC, ixB, ixI0, ixI00, ixI1, ixI2, ixI3, upd2_rd, upd2_nd, Nat.reduceEqDiff, Nat.reduceAdd, Nat.add_left_cancel_iff, Nat.add_right_cancel_iff, reduceCtorEq, ↓reduceIte, and_self, and_true, true_and, and_false, false_and, true_or, or_true, false_or, or_false, not_true_eq_false, not_false_eq_true]); (try simp only [w32_em]); (first | done | omega))) (wp_gi (by omega) (by omega) (by omega) ?_)
          have g : ∀ {α : Type} {K : Option α} {Q : α → Prop}, wp K Q → wp (gs v (i : Int) K) Q := fun h => by
            unfold gs
            exact wp_ite_t (by rw [w32_nat (by omega), sl]; omega) h
          refine g ?_
          by_cases c : t (tS t n p + i) = s_chr v (i : Int)
          · refine wp_ite_t (by rw [c]) (wp_bnd (wp_some ?_))
            refine ⟨by omega, fun k hk => ?_⟩
            by_cases e : k = i
            · rw [e]; exact c
            · exact hx k (by omega)
          · refine wp_ite_f (by rw [w32_ok ⟨by omega, by omega⟩, w32_ok ⟨by omega, by omega⟩]; exact c) (wp_some ?_)
            exact Or.inr ⟨rfl, fun h => c (h.2.2 i hi)⟩
        · rintro x ⟨rfl, hx⟩
          simp only [s_X10_isWord_28, sl]
          refine wp_ite_f (by ((try simp (disch := omega) only [w32_and, w32_or, w32_shl, w32_shr, w32_xor, ixO, ixO0, ixO1, ixO2, ixO3, ixL0, ixL1, ixL2, ixC, ixB, ixI0, ixI00, ixI1, ixI2, ixI3, upd2_rd, upd2_nd, Nat.reduceEqDiff, Nat.reduceAdd, Nat.add_left_cancel_iff, Nat.add_right_cancel_iff, reduceCtorEq, ↓reduceIte, and_self, and_true, true_and, and_false, false_and, true_or, or_true, false_or, or_false, not_true_eq_false, not_false_eq_true]); (try simp only [w32_em]); (first | done | omega))) (wp_some ?_)
          exact Or.inl ⟨rfl, k1, k2, hx⟩
      refine wp_lpb (wp_use key (fun r hr => ?_))
      rcases hr with ⟨rfl, h⟩ | ⟨rfl, h⟩
      · exact wp_some (Or.inl ⟨rfl, h⟩)
      · exact wp_some (Or.inr ⟨rfl, h⟩)
    · refine wp_ite_f (by rw [w32_ok ⟨by omega, by omega⟩, w32_ok ⟨by omega, by omega⟩]; omega) (wp_some (Or.inr ⟨rfl, fun h => k2 h.2.1⟩))
  · exact wp_ite_f (by ((try simp (disch := omega) only [w32_and, w32_or, w32_shl, w32_shr, w32_xor, ixO, ixO0, ixO1, ixO2, ixO3, ixL0, ixL1, ixL2, ixC, ixB, ixI0, ixI00, ixI1, ixI2, ixI3, upd2_rd, upd2_nd, Nat.reduceEqDiff, Nat.reduceAdd, Nat.add_left_cancel_iff, Nat.add_right_cancel_iff, reduceCtorEq, ↓reduceIte, and_self, and_true, true_and, and_false, false_and, true_or, or_true, false_or, or_false, not_true_eq_false, not_false_eq_true]); (try simp only [w32_em]); (first | done | omega))) (wp_some (Or.inr ⟨rfl, fun h => k1 h.1⟩))
