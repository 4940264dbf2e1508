-- ===== items, orders, lines appended =====
/-- a stop for the rules: what is behind it is shown by hand -/
def stp (P : Prop) : Prop := P
theorem stp_mk {P : Prop} (h : stp P) : P := h
def opItem (N : Nat → Int) (a p w s : Int) : Nat → Int := fun k => if k = 3 then N 3 + 1 else if k = 13 + 4 * (N 3).toNat then a else if k = 14 + 4 * (N 3).toNat then p else if k = 15 + 4 * (N 3).toNat then w else if k = 16 + 4 * (N 3).toNat then s else N k
def opOrder (N : Nat → Int) (due : Int) : Nat → Int := fun k => if k = 4 then N 4 + 1 else if k = 109 + 22 * (N 4).toNat then due else if 109 + 22 * (N 4).toNat ≤ k ∧ k < 131 + 22 * (N 4).toNat then 0 else N k
def opLine (N : Nat → Int) (o : Nat) (i q : Int) : Nat → Int := fun j => if j = 111 + 22 * o then N (111 + 22 * o) + 1 else if j = 113 + 22 * o + 3 * lnN N o then i else if j = 114 + 22 * o + 3 * lnN N o then q else if j = 115 + 22 * o + 3 * lnN N o then 0 else N j
theorem HR_item {h : Nat} {M M' : Mem} {N : Nat → Int} (hR : HR h M N) (hW : WF N) (h3 : N 3 < 24) {a p w s : Int}
    (e : ∀ d, 1 ≤ d → d < 18 → (d < 4 ∨ 8 < d) → M' (h + d) = M (h + d)) (e4 : M' (h + 4) 0 = N 3 + 1)
    (e5 : ∀ i, M' (h + 5) i = if i = (N 3).toNat then a else M (h + 5) i) (e6 : ∀ i, M' (h + 6) i = if i = (N 3).toNat then p else M (h + 6) i)
    (e7 : ∀ i, M' (h + 7) i = if i = (N 3).toNat then w else M (h + 7) i) (e8 : ∀ i, M' (h + 8) i = if i = (N 3).toNat then s else M (h + 8) i) : HR h M' (opItem N a p w s) := by
  have hw := hW.1
  refine HR_mk hR hW (fun d a b => e d (by omega) (by omega) (by omega)) ?_ (Or.inr ⟨?_, fun i hi => ?_⟩) (Or.inl ⟨fun d a b => e d (by omega) (by omega) (by omega), ?_⟩) (Or.inl ⟨fun d a b => e d (by omega) (by omega) (by omega), ?_⟩)
  · intro k hk; simp (disch := omega) only [opItem, if_neg]
  · simp only [opItem, ↓reduceIte]; exact e4
  · have c := (HR_C hR).2 i
    simp only [opItem, ↓reduceIte] at hi
    rw [e5, e6, e7, e8]
    unfold opItem
    by_cases q : i = (N 3).toNat
    · subst q
      simp (disch := omega) only [if_neg, if_pos, ↓reduceIte, and_self]
    · have c := c (by omega)
      simp (disch := omega) only [if_neg, q]
      simpa using c
  · intro k hk; simp (disch := omega) only [opItem, if_neg]
  · intro k hk; simp (disch := omega) only [opItem, if_neg]
theorem WF_item {N : Nat → Int} (hW : WF N) (h3 : N 3 < 24) {a p w s : Int} (ha : 0 ≤ a ∧ a < N 0) (hp : 1 ≤ p ∧ p ≤ N 1) (hw1 : 1 ≤ w ∧ w ≤ 50) (hs : 0 ≤ s ∧ s ≤ 999) : WF (opItem N a p w s) := by
  have hw := hW.1
  have x3 : opItem N a p w s 3 = N 3 + 1 := by simp only [opItem, ↓reduceIte]
  have x0 : ∀ k, k ≤ 2 ∨ 4 ≤ k ∧ k ≤ 12 ∨ 109 ≤ k → opItem N a p w s k = N k := by intro k hk; simp (disch := omega) only [opItem, if_neg]
  refine WF_mk hW (fun k hk => x0 k (by omega)) (by rw [x3]; omega) (by rw [x0 4 (by omega)]; omega) (by rw [x0 5 (by omega)]; omega) (Or.inr (fun i hi => ?_)) (Or.inl (fun k hk => x0 k (by omega))) (Or.inl ⟨fun k hk => x0 k (by omega), by rw [x0 4 (by omega)]; omega, fun o _ h => by rw [x0 _ (by omega)]; exact h⟩) (Or.inl ⟨fun k hk => x0 k (by omega), fun o ho h => by rw [x0 _ (by omega)] at ho h; exact ⟨ho, h⟩⟩)
  rw [x3] at hi
  unfold WFi
  rw [x0 0 (by omega), x0 1 (by omega)]
  by_cases q : i = (N 3).toNat
  · subst q
    simp (disch := omega) only [opItem, if_neg, if_pos, ↓reduceIte]
    omega
  · have c := hW.2.2.2.1 i (by omega)
    unfold WFi at c
    simp (disch := omega) only [opItem, if_neg]
    exact c
theorem X12adds {M : Mem} {N : Nat → Int} (hN : M 140 = N) (hW : WF N) (h3 : N 3 < 24) {a p w s : Int} : wp (f_X12_adds a p w s M) (fun r => r.1 = N 3 ∧ r.2 140 = opItem N a p w s ∧ ∀ b, b ≠ 140 → r.2 b = M b) := by
  subst hN
  have hw := hW.1
  obtain ⟨n, hn⟩ : ∃ n : Nat, M 140 3 = (n : Int) := ⟨(M 140 3).toNat, by omega⟩
  simp only [f_X12_adds, hn]
  (repeat' (first | with_reducible refine wp_bnd ?_ | with_reducible refine wp_cl1 ?_ | with_reducible refine wp_cl2 ?_ | with_reducible refine wp_cx1 ?_ | with_reducible refine wp_cx2 ?_ | with_reducible refine wp_some ?_ | with_reducible refine wp_ite_t (lcmp0 (by ((try simp (disch := omega) only [w32_and, w32_or, w32_shl, w32_shr, w32_xor, ixO, ixO0, ixO1, ixO2, ixO3, ixL0, ixL1, ixL2, ixC, ixB, ixI0, ixI00, ixI1, ixI2, ixI3, upd2_rd, upd2_nd, Nat.reduceEqDiff, Nat.reduceAdd, Nat.add_left_cancel_iff, Nat.add_right_cancel_iff, reduceCtorEq, ↓reduceIte, and_self, and_true, true_and, and_false, false_and, true_or, or_true, false_or, or_false, not_true_eq_false, not_false_eq_true]); (try simp only [w32_em]); (first | done | omega)))) ?_ | with_reducible refine wp_ite_t (by ((try simp (disch := omega) only [w32_and, w32_or, w32_shl, w32_shr, w32_xor, ixO, ixO0, ixO1, ixO2, ixO3, ixL0, ixL1, ixL2, ixC, ixB, ixI0, ixI00, ixI1, ixI2, ixI3, upd2_rd, upd2_nd, Nat.reduceEqDiff, Nat.reduceAdd, Nat.add_left_cancel_iff, Nat.add_right_cancel_iff, reduceCtorEq, ↓reduceIte, and_self, and_true, true_and, and_false, false_and, true_or, or_true, false_or, or_false, not_true_eq_false, not_false_eq_true]); (try simp only [w32_em]); (first | done | omega))) ?_ | with_reducible refine wp_ite_f (by ((try simp (disch := omega) only [w32_and, w32_or, w32_shl, w32_shr, w32_xor, ixO, ixO0, ixO1, ixO2, ixO3, ixL0, ixL1, ixL2, ixC, ixB, ixI0, ixI00, ixI1, ixI2, ixI3, upd2_rd, upd2_nd, Nat.reduceEqDiff, Nat.reduceAdd, Nat.add_left_cancel_iff, Nat.add_right_cancel_iff, reduceCtorEq, ↓reduceIte, and_self, and_true, true_and, and_false, false_and, true_or, or_true, false_or, or_false, not_true_eq_false, not_false_eq_true]); (try simp only [w32_em]); (first | done | omega))) ?_ | with_reducible refine wp_itei ?_ ?_ | (with_reducible refine wp_imp (fun hc => ?_); (try simp (disch := omega) only [w32_and, w32_or, w32_shl, w32_shr, w32_xor, ixO, ixO0, ixO1, ixO2, ixO3, ixL0, ixL1, ixL2, ixC, ixB, ixI0, ixI00, ixI1, ixI2, ixI3, upd2_rd, upd2_nd, Nat.reduceEqDiff, Nat.reduceAdd, Nat.add_left_cancel_iff, Nat.add_right_cancel_iff, reduceCtorEq, ↓reduceIte, and_self, and_true, true_and, and_false, false_and, true_or, or_true, false_or, or_false, not_true_eq_false, not_false_eq_true] at hc); (try simp only [w32_em] at hc)) | with_reducible refine wp_gi (by ((try simp (disch := omega) only [w32_and, w32_or, w32_shl, w32_shr, w32_xor, ixO, ixO0, ixO1, ixO2, ixO3, ixL0, ixL1, ixL2, ixC, ixB, ixI0, ixI00, ixI1, ixI2, ixI3, upd2_rd, upd2_nd, Nat.reduceEqDiff, Nat.reduceAdd, Nat.add_left_cancel_iff, Nat.add_right_cancel_iff, reduceCtorEq, ↓reduceIte, and_self, and_true, true_and, and_false, false_and, true_or, or_true, false_or, or_false, not_true_eq_false, not_false_eq_true]); (try simp only [w32_em]); (first | done | omega))) (by ((try simp (disch := omega) only [w32_and, w32_or, w32_shl, w32_shr, w32_xor, ixO, ixO0, ixO1, ixO2, ixO3, ixL0, ixL1, ixL2, ixC, ixB, ixI0, ixI00, ixI1, ixI2, ixI3, upd2_rd, upd2_nd, Nat.reduceEqDiff, Nat.reduceAdd, Nat.add_left_cancel_iff, Nat.add_right_cancel_iff, reduceCtorEq, ↓reduceIte, and_self, and_true, true_and, and_false, false_and, true_or, or_true, false_or, or_false, not_true_eq_false, not_false_eq_true]); (try simp only [w32_em]); (first | done | omega))) (by omega) ?_ | with_reducible refine wp_gz (by ((try simp (disch := omega) only [w32_and, w32_or, w32_shl, w32_shr, w32_xor, ixO, ixO0, ixO1, ixO2, ixO3, ixL0, ixL1, ixL2, ixC, ixB, ixI0, ixI00, ixI1, ixI2, ixI3, upd2_rd, upd2_nd, Nat.reduceEqDiff, Nat.reduceAdd, Nat.add_left_cancel_iff, Nat.add_right_cancel_iff, reduceCtorEq, ↓reduceIte, and_self, and_true, true_and, and_false, false_and, true_or, or_true, false_or, or_false, not_true_eq_false, not_false_eq_true]); (try simp only [w32_em]); (first | done | omega))) ?_ | dsimp only [Sum.elim_inl, Sum.elim_inr])) <;> (first | exact lf1 hI | exact lf2 hI | skip)
  simp (disch := omega) only [ixO, ixO0, ixO1, ixO2, ixO3, ixL0, ixL1, ixL2, ixC, ixB, ixI0, ixI00, ixI1, ixI2, ixI3]
  refine ⟨?_, ?_, ?_⟩
  · (simp (disch := omega) only [ixO, ixO0, ixO1, ixO2, ixO3, ixL0, ixL1, ixL2, ixC, ixB, ixI0, ixI00, ixI1, ixI2, ixI3, upd2_rd, upd2_nd, Nat.reduceEqDiff, Nat.reduceAdd, Nat.add_left_cancel_iff, Nat.add_right_cancel_iff, reduceCtorEq, ↓reduceIte, and_self, and_true, true_and, and_false, false_and, true_or, or_true, false_or, or_false, not_true_eq_false, not_false_eq_true, if_pos, if_neg])
    omega
  · funext k
    unfold opItem
    rw [hn, Int.toNat_natCast]
    (simp (disch := omega) only [ixO, ixO0, ixO1, ixO2, ixO3, ixL0, ixL1, ixL2, ixC, ixB, ixI0, ixI00, ixI1, ixI2, ixI3, upd2_rd, upd2_nd, Nat.reduceEqDiff, Nat.reduceAdd, Nat.add_left_cancel_iff, Nat.add_right_cancel_iff, reduceCtorEq, ↓reduceIte, and_self, and_true, true_and, and_false, false_and, true_or, or_true, false_or, or_false, not_true_eq_false, not_false_eq_true, if_pos, if_neg])
    (repeat' split) <;> (first | rfl | omega)
  · intro b hb
    simp (disch := omega) only [upd2_ne]
theorem HR_order {h : Nat} {M M' : Mem} {N : Nat → Int} (hR : HR h M N) (hW : WF N) (h4 : N 4 < 16) {due : Int}
    (e : ∀ d, 1 ≤ d → d < 18 → (d < 9 ∨ 12 < d) → M' (h + d) = M (h + d)) (e9 : M' (h + 9) 0 = N 4 + 1) (e91 : M' (h + 9) 1 = M (h + 9) 1)
    (e10 : ∀ i, M' (h + 10) i = if i = (N 4).toNat then due else M (h + 10) i) (e11 : ∀ i, M' (h + 11) i = if i = (N 4).toNat then 0 else M (h + 11) i)
    (e12 : ∀ i, M' (h + 12) i = if i = (N 4).toNat then 0 else M (h + 12) i) : HR h M' (opOrder N due) := by
  have hw := hW.1
  have x4 : opOrder N due 4 = N 4 + 1 := by simp only [opOrder, ↓reduceIte]
  have x0 : ∀ k, k ≤ 3 ∨ 5 ≤ k ∧ k < 109 ∨ 461 ≤ k → opOrder N due k = N k := by intro k hk; simp (disch := omega) only [opOrder, if_neg]
  refine HR_mk hR hW (fun d a b => e d (by omega) (by omega) (by omega)) (fun k hk => x0 k (by omega)) (Or.inl ⟨fun d a b => e d (by omega) (by omega) (by omega), fun k hk => x0 k (by omega)⟩) (Or.inr ?_) (Or.inl ⟨fun d a b => e d (by omega) (by omega) (by omega), fun k hk => x0 k (by omega)⟩)
  have d := HR_D hR
  unfold HRD at d ⊢
  rw [x4, e9, e91, e 13 (by omega) (by omega) (by omega), e 14 (by omega) (by omega) (by omega), e 15 (by omega) (by omega) (by omega)]
  refine ⟨rfl, d.2.1, ⟨d.2.2.1.1, fun o ho => d.2.2.1.2 o (by omega)⟩, fun o ho => ?_⟩
  rw [e10, e11, e12]
  by_cases q : o = (N 4).toNat
  · subst q
    have b0 := d.2.2.1.2 (N 4).toNat (by omega)
    rw [b0]
    unfold opOrder
    simp (disch := omega) only [if_neg, if_pos, ↓reduceIte]
    refine ⟨by trivial, by trivial, by trivial, by simp, fun k hk => by omega⟩
  · have c := d.2.2.2 o (by omega)
    have w := hW.2.2.2.2.1 o (by omega)
    unfold WFo at w
    have y : ∀ k, 109 + 22 * o ≤ k → k < 131 + 22 * o → opOrder N due k = N k := by intro k k1 k2; simp (disch := omega) only [opOrder, if_neg]
    rw [y _ (by omega) (by omega), y _ (by omega) (by omega), y _ (by omega) (by omega), y _ (by omega) (by omega), if_neg q, if_neg q, if_neg q]
    refine ⟨c.1, c.2.1, c.2.2.1, c.2.2.2.1, fun k hk => ?_⟩
    rw [y _ (by omega) (by omega), y _ (by omega) (by omega), y _ (by omega) (by omega)]
    exact c.2.2.2.2 k hk
theorem WF_order {N : Nat → Int} (hW : WF N) (h4 : N 4 < 16) {due : Int} (hd : 0 ≤ due ∧ due ≤ 9999) : WF (opOrder N due) := by
  have hw := hW.1
  have x4 : opOrder N due 4 = N 4 + 1 := by simp only [opOrder, ↓reduceIte]
  have x0 : ∀ k, k ≤ 3 ∨ 5 ≤ k ∧ k < 109 ∨ 461 ≤ k → opOrder N due k = N k := by intro k hk; simp (disch := omega) only [opOrder, if_neg]
  have y : ∀ o k : Nat, (o : Int) < N 4 → 109 + 22 * o ≤ k → k < 131 + 22 * o → opOrder N due k = N k := by intro o k ho k1 k2; simp (disch := omega) only [opOrder, if_neg]
  refine WF_mk hW (fun k hk => x0 k (by omega)) (by rw [x0 3 (by omega)]; omega) (by rw [x4]; omega) (by rw [x0 5 (by omega)]; omega) (Or.inl (fun k hk => x0 k (by omega))) (Or.inr (fun o ho => ?_)) (Or.inl ⟨fun k hk => x0 k (by omega), by rw [x4]; omega, fun o ho h => by rw [y o _ ho (by omega) (by omega)]; exact h⟩) (Or.inl ⟨fun k hk => x0 k (by omega), fun o ho h => ?_⟩)
  rotate_left
  · rw [x4] at ho
    by_cases q : o = (N 4).toNat
    · subst q
      have e : opOrder N due (110 + 22 * (N 4).toNat) = 0 := by unfold opOrder; simp (disch := omega) only [if_neg, if_pos, ↓reduceIte]
      omega
    · rw [y o _ (by omega) (by omega) (by omega)] at h
      exact ⟨by omega, h⟩
  rw [x4] at ho
  by_cases q : o = (N 4).toNat
  · subst q
    unfold WFo
    rw [x0 3 (by omega)]
    unfold opOrder
    simp (disch := omega) only [if_neg, if_pos, ↓reduceIte]
    refine ⟨hd.1, hd.2, by omega, by omega, by omega, by omega, fun k hk => by omega⟩
  · have w := hW.2.2.2.2.1 o (by omega)
    unfold WFo at w ⊢
    rw [x0 3 (by omega), y o _ (by omega) (by omega) (by omega), y o _ (by omega) (by omega) (by omega), y o _ (by omega) (by omega) (by omega)]
    refine ⟨w.1, w.2.1, w.2.2.1, w.2.2.2.1, w.2.2.2.2.1, w.2.2.2.2.2.1, fun k hk => ?_⟩
    rw [y o _ (by omega) (by omega) (by omega), y o _ (by omega) (by omega) (by omega), y o _ (by omega) (by omega) (by omega)]
    exact w.2.2.2.2.2.2 k hk
theorem X12opens {M : Mem} {N : Nat → Int} (hN : M 140 = N) (hW : WF N) (h4 : N 4 < 16) {due : Int} : wp (f_X12_opensOrder due M) (fun r => r.1 = N 4 ∧ r.2 140 = opOrder N due ∧ ∀ b, b ≠ 140 → r.2 b = M b) := by
  subst hN
  have hw := hW.1
  obtain ⟨n, hn⟩ : ∃ n : Nat, M 140 4 = (n : Int) := ⟨(M 140 4).toNat, by omega⟩
  simp only [f_X12_opensOrder]
  refine wp_bnd (wp_lpb ?_)
  rw [hn]
  refine wp_forI (fun i x => x.1 = (i : Int) ∧ (∀ b, b ≠ 140 → x.2 b = M b) ∧ ∀ k, x.2 140 k = if 109 + 22 * n ≤ k ∧ k < 109 + 22 * n + i then 0 else M 140 k) 22 ?_ ?_ (Nat.zero_le _) ⟨rfl, fun b _ => rfl, fun k => ?_⟩
  · rintro i ⟨c, m⟩ hi ⟨h1, h2, h3⟩
    simp only at h1 h2 h3
    subst h1
    simp only [s_X12_opensOrder_9, f_X12_orderAt]
    (repeat' (first | with_reducible refine wp_bnd ?_ | with_reducible refine wp_cl1 ?_ | with_reducible refine wp_cl2 ?_ | with_reducible refine wp_cx1 ?_ | with_reducible refine wp_cx2 ?_ | with_reducible refine wp_some ?_ | with_reducible refine wp_ite_t (lcmp0 (by ((try simp (disch := omega) only [w32_and, w32_or, w32_shl, w32_shr, w32_xor, ixO, ixO0, ixO1, ixO2, ixO3, ixL0, ixL1, ixL2, ixC, ixB, ixI0, ixI00, ixI1, ixI2, ixI3, upd2_rd, upd2_nd, Nat.reduceEqDiff, Nat.reduceAdd, Nat.add_left_cancel_iff, Nat.add_right_cancel_iff, reduceCtorEq, ↓reduceIte, and_self, and_true, true_and, and_false, false_and, true_or, or_true, false_or, or_false, not_true_eq_false, not_false_eq_true]); (try simp only [w32_em]); (first | done | omega)))) ?_ | with_reducible refine wp_ite_t (by ((try simp (disch := omega) only [w32_and, w32_or, w32_shl, w32_shr, w32_xor, ixO, ixO0, ixO1, ixO2, ixO3, ixL0, ixL1, ixL2, ixC, ixB, ixI0, ixI00, ixI1, ixI2, ixI3, upd2_rd, upd2_nd, Nat.reduceEqDiff, Nat.reduceAdd, Nat.add_left_cancel_iff, Nat.add_right_cancel_iff, reduceCtorEq, ↓reduceIte, and_self, and_true, true_and, and_false, false_and, true_or, or_true, false_or, or_false, not_true_eq_false, not_false_eq_true]); (try simp only [w32_em]); (first | done | omega))) ?_ | with_reducible refine wp_ite_f (by ((try simp (disch := omega) only [w32_and, w32_or, w32_shl, w32_shr, w32_xor, ixO, ixO0, ixO1, ixO2, ixO3, ixL0, ixL1, ixL2, ixC, ixB, ixI0, ixI00, ixI1, ixI2, ixI3, upd2_rd, upd2_nd, Nat.reduceEqDiff, Nat.reduceAdd, Nat.add_left_cancel_iff, Nat.add_right_cancel_iff, reduceCtorEq, ↓reduceIte, and_self, and_true, true_and, and_false, false_and, true_or, or_true, false_or, or_false, not_true_eq_false, not_false_eq_true]); (try simp only [w32_em]); (first | done | omega))) ?_ | with_reducible refine wp_itei ?_ ?_ | (with_reducible refine wp_imp (fun hc => ?_); (try simp (disch := omega) only [w32_and, w32_or, w32_shl, w32_shr, w32_xor, ixO, ixO0, ixO1, ixO2, ixO3, ixL0, ixL1, ixL2, ixC, ixB, ixI0, ixI00, ixI1, ixI2, ixI3, upd2_rd, upd2_nd, Nat.reduceEqDiff, Nat.reduceAdd, Nat.add_left_cancel_iff, Nat.add_right_cancel_iff, reduceCtorEq, ↓reduceIte, and_self, and_true, true_and, and_false, false_and, true_or, or_true, false_or, or_false, not_true_eq_false, not_false_eq_true] at hc); (try simp only [w32_em] at hc)) | with_reducible refine wp_gi (by ((try simp (disch := omega) only [w32_and, w32_or, w32_shl, w32_shr, w32_xor, ixO, ixO0, ixO1, ixO2, ixO3, ixL0, ixL1, ixL2, ixC, ixB, ixI0, ixI00, ixI1, ixI2, ixI3, upd2_rd, upd2_nd, Nat.reduceEqDiff, Nat.reduceAdd, Nat.add_left_cancel_iff, Nat.add_right_cancel_iff, reduceCtorEq, ↓reduceIte, and_self, and_true, true_and, and_false, false_and, true_or, or_true, false_or, or_false, not_true_eq_false, not_false_eq_true]); (try simp only [w32_em]); (first | done | omega))) (by ((try simp (disch := omega) only [w32_and, w32_or, w32_shl, w32_shr, w32_xor, ixO, ixO0, ixO1, ixO2, ixO3, ixL0, ixL1, ixL2, ixC, ixB, ixI0, ixI00, ixI1, ixI2, ixI3, upd2_rd, upd2_nd, Nat.reduceEqDiff, Nat.reduceAdd, Nat.add_left_cancel_iff, Nat.add_right_cancel_iff, reduceCtorEq, ↓reduceIte, and_self, and_true, true_and, and_false, false_and, true_or, or_true, false_or, or_false, not_true_eq_false, not_false_eq_true]); (try simp only [w32_em]); (first | done | omega))) (by omega) ?_ | with_reducible refine wp_gz (by ((try simp (disch := omega) only [w32_and, w32_or, w32_shl, w32_shr, w32_xor, ixO, ixO0, ixO1, ixO2, ixO3, ixL0, ixL1, ixL2, ixC, ixB, ixI0, ixI00, ixI1, ixI2, ixI3, upd2_rd, upd2_nd, Nat.reduceEqDiff, Nat.reduceAdd, Nat.add_left_cancel_iff, Nat.add_right_cancel_iff, reduceCtorEq, ↓reduceIte, and_self, and_true, true_and, and_false, false_and, true_or, or_true, false_or, or_false, not_true_eq_false, not_false_eq_true]); (try simp only [w32_em]); (first | done | omega))) ?_ | dsimp only [Sum.elim_inl, Sum.elim_inr])) <;> (first | exact lf1 hI | exact lf2 hI | skip)
    rw [show ix (109 + 22 * (n : Int) + (i : Int)) = 109 + 22 * n + i by rw [ix_of (by omega) (by omega)]; omega]
    refine ⟨by simp, fun b hb => by simp (disch := omega) only [upd2_ne]; exact h2 b hb, fun k => ?_⟩
    (simp (disch := omega) only [ixO, ixO0, ixO1, ixO2, ixO3, ixL0, ixL1, ixL2, ixC, ixB, ixI0, ixI00, ixI1, ixI2, ixI3, upd2_rd, upd2_nd, Nat.reduceEqDiff, Nat.reduceAdd, Nat.add_left_cancel_iff, Nat.add_right_cancel_iff, reduceCtorEq, ↓reduceIte, and_self, and_true, true_and, and_false, false_and, true_or, or_true, false_or, or_false, not_true_eq_false, not_false_eq_true, if_pos, if_neg])
    rw [h3]
    (repeat' split) <;> (first | rfl | omega)
  · rintro ⟨c, m⟩ ⟨h1, h2, h3⟩
    simp only at h1 h2 h3
    subst h1
    simp only [s_X12_opensOrder_9, f_X12_orderAt]
    have m4 : m 140 4 = (n : Int) := by rw [h3, if_neg (by omega), hn]
    (repeat' (first | with_reducible refine wp_bnd ?_ | with_reducible refine wp_cl1 ?_ | with_reducible refine wp_cl2 ?_ | with_reducible refine wp_cx1 ?_ | with_reducible refine wp_cx2 ?_ | with_reducible refine wp_some ?_ | with_reducible refine wp_ite_t (lcmp0 (by ((try simp (disch := omega) only [w32_and, w32_or, w32_shl, w32_shr, w32_xor, ixO, ixO0, ixO1, ixO2, ixO3, ixL0, ixL1, ixL2, ixC, ixB, ixI0, ixI00, ixI1, ixI2, ixI3, upd2_rd, upd2_nd, Nat.reduceEqDiff, Nat.reduceAdd, Nat.add_left_cancel_iff, Nat.add_right_cancel_iff, reduceCtorEq, ↓reduceIte, and_self, and_true, true_and, and_false, false_and, true_or, or_true, false_or, or_false, not_true_eq_false, not_false_eq_true]); (try simp only [w32_em]); (first | done | omega)))) ?_ | with_reducible refine wp_ite_t (by ((try simp (disch := omega) only [w32_and, w32_or, w32_shl, w32_shr, w32_xor, ixO, ixO0, ixO1, ixO2, ixO3, ixL0, ixL1, ixL2, ixC, ixB, ixI0, ixI00, ixI1, ixI2, ixI3, upd2_rd, upd2_nd, Nat.reduceEqDiff, Nat.reduceAdd, Nat.add_left_cancel_iff, Nat.add_right_cancel_iff, reduceCtorEq, ↓reduceIte, and_self, and_true, true_and, and_false, false_and, true_or, or_true, false_or, or_false, not_true_eq_false, not_false_eq_true]); (try simp only [w32_em]); (first | done | omega))) ?_ | with_reducible refine wp_ite_f (by ((try simp (disch := omega) only [w32_and, w32_or, w32_shl, w32_shr, w32_xor, ixO, ixO0, ixO1, ixO2, ixO3, ixL0, ixL1, ixL2, ixC, ixB, ixI0, ixI00, ixI1, ixI2, ixI3, upd2_rd, upd2_nd, Nat.reduceEqDiff, Nat.reduceAdd, Nat.add_left_cancel_iff, Nat.add_right_cancel_iff, reduceCtorEq, ↓reduceIte, and_self, and_true, true_and, and_false, false_and, true_or, or_true, false_or, or_false, not_true_eq_false, not_false_eq_true]); (try simp only [w32_em]); (first | done | omega))) ?_ | with_reducible refine wp_itei ?_ ?_ | (with_reducible refine wp_imp (fun hc => ?_); (try simp (disch := omega) only [w32_and, w32_or, w32_shl, w32_shr, w32_xor, ixO, ixO0, ixO1, ixO2, ixO3, ixL0, ixL1, ixL2, ixC, ixB, ixI0, ixI00, ixI1, ixI2, ixI3, upd2_rd, upd2_nd, Nat.reduceEqDiff, Nat.reduceAdd, Nat.add_left_cancel_iff, Nat.add_right_cancel_iff, reduceCtorEq, ↓reduceIte, and_self, and_true, true_and, and_false, false_and, true_or, or_true, false_or, or_false, not_true_eq_false, not_false_eq_true] at hc); (try simp only [w32_em] at hc)) | with_reducible refine wp_gi (by ((try simp (disch := omega) only [w32_and, w32_or, w32_shl, w32_shr, w32_xor, ixO, ixO0, ixO1, ixO2, ixO3, ixL0, ixL1, ixL2, ixC, ixB, ixI0, ixI00, ixI1, ixI2, ixI3, upd2_rd, upd2_nd, Nat.reduceEqDiff, Nat.reduceAdd, Nat.add_left_cancel_iff, Nat.add_right_cancel_iff, reduceCtorEq, ↓reduceIte, and_self, and_true, true_and, and_false, false_and, true_or, or_true, false_or, or_false, not_true_eq_false, not_false_eq_true]); (try simp only [w32_em]); (first | done | omega))) (by ((try simp (disch := omega) only [w32_and, w32_or, w32_shl, w32_shr, w32_xor, ixO, ixO0, ixO1, ixO2, ixO3, ixL0, ixL1, ixL2, ixC, ixB, ixI0, ixI00, ixI1, ixI2, ixI3, upd2_rd, upd2_nd, Nat.reduceEqDiff, Nat.reduceAdd, Nat.add_left_cancel_iff, Nat.add_right_cancel_iff, reduceCtorEq, ↓reduceIte, and_self, and_true, true_and, and_false, false_and, true_or, or_true, false_or, or_false, not_true_eq_false, not_false_eq_true]); (try simp only [w32_em]); (first | done | omega))) (by omega) ?_ | with_reducible refine wp_gz (by ((try simp (disch := omega) only [w32_and, w32_or, w32_shl, w32_shr, w32_xor, ixO, ixO0, ixO1, ixO2, ixO3, ixL0, ixL1, ixL2, ixC, ixB, ixI0, ixI00, ixI1, ixI2, ixI3, upd2_rd, upd2_nd, Nat.reduceEqDiff, Nat.reduceAdd, Nat.add_left_cancel_iff, Nat.add_right_cancel_iff, reduceCtorEq, ↓reduceIte, and_self, and_true, true_and, and_false, false_and, true_or, or_true, false_or, or_false, not_true_eq_false, not_false_eq_true]); (try simp only [w32_em]); (first | done | omega))) ?_ | dsimp only [Sum.elim_inl, Sum.elim_inr])) <;> (first | exact lf1 hI | exact lf2 hI | skip)
    simp (disch := omega) only [ixO, ixO0, ixO1, ixO2, ixO3, ixL0, ixL1, ixL2, ixC, ixB, ixI0, ixI00, ixI1, ixI2, ixI3]
    refine ⟨by trivial, ?_, fun b hb => by simp (disch := omega) only [upd2_ne]; exact h2 b hb⟩
    funext k
    unfold opOrder
    rw [hn, Int.toNat_natCast]
    (simp (disch := omega) only [ixO, ixO0, ixO1, ixO2, ixO3, ixL0, ixL1, ixL2, ixC, ixB, ixI0, ixI00, ixI1, ixI2, ixI3, upd2_rd, upd2_nd, Nat.reduceEqDiff, Nat.reduceAdd, Nat.add_left_cancel_iff, Nat.add_right_cancel_iff, reduceCtorEq, ↓reduceIte, and_self, and_true, true_and, and_false, false_and, true_or, or_true, false_or, or_false, not_true_eq_false, not_false_eq_true, if_pos, if_neg])
    rw [m4, h3]
    (repeat' split) <;> (first | rfl | omega)
  · rw [if_neg (by omega)]
