-- ===== the reference's tokens =====
def TXr (t : Nat → Int) (n : Nat) (m : Mem) : Prop := m 139 23 = (n : Int) ∧ n ≤ 600 ∧ (∀ i, i < n → m 155 i = t i ∧ -128 ≤ t i ∧ t i < 128) ∧ m 156 = mW 156
def F39 (m r : Mem) : Prop := (∀ a, a ≠ 139 → r a = m a) ∧ ∀ k, k < 24 ∨ 27 < k → r 139 k = m 139 k
set_option maxHeartbeats 600000 in
theorem F39.rf {m : Mem} : F39 m m := ⟨fun _ _ => rfl, fun _ _ => rfl⟩
set_option maxHeartbeats 600000 in
theorem F39.tr {m r u : Mem} (h1 : F39 m r) (h2 : F39 r u) : F39 m u := ⟨fun a ha => (h2.1 a ha).trans (h1.1 a ha), fun k hk => (h2.2 k hk).trans (h1.2 k hk)⟩
set_option maxHeartbeats 600000 in
theorem F39.up {m : Mem} {k : Nat} {v : Int} (hk : 24 ≤ k ∧ k ≤ 27) : F39 m (upd2 m 139 k v) := ⟨fun a ha => upd2_ne ha, fun j hj => upd2_row (by omega)⟩
set_option maxHeartbeats 600000 in
theorem TXr_fr {t : Nat → Int} {n : Nat} {m r : Mem} (h : TXr t n m) (f : F39 m r) : TXr t n r := ⟨by rw [f.2 23 (by omega)]; exact h.1, h.2.1, fun i hi => by rw [f.1 155 (by decide)]; exact h.2.2.1 i hi, by rw [f.1 156 (by decide)]; exact h.2.2.2⟩
def ubV (c : Int) : Int := if c < 0 then c + 256 else c
set_option maxHeartbeats 600000 in
theorem ub_dec : ∀ v : Nat, v < 256 → i_and ((v : Int) - 128) 255 = ubV ((v : Int) - 128) := by decide +kernel
set_option maxHeartbeats 600000 in
theorem ub_ok {c : Int} (h : -128 ≤ c ∧ c < 128) : i_and c 255 = ubV c := by
  obtain ⟨v, rfl⟩ : ∃ v : Nat, c = (v : Int) - 128 := ⟨(c + 128).toNat, by omega⟩
  exact ub_dec v (by omega)
set_option maxHeartbeats 600000 in
theorem ub_rng {c : Int} (h : -128 ≤ c ∧ c < 128) : 0 ≤ ubV c ∧ ubV c ≤ 255 ∧ (0 ≤ c → ubV c = c) ∧ (c < 0 → 128 ≤ ubV c) := by
  unfold ubV
  split <;> omega
set_option maxHeartbeats 600000 in
theorem X12see {t : Nat → Int} {n q : Nat} {m : Mem} (hT : TXr t n m) (hq : q ≤ n) (h24 : m 139 24 = (q : Int)) : f_X12_see m = some (if q < n then ubV (t q) else -1) := by
  have h600 := hT.2.1
  have e23 := hT.1
  have xq : ix (q : Int) = q := ix_nat (by omega)
  apply wp_val
  unfold f_X12_see
  rw [h24, e23, xq]
  by_cases l : q < n
  · have et := hT.2.2.1 q l
    rw [if_pos l, et.1, ub_ok et.2]
    exact wp_ite_t (by ((try simp (disch := omega) only [w32_and, w32_or, w32_shl, w32_shr, w32_xor, ixO, ixO0, ixO1, ixO2, ixO3, ixL0, ixL1, ixL2, ixC, ixB, ixI0, ixI00, ixI1, ixI2, ixI3, upd2_rd, upd2_nd, Nat.reduceEqDiff, Nat.reduceAdd, Nat.add_left_cancel_iff, Nat.add_right_cancel_iff, reduceCtorEq, ↓reduceIte, and_self, and_true, true_and, and_false, false_and, true_or, or_true, false_or, or_false, not_true_eq_false, not_false_eq_true]); (try simp only [w32_em]); (first | done | omega))) (wp_gi (by omega) (by omega) (by omega) (wp_some rfl))
  · rw [if_neg l]
    exact wp_ite_f (by ((try simp (disch := omega) only [w32_and, w32_or, w32_shl, w32_shr, w32_xor, ixO, ixO0, ixO1, ixO2, ixO3, ixL0, ixL1, ixL2, ixC, ixB, ixI0, ixI00, ixI1, ixI2, ixI3, upd2_rd, upd2_nd, Nat.reduceEqDiff, Nat.reduceAdd, Nat.add_left_cancel_iff, Nat.add_right_cancel_iff, reduceCtorEq, ↓reduceIte, and_self, and_true, true_and, and_false, false_and, true_or, or_true, false_or, or_false, not_true_eq_false, not_false_eq_true]); (try simp only [w32_em]); (first | done | omega))) (wp_some rfl)
set_option maxHeartbeats 600000 in
theorem X12inv {v a b : Int} {M : Mem} (hv : -1000000000 ≤ v ∧ v ≤ 1000000000) (ha : -1000000000 ≤ a ∧ a ≤ 1000000000) (hb : -1000000000 ≤ b ∧ b ≤ 1000000000) : f_X12_in v a b M = some (if a ≤ v ∧ v ≤ b then 1 else 0) := by
  apply wp_val
  unfold f_X12_in
  by_cases h : a ≤ v ∧ v ≤ b
  · rw [show (if a ≤ v ∧ v ≤ b then (1 : Int) else 0) = 1 from if_pos h]
    (repeat' (first | with_reducible refine wp_bnd ?_ | with_reducible refine wp_cl1 ?_ | with_reducible refine wp_cl2 ?_ | with_reducible refine wp_cx1 ?_ | with_reducible refine wp_cx2 ?_ | with_reducible refine wp_some ?_ | with_reducible refine wp_ite_t (lcmp0 (by ((try simp (disch := omega) only [w32_and, w32_or, w32_shl, w32_shr, w32_xor, ixO, ixO0, ixO1, ixO2, ixO3, ixL0, ixL1, ixL2, ixC, ixB, ixI0, ixI00, ixI1, ixI2, ixI3, upd2_rd, upd2_nd, Nat.reduceEqDiff, Nat.reduceAdd, Nat.add_left_cancel_iff, Nat.add_right_cancel_iff, reduceCtorEq, ↓reduceIte, and_self, and_true, true_and, and_false, false_and, true_or, or_true, false_or, or_false, not_true_eq_false, not_false_eq_true]); (try simp only [w32_em]); (first | done | omega)))) ?_ | with_reducible refine wp_ite_t (by ((try simp (disch := omega) only [w32_and, w32_or, w32_shl, w32_shr, w32_xor, ixO, ixO0, ixO1, ixO2, ixO3, ixL0, ixL1, ixL2, ixC, ixB, ixI0, ixI00, ixI1, ixI2, ixI3, upd2_rd, upd2_nd, Nat.reduceEqDiff, Nat.reduceAdd, Nat.add_left_cancel_iff, Nat.add_right_cancel_iff, reduceCtorEq, ↓reduceIte, and_self, and_true, true_and, and_false, false_and, true_or, or_true, false_or, or_false, not_true_eq_false, not_false_eq_true]); (try simp only [w32_em]); (first | done | omega))) ?_ | with_reducible refine wp_ite_f (by ((try simp (disch := omega) only [w32_and, w32_or, w32_shl, w32_shr, w32_xor, ixO, ixO0, ixO1, ixO2, ixO3, ixL0, ixL1, ixL2, ixC, ixB, ixI0, ixI00, ixI1, ixI2, ixI3, upd2_rd, upd2_nd, Nat.reduceEqDiff, Nat.reduceAdd, Nat.add_left_cancel_iff, Nat.add_right_cancel_iff, reduceCtorEq, ↓reduceIte, and_self, and_true, true_and, and_false, false_and, true_or, or_true, false_or, or_false, not_true_eq_false, not_false_eq_true]); (try simp only [w32_em]); (first | done | omega))) ?_ | with_reducible refine wp_itei ?_ ?_ | (with_reducible refine wp_imp (fun hc => ?_); (try simp (disch := omega) only [w32_and, w32_or, w32_shl, w32_shr, w32_xor, ixO, ixO0, ixO1, ixO2, ixO3, ixL0, ixL1, ixL2, ixC, ixB, ixI0, ixI00, ixI1, ixI2, ixI3, upd2_rd, upd2_nd, Nat.reduceEqDiff, Nat.reduceAdd, Nat.add_left_cancel_iff, Nat.add_right_cancel_iff, reduceCtorEq, ↓reduceIte, and_self, and_true, true_and, and_false, false_and, true_or, or_true, false_or, or_false, not_true_eq_false, not_false_eq_true] at hc); (try simp only [w32_em] at hc)) | with_reducible refine wp_gi (by ((try simp (disch := omega) only [w32_and, w32_or, w32_shl, w32_shr, w32_xor, ixO, ixO0, ixO1, ixO2, ixO3, ixL0, ixL1, ixL2, ixC, ixB, ixI0, ixI00, ixI1, ixI2, ixI3, upd2_rd, upd2_nd, Nat.reduceEqDiff, Nat.reduceAdd, Nat.add_left_cancel_iff, Nat.add_right_cancel_iff, reduceCtorEq, ↓reduceIte, and_self, and_true, true_and, and_false, false_and, true_or, or_true, false_or, or_false, not_true_eq_false, not_false_eq_true]); (try simp only [w32_em]); (first | done | omega))) (by ((try simp (disch := omega) only [w32_and, w32_or, w32_shl, w32_shr, w32_xor, ixO, ixO0, ixO1, ixO2, ixO3, ixL0, ixL1, ixL2, ixC, ixB, ixI0, ixI00, ixI1, ixI2, ixI3, upd2_rd, upd2_nd, Nat.reduceEqDiff, Nat.reduceAdd, Nat.add_left_cancel_iff, Nat.add_right_cancel_iff, reduceCtorEq, ↓reduceIte, and_self, and_true, true_and, and_false, false_and, true_or, or_true, false_or, or_false, not_true_eq_false, not_false_eq_true]); (try simp only [w32_em]); (first | done | omega))) (by omega) ?_ | with_reducible refine wp_gz (by ((try simp (disch := omega) only [w32_and, w32_or, w32_shl, w32_shr, w32_xor, ixO, ixO0, ixO1, ixO2, ixO3, ixL0, ixL1, ixL2, ixC, ixB, ixI0, ixI00, ixI1, ixI2, ixI3, upd2_rd, upd2_nd, Nat.reduceEqDiff, Nat.reduceAdd, Nat.add_left_cancel_iff, Nat.add_right_cancel_iff, reduceCtorEq, ↓reduceIte, and_self, and_true, true_and, and_false, false_and, true_or, or_true, false_or, or_false, not_true_eq_false, not_false_eq_true]); (try simp only [w32_em]); (first | done | omega))) ?_ | dsimp only [Sum.elim_inl, Sum.elim_inr])) <;> (first | exact lf1 hI | exact lf2 hI | skip)
    all_goals rfl
  · rw [show (if a ≤ v ∧ v ≤ b then (1 : Int) else 0) = 0 from if_neg h]
    (repeat' (first | with_reducible refine wp_bnd ?_ | with_reducible refine wp_cl1 ?_ | with_reducible refine wp_cl2 ?_ | with_reducible refine wp_cx1 ?_ | with_reducible refine wp_cx2 ?_ | with_reducible refine wp_some ?_ | with_reducible refine wp_ite_t (lcmp0 (by ((try simp (disch := omega) only [w32_and, w32_or, w32_shl, w32_shr, w32_xor, ixO, ixO0, ixO1, ixO2, ixO3, ixL0, ixL1, ixL2, ixC, ixB, ixI0, ixI00, ixI1, ixI2, ixI3, upd2_rd, upd2_nd, Nat.reduceEqDiff, Nat.reduceAdd, Nat.add_left_cancel_iff, Nat.add_right_cancel_iff, reduceCtorEq, ↓reduceIte, and_self, and_true, true_and, and_false, false_and, true_or, or_true, false_or, or_false, not_true_eq_false, not_false_eq_true]); (try simp only [w32_em]); (first | done | omega)))) ?_ | with_reducible refine wp_ite_t (by ((try simp (disch := omega) only [w32_and, w32_or, w32_shl, w32_shr, w32_xor, ixO, ixO0, ixO1, ixO2, ixO3, ixL0, ixL1, ixL2, ixC, ixB, ixI0, ixI00, ixI1, ixI2, ixI3, upd2_rd, upd2_nd, Nat.reduceEqDiff, Nat.reduceAdd, Nat.add_left_cancel_iff, Nat.add_right_cancel_iff, reduceCtorEq, ↓reduceIte, and_self, and_true, true_and, and_false, false_and, true_or, or_true, false_or, or_false, not_true_eq_false, not_false_eq_true]); (try simp only [w32_em]); (first | done | omega))) ?_ | with_reducible refine wp_ite_f (by ((try simp (disch := omega) only [w32_and, w32_or, w32_shl, w32_shr, w32_xor, ixO, ixO0, ixO1, ixO2, ixO3, ixL0, ixL1, ixL2, ixC, ixB, ixI0, ixI00, ixI1, ixI2, ixI3, upd2_rd, upd2_nd, Nat.reduceEqDiff, Nat.reduceAdd, Nat.add_left_cancel_iff, Nat.add_right_cancel_iff, reduceCtorEq, ↓reduceIte, and_self, and_true, true_and, and_false, false_and, true_or, or_true, false_or, or_false, not_true_eq_false, not_false_eq_true]); (try simp only [w32_em]); (first | done | omega))) ?_ | with_reducible refine wp_itei ?_ ?_ | (with_reducible refine wp_imp (fun hc => ?_); (try simp (disch := omega) only [w32_and, w32_or, w32_shl, w32_shr, w32_xor, ixO, ixO0, ixO1, ixO2, ixO3, ixL0, ixL1, ixL2, ixC, ixB, ixI0, ixI00, ixI1, ixI2, ixI3, upd2_rd, upd2_nd, Nat.reduceEqDiff, Nat.reduceAdd, Nat.add_left_cancel_iff, Nat.add_right_cancel_iff, reduceCtorEq, ↓reduceIte, and_self, and_true, true_and, and_false, false_and, true_or, or_true, false_or, or_false, not_true_eq_false, not_false_eq_true] at hc); (try simp only [w32_em] at hc)) | with_reducible refine wp_gi (by ((try simp (disch := omega) only [w32_and, w32_or, w32_shl, w32_shr, w32_xor, ixO, ixO0, ixO1, ixO2, ixO3, ixL0, ixL1, ixL2, ixC, ixB, ixI0, ixI00, ixI1, ixI2, ixI3, upd2_rd, upd2_nd, Nat.reduceEqDiff, Nat.reduceAdd, Nat.add_left_cancel_iff, Nat.add_right_cancel_iff, reduceCtorEq, ↓reduceIte, and_self, and_true, true_and, and_false, false_and, true_or, or_true, false_or, or_false, not_true_eq_false, not_false_eq_true]); (try simp only [w32_em]); (first | done | omega))) (by ((try simp (disch := omega) only [w32_and, w32_or, w32_shl, w32_shr, w32_xor, ixO, ixO0, ixO1, ixO2, ixO3, ixL0, ixL1, ixL2, ixC, ixB, ixI0, ixI00, ixI1, ixI2, ixI3, upd2_rd, upd2_nd, Nat.reduceEqDiff, Nat.reduceAdd, Nat.add_left_cancel_iff, Nat.add_right_cancel_iff, reduceCtorEq, ↓reduceIte, and_self, and_true, true_and, and_false, false_and, true_or, or_true, false_or, or_false, not_true_eq_false, not_false_eq_true]); (try simp only [w32_em]); (first | done | omega))) (by omega) ?_ | with_reducible refine wp_gz (by ((try simp (disch := omega) only [w32_and, w32_or, w32_shl, w32_shr, w32_xor, ixO, ixO0, ixO1, ixO2, ixO3, ixL0, ixL1, ixL2, ixC, ixB, ixI0, ixI00, ixI1, ixI2, ixI3, upd2_rd, upd2_nd, Nat.reduceEqDiff, Nat.reduceAdd, Nat.add_left_cancel_iff, Nat.add_right_cancel_iff, reduceCtorEq, ↓reduceIte, and_self, and_true, true_and, and_false, false_and, true_or, or_true, false_or, or_false, not_true_eq_false, not_false_eq_true]); (try simp only [w32_em]); (first | done | omega))) ?_ | dsimp only [Sum.elim_inl, Sum.elim_inr])) <;> (first | exact lf1 hI | exact lf2 hI | skip)
    all_goals rfl
set_option maxHeartbeats 600000 in
theorem X12sml {t : Nat → Int} {n q : Nat} {m : Mem} (hT : TXr t n m) (hq : q ≤ n) (h24 : m 139 24 = (q : Int)) : f_X12_isSmall m = some (if q < n ∧ smlB (t q) = true then 1 else 0) := by
  apply wp_val
  unfold f_X12_isSmall
  have vr : -1000000000 ≤ (if q < n then ubV (t q) else -1) ∧ (if q < n then ubV (t q) else -1) ≤ 1000000000 := by
    by_cases l : q < n
    · have ur := ub_rng (hT.2.2.1 q l).2
      rw [if_pos l]; omega
    · rw [if_neg l]; omega
  refine wp_cl1 (wp_eq (X12see hT hq h24) (wp_cl1 (wp_eq (X12inv vr (by omega) (by omega)) (wp_gz ?_ (wp_some (itc ?_))))))
  · split <;> omega
  · by_cases l : q < n
    · have ur := ub_rng (hT.2.2.1 q l).2
      rw [if_pos l, sml_t]
      omega
    · rw [if_neg l]
      omega
set_option maxHeartbeats 600000 in
theorem X12dig {t : Nat → Int} {n q : Nat} {m : Mem} (hT : TXr t n m) (hq : q ≤ n) (h24 : m 139 24 = (q : Int)) : f_X12_isDigit m = some (if q < n ∧ digB (t q) = true then 1 else 0) := by
  apply wp_val
  unfold f_X12_isDigit
  have vr : -1000000000 ≤ (if q < n then ubV (t q) else -1) ∧ (if q < n then ubV (t q) else -1) ≤ 1000000000 := by
    by_cases l : q < n
    · have ur := ub_rng (hT.2.2.1 q l).2
      rw [if_pos l]; omega
    · rw [if_neg l]; omega
  refine wp_cl1 (wp_eq (X12see hT hq h24) (wp_cl1 (wp_eq (X12inv vr (by omega) (by omega)) (wp_gz ?_ (wp_some (itc ?_))))))
  · split <;> omega
  · by_cases l : q < n
    · have ur := ub_rng (hT.2.2.1 q l).2
      rw [if_pos l, dig_t]
      omega
    · rw [if_neg l]
      omega
set_option maxHeartbeats 600000 in
theorem X12skip {t : Nat → Int} {n p : Nat} {m : Mem} (hT : TXr t n m) (hp : p ≤ n) (h24 : m 139 24 = (p : Int)) : wp (wh (fun x => s_X12_next_0 x) m) (fun r => ∃ z : Mem, r = .inl z ∧ F39 m z ∧ z 139 24 = ((tS t n p : Nat) : Int)) := by
  show wp _ (fun (r : Mem ⊕ Mem) => ∃ z : Mem, r = .inl z ∧ F39 m z ∧ z 139 24 = ((rn blkB t (n - p) p : Nat) : Int))
  refine wp_rn (ρ := Mem ⊕ Mem) (P := blkB) (t := t) (n := n) (fun q x => F39 m x ∧ x 139 24 = (q : Int)) (fun q (r : Mem ⊕ Mem) => ∃ z : Mem, r = .inl z ∧ F39 m z ∧ z 139 24 = (q : Int)) ?_ ?_ (n - p) p m (by omega) ⟨F39.rf, h24⟩
  · rintro q x ⟨f, e⟩ hq hc
    have tx := TXr_fr hT f
    have h600 := hT.2.1
    have et := tx.2.2.1 q hq
    have ur := ub_rng et.2
    have see := X12see tx (by omega) e
    rw [if_pos hq] at see
    rw [blk_t] at hc
    simp only [s_X12_next_0, j_X12_next_18_0, e]
    have fin : Sum.elim (fun x => F39 m x ∧ x 139 24 = ((q + 1 : Nat) : Int)) (fun _ => False) (Sum.inl (upd2 x 139 24 ((q : Int) + 1)) : Mem ⊕ (Mem ⊕ Mem)) := ⟨f.tr (F39.up (by omega)), by rw [upd2_same]; omega⟩
    refine wp_cl1 (wp_eq see ?_)
    by_cases c : t q = 32
    · exact wp_ite_t (by ((try simp (disch := omega) only [w32_and, w32_or, w32_shl, w32_shr, w32_xor, ixO, ixO0, ixO1, ixO2, ixO3, ixL0, ixL1, ixL2, ixC, ixB, ixI0, ixI00, ixI1, ixI2, ixI3, upd2_rd, upd2_nd, Nat.reduceEqDiff, Nat.reduceAdd, Nat.add_left_cancel_iff, Nat.add_right_cancel_iff, reduceCtorEq, ↓reduceIte, and_self, and_true, true_and, and_false, false_and, true_or, or_true, false_or, or_false, not_true_eq_false, not_false_eq_true]); (try simp only [w32_em]); (first | done | omega))) (wp_bnd (wp_some fin))
    · exact wp_ite_f (by ((try simp (disch := omega) only [w32_and, w32_or, w32_shl, w32_shr, w32_xor, ixO, ixO0, ixO1, ixO2, ixO3, ixL0, ixL1, ixL2, ixC, ixB, ixI0, ixI00, ixI1, ixI2, ixI3, upd2_rd, upd2_nd, Nat.reduceEqDiff, Nat.reduceAdd, Nat.add_left_cancel_iff, Nat.add_right_cancel_iff, reduceCtorEq, ↓reduceIte, and_self, and_true, true_and, and_false, false_and, true_or, or_true, false_or, or_false, not_true_eq_false, not_false_eq_true]); (try simp only [w32_em]); (first | done | omega))) (wp_cl1 (wp_eq see (wp_ite_t (by ((try simp (disch := omega) only [w32_and, w32_or, w32_shl, w32_shr, w32_xor, ixO, ixO0, ixO1, ixO2, ixO3, ixL0, ixL1, ixL2, ixC, ixB, ixI0, ixI00, ixI1, ixI2, ixI3, upd2_rd, upd2_nd, Nat.reduceEqDiff, Nat.reduceAdd, Nat.add_left_cancel_iff, Nat.add_right_cancel_iff, reduceCtorEq, ↓reduceIte, and_self, and_true, true_and, and_false, false_and, true_or, or_true, false_or, or_false, not_true_eq_false, not_false_eq_true]); (try simp only [w32_em]); (first | done | omega))) (wp_bnd (wp_some fin)))))
  · rintro q x ⟨f, e⟩ hq hc
    have tx := TXr_fr hT f
    have see := X12see tx hq e
    simp only [s_X12_next_0]
    by_cases l : q < n
    · have et := tx.2.2.1 q l
      have ur := ub_rng et.2
      have c := hc l
      rw [blk_f] at c
      rw [if_pos l] at see
      exact wp_cl1 (wp_eq see (wp_ite_f (by ((try simp (disch := omega) only [w32_and, w32_or, w32_shl, w32_shr, w32_xor, ixO, ixO0, ixO1, ixO2, ixO3, ixL0, ixL1, ixL2, ixC, ixB, ixI0, ixI00, ixI1, ixI2, ixI3, upd2_rd, upd2_nd, Nat.reduceEqDiff, Nat.reduceAdd, Nat.add_left_cancel_iff, Nat.add_right_cancel_iff, reduceCtorEq, ↓reduceIte, and_self, and_true, true_and, and_false, false_and, true_or, or_true, false_or, or_false, not_true_eq_false, not_false_eq_true]); (try simp only [w32_em]); (first | done | omega))) (wp_cl1 (wp_eq see (wp_ite_f (by ((try simp (disch := omega) only [w32_and, w32_or, w32_shl, w32_shr, w32_xor, ixO, ixO0, ixO1, ixO2, ixO3, ixL0, ixL1, ixL2, ixC, ixB, ixI0, ixI00, ixI1, ixI2, ixI3, upd2_rd, upd2_nd, Nat.reduceEqDiff, Nat.reduceAdd, Nat.add_left_cancel_iff, Nat.add_right_cancel_iff, reduceCtorEq, ↓reduceIte, and_self, and_true, true_and, and_false, false_and, true_or, or_true, false_or, or_false, not_true_eq_false, not_false_eq_true]); (try simp only [w32_em]); (first | done | omega))) (wp_some ⟨x, rfl, f, e⟩))))))
    · rw [if_neg l] at see
      exact wp_cl1 (wp_eq see (wp_ite_f (by decide) (wp_cl1 (wp_eq see (wp_ite_f (by decide) (wp_some ⟨x, rfl, f, e⟩))))))
set_option maxHeartbeats 600000 in
theorem X12lets {t : Nat → Int} {n p : Nat} {m : Mem} (hT : TXr t n m) (hp : p ≤ n) (h24 : m 139 24 = (p : Int)) (h26 : m 139 26 = 1) : wp (wh (fun x => s_X12_next_126 x) m) (fun r => ∃ z : Mem, r = .inl z ∧ F39 m z ∧ z 139 24 = ((rn smlB t (n - p) p : Nat) : Int) ∧ z 139 25 = m 139 25 ∧ z 139 26 = 1) := by
  refine wp_rn (ρ := Mem ⊕ Mem) (P := smlB) (t := t) (n := n) (fun q x => F39 m x ∧ x 139 24 = (q : Int) ∧ x 139 25 = m 139 25 ∧ x 139 26 = 1) (fun q (r : Mem ⊕ Mem) => ∃ z : Mem, r = .inl z ∧ F39 m z ∧ z 139 24 = (q : Int) ∧ z 139 25 = m 139 25 ∧ z 139 26 = 1) ?_ ?_ (n - p) p m (by omega) ⟨F39.rf, h24, rfl, h26⟩
  · rintro q x ⟨f, e, g5, g6⟩ hq hc
    have tx := TXr_fr hT f
    have sm := X12sml tx (by omega) e
    rw [if_pos ⟨hq, hc⟩] at sm
    simp only [s_X12_next_126, e, g6]
    refine wp_ite_t (by decide) (wp_cl1 (wp_eq sm (wp_ite_f (by decide) (wp_bnd (wp_some ?_)))))
    exact ⟨f.tr (F39.up (by omega)), by rw [upd2_same]; omega, by rw [upd2_row (by omega)]; exact g5, by rw [upd2_row (by omega)]; exact g6⟩
  · rintro q x ⟨f, e, g5, g6⟩ hq hc
    have tx := TXr_fr hT f
    have sm := X12sml tx (by omega) e
    rw [if_neg (fun h => by rw [hc h.1] at h; exact absurd h.2 (by decide))] at sm
    simp only [s_X12_next_126, g6]
    exact wp_ite_t (by decide) (wp_cl1 (wp_eq sm (wp_ite_t (by decide) (wp_some ⟨x, rfl, f, e, g5, g6⟩))))
set_option maxHeartbeats 600000 in
theorem X12digs {t : Nat → Int} {n p : Nat} {m : Mem} (hT : TXr t n m) (hp : p ≤ n) (h24 : m 139 24 = (p : Int)) (h26 : m 139 26 = 2) (h27 : m 139 27 = 0) : wp (wh (fun x => s_X12_next_154 x) m) (fun r => ∃ z : Mem, r = .inl z ∧ F39 m z ∧ z 139 24 = ((rn digB t (n - p) p : Nat) : Int) ∧ z 139 25 = m 139 25 ∧ z 139 26 = 2 ∧ z 139 27 = nmR t (n - p) p 0) := by
  refine wp_rn (ρ := Mem ⊕ Mem) (P := digB) (t := t) (n := n) (fun q x => F39 m x ∧ x 139 24 = (q : Int) ∧ x 139 25 = m 139 25 ∧ x 139 26 = 2 ∧ ∃ v : Int, x 139 27 = v ∧ 0 ≤ v ∧ v ≤ 2000000 ∧ nmR t (n - q) q v = nmR t (n - p) p 0) (fun q (r : Mem ⊕ Mem) => ∃ z : Mem, r = .inl z ∧ F39 m z ∧ z 139 24 = (q : Int) ∧ z 139 25 = m 139 25 ∧ z 139 26 = 2 ∧ z 139 27 = nmR t (n - p) p 0) ?_ ?_ (n - p) p m (by omega) ⟨F39.rf, h24, rfl, h26, 0, h27, by omega, by omega, rfl⟩
  · rintro q x ⟨f, e, g5, g6, v, g7, v0, v1, hv⟩ hq hc
    have tx := TXr_fr hT f
    have dg := X12dig tx (by omega) e
    rw [if_pos ⟨hq, hc⟩] at dg
    have see := X12see tx (by omega) e
    rw [if_pos hq] at see
    have et := tx.2.2.1 q hq
    have ur := ub_rng et.2
    have hs : nmR t (n - q) q v = nmR t (n - (q + 1)) (q + 1) (if 100000 < v then v else 10 * v + t q - 48) := by
      obtain ⟨d, hd⟩ : ∃ d, n - q = d + 1 := ⟨n - q - 1, by omega⟩
      rw [hd, show n - (q + 1) = d by omega]
      simp only [nmR, hc, ↓reduceIte]
    rw [dig_t] at hc
    have uv : ubV (t q) = t q := ur.2.2.1 (by omega)
    simp only [s_X12_next_154, j_X12_next_202_154, g6, g7]
    refine wp_ite_t (by decide) (wp_cl1 (wp_eq dg (wp_ite_f (by decide) ?_)))
    by_cases c : 100000 < v
    · rw [if_pos c] at hs
      refine wp_ite_t (by ((try simp (disch := omega) only [w32_and, w32_or, w32_shl, w32_shr, w32_xor, ixO, ixO0, ixO1, ixO2, ixO3, ixL0, ixL1, ixL2, ixC, ixB, ixI0, ixI00, ixI1, ixI2, ixI3, upd2_rd, upd2_nd, Nat.reduceEqDiff, Nat.reduceAdd, Nat.add_left_cancel_iff, Nat.add_right_cancel_iff, reduceCtorEq, ↓reduceIte, and_self, and_true, true_and, and_false, false_and, true_or, or_true, false_or, or_false, not_true_eq_false, not_false_eq_true]); (try simp only [w32_em]); (first | done | omega))) (wp_bnd (wp_bnd (wp_some ?_)))
      refine ⟨f.tr ((F39.up (by omega)).tr (F39.up (by omega))), ?_, ?_, ?_, v, ?_, v0, v1, by rw [← hs]; exact hv⟩
      · rw [upd2_same, upd2_row (by omega), e]; omega
      · rw [upd2_row (by omega), upd2_row (by omega)]; exact g5
      · rw [upd2_row (by omega), upd2_row (by omega)]; exact g6
      · rw [upd2_row (by omega), upd2_same]
    · rw [if_neg c] at hs
      refine wp_ite_f (by ((try simp (disch := omega) only [w32_and, w32_or, w32_shl, w32_shr, w32_xor, ixO, ixO0, ixO1, ixO2, ixO3, ixL0, ixL1, ixL2, ixC, ixB, ixI0, ixI00, ixI1, ixI2, ixI3, upd2_rd, upd2_nd, Nat.reduceEqDiff, Nat.reduceAdd, Nat.add_left_cancel_iff, Nat.add_right_cancel_iff, reduceCtorEq, ↓reduceIte, and_self, and_true, true_and, and_false, false_and, true_or, or_true, false_or, or_false, not_true_eq_false, not_false_eq_true]); (try simp only [w32_em]); (first | done | omega))) (wp_cl1 (wp_eq see (wp_bnd (wp_bnd (wp_some ?_)))))
      rw [uv]
      refine ⟨f.tr ((F39.up (by omega)).tr (F39.up (by omega))), ?_, ?_, ?_, 10 * v + t q - 48, ?_, by omega, by omega, by rw [← hs]; exact hv⟩
      · rw [upd2_same, upd2_row (by omega), e]; omega
      · rw [upd2_row (by omega), upd2_row (by omega)]; exact g5
      · rw [upd2_row (by omega), upd2_row (by omega)]; exact g6
      · rw [upd2_row (by omega), upd2_same]
  · rintro q x ⟨f, e, g5, g6, v, g7, v0, v1, hv⟩ hq hc
    have tx := TXr_fr hT f
    have dg := X12dig tx (by omega) e
    rw [if_neg (fun h => by rw [hc h.1] at h; exact absurd h.2 (by decide))] at dg
    have ev : x 139 27 = nmR t (n - p) p 0 := by
      rw [g7, ← hv, nmR_end]
      by_cases l : q < n
      · exact Or.inr (hc l)
      · exact Or.inl (by omega)
    simp only [s_X12_next_154, g6]
    exact wp_ite_t (by decide) (wp_cl1 (wp_eq dg (wp_ite_t (by decide) (wp_some ⟨x, rfl, f, e, g5, g6, ev⟩))))
/-- the token of place p stands in the reference -/
def RTk (t : Nat → Int) (n p : Nat) (m : Mem) : Prop := m 139 26 = tK t n p ∧ m 139 25 = ((tS t n p : Nat) : Int) ∧ m 139 24 = ((tE t n p : Nat) : Int) ∧ (tK t n p = 2 → m 139 27 = nmR t (n - tS t n p) (tS t n p) 0)
set_option maxHeartbeats 600000 in
theorem X12l126 {x : Mem} (h : x 139 26 ≠ 1 ∧ 0 ≤ x 139 26 ∧ x 139 26 ≤ 4) : wp (wh (fun x => s_X12_next_126 x) x) (fun r => r = .inl x) := by
  refine wp_unroll ?_
  show wp (s_X12_next_126 x) _
  unfold s_X12_next_126
  exact wp_ite_f (by ((try simp (disch := omega) only [w32_and, w32_or, w32_shl, w32_shr, w32_xor, ixO, ixO0, ixO1, ixO2, ixO3, ixL0, ixL1, ixL2, ixC, ixB, ixI0, ixI00, ixI1, ixI2, ixI3, upd2_rd, upd2_nd, Nat.reduceEqDiff, Nat.reduceAdd, Nat.add_left_cancel_iff, Nat.add_right_cancel_iff, reduceCtorEq, ↓reduceIte, and_self, and_true, true_and, and_false, false_and, true_or, or_true, false_or, or_false, not_true_eq_false, not_false_eq_true]); (try simp only [w32_em]); (first | done | omega))) (wp_some rfl)
set_option maxHeartbeats 600000 in
theorem X12l154 {x : Mem} (h : x 139 26 ≠ 2 ∧ 0 ≤ x 139 26 ∧ x 139 26 ≤ 4) : wp (wh (fun x => s_X12_next_154 x) x) (fun r => r = .inl x) := by
  refine wp_unroll ?_
  show wp (s_X12_next_154 x) _
  unfold s_X12_next_154
  exact wp_ite_f (by ((try simp (disch := omega) only [w32_and, w32_or, w32_shl, w32_shr, w32_xor, ixO, ixO0, ixO1, ixO2, ixO3, ixL0, ixL1, ixL2, ixC, ixB, ixI0, ixI00, ixI1, ixI2, ixI3, upd2_rd, upd2_nd, Nat.reduceEqDiff, Nat.reduceAdd, Nat.add_left_cancel_iff, Nat.add_right_cancel_iff, reduceCtorEq, ↓reduceIte, and_self, and_true, true_and, and_false, false_and, true_or, or_true, false_or, or_false, not_true_eq_false, not_false_eq_true]); (try simp only [w32_em]); (first | done | omega))) (wp_some rfl)
set_option maxHeartbeats 600000 in
theorem X12j88 {t : Nat → Int} {n s : Nat} {m0 m : Mem} (hf : F39 m0 m) (hT : TXr t n m) (hs : s ≤ n) (h24 : m 139 24 = (s : Int)) (h25 : m 139 25 = (s : Int)) {y : Int} (hy : y = kdS t n s) : wp (j_X12_next_88 y m) (fun z => F39 m0 z ∧ z 139 26 = kdS t n s ∧ z 139 25 = (s : Int) ∧ z 139 24 = ((enS t n s : Nat) : Int) ∧ (kdS t n s = 2 → z 139 27 = nmR t (n - s) s 0)) := by
  have h600 := hT.2.1
  have fw : F39 m (upd2 (upd2 m 139 26 y) 139 27 0) := (F39.up (by omega)).tr (F39.up (by omega))
  have w6 : upd2 (upd2 m 139 26 y) 139 27 0 139 26 = y := by rw [upd2_row (by omega), upd2_same]
  have w7 : upd2 (upd2 m 139 26 y) 139 27 0 139 27 = 0 := upd2_same
  have w4 : upd2 (upd2 m 139 26 y) 139 27 0 139 24 = (s : Int) := by rw [upd2_row (by omega), upd2_row (by omega)]; exact h24
  have w5 : upd2 (upd2 m 139 26 y) 139 27 0 139 25 = (s : Int) := by rw [upd2_row (by omega), upd2_row (by omega)]; exact h25
  unfold j_X12_next_88 j_X12_next_117 j_X12_next_122
  refine wp_bnd (wp_bnd ?_)
  generalize upd2 (upd2 m 139 26 y) 139 27 0 = w at *
  rw [w6, w4]
  have v4 : ∀ c : Int, upd2 w 139 24 c 139 24 = c := fun c => upd2_same
  have v5 : ∀ c : Int, upd2 w 139 24 c 139 25 = (s : Int) := fun c => by rw [upd2_row (by omega)]; exact w5
  have v6 : ∀ c : Int, upd2 w 139 24 c 139 26 = y := fun c => by rw [upd2_row (by omega)]; exact w6
  have v7 : ∀ c : Int, upd2 w 139 24 c 139 27 = 0 := fun c => by rw [upd2_row (by omega)]; exact w7
  have fv : ∀ c : Int, F39 m0 (upd2 w 139 24 c) := fun c => hf.tr (fw.tr (F39.up (by omega)))
  have tv : ∀ c : Int, TXr t n (upd2 w 139 24 c) := fun c => TXr_fr hT (fw.tr (F39.up (by omega)))
  by_cases l : s < n
  · cases e1 : smlB (t s)
    · cases e2 : digB (t s)
      · have kk : kdS t n s = if t s = 59 then 3 else 4 := by unfold kdS; rw [if_pos l, e1, e2]; simp
        have en : enS t n s = s + 1 := by unfold enS; rw [if_pos l, e1, e2]; simp
        have yk : y = 3 ∨ y = 4 := by rw [hy, kk]; split <;> omega
        rw [en, ← hy]
        have fin : wp (bnd (upd2 w 139 24 ((s : Int) + 1)) (fun M_12 => lpb (wh (fun x => s_X12_next_126 x) M_12) (fun z_16 => lpb (wh (fun x => s_X12_next_154 x) z_16) (fun z_23 => some z_23) (fun q => some q)) (fun q => some q))) (fun z => F39 m0 z ∧ z 139 26 = y ∧ z 139 25 = (s : Int) ∧ z 139 24 = ((s + 1 : Nat) : Int) ∧ (y = 2 → z 139 27 = nmR t (n - s) s 0)) := by
          refine wp_bnd (wp_lpb (wp_use (X12l126 (by rw [v6]; omega)) (fun r hr => ?_)))
          subst hr
          dsimp only [Sum.elim_inl, Sum.elim_inr]
          refine wp_lpb (wp_use (X12l154 (by rw [v6]; omega)) (fun r hr => ?_))
          subst hr
          dsimp only [Sum.elim_inl, Sum.elim_inr]
          exact wp_some ⟨fv _, v6 _, v5 _, by rw [v4]; omega, fun h => by omega⟩
        rcases yk with rfl | rfl
        · exact wp_ite_t (by decide) fin
        · exact wp_ite_f (by decide) (wp_ite_t (by decide) fin)
      · have kk : kdS t n s = 2 := by unfold kdS; rw [if_pos l, e1, e2]; simp
        have en : enS t n s = rn digB t (n - s) s := by unfold enS; rw [if_pos l, e1, e2]; simp
        rw [kk] at hy ⊢
        subst hy
        rw [en, Int.add_zero]
        refine wp_ite_f (by decide) (wp_ite_f (by decide) (wp_bnd (wp_lpb (wp_use (X12l126 (by rw [v6]; omega)) (fun r hr => ?_)))))
        subst hr
        dsimp only [Sum.elim_inl, Sum.elim_inr]
        refine wp_lpb (wp_use (X12digs (tv _) hs (v4 _) (v6 _) (v7 _)) (fun r hr => ?_))
        obtain ⟨z, rfl, z1, z2, z3, z4, z5⟩ := hr
        dsimp only [Sum.elim_inl, Sum.elim_inr]
        exact wp_some ⟨(fv _).tr z1, z4, by rw [z3, v5], z2, fun _ => z5⟩
    · have kk : kdS t n s = 1 := by unfold kdS; rw [if_pos l, e1]; simp
      have en : enS t n s = rn smlB t (n - s) s := by unfold enS; rw [if_pos l, e1]; simp
      rw [kk] at hy ⊢
      subst hy
      rw [en, Int.add_zero]
      refine wp_ite_f (by decide) (wp_ite_f (by decide) (wp_bnd (wp_lpb (wp_use (X12lets (tv _) hs (v4 _) (v6 _)) (fun r hr => ?_)))))
      obtain ⟨z, rfl, z1, z2, z3, z4⟩ := hr
      dsimp only [Sum.elim_inl, Sum.elim_inr]
      refine wp_lpb (wp_use (X12l154 (by rw [z4]; omega)) (fun r hr => ?_))
      subst hr
      dsimp only [Sum.elim_inl, Sum.elim_inr]
      exact wp_some ⟨(fv _).tr z1, z4, by rw [z3, v5], z2, fun h => by omega⟩
  · have kk : kdS t n s = 0 := by unfold kdS; rw [if_neg l]
    have en : enS t n s = s := by unfold enS; rw [if_neg l]
    rw [kk] at hy ⊢
    subst hy
    rw [en, Int.add_zero]
    refine wp_ite_f (by decide) (wp_ite_f (by decide) (wp_bnd (wp_lpb (wp_use (X12l126 (by rw [v6]; omega)) (fun r hr => ?_)))))
    subst hr
    dsimp only [Sum.elim_inl, Sum.elim_inr]
    refine wp_lpb (wp_use (X12l154 (by rw [v6]; omega)) (fun r hr => ?_))
    subst hr
    dsimp only [Sum.elim_inl, Sum.elim_inr]
    exact wp_some ⟨fv _, v6 _, v5 _, v4 _, fun h => by omega⟩
set_option maxHeartbeats 600000 in
theorem X12nxt {t : Nat → Int} {n p : Nat} {m : Mem} (hT : TXr t n m) (hp : p ≤ n) (h24 : m 139 24 = (p : Int)) : wp (f_X12_next m) (fun z => F39 m z ∧ RTk t n p z) := by
  unfold f_X12_next
  refine wp_lpb (wp_use (X12skip hT hp h24) (fun r hr => ?_))
  obtain ⟨z, rfl, z1, z2⟩ := hr
  dsimp only [Sum.elim_inl, Sum.elim_inr]
  have tr := tk_rng (t := t) hp
  unfold RTk tK tE
  generalize hs : tS t n p = s at *
  rw [z2]
  refine wp_bnd ?_
  have fz : F39 m (upd2 z 139 25 (s : Int)) := z1.tr (F39.up (by omega))
  have tx := TXr_fr hT fz
  have e5 : upd2 z 139 25 (s : Int) 139 25 = (s : Int) := upd2_same
  have e4 : upd2 z 139 25 (s : Int) 139 24 = (s : Int) := by rw [upd2_row (by omega)]; exact z2
  generalize upd2 z 139 25 (s : Int) = w at *
  have see := X12see tx (by omega) e4
  have sm := X12sml tx (by omega) e4
  have dg := X12dig tx (by omega) e4
  refine wp_cl1 (wp_eq see ?_)
  by_cases l : s < n
  · have et := tx.2.2.1 s l
    have ur := ub_rng et.2
    rw [if_pos l] at see ⊢
    refine wp_ite_f (by ((try simp (disch := omega) only [w32_and, w32_or, w32_shl, w32_shr, w32_xor, ixO, ixO0, ixO1, ixO2, ixO3, ixL0, ixL1, ixL2, ixC, ixB, ixI0, ixI00, ixI1, ixI2, ixI3, upd2_rd, upd2_nd, Nat.reduceEqDiff, Nat.reduceAdd, Nat.add_left_cancel_iff, Nat.add_right_cancel_iff, reduceCtorEq, ↓reduceIte, and_self, and_true, true_and, and_false, false_and, true_or, or_true, false_or, or_false, not_true_eq_false, not_false_eq_true]); (try simp only [w32_em]); (first | done | omega))) ?_
    cases e1 : smlB (t s)
    · rw [if_neg (fun h => by rw [e1] at h; exact absurd h.2 (by decide))] at sm
      refine wp_cl1 (wp_eq sm (wp_ite_t (by decide) ?_))
      cases e2 : digB (t s)
      · rw [if_neg (fun h => by rw [e2] at h; exact absurd h.2 (by decide))] at dg
        have kk : kdS t n s = if t s = 59 then 3 else 4 := by unfold kdS; rw [if_pos l, e1, e2]; simp
        refine wp_cl1 (wp_eq dg (wp_ite_t (by decide) (wp_cl1 (wp_eq see ?_))))
        by_cases c : t s = 59
        · rw [if_pos c] at kk
          exact wp_ite_t (by ((try simp (disch := omega) only [w32_and, w32_or, w32_shl, w32_shr, w32_xor, ixO, ixO0, ixO1, ixO2, ixO3, ixL0, ixL1, ixL2, ixC, ixB, ixI0, ixI00, ixI1, ixI2, ixI3, upd2_rd, upd2_nd, Nat.reduceEqDiff, Nat.reduceAdd, Nat.add_left_cancel_iff, Nat.add_right_cancel_iff, reduceCtorEq, ↓reduceIte, and_self, and_true, true_and, and_false, false_and, true_or, or_true, false_or, or_false, not_true_eq_false, not_false_eq_true]); (try simp only [w32_em]); (first | done | omega))) (X12j88 fz tx (by omega) e4 e5 kk.symm)
        · rw [if_neg c] at kk
          exact wp_ite_f (by ((try simp (disch := omega) only [w32_and, w32_or, w32_shl, w32_shr, w32_xor, ixO, ixO0, ixO1, ixO2, ixO3, ixL0, ixL1, ixL2, ixC, ixB, ixI0, ixI00, ixI1, ixI2, ixI3, upd2_rd, upd2_nd, Nat.reduceEqDiff, Nat.reduceAdd, Nat.add_left_cancel_iff, Nat.add_right_cancel_iff, reduceCtorEq, ↓reduceIte, and_self, and_true, true_and, and_false, false_and, true_or, or_true, false_or, or_false, not_true_eq_false, not_false_eq_true]); (try simp only [w32_em]); (first | done | omega))) (X12j88 fz tx (by omega) e4 e5 kk.symm)
      · rw [if_pos (And.intro l e2)] at dg
        have kk : kdS t n s = 2 := by unfold kdS; rw [if_pos l, e1, e2]; simp
        exact wp_cl1 (wp_eq dg (wp_ite_f (by decide) (X12j88 fz tx (by omega) e4 e5 kk.symm)))
    · rw [if_pos (And.intro l e1)] at sm
      have kk : kdS t n s = 1 := by unfold kdS; rw [if_pos l, e1]; simp
      exact wp_cl1 (wp_eq sm (wp_ite_f (by decide) (X12j88 fz tx (by omega) e4 e5 kk.symm)))
  · have kk : kdS t n s = 0 := by unfold kdS; rw [if_neg l]
    rw [show (if s < n then ubV (t s) else (-1 : Int)) = -1 from if_neg l]
    exact wp_ite_t (by decide) (X12j88 fz tx (by omega) e4 e5 kk.symm)
