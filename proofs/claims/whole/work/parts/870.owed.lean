-- ===== all cases together; the first memory (written by wip/gen/owed.py) =====
set_option maxHeartbeats 600000 in
theorem ow_c {c : Nat} {L : Int → Int → Int → Int → Mem → Option Mem} {p1 p2 p3 p4 : Int} {M : Mem} (e : Lc c = L) (hne : c ≠ 56) (h : Ow (L p1 p2 p3 p4 M) M) : ∃ M' : Mem, Lc c p1 p2 p3 p4 M = some M' ∧ Inv M' ∧ (c ≠ 56 → M' 37 = M 37) ∧
  (c = 56 → ((∃ M1, f_X11_save p1 M = some (.inr (), M1)) → M 37 (ix p1) = 0 → M' 37 = fun j => if j = ix p1 then 1 else M 37 j) ∧ ((∃ M1, f_X11_save p1 M = some (.inr (), M1)) → ¬ M 37 (ix p1) = 0 → M' 37 = M 37) ∧ ((∀ M1, f_X11_save p1 M ≠ some (.inr (), M1)) → M' 37 = M 37)) := by
  obtain ⟨M', a, b, d⟩ := h
  exact ⟨M', by rw [e]; exact a, b, fun _ => d, fun q => absurd q hne⟩
set_option maxHeartbeats 600000 in
theorem lc_0 : Lc 0 = L_0 := by unfold Lc LT; rfl
set_option maxHeartbeats 600000 in
theorem lc_1 : Lc 1 = L_1 := by unfold Lc LT; rfl
set_option maxHeartbeats 600000 in
theorem lc_2 : Lc 2 = L_2 := by unfold Lc LT; rfl
set_option maxHeartbeats 600000 in
theorem lc_3 : Lc 3 = L_3 := by unfold Lc LT; rfl
set_option maxHeartbeats 600000 in
theorem lc_4 : Lc 4 = L_4 := by unfold Lc LT; rfl
set_option maxHeartbeats 600000 in
theorem lc_5 : Lc 5 = L_5 := by unfold Lc LT; rfl
set_option maxHeartbeats 600000 in
theorem lc_6 : Lc 6 = L_6 := by unfold Lc LT; rfl
set_option maxHeartbeats 600000 in
theorem lc_7 : Lc 7 = L_7 := by unfold Lc LT; rfl
set_option maxHeartbeats 600000 in
theorem lc_8 : Lc 8 = L_8 := by unfold Lc LT; rfl
set_option maxHeartbeats 600000 in
theorem lc_9 : Lc 9 = L_9 := by unfold Lc LT; rfl
set_option maxHeartbeats 600000 in
theorem lc_10 : Lc 10 = L_10 := by unfold Lc LT; rfl
set_option maxHeartbeats 600000 in
theorem lc_11 : Lc 11 = L_11 := by unfold Lc LT; rfl
set_option maxHeartbeats 600000 in
theorem lc_12 : Lc 12 = L_12 := by unfold Lc LT; rfl
set_option maxHeartbeats 600000 in
theorem lc_13 : Lc 13 = L_13 := by unfold Lc LT; rfl
set_option maxHeartbeats 600000 in
theorem lc_14 : Lc 14 = L_14 := by unfold Lc LT; rfl
set_option maxHeartbeats 600000 in
theorem lc_15 : Lc 15 = L_15 := by unfold Lc LT; rfl
set_option maxHeartbeats 600000 in
theorem lc_16 : Lc 16 = L_16 := by unfold Lc LT; rfl
set_option maxHeartbeats 600000 in
theorem lc_17 : Lc 17 = L_17 := by unfold Lc LT; rfl
set_option maxHeartbeats 600000 in
theorem lc_18 : Lc 18 = L_18 := by unfold Lc LT; rfl
set_option maxHeartbeats 600000 in
theorem lc_19 : Lc 19 = L_19 := by unfold Lc LT; rfl
set_option maxHeartbeats 600000 in
theorem lc_20 : Lc 20 = L_20 := by unfold Lc LT; rfl
set_option maxHeartbeats 600000 in
theorem lc_21 : Lc 21 = L_21 := by unfold Lc LT; rfl
set_option maxHeartbeats 600000 in
theorem lc_22 : Lc 22 = L_22 := by unfold Lc LT; rfl
set_option maxHeartbeats 600000 in
theorem lc_23 : Lc 23 = L_23 := by unfold Lc LT; rfl
set_option maxHeartbeats 600000 in
theorem lc_24 : Lc 24 = L_24 := by unfold Lc LT; rfl
set_option maxHeartbeats 600000 in
theorem lc_25 : Lc 25 = L_25 := by unfold Lc LT; rfl
set_option maxHeartbeats 600000 in
theorem lc_26 : Lc 26 = L_26 := by unfold Lc LT; rfl
set_option maxHeartbeats 600000 in
theorem lc_27 : Lc 27 = L_27 := by unfold Lc LT; rfl
set_option maxHeartbeats 600000 in
theorem lc_28 : Lc 28 = L_28 := by unfold Lc LT; rfl
set_option maxHeartbeats 600000 in
theorem lc_29 : Lc 29 = L_29 := by unfold Lc LT; rfl
set_option maxHeartbeats 600000 in
theorem lc_30 : Lc 30 = L_30 := by unfold Lc LT; rfl
set_option maxHeartbeats 600000 in
theorem lc_31 : Lc 31 = L_31 := by unfold Lc LT; rfl
set_option maxHeartbeats 600000 in
theorem lc_32 : Lc 32 = L_32 := by unfold Lc LT; rfl
set_option maxHeartbeats 600000 in
theorem lc_33 : Lc 33 = L_33 := by unfold Lc LT; rfl
set_option maxHeartbeats 600000 in
theorem lc_34 : Lc 34 = L_34 := by unfold Lc LT; rfl
set_option maxHeartbeats 600000 in
theorem lc_35 : Lc 35 = L_35 := by unfold Lc LT; rfl
set_option maxHeartbeats 600000 in
theorem lc_36 : Lc 36 = L_36 := by unfold Lc LT; rfl
set_option maxHeartbeats 600000 in
theorem lc_37 : Lc 37 = L_37 := by unfold Lc LT; rfl
set_option maxHeartbeats 600000 in
theorem lc_38 : Lc 38 = L_38 := by unfold Lc LT; rfl
set_option maxHeartbeats 600000 in
theorem lc_39 : Lc 39 = L_39 := by unfold Lc LT; rfl
set_option maxHeartbeats 600000 in
theorem lc_40 : Lc 40 = L_40 := by unfold Lc LT; rfl
set_option maxHeartbeats 600000 in
theorem lc_41 : Lc 41 = L_41 := by unfold Lc LT; rfl
set_option maxHeartbeats 600000 in
theorem lc_42 : Lc 42 = L_42 := by unfold Lc LT; rfl
set_option maxHeartbeats 600000 in
theorem lc_43 : Lc 43 = L_43 := by unfold Lc LT; rfl
set_option maxHeartbeats 600000 in
theorem lc_44 : Lc 44 = L_44 := by unfold Lc LT; rfl
set_option maxHeartbeats 600000 in
theorem lc_45 : Lc 45 = L_45 := by unfold Lc LT; rfl
set_option maxHeartbeats 600000 in
theorem lc_46 : Lc 46 = L_46 := by unfold Lc LT; rfl
set_option maxHeartbeats 600000 in
theorem lc_47 : Lc 47 = L_47 := by unfold Lc LT; rfl
set_option maxHeartbeats 600000 in
theorem lc_48 : Lc 48 = L_48 := by unfold Lc LT; rfl
set_option maxHeartbeats 600000 in
theorem lc_49 : Lc 49 = L_49 := by unfold Lc LT; rfl
set_option maxHeartbeats 600000 in
theorem lc_50 : Lc 50 = L_50 := by unfold Lc LT; rfl
set_option maxHeartbeats 600000 in
theorem lc_51 : Lc 51 = L_51 := by unfold Lc LT; rfl
set_option maxHeartbeats 600000 in
theorem lc_52 : Lc 52 = L_52 := by unfold Lc LT; rfl
set_option maxHeartbeats 600000 in
theorem lc_53 : Lc 53 = L_53 := by unfold Lc LT; rfl
set_option maxHeartbeats 600000 in
theorem lc_54 : Lc 54 = L_54 := by unfold Lc LT; rfl
set_option maxHeartbeats 600000 in
theorem lc_55 : Lc 55 = L_55 := by unfold Lc LT; rfl
set_option maxHeartbeats 600000 in
theorem lc_56 : Lc 56 = L_56 := by unfold Lc LT; rfl
set_option maxHeartbeats 600000 in
theorem lc_57 : Lc 57 = L_57 := by unfold Lc LT; rfl
set_option maxHeartbeats 600000 in
theorem owed_inv : Owed Inv := fun M hI c hc p1 p2 p3 p4 h1 h2 h3 h4 => match c, hc with
  | 0, _ => ow_c lc_0 (by decide) (o_0 hI h1 h2 h3 p4)
  | 1, _ => ow_c lc_1 (by decide) (o_1 hI p1 p2 p3 p4)
  | 2, _ => ow_c lc_2 (by decide) (o_2 hI h1 h2 h3 h4)
  | 3, _ => ow_c lc_3 (by decide) (o_3 hI p1 p2 p3 p4)
  | 4, _ => ow_c lc_4 (by decide) (o_4 hI h1 p2 p3 p4)
  | 5, _ => ow_c lc_5 (by decide) (o_5 hI h1 h2 p3 p4)
  | 6, _ => ow_c lc_6 (by decide) (o_6 hI h1 p2 p3 p4)
  | 7, _ => ow_c lc_7 (by decide) (o_7 hI h1 h2 h3 p4)
  | 8, _ => ow_c lc_8 (by decide) (o_8 hI p1 p2 p3 p4)
  | 9, _ => ow_c lc_9 (by decide) (o_9 hI h1 p2 p3 p4)
  | 10, _ => ow_c lc_10 (by decide) (o_10 hI h1 p2 p3 p4)
  | 11, _ => ow_c lc_11 (by decide) (o_11 hI h1 p2 p3 p4)
  | 12, _ => ow_c lc_12 (by decide) (o_12 hI h1 h2 p3 p4)
  | 13, _ => ow_c lc_13 (by decide) (o_13 hI h1 p2 p3 p4)
  | 14, _ => ow_c lc_14 (by decide) (o_14 hI h1 p2 p3 p4)
  | 15, _ => ow_c lc_15 (by decide) (o_15 hI h1 p2 p3 p4)
  | 16, _ => ow_c lc_16 (by decide) (o_16 hI h1 h2 h3 p4)
  | 17, _ => ow_c lc_17 (by decide) (o_17 hI h1 p2 p3 p4)
  | 18, _ => ow_c lc_18 (by decide) (o_18 hI h1 p2 p3 p4)
  | 19, _ => ow_c lc_19 (by decide) (o_19 hI p1 p2 p3 p4)
  | 20, _ => ow_c lc_20 (by decide) (o_20 hI h1 p2 p3 p4)
  | 21, _ => ow_c lc_21 (by decide) (o_21 hI h1 p2 p3 p4)
  | 22, _ => ow_c lc_22 (by decide) (o_22 hI h1 h2 p3 p4)
  | 23, _ => ow_c lc_23 (by decide) (o_23 hI h1 p2 p3 p4)
  | 24, _ => ow_c lc_24 (by decide) (o_24 hI h1 p2 p3 p4)
  | 25, _ => ow_c lc_25 (by decide) (o_25 hI h1 h2 p3 p4)
  | 26, _ => ow_c lc_26 (by decide) (o_26 hI h1 p2 p3 p4)
  | 27, _ => ow_c lc_27 (by decide) (o_27 hI h1 h2 p3 p4)
  | 28, _ => ow_c lc_28 (by decide) (o_28 hI h1 h2 p3 p4)
  | 29, _ => ow_c lc_29 (by decide) (o_29 hI h1 h2 h3 p4)
  | 30, _ => ow_c lc_30 (by decide) (o_30 hI h1 p2 p3 p4)
  | 31, _ => ow_c lc_31 (by decide) (o_31 hI h1 p2 p3 p4)
  | 32, _ => ow_c lc_32 (by decide) (o_32 hI h1 h2 p3 p4)
  | 33, _ => ow_c lc_33 (by decide) (o_33 hI h1 h2 h3 p4)
  | 34, _ => ow_c lc_34 (by decide) (o_34 hI p1 p2 p3 p4)
  | 35, _ => ow_c lc_35 (by decide) (o_35 hI h1 h2 p3 p4)
  | 36, _ => ow_c lc_36 (by decide) (o_36 hI h1 h2 p3 p4)
  | 37, _ => ow_c lc_37 (by decide) (o_37 hI h1 h2 p3 p4)
  | 38, _ => ow_c lc_38 (by decide) (o_38 hI h1 p2 p3 p4)
  | 39, _ => ow_c lc_39 (by decide) (o_39 hI p1 p2 p3 p4)
  | 40, _ => ow_c lc_40 (by decide) (o_40 hI h1 p2 p3 p4)
  | 41, _ => ow_c lc_41 (by decide) (o_41 hI p1 p2 p3 p4)
  | 42, _ => ow_c lc_42 (by decide) (o_42 hI p1 p2 p3 p4)
  | 43, _ => ow_c lc_43 (by decide) (o_43 hI p1 p2 p3 p4)
  | 44, _ => ow_c lc_44 (by decide) (o_44 hI p1 p2 p3 p4)
  | 45, _ => ow_c lc_45 (by decide) (o_45 hI p1 p2 p3 p4)
  | 46, _ => ow_c lc_46 (by decide) (o_46 hI h1 h2 p3 p4)
  | 47, _ => ow_c lc_47 (by decide) (o_47 hI h1 h2 p3 p4)
  | 48, _ => ow_c lc_48 (by decide) (o_48 hI p1 p2 p3 p4)
  | 49, _ => ow_c lc_49 (by decide) (o_49 hI p1 p2 p3 p4)
  | 50, _ => ow_c lc_50 (by decide) (o_50 hI h1 h2 p3 p4)
  | 51, _ => ow_c lc_51 (by decide) (o_51 hI h1 p2 p3 p4)
  | 52, _ => ow_c lc_52 (by decide) (o_52 hI h1 p2 p3 p4)
  | 53, _ => ow_c lc_53 (by decide) (o_53 hI p1 p2 p3 p4)
  | 54, _ => ow_c lc_54 (by decide) (o_54 hI p1 p2 p3 p4)
  | 55, _ => ow_c lc_55 (by decide) (o_55 hI p1 p2 p3 p4)
  | 56, _ => by
    obtain ⟨M', a, b, d⟩ := o_56 hI h1 p2 p3 p4
    exact ⟨M', by rw [lc_56]; exact a, b, fun q => absurd rfl q, fun _ => d⟩
  | 57, _ => ow_c lc_57 (by decide) (o_57 hI h1 p2 p3 p4)
  | n + 58, h => absurd h (by omega)
set_option maxHeartbeats 600000 in
theorem HR1_row0 {m : Mem} {N : Nat → Int} (h20 : m 2 0 = 4 ∧ m 2 1 = 10 ∧ m 2 2 = 2 ∧ m 2 3 = 1 ∧ m 2 5 = 0 ∧ m 2 6 = 0 ∧ m 2 7 = 1) (h21 : m 3 0 = 0 ∧ m 3 1 = -1 ∧ m 3 2 = -1 ∧ m 4 0 = 1 ∧ m 4 1 = 1) (h23 : m 5 0 = 0) (h28 : m 10 0 = 0 ∧ m 10 1 = 0) (h35 : m 17 0 = 0) : HR 1 m (row0 N) := by
  have z : zns (row0 N) = 1 := by unfold zns row0; simp
  have r3 : row0 N 3 = 0 := by unfold row0; simp
  have r4 : row0 N 4 = 0 := by unfold row0; simp
  have r5 : row0 N 5 = 0 := by unfold row0; simp
  refine ⟨?_, ?_, ⟨?_, fun i hi => ?_⟩, ⟨?_, ?_, ⟨?_, fun o _ => ?_⟩, fun o ho => ?_⟩, ⟨?_, fun b hb => ?_⟩⟩
  · simp only [Nat.reduceAdd]
    rw [z]
    unfold row0
    simpa using h20
  · simp only [Nat.reduceAdd]
    unfold row0
    simpa using h21
  · simp only [Nat.reduceAdd]; rw [h23, r3]
  · rw [r3] at hi; omega
  · simp only [Nat.reduceAdd]; rw [h28.1, r4]
  · simp only [Nat.reduceAdd]; rw [h28.2]; omega
  · simp only [Nat.reduceAdd]; rw [h28.2]; omega
  · simp only [Nat.reduceAdd]; rw [h28.2]; exact bit_zero o
  · rw [r4] at ho; omega
  · simp only [Nat.reduceAdd]; rw [h35, r5]
  · rw [r5] at hb; omega
set_option maxHeartbeats 600000 in
theorem X3res2 : wp (f_X3_reset 2 (fun _ _ => 0)) (fun r => (r 2 0 = 4 ∧ r 2 1 = 10 ∧ r 2 2 = 2 ∧ r 2 3 = 1 ∧ r 2 5 = 0 ∧ r 2 6 = 0 ∧ r 2 7 = 1) ∧ (r 3 0 = 0 ∧ r 3 1 = -1 ∧ r 3 2 = -1 ∧ r 4 0 = 1 ∧ r 4 1 = 1) ∧ ∀ a, a ≠ 2 → a ≠ 3 → a ≠ 4 → r a = fun _ => 0) := by
  unfold f_X3_reset f_X3_build f_X3_divide j_X3_divide_20
  refine wp_cl1 (wp_bnd (wp_bnd (wp_bnd (wp_cl1 (wp_ite_t (by decide) (wp_bnd (wp_bnd (wp_bnd (wp_bnd (wp_some (wp_some (wp_bnd (wp_bnd (wp_bnd (wp_bnd (wp_bnd (wp_some ⟨?_, ?_, fun a a1 a2 a3 => ?_⟩)))))))))))))))))
  · simp only [upd2_rd, upd2_nd, Nat.reduceEqDiff, Nat.reduceAdd, Nat.add_left_cancel_iff, Nat.add_right_cancel_iff, reduceCtorEq, ↓reduceIte, and_self, and_true, true_and, and_false, false_and, true_or, or_true, false_or, or_false, not_true_eq_false, not_false_eq_true]
  · simp only [upd2_rd, upd2_nd, Nat.reduceEqDiff, Nat.reduceAdd, Nat.add_left_cancel_iff, Nat.add_right_cancel_iff, reduceCtorEq, ↓reduceIte, and_self, and_true, true_and, and_false, false_and, true_or, or_true, false_or, or_false, not_true_eq_false, not_false_eq_true]
  · simp only [Nat.reduceAdd]
    simp (disch := omega) only [upd2_ne]
set_option maxHeartbeats 600000 in
theorem owe0_inv : Owe0 Inv := by
  obtain ⟨Mr1, e1, a1, a2, a3⟩ := X3res2
  obtain ⟨Mr19, e19, -⟩ := X3reset_ok (th := 20) (M := fun _ _ => 0)
  obtain ⟨Mr139, e139, b1, b2⟩ := X12beg (m := mW)
  refine ⟨Mr1, Mr19, Mr139, e1, e19, e139, ?_⟩
  have c2 : m0 Mr1 Mr19 Mr139 2 = Mr1 2 := rfl
  have c3 : m0 Mr1 Mr19 Mr139 3 = Mr1 3 := rfl
  have c4 : m0 Mr1 Mr19 Mr139 4 = Mr1 4 := rfl
  have c5 : m0 Mr1 Mr19 Mr139 5 = Mr1 5 := rfl
  have c10 : m0 Mr1 Mr19 Mr139 10 = Mr1 10 := rfl
  have c17 : m0 Mr1 Mr19 Mr139 17 = Mr1 17 := rfl
  have c37 : m0 Mr1 Mr19 Mr139 37 = fun _ => 0 := rfl
  have c38 : m0 Mr1 Mr19 Mr139 38 = fun j => if j = 3 then -1 else 0 := rfl
  have c139 : m0 Mr1 Mr19 Mr139 139 = Mr139 139 := rfl
  have c140 : m0 Mr1 Mr19 Mr139 140 = Mr139 140 := rfl
  have c143 : m0 Mr1 Mr19 Mr139 143 = Mr139 143 := rfl
  have c156 : m0 Mr1 Mr19 Mr139 156 = Mr139 156 := rfl
  have w139 : mW 139 = fun j => if j = 29 then -1 else 0 := rfl
  have w143 : mW 143 = fun _ => 0 := rfl
  generalize m0 Mr1 Mr19 Mr139 = m at *
  have z5 : Mr1 5 = fun _ => 0 := a3 5 (by decide) (by decide) (by decide)
  have z10 : Mr1 10 = fun _ => 0 := a3 10 (by decide) (by decide) (by decide)
  have z17 : Mr1 17 = fun _ => 0 := a3 17 (by decide) (by decide) (by decide)
  have m140 : m 140 = row0 (mW 140) := by rw [c140, b2]
  have m139 : m 139 = fun j => if j = 29 then -1 else 0 := by rw [c139, b1 139 (by decide), w139]
  refine ⟨?_, ?_, ⟨?_, ?_, ?_, fun i hi => ?_, ?_, ?_, ?_⟩, fun j hj => Or.inl ⟨?_, ?_⟩⟩
  · rw [m140]
    exact HR1_row0 (by rw [c2]; exact a1) (by rw [c3, c4]; exact a2) (by rw [c5, z5]) (by rw [c10, z10]; exact ⟨rfl, rfl⟩) (by rw [c17, z17])
  · rw [m140]; exact WF_row0
  · rw [c38]; simp
  · rw [c38]; simp
  · rw [c38, m139]; simp
  · rw [c38] at hi; simp at hi; omega
  · rw [c38, m139]; simp
  · rw [c38, m139]; simp
  · rw [c156, b1 156 (by decide)]
  · rw [c37]
  · rw [c143, b1 143 (by decide), w143]
