-- ===== picking =====
theorem HR_pkd {M M' : Mem} {N : Nat → Int} (hR : HR 1 M N) (hw : WFw N) {o k : Nat} {v : Int} (ho : o < 16) (hk : k < 6) (e : ∀ a, a ≠ 16 → 1 < a → a < 19 → M' a = M a) (e16 : ∀ j, M' 16 j = if j = 6 * o + k then v else M 16 j) : HR 1 M' (setN N (115 + 22 * o + 3 * k) v) := by
  obtain ⟨w3, w3', w4, w4', w5, w5', wl⟩ := id hw
  have x : ∀ j, j ≠ 115 + 22 * o + 3 * k → setN N (115 + 22 * o + 3 * k) v j = N j := fun j hj => setN_ne hj
  refine HR_mkw hR hw (fun d a b => e _ (by omega) (by omega) (by omega)) (fun k hk => x k (by omega)) (Or.inl ⟨fun d a b => e _ (by omega) (by omega) (by omega), fun k hk => x k (by omega)⟩) (Or.inr ?_) (Or.inl ⟨fun d a b => e _ (by omega) (by omega) (by omega), fun k hk => x k (by omega)⟩)
  have d := HR_D hR
  unfold HRD at d ⊢
  rw [x 4 (by omega), e (1 + 9) (by omega) (by omega) (by omega), e (1 + 10) (by omega) (by omega) (by omega), e (1 + 11) (by omega) (by omega) (by omega), e (1 + 12) (by omega) (by omega) (by omega), e (1 + 13) (by omega) (by omega) (by omega), e (1 + 14) (by omega) (by omega) (by omega)]
  refine ⟨d.1, d.2.1, d.2.2.1, fun o' ho' => ?_⟩
  have c := d.2.2.2 o' ho'
  have l := wl o' ho'
  rw [x (109 + 22 * o') (by omega), x (110 + 22 * o') (by omega), x (111 + 22 * o') (by omega), x (112 + 22 * o') (by omega)]
  refine ⟨c.1, c.2.1, c.2.2.1, c.2.2.2.1, fun k' hk' => ?_⟩
  have c2 := c.2.2.2.2 k' hk'
  rw [x (113 + 22 * o' + 3 * k') (by omega), x (114 + 22 * o' + 3 * k') (by omega)]
  refine ⟨c2.1, c2.2.1, ?_⟩
  show M' 16 _ = _
  rw [e16]
  by_cases q : o' = o ∧ k' = k
  · rw [if_pos (by omega), q.1, q.2, setN_eq]
  · rw [if_neg (by omega), x _ (by omega)]
    exact c2.2.2
theorem WF_pkd {N : Nat → Int} (hW : WF N) {o k : Nat} (ho : (o : Int) < N 4) (hk : k < lnN N o) {v : Int} (h0 : 0 ≤ v) (h1 : v ≤ N (114 + 22 * o + 3 * k)) : WF (setN N (115 + 22 * o + 3 * k) v) := by
  have hw := hW.1
  obtain ⟨o16, e1, l6, hl⟩ := lnW hW ho
  have x : ∀ j, j ≠ 115 + 22 * o + 3 * k → setN N (115 + 22 * o + 3 * k) v j = N j := fun j hj => setN_ne hj
  refine WF_mk hW (fun k hk => x k (by omega)) (by rw [x 3 (by omega)]; omega) (by rw [x 4 (by omega)]; omega) (by rw [x 5 (by omega)]; omega) (Or.inl (fun k hk => x k (by omega))) (Or.inr (fun o' ho' => ?_)) (Or.inl ⟨fun k hk => x k (by omega), by rw [x 4 (by omega)]; omega, fun o' _ h => by rw [x _ (by omega)]; exact h⟩) (Or.inl ⟨fun k hk => x k (by omega), fun o' ho' h => by rw [x _ (by omega)] at ho' h; exact ⟨ho', h⟩⟩)
  rw [x 4 (by omega)] at ho'
  have w := hW.2.2.2.2.1 o' ho'
  unfold WFo at w ⊢
  rw [x 3 (by omega), x (109 + 22 * o') (by omega), x (110 + 22 * o') (by omega), x (111 + 22 * o') (by omega)]
  refine ⟨w.1, w.2.1, w.2.2.1, w.2.2.2.1, w.2.2.2.2.1, w.2.2.2.2.2.1, fun k' hk' => ?_⟩
  have c := w.2.2.2.2.2.2 k' hk'
  rw [x (113 + 22 * o' + 3 * k') (by omega), x (114 + 22 * o' + 3 * k') (by omega)]
  by_cases q : o' = o ∧ k' = k
  · rw [q.1, q.2, setN_eq]
    rw [q.1, q.2] at c
    omega
  · rw [x _ (by omega)]
    exact c
def pkV (N : Nat → Int) (o k : Nat) : Int := i_min (N (114 + 22 * o + 3 * k)) (N (16 + 4 * itN N o k))
def pk1 (N : Nat → Int) (o k : Nat) : Nat → Int := setN (setN N (16 + 4 * itN N o k) (N (16 + 4 * itN N o k) - pkV N o k)) (115 + 22 * o + 3 * k) (pkV N o k)
theorem pkV_rng {N : Nat → Int} (hW : WF N) {o k : Nat} (ho : (o : Int) < N 4) (hk : k < lnN N o) : 0 ≤ pkV N o k ∧ pkV N o k ≤ N (114 + 22 * o + 3 * k) ∧ pkV N o k ≤ N (16 + 4 * itN N o k) ∧ N (16 + 4 * itN N o k) ≤ 999 ∧ N (114 + 22 * o + 3 * k) ≤ 99 := by
  obtain ⟨o16, e1, l6, hl⟩ := lnW hW ho
  obtain ⟨a1, a2, a3⟩ := hl k hk
  have w := (hW.2.2.2.2.1 o ho).2.2.2.2.2.2 k (by omega)
  have wi := hW.2.2.2.1 (itN N o k) a3
  unfold WFi at wi
  unfold pkV i_min
  rw [w32_ok ⟨by omega, by omega⟩, w32_ok ⟨by omega, by omega⟩]
  split <;> omega
theorem pk1_ne {N : Nat → Int} {o k j : Nat} (h1 : j ≠ 16 + 4 * itN N o k) (h2 : j ≠ 115 + 22 * o + 3 * k) : pk1 N o k j = N j := by
  unfold pk1
  rw [setN_ne h2, setN_ne h1]
theorem WF_pk1 {N : Nat → Int} (hW : WF N) {o k : Nat} (ho : (o : Int) < N 4) (hk : k < lnN N o) : WF (pk1 N o k) := by
  obtain ⟨o16, e1, l6, hl⟩ := lnW hW ho
  obtain ⟨a1, a2, a3⟩ := hl k hk
  have p := pkV_rng hW ho hk
  have h1 := WF_units (i := itN N o k) (v := N (16 + 4 * itN N o k) - pkV N o k) a3 (by omega) (by omega) hW
  unfold pk1
  refine WF_pkd h1 (by rw [setN_ne (by omega)]; exact ho) ?_ p.1 ?_
  · unfold lnN at hk ⊢
    rw [setN_ne (by omega)]
    exact hk
  · rw [setN_ne (by omega)]
    exact p.2.1
/-- the fixed numbers: items' aisles and places, orders' lines -/
def Fx (N N' : Nat → Int) : Prop := ∀ j, ¬ (16 ≤ j ∧ j ≤ 108 ∧ (j - 16) % 4 = 0) → ¬ (115 ≤ j ∧ j < 461 ∧ ∃ o k, k < 6 ∧ j = 115 + 22 * o + 3 * k) → N' j = N j
theorem Fx_pk1 {N : Nat → Int} {o k : Nat} (o16 : o < 16) (hk : k < 6) (hi : itN N o k < 24) : Fx N (pk1 N o k) := fun j h1 h2 => pk1_ne (fun e => h1 (by omega)) (fun e => h2 ⟨by omega, by omega, o, k, hk, e⟩)
theorem Fx.tr {A B C : Nat → Int} (h1 : Fx A B) (h2 : Fx B C) : Fx A C := fun j a b => (h2 j a b).trans (h1 j a b)
theorem Fx.rf {A : Nat → Int} : Fx A A := fun _ _ _ => rfl
theorem Fx_ln {N N' : Nat → Int} (h : Fx N N') (o : Nat) : lnN N' o = lnN N o := by
  unfold lnN
  rw [h _ (by omega) (by rintro ⟨-, -, o', k, hk, e⟩; omega)]
theorem Fx_it {N N' : Nat → Int} (h : Fx N N') {o k : Nat} (hk : k < 6) : itN N' o k = itN N o k := by
  unfold itN
  rw [h _ (by omega) (by rintro ⟨-, -, o', k', hk', e⟩; omega)]
def pkN (N : Nat → Int) (o : Nat) : Nat → (Nat → Int)
  | 0 => N
  | k + 1 => pk1 (pkN N o k) o k
def pkS (N : Nat → Int) (o : Nat) : Nat → Int
  | 0 => 0
  | k + 1 => pkS N o k + pkV (pkN N o k) o k
theorem pkN_ok {N : Nat → Int} (hW : WF N) {o : Nat} (ho : (o : Int) < N 4) : ∀ k, k ≤ lnN N o → WF (pkN N o k) ∧ Fx N (pkN N o k) := by
  intro k
  induction k with
  | zero => intro _; exact ⟨hW, Fx.rf⟩
  | succ k ih =>
    intro hk
    obtain ⟨h1, h2⟩ := ih (by omega)
    have e4 : pkN N o k 4 = N 4 := h2 4 (by omega) (by omega)
    have ho' : (o : Int) < pkN N o k 4 := by rw [e4]; exact ho
    have hk' : k < lnN (pkN N o k) o := by rw [Fx_ln h2]; omega
    obtain ⟨o16, e1, l6, hl⟩ := lnW h1 ho'
    exact ⟨WF_pk1 h1 ho' hk', h2.tr (Fx_pk1 o16 (by omega) (hl k hk').1)⟩
theorem X1serve {M : Mem} {N : Nat → Int} (hR : HR 1 M N) (hW : WF N) {o : Nat} (ho : (o : Int) < N 4) : wp (f_X1_serve 1 (o : Int) M) (fun r => r.1 = pkS N o (lnN N o) ∧ (∀ a, a ≠ 9 → a ≠ 16 → r.2 a = M a) ∧ HR 1 r.2 (pkN N o (lnN N o))) := by
  obtain ⟨o16, e1, l6, hl⟩ := lnW hW ho
  unfold f_X1_serve
  refine wp_lpb (wp_forI (fun k x => x.1 = pkS N o k ∧ x.2.1 = (k : Int) ∧ (∀ a, a ≠ 9 → a ≠ 16 → x.2.2 a = M a) ∧ HR 1 x.2.2 (pkN N o k)) (lnN N o) ?_ ?_ (Nat.zero_le _) ⟨rfl, rfl, fun _ _ _ => rfl, hR⟩)
  · rintro k ⟨s, c, m⟩ hk ⟨q1, q2, q3, q4⟩
    simp only at q1 q2 q3 q4
    subst q1
    subst q2
    obtain ⟨h1, h2⟩ := pkN_ok hW ho k (by omega)
    have ho' : (o : Int) < pkN N o k 4 := by rw [h2 4 (by omega) (by omega)]; exact ho
    have hk' : k < lnN (pkN N o k) o := by rw [Fx_ln h2]; exact hk
    obtain ⟨m1, hm⟩ := lnF q4 h1 ho'
    obtain ⟨b1, b2, b3, b4, b5, b6, b7⟩ := hm k hk'
    obtain ⟨_, _, _, hl'⟩ := lnW h1 ho'
    obtain ⟨a1, a2, a3⟩ := hl' k hk'
    rw [Fx_ln h2] at m1
    have x1 : ix ((o : Int) * 6 + (k : Int)) = 6 * o + k := ixC (by omega) (by omega)
    have x2 : ix ((itN (pkN N o k) o k : Nat) : Int) = itN (pkN N o k) o k := ix_nat (by omega)
    simp only [s_X1_serve_4, Nat.reduceAdd]
    (repeat' (first | with_reducible refine wp_bnd ?_ | with_reducible refine wp_cl1 ?_ | with_reducible refine wp_cl2 ?_ | with_reducible refine wp_cx1 ?_ | with_reducible refine wp_cx2 ?_ | with_reducible refine wp_some ?_ | with_reducible refine wp_ite_t (lcmp0 (by ((try simp (disch := omega) only [w32_and, w32_or, w32_shl, w32_shr, w32_xor, ixO, ixO0, ixO1, ixO2, ixO3, ixL0, ixL1, ixL2, ixC, ixB, ixI0, ixI00, ixI1, ixI2, ixI3, upd2_rd, upd2_nd, Nat.reduceEqDiff, Nat.reduceAdd, Nat.add_left_cancel_iff, Nat.add_right_cancel_iff, reduceCtorEq, ↓reduceIte, and_self, and_true, true_and, and_false, false_and, true_or, or_true, false_or, or_false, not_true_eq_false, not_false_eq_true]); (try simp only [w32_em]); (first | done | omega)))) ?_ | with_reducible refine wp_ite_t (by ((try simp (disch := omega) only [w32_and, w32_or, w32_shl, w32_shr, w32_xor, ixO, ixO0, ixO1, ixO2, ixO3, ixL0, ixL1, ixL2, ixC, ixB, ixI0, ixI00, ixI1, ixI2, ixI3, upd2_rd, upd2_nd, Nat.reduceEqDiff, Nat.reduceAdd, Nat.add_left_cancel_iff, Nat.add_right_cancel_iff, reduceCtorEq, ↓reduceIte, and_self, and_true, true_and, and_false, false_and, true_or, or_true, false_or, or_false, not_true_eq_false, not_false_eq_true]); (try simp only [w32_em]); (first | done | omega))) ?_ | with_reducible refine wp_ite_f (by ((try simp (disch := omega) only [w32_and, w32_or, w32_shl, w32_shr, w32_xor, ixO, ixO0, ixO1, ixO2, ixO3, ixL0, ixL1, ixL2, ixC, ixB, ixI0, ixI00, ixI1, ixI2, ixI3, upd2_rd, upd2_nd, Nat.reduceEqDiff, Nat.reduceAdd, Nat.add_left_cancel_iff, Nat.add_right_cancel_iff, reduceCtorEq, ↓reduceIte, and_self, and_true, true_and, and_false, false_and, true_or, or_true, false_or, or_false, not_true_eq_false, not_false_eq_true]); (try simp only [w32_em]); (first | done | omega))) ?_ | with_reducible refine wp_itei ?_ ?_ | (with_reducible refine wp_imp (fun hc => ?_); (try simp (disch := omega) only [w32_and, w32_or, w32_shl, w32_shr, w32_xor, ixO, ixO0, ixO1, ixO2, ixO3, ixL0, ixL1, ixL2, ixC, ixB, ixI0, ixI00, ixI1, ixI2, ixI3, upd2_rd, upd2_nd, Nat.reduceEqDiff, Nat.reduceAdd, Nat.add_left_cancel_iff, Nat.add_right_cancel_iff, reduceCtorEq, ↓reduceIte, and_self, and_true, true_and, and_false, false_and, true_or, or_true, false_or, or_false, not_true_eq_false, not_false_eq_true] at hc); (try simp only [w32_em] at hc)) | with_reducible refine wp_gi (by ((try simp (disch := omega) only [w32_and, w32_or, w32_shl, w32_shr, w32_xor, ixO, ixO0, ixO1, ixO2, ixO3, ixL0, ixL1, ixL2, ixC, ixB, ixI0, ixI00, ixI1, ixI2, ixI3, upd2_rd, upd2_nd, Nat.reduceEqDiff, Nat.reduceAdd, Nat.add_left_cancel_iff, Nat.add_right_cancel_iff, reduceCtorEq, ↓reduceIte, and_self, and_true, true_and, and_false, false_and, true_or, or_true, false_or, or_false, not_true_eq_false, not_false_eq_true]); (try simp only [w32_em]); (first | done | omega))) (by ((try simp (disch := omega) only [w32_and, w32_or, w32_shl, w32_shr, w32_xor, ixO, ixO0, ixO1, ixO2, ixO3, ixL0, ixL1, ixL2, ixC, ixB, ixI0, ixI00, ixI1, ixI2, ixI3, upd2_rd, upd2_nd, Nat.reduceEqDiff, Nat.reduceAdd, Nat.add_left_cancel_iff, Nat.add_right_cancel_iff, reduceCtorEq, ↓reduceIte, and_self, and_true, true_and, and_false, false_and, true_or, or_true, false_or, or_false, not_true_eq_false, not_false_eq_true]); (try simp only [w32_em]); (first | done | omega))) (by omega) ?_ | with_reducible refine wp_gz (by ((try simp (disch := omega) only [w32_and, w32_or, w32_shl, w32_shr, w32_xor, ixO, ixO0, ixO1, ixO2, ixO3, ixL0, ixL1, ixL2, ixC, ixB, ixI0, ixI00, ixI1, ixI2, ixI3, upd2_rd, upd2_nd, Nat.reduceEqDiff, Nat.reduceAdd, Nat.add_left_cancel_iff, Nat.add_right_cancel_iff, reduceCtorEq, ↓reduceIte, and_self, and_true, true_and, and_false, false_and, true_or, or_true, false_or, or_false, not_true_eq_false, not_false_eq_true]); (try simp only [w32_em]); (first | done | omega))) ?_ | dsimp only [Sum.elim_inl, Sum.elim_inr])) <;> (first | exact lf1 hI | exact lf2 hI | skip)
    simp (disch := omega) only [x1, b1, x2, b2, b7]
    have ev : i_min (pkN N o k (114 + 22 * o + 3 * k)) (pkN N o k (16 + 4 * itN (pkN N o k) o k)) = pkV (pkN N o k) o k := rfl
    rw [ev]
    refine ⟨rfl, by simp, fun a h1 h2 => by simp (disch := omega) only [upd2_ne]; exact q3 a h1 h2, ?_⟩
    have g1 := HR_units (h := 1) (M := m) (i := itN (pkN N o k) o k) (v := pkN N o k (16 + 4 * itN (pkN N o k) o k) - pkV (pkN N o k) o k) a1 q4
    refine HR_pkd (M := upd2 m 9 (itN (pkN N o k) o k) (pkN N o k (16 + 4 * itN (pkN N o k) o k) - pkV (pkN N o k) o k)) g1 ?_ o16 (by omega) (fun a h1 _ _ => upd2_ne h1) (fun j => upd2_at _ _ _ _ _)
    have p := pkV_rng h1 ho' hk'
    exact WF_w (WF_units (i := itN (pkN N o k) o k) a3 (by omega) (by omega) h1)
  · rintro ⟨s, c, m⟩ ⟨q1, q2, q3, q4⟩
    simp only at q1 q2 q3 q4
    subst q1
    subst q2
    obtain ⟨h1, h2⟩ := pkN_ok hW ho (lnN N o) (Nat.le_refl _)
    have ho' : (o : Int) < pkN N o (lnN N o) 4 := by rw [h2 4 (by omega) (by omega)]; exact ho
    obtain ⟨m1, hm⟩ := lnF q4 h1 ho'
    rw [Fx_ln h2] at m1
    simp only [s_X1_serve_4, Nat.reduceAdd]
    (repeat' (first | with_reducible refine wp_bnd ?_ | with_reducible refine wp_cl1 ?_ | with_reducible refine wp_cl2 ?_ | with_reducible refine wp_cx1 ?_ | with_reducible refine wp_cx2 ?_ | with_reducible refine wp_some ?_ | with_reducible refine wp_ite_t (lcmp0 (by ((try simp (disch := omega) only [w32_and, w32_or, w32_shl, w32_shr, w32_xor, ixO, ixO0, ixO1, ixO2, ixO3, ixL0, ixL1, ixL2, ixC, ixB, ixI0, ixI00, ixI1, ixI2, ixI3, upd2_rd, upd2_nd, Nat.reduceEqDiff, Nat.reduceAdd, Nat.add_left_cancel_iff, Nat.add_right_cancel_iff, reduceCtorEq, ↓reduceIte, and_self, and_true, true_and, and_false, false_and, true_or, or_true, false_or, or_false, not_true_eq_false, not_false_eq_true]); (try simp only [w32_em]); (first | done | omega)))) ?_ | with_reducible refine wp_ite_t (by ((try simp (disch := omega) only [w32_and, w32_or, w32_shl, w32_shr, w32_xor, ixO, ixO0, ixO1, ixO2, ixO3, ixL0, ixL1, ixL2, ixC, ixB, ixI0, ixI00, ixI1, ixI2, ixI3, upd2_rd, upd2_nd, Nat.reduceEqDiff, Nat.reduceAdd, Nat.add_left_cancel_iff, Nat.add_right_cancel_iff, reduceCtorEq, ↓reduceIte, and_self, and_true, true_and, and_false, false_and, true_or, or_true, false_or, or_false, not_true_eq_false, not_false_eq_true]); (try simp only [w32_em]); (first | done | omega))) ?_ | with_reducible refine wp_ite_f (by ((try simp (disch := omega) only [w32_and, w32_or, w32_shl, w32_shr, w32_xor, ixO, ixO0, ixO1, ixO2, ixO3, ixL0, ixL1, ixL2, ixC, ixB, ixI0, ixI00, ixI1, ixI2, ixI3, upd2_rd, upd2_nd, Nat.reduceEqDiff, Nat.reduceAdd, Nat.add_left_cancel_iff, Nat.add_right_cancel_iff, reduceCtorEq, ↓reduceIte, and_self, and_true, true_and, and_false, false_and, true_or, or_true, false_or, or_false, not_true_eq_false, not_false_eq_true]); (try simp only [w32_em]); (first | done | omega))) ?_ | with_reducible refine wp_itei ?_ ?_ | (with_reducible refine wp_imp (fun hc => ?_); (try simp (disch := omega) only [w32_and, w32_or, w32_shl, w32_shr, w32_xor, ixO, ixO0, ixO1, ixO2, ixO3, ixL0, ixL1, ixL2, ixC, ixB, ixI0, ixI00, ixI1, ixI2, ixI3, upd2_rd, upd2_nd, Nat.reduceEqDiff, Nat.reduceAdd, Nat.add_left_cancel_iff, Nat.add_right_cancel_iff, reduceCtorEq, ↓reduceIte, and_self, and_true, true_and, and_false, false_and, true_or, or_true, false_or, or_false, not_true_eq_false, not_false_eq_true] at hc); (try simp only [w32_em] at hc)) | with_reducible refine wp_gi (by ((try simp (disch := omega) only [w32_and, w32_or, w32_shl, w32_shr, w32_xor, ixO, ixO0, ixO1, ixO2, ixO3, ixL0, ixL1, ixL2, ixC, ixB, ixI0, ixI00, ixI1, ixI2, ixI3, upd2_rd, upd2_nd, Nat.reduceEqDiff, Nat.reduceAdd, Nat.add_left_cancel_iff, Nat.add_right_cancel_iff, reduceCtorEq, ↓reduceIte, and_self, and_true, true_and, and_false, false_and, true_or, or_true, false_or, or_false, not_true_eq_false, not_false_eq_true]); (try simp only [w32_em]); (first | done | omega))) (by ((try simp (disch := omega) only [w32_and, w32_or, w32_shl, w32_shr, w32_xor, ixO, ixO0, ixO1, ixO2, ixO3, ixL0, ixL1, ixL2, ixC, ixB, ixI0, ixI00, ixI1, ixI2, ixI3, upd2_rd, upd2_nd, Nat.reduceEqDiff, Nat.reduceAdd, Nat.add_left_cancel_iff, Nat.add_right_cancel_iff, reduceCtorEq, ↓reduceIte, and_self, and_true, true_and, and_false, false_and, true_or, or_true, false_or, or_false, not_true_eq_false, not_false_eq_true]); (try simp only [w32_em]); (first | done | omega))) (by omega) ?_ | with_reducible refine wp_gz (by ((try simp (disch := omega) only [w32_and, w32_or, w32_shl, w32_shr, w32_xor, ixO, ixO0, ixO1, ixO2, ixO3, ixL0, ixL1, ixL2, ixC, ixB, ixI0, ixI00, ixI1, ixI2, ixI3, upd2_rd, upd2_nd, Nat.reduceEqDiff, Nat.reduceAdd, Nat.add_left_cancel_iff, Nat.add_right_cancel_iff, reduceCtorEq, ↓reduceIte, and_self, and_true, true_and, and_false, false_and, true_or, or_true, false_or, or_false, not_true_eq_false, not_false_eq_true]); (try simp only [w32_em]); (first | done | omega))) ?_ | dsimp only [Sum.elim_inl, Sum.elim_inr])) <;> (first | exact lf1 hI | exact lf2 hI | skip)
    exact ⟨rfl, q3, q4⟩
theorem X12picks {M : Mem} {N : Nat → Int} (hN : M 140 = N) (hW : WF N) {o k : Nat} (ho : (o : Int) < N 4) (hk : k < lnN N o) : wp (f_X12_picks (o : Int) (k : Int) M) (fun r => r.1 = pkV N o k ∧ (∀ a, a ≠ 140 → r.2 a = M a) ∧ r.2 140 = pk1 N o k) := by
  subst hN
  obtain ⟨o16, e1, l6, hl⟩ := lnW hW ho
  obtain ⟨a1, a2, a3⟩ := hl k hk
  simp only [f_X12_picks, j_X12_picks_57, f_X12_lineAt]
  have ev : pkV (M 140) o k = if w32 (M 140 (16 + 4 * itN (M 140) o k)) < w32 (M 140 (114 + 22 * o + 3 * k)) then M 140 (16 + 4 * itN (M 140) o k) else M 140 (114 + 22 * o + 3 * k) := rfl
  have p := pkV_rng hW ho hk
  have x0 : ix (109 + 22 * (o : Int) + 4 + 3 * (k : Int)) = 113 + 22 * o + 3 * k := ixL0 (by omega) (by omega)
  have x1 : ix (109 + 22 * (o : Int) + 4 + 3 * (k : Int) + 1) = 114 + 22 * o + 3 * k := ixL1 (by omega) (by omega)
  have x2 : ix (109 + 22 * (o : Int) + 4 + 3 * (k : Int) + 2) = 115 + 22 * o + 3 * k := ixL2 (by omega) (by omega)
  have x3 : ix (13 + 4 * ((itN (M 140) o k : Nat) : Int) + 3) = 16 + 4 * itN (M 140) o k := ixI3 (by omega)
  have fin : ∀ v, v = pkV (M 140) o k → upd2 (upd2 M 140 (16 + 4 * itN (M 140) o k) (M 140 (16 + 4 * itN (M 140) o k) - v)) 140 (115 + 22 * o + 3 * k) v 140 = pk1 (M 140) o k := fun v hv => by
    subst hv
    rw [upd2_fun, upd2_fun]
    rfl
  refine wp_cl1 (wp_some (wp_gi (by omega) (by omega) (by omega) (wp_bnd ?_)))
  rw [x0, a2, x1, x2, x3]
  refine wp_gi (by omega) (by omega) (by omega) (wp_gi (by omega) (by omega) (by omega) (wp_ite (fun hc => ?_) (fun hc => ?_)))
  · rw [if_pos hc] at ev
    refine wp_gi (by omega) (by omega) (by omega) (wp_gi (by omega) (by omega) (by omega) (wp_gi (by omega) (by omega) (by omega) (wp_bnd (wp_gi (by omega) (by omega) (by omega) (wp_bnd (wp_some ⟨ev.symm, fun a ha => ?_, fin _ ev.symm⟩))))))
    simp (disch := omega) only [upd2_ne]
  · rw [if_neg hc] at ev
    refine wp_gi (by omega) (by omega) (by omega) (wp_gi (by omega) (by omega) (by omega) (wp_gi (by omega) (by omega) (by omega) (wp_bnd (wp_gi (by omega) (by omega) (by omega) (wp_bnd (wp_some ⟨ev.symm, fun a ha => ?_, fin _ ev.symm⟩))))))
    simp (disch := omega) only [upd2_ne]
