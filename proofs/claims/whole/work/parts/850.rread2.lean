-- ===== the reference: orders and their lines =====
def lnS (t : Nat → Int) (n : Nat) (N : Nat → Int) (o p : Nat) (K : Int → Int → Nat → Rs) : Rs := bdE (rdN t n 0 (N 3 - 1) (tE t n p)) (fun a => if hasB N o a.1 (lnN N o) = true then .inl (2, ((tS t n (tE t n p) : Nat) : Int)) else bdE (rdN t n 1 99 a.2) (fun b => K a.1 b.1 b.2))
set_option maxHeartbeats 600000 in
theorem hasB_ex {N : Nat → Int} {o : Nat} {x : Int} : ∀ l : Nat, hasB N o x l = true → ∃ k, k < l ∧ N (113 + 22 * o + 3 * k) = x := by
  intro l
  induction l with
  | zero => intro h; simp [hasB] at h
  | succ l ih =>
    intro h
    simp only [hasB, Bool.or_eq_true, beq_iff_eq] at h
    rcases h with h | h
    · obtain ⟨k, a, b⟩ := ih h
      exact ⟨k, by omega, b⟩
    · exact ⟨l, by omega, h⟩
set_option maxHeartbeats 600000 in
theorem X12ln {M : Mem} {N : Nat → Int} (hN : M 140 = N) {i : Nat} (hi : i < 16) : f_X12_ofOrder (i : Int) 2 M = some (N (111 + 22 * i)) := by
  subst hN
  apply wp_val
  simp only [f_X12_ofOrder, f_X12_orderAt]
  have e : ix ((109 + 22 * (i : Int)) + 2) = 111 + 22 * i := by rw [ix_of (by omega) (by omega)]; omega
  rw [cl1_some, e]
  exact wp_gi (by omega) (by omega) (by omega) (wp_some rfl)
set_option maxHeartbeats 600000 in
theorem REd_line {M1 : Mem} {N : Nat → Int} (h : REd M1 N) {o : Nat} (ho : o < 16) (hl : lnN N o < 6) {i q : Int} : REd M1 (opLine N o i q) := fun k hk => by
  rw [← h k hk]
  unfold opLine
  rw [if_neg (by omega), if_neg (by omega), if_neg (by omega), if_neg (by omega)]
set_option maxHeartbeats 600000 in
theorem R_46 {M1 : Mem} {t : Nat → Int} {n o p : Nat} {N : Nat → Int} {m : Mem} (h : RKp M1 t n N p m) (hE : REd M1 N) (ho : (o : Int) < N 4) (hl : lnN N o < 6) : wp (j_X12_readLine_46 (o : Int) m) (fun z => (∃ e, REr M1 t n e z ∧ ∀ K : Int → Int → Nat → Rs, bdE (rdN t n 0 (N 3 - 1) p) (fun a => bdE (rdN t n 1 99 a.2) (fun b => K a.1 b.1 b.2)) = .inl e) ∨ ∃ v v2 q q2, RKp M1 t n (opLine N o v v2) q2 z ∧ p < q2 ∧ rdN t n 0 (N 3 - 1) p = .inr (v, q) ∧ rdN t n 1 99 q = .inr (v2, q2)) := by
  have hW := h.1.2.2.2.2.1
  have hw := hW.1
  obtain ⟨o16, l1, l6, hll⟩ := lnW hW ho
  unfold j_X12_readLine_46
  rw [h.1.2.2.2.1]
  refine wp_cl2 (wp_use (R_rd h hE (by omega) (by omega)) (fun r hr => ?_))
  rcases hr with ⟨e, e1, r2⟩ | ⟨v, q, e1, r1, r2, r4, r5, r6⟩
  · refine wp_cl2 (wp_use (R_rdE r2) (fun s hs => ?_))
    rw [hs]
    exact wp_cl1 (wp_eq (R_wellE r2) (wp_ite_t (by decide) (wp_some (Or.inl ⟨e, r2, fun K => by rw [e1, bd_l]⟩))))
  rw [r1]
  refine wp_cl2 (wp_use (R_rd r2 hE (by omega) (by omega)) (fun s hs => ?_))
  rcases hs with ⟨e, e2, s2⟩ | ⟨v2, q2, e2, s1, s2, s4, s5, s6⟩
  · exact wp_cl1 (wp_eq (R_wellE s2) (wp_ite_t (by decide) (wp_some (Or.inl ⟨e, s2, fun K => by rw [e1, bd_r, e2, bd_l]⟩))))
  rw [s1]
  exact wp_cl1 (wp_eq (R_well s2.1) (wp_ite_f (by decide) (wp_cl2 (wp_use (X12addsLine s2.1.2.2.2.1 o16 hl l1) (fun x hx => wp_some (Or.inr ⟨v, v2, q, q2, RK_up hx.2.2 hx.2.1 (WF_line hW ho hl (by omega) (by omega)) s2, by omega, e1, e2⟩))))))
set_option maxHeartbeats 600000 in
theorem R_line {M1 : Mem} {t : Nat → Int} {n o p : Nat} {N : Nat → Int} {m : Mem} (h : RKp M1 t n N p m) (hE : REd M1 N) (ho : (o : Int) < N 4) (hl : lnN N o < 6) : wp (f_X12_readLine (o : Int) m) (fun z => (∃ e, REr M1 t n e z ∧ ∀ K, lnS t n N o p K = .inl e) ∨ ∃ v v2 q2, RKp M1 t n (opLine N o v v2) q2 z ∧ p < q2 ∧ ∀ K, lnS t n N o p K = K v v2 q2) := by
  have hW := h.1.2.2.2.2.1
  have hw := hW.1
  obtain ⟨o16, l1, l6, hll⟩ := lnW hW ho
  have tr := tk_rng (t := t) h.2.2
  unfold f_X12_readLine
  refine wp_cl1 (wp_eq (X12ln h.1.2.2.2.1 o16) (wp_ite_f (by ((try simp (disch := omega) only [w32_and, w32_or, w32_shl, w32_shr, w32_xor, ixO, ixO0, ixO1, ixO2, ixO3, ixL0, ixL1, ixL2, ixC, ixB, ixI0, ixI00, ixI1, ixI2, ixI3, upd2_rd, upd2_nd, Nat.reduceEqDiff, Nat.reduceAdd, Nat.add_left_cancel_iff, Nat.add_right_cancel_iff, reduceCtorEq, ↓reduceIte, and_self, and_true, true_and, and_false, false_and, true_or, or_true, false_or, or_false, not_true_eq_false, not_false_eq_true]); (try simp only [w32_em]); (first | done | omega))) (wp_cl1 (wp_use (R_adv h) (fun z hz => ?_)))))
  have tre := tk_rng (t := t) hz.2.2
  obtain ⟨c26, c25, c24, c27⟩ := hz.2.1
  rw [c26]
  -- the number is none of the order's items
  have go : ((∃ v q, rdN t n 0 (N 3 - 1) (tE t n p) = .inr (v, q) ∧ hasB N o v (lnN N o) = true) → False) → wp (j_X12_readLine_46 (o : Int) z) (fun z => (∃ e, REr M1 t n e z ∧ ∀ K, lnS t n N o p K = .inl e) ∨ ∃ v v2 q2, RKp M1 t n (opLine N o v v2) q2 z ∧ p < q2 ∧ ∀ K, lnS t n N o p K = K v v2 q2) := fun hno => by
    refine wp_use (R_46 hz hE ho hl) (fun y hy => ?_)
    rcases hy with ⟨e, y1, y2⟩ | ⟨v, v2, q, q2, y1, y2, y3, y4⟩
    · refine Or.inl ⟨e, y1, fun K => ?_⟩
      rw [← y2 K]
      unfold lnS
      cases hr : rdN t n 0 (N 3 - 1) (tE t n p) with
      | inl e => rfl
      | inr a =>
        rw [bd_r, bd_r, if_neg (fun hb => hno ⟨a.1, a.2, hr, hb⟩)]
    · refine Or.inr ⟨v, v2, q2, y1, by omega, fun K => ?_⟩
      unfold lnS
      rw [y3, bd_r, if_neg (fun hb => hno ⟨v, q, y3, hb⟩)]
      dsimp only
      rw [y4, bd_r]
  by_cases k : tK t n (tE t n p) = 2
  · have e27 := c27 k
    obtain ⟨b, nb, hb⟩ := tN_rng (t := t) (n := n) (p := tE t n p)
    rw [← hb] at e27
    unfold nmQ at nb
    rw [e27]
    refine wp_ite_t (by ((try simp (disch := omega) only [w32_and, w32_or, w32_shl, w32_shr, w32_xor, ixO, ixO0, ixO1, ixO2, ixO3, ixL0, ixL1, ixL2, ixC, ixB, ixI0, ixI00, ixI1, ixI2, ixI3, upd2_rd, upd2_nd, Nat.reduceEqDiff, Nat.reduceAdd, Nat.add_left_cancel_iff, Nat.add_right_cancel_iff, reduceCtorEq, ↓reduceIte, and_self, and_true, true_and, and_false, false_and, true_or, or_true, false_or, or_false, not_true_eq_false, not_false_eq_true]); (try simp only [w32_em]); (first | done | omega))) (wp_cl1 (wp_eq (X12has hz.1.2.2.2.1 ⟨by omega, by omega⟩ o16 l6 l1 (fun k hk => by have := hll k hk; omega)) ?_))
    cases hh : hasB N o b (lnN N o)
    · simp only [Bool.false_eq_true, ↓reduceIte]
      refine wp_ite_t (by decide) (go ?_)
      rintro ⟨v, q, e1, e2⟩
      unfold rdN at e1
      rw [if_pos k] at e1
      by_cases w : 0 ≤ tN t n (tE t n p) ∧ tN t n (tE t n p) ≤ N 3 - 1
      · rw [if_pos w] at e1
        have ev : tN t n (tE t n p) = v := congrArg (fun x => match x with | Sum.inr y => y.1 | Sum.inl _ => 0) e1
        rw [← ev, show tN t n (tE t n p) = b by omega, hh] at e2
        cases e2
      · rw [if_neg w] at e1; cases e1
    · simp only [↓reduceIte]
      obtain ⟨j, j1, j2⟩ := hasB_ex _ hh
      have jl := hll j j1
      have bb : b = tN t n (tE t n p) := by omega
      have es : rdN t n 0 (N 3 - 1) (tE t n p) = .inr (tN t n (tE t n p), tE t n (tE t n p)) := by unfold rdN; rw [if_pos k, if_pos (by omega)]
      refine wp_ite_f (by decide) (wp_cl1 (wp_use (R_fails hz.1 hE (Or.inr (Or.inl rfl)) c25) (fun y hy => ?_)))
      unfold j_X12_readLine_46
      refine wp_cl2 (wp_use (R_rdE hy) (fun r hr => ?_))
      rw [hr]
      refine wp_cl2 (wp_use (R_rdE hy) (fun s hs => ?_))
      rw [hs]
      refine wp_cl1 (wp_eq (R_wellE hy) (wp_ite_t (by decide) (wp_some (Or.inl ⟨_, hy, fun K => ?_⟩))))
      unfold lnS
      rw [es, bd_r]
      dsimp only
      rw [← bb, if_pos hh]
  · refine wp_ite_f (by ((try simp (disch := omega) only [w32_and, w32_or, w32_shl, w32_shr, w32_xor, ixO, ixO0, ixO1, ixO2, ixO3, ixL0, ixL1, ixL2, ixC, ixB, ixI0, ixI00, ixI1, ixI2, ixI3, upd2_rd, upd2_nd, Nat.reduceEqDiff, Nat.reduceAdd, Nat.add_left_cancel_iff, Nat.add_right_cancel_iff, reduceCtorEq, ↓reduceIte, and_self, and_true, true_and, and_false, false_and, true_or, or_true, false_or, or_false, not_true_eq_false, not_false_eq_true]); (try simp only [w32_em]); (first | done | omega))) (go ?_)
    rintro ⟨v, q, e1, e2⟩
    unfold rdN at e1
    rw [if_neg k] at e1
    cases e1
set_option maxHeartbeats 600000 in
theorem sq47 {x2 : Int} {M : Mem} : s_X12_readOrder_47 x2 M = cl1 (f_X12_isWell M) (fun r_9 => (if w32 r_9 = 0 then some (.inr (.inl M)) else cl1 (f_X12_wordHere M) (fun r_11 => (if w32 r_11 = 3 then cl1 (f_X12_readLine x2 M) (fun M_14 => some (.inl M_14)) else some (.inr (.inl M)))))) := rfl
set_option maxHeartbeats 600000 in
theorem R_lE {M1 : Mem} {t : Nat → Int} {n : Nat} {e : Er} {m : Mem} (h : REr M1 t n e m) {x : Int} : wp (wh (fun y => s_X12_readOrder_47 x y) m) (fun r => r = .inl m) := by
  refine wp_unroll ?_
  show wp (s_X12_readOrder_47 x m) _
  rw [sq47]
  exact wp_cl1 (wp_eq (R_wellE h) (wp_ite_t (by decide) (wp_some rfl)))
set_option maxHeartbeats 600000 in
theorem R_lines {M1 : Mem} {t : Nat → Int} {n p0 o : Nat} : ∀ (f : Nat) (N : Nat → Int) (p : Nat) (m : Mem), RKp M1 t n N p m → REd M1 N → f ≤ 6 → (o : Int) < N 4 → lnN N o = 6 - f → p0 ≤ p → wp (wh (fun y => s_X12_readOrder_47 (o : Int) y) m) (fun r => ∃ z : Mem, r = .inl z ∧ QRs M1 t n p0 (rLines t n o (f + 1) N p) z) := by
  -- no further line
  have stop : ∀ (f : Nat) (N : Nat → Int) (p : Nat) (m : Mem), RKp M1 t n N p m → REd M1 N → p0 ≤ p → ¬ WdI t n p 3 → QRs M1 t n p0 (rLines t n o (f + 1) N p) m := fun f N p m h hE h0 hw => by
    refine Or.inr ⟨p, N, ?_, h, h0, hE⟩
    rw [rLines]
    unfold smc
    by_cases k : tK t n p = 3
    · rw [if_pos k, if_pos k, bd_r]
    · rw [if_neg k, if_neg k, bd_l, if_neg (fun e => hw (wdB_t.mp e))]
  intro f
  induction f with
  | zero =>
    intro N p m h hE hf ho hl h0
    have hW := h.1.2.2.2.2.1
    obtain ⟨o16, l1, l6, hll⟩ := lnW hW ho
    refine wp_unroll ?_
    show wp (s_X12_readOrder_47 (o : Int) m) _
    rw [sq47]
    refine wp_cl1 (wp_eq (R_well h.1) (wp_ite_f (by decide) (wp_cl1 (wp_use (X12wh h.1.1 h.2.2 h.2.1) (fun w hw => ?_)))))
    by_cases hw3 : WdI t n p 3
    · have ew : w = 3 := by
        rcases hw with ⟨_, hw⟩ | ⟨v, hv, hw, hw2⟩
        · exact absurd hw3 (hw 3 (by omega))
        · rw [hw, Wd_one hv (by omega) hw2 hw3]; rfl
      subst ew
      have es : rLines t n o (0 + 1) N p = .inl (3, ((tS t n p : Nat) : Int)) := by
        rw [rLines, if_neg (by rw [hw3.1]; decide), if_pos (wdB_t.mpr hw3), if_pos rfl]
      rw [es]
      unfold f_X12_readLine
      refine wp_ite_t (by decide) (wp_cl1 (wp_cl1 (wp_eq (X12ln h.1.2.2.2.1 o16) (wp_ite_t (by ((try simp (disch := omega) only [w32_and, w32_or, w32_shl, w32_shr, w32_xor, ixO, ixO0, ixO1, ixO2, ixO3, ixL0, ixL1, ixL2, ixC, ixB, ixI0, ixI00, ixI1, ixI2, ixI3, upd2_rd, upd2_nd, Nat.reduceEqDiff, Nat.reduceAdd, Nat.add_left_cancel_iff, Nat.add_right_cancel_iff, reduceCtorEq, ↓reduceIte, and_self, and_true, true_and, and_false, false_and, true_or, or_true, false_or, or_false, not_true_eq_false, not_false_eq_true]); (try simp only [w32_em]); (first | done | omega))) (wp_cl1 (wp_use (R_fails h.1 hE (Or.inr (Or.inr rfl)) h.2.1.2.1) (fun z hz => wp_some (wp_some ?_))))))))
      dsimp only [Sum.elim_inl]
      refine wp_use (R_lE hz) (fun r hr => ⟨z, hr, Or.inl ⟨_, rfl, hz⟩⟩)
    · have ew : ¬ w32 w = 3 := by
        rcases hw with ⟨rfl, _⟩ | ⟨v, hv, rfl, hw2⟩
        · decide
        · intro e
          rw [w32_nat (by omega)] at e
          have : v = 3 := by omega
          rw [this] at hw2
          exact hw3 hw2
      exact wp_ite_f ew (wp_some ⟨m, rfl, stop _ _ _ _ h hE h0 hw3⟩)
  | succ f ih =>
    intro N p m h hE hf ho hl h0
    have e6 : 6 - (f + 1) + 1 = 6 - f := by omega
    have f6 : f ≤ 6 := by omega
    have l6' : lnN N o < 6 := by omega
    have hW := h.1.2.2.2.2.1
    obtain ⟨o16, l1, l6, hll⟩ := lnW hW ho
    refine wp_unroll ?_
    show wp (s_X12_readOrder_47 (o : Int) m) _
    rw [sq47]
    refine wp_cl1 (wp_eq (R_well h.1) (wp_ite_f (by decide) (wp_cl1 (wp_use (X12wh h.1.1 h.2.2 h.2.1) (fun w hw => ?_)))))
    by_cases hw3 : WdI t n p 3
    · have ew : w = 3 := by
        rcases hw with ⟨_, hw⟩ | ⟨v, hv, hw, hw2⟩
        · exact absurd hw3 (hw 3 (by omega))
        · rw [hw, Wd_one hv (by omega) hw2 hw3]; rfl
      subst ew
      have es : rLines t n o (f + 1 + 1) N p = lnS t n N o p (fun v v2 q => rLines t n o (f + 1) (opLine N o v v2) q) := by
        rw [rLines, if_neg (by rw [hw3.1]; decide), if_pos (wdB_t.mpr hw3), if_neg (show ¬ f + 1 = 0 by omega)]
        rfl
      rw [es]
      refine wp_ite_t (by decide) (wp_cl1 (wp_use (R_line h hE ho l6') (fun z hz => wp_some ?_)))
      dsimp only [Sum.elim_inl]
      rcases hz with ⟨e, z1, z2⟩ | ⟨v, v2, q2, z1, z2, z3⟩
      · rw [z2]
        exact wp_use (R_lE z1) (fun r hr => ⟨z, hr, Or.inl ⟨_, rfl, z1⟩⟩)
      · rw [z3]
        have ol := opL_ln (N := N) (o := o) (i := v) (q := v2) l1
        exact ih (opLine N o v v2) q2 z z1 (REd_line hE o16 l6') f6 (by rw [ol.2]; exact ho) (by rw [ol.1, hl, e6]) (Nat.le_trans h0 (Nat.le_of_lt z2))
    · have ew : ¬ w32 w = 3 := by
        rcases hw with ⟨rfl, _⟩ | ⟨v, hv, rfl, hw2⟩
        · decide
        · intro e
          rw [w32_nat (by omega)] at e
          have : v = 3 := by omega
          rw [this] at hw2
          exact hw3 hw2
      exact wp_ite_f ew (wp_some ⟨m, rfl, stop _ _ _ _ h hE h0 hw3⟩)
set_option maxHeartbeats 600000 in
theorem R_order {M1 : Mem} {t : Nat → Int} {n p : Nat} {N : Nat → Int} {m : Mem} (h : RKp M1 t n N p m) (hE : REd M1 N) : wp (f_X12_readOrder m) (QRs M1 t n p (rOrder t n N p)) := by
  have tr := tk_rng (t := t) h.2.2
  have hW := h.1.2.2.2.2.1
  have hw := hW.1
  unfold f_X12_readOrder rOrder j_X12_readOrder_46
  rw [h.1.2.2.2.1]
  by_cases k : N 4 = 16
  · rw [if_pos k]
    exact wp_ite_t (by ((try simp (disch := omega) only [w32_and, w32_or, w32_shl, w32_shr, w32_xor, ixO, ixO0, ixO1, ixO2, ixO3, ixL0, ixL1, ixL2, ixC, ixB, ixI0, ixI00, ixI1, ixI2, ixI3, upd2_rd, upd2_nd, Nat.reduceEqDiff, Nat.reduceAdd, Nat.add_left_cancel_iff, Nat.add_right_cancel_iff, reduceCtorEq, ↓reduceIte, and_self, and_true, true_and, and_false, false_and, true_or, or_true, false_or, or_false, not_true_eq_false, not_false_eq_true]); (try simp only [w32_em]); (first | done | omega))) (wp_cl1 (wp_use (R_fails h.1 hE (Or.inr (Or.inr rfl)) h.2.1.2.1) (fun z hz => wp_some (Or.inl ⟨_, rfl, hz⟩))))
  · rw [if_neg k]
    refine wp_ite_f (by ((try simp (disch := omega) only [w32_and, w32_or, w32_shl, w32_shr, w32_xor, ixO, ixO0, ixO1, ixO2, ixO3, ixL0, ixL1, ixL2, ixC, ixB, ixI0, ixI00, ixI1, ixI2, ixI3, upd2_rd, upd2_nd, Nat.reduceEqDiff, Nat.reduceAdd, Nat.add_left_cancel_iff, Nat.add_right_cancel_iff, reduceCtorEq, ↓reduceIte, and_self, and_true, true_and, and_false, false_and, true_or, or_true, false_or, or_false, not_true_eq_false, not_false_eq_true]); (try simp only [w32_em]); (first | done | omega))) (wp_cl1 (wp_use (R_adv h) (fun z hz => ?_)))
    refine wp_cl2 (wp_use (R_rd hz hE (by omega) (by omega)) (fun r hr => ?_))
    rcases hr with ⟨e, e1, r2⟩ | ⟨v, q, e1, r1, r2, r4, r5, r6⟩
    · rw [e1, bd_l]
      refine wp_cl1 (wp_eq (R_wellE r2) (wp_ite_t (by decide) (wp_lpb (wp_use (R_lE r2) (fun s hs => ?_)))))
      subst hs
      exact wp_some (Or.inl ⟨_, rfl, r2⟩)
    rw [e1, bd_r, r1]
    refine wp_cl1 (wp_eq (R_well r2.1) (wp_ite_f (by decide) (wp_cl2 (wp_use (X12opens r2.1.2.2.2.1 hW (by omega)) (fun x hx => ?_)))))
    have ol := opO_ln (due := v) hW
    have xE : REd M1 (opOrder N v) := fun k hk => by
      rw [← hE k hk]
      unfold opOrder
      rw [if_neg (by omega), if_neg (by omega), if_neg (by omega)]
    rw [hx.1, show N 4 = (((N 4).toNat : Nat) : Int) by omega]
    refine wp_lpb (wp_use (R_lines (p0 := p) (o := (N 4).toNat) 6 (opOrder N v) q x.2 (RK_up hx.2.2 hx.2.1 (WF_order hW (by omega) (by omega)) r2) xE (by omega) (by rw [ol.2]; omega) (by rw [ol.1]) (by omega)) (fun s hs => ?_))
    obtain ⟨y, rfl, hy⟩ := hs
    rw [Int.toNat_natCast]
    exact wp_some hy
