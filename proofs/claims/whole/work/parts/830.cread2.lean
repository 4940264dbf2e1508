-- ===== the reader: orders and their lines =====
set_option maxHeartbeats 600000 in
theorem sq45 {a1 : Nat} {x2 x3 : Int} {M : Mem} : s_X10_readOrder_45 a1 x2 x3 M = (if 6 < w32 x3 then some (.inr (.inl M)) else cl1 (f_X10_nextToken M) (fun M_6 => (if w32 (M_6 38 4) = 3 then some (.inr (.inr (1, M_6))) else cl1 (f_X10_isWord 3 M_6) (fun r_7 => (if w32 r_7 = 0 then cl2 (f_X10_fail 1 M_6) (fun r_9 M_10 => gz r_9 (some (.inr (.inr (r_9, M_10))))) else (if w32 x3 = 6 then cl2 (f_X10_fail 3 M_6) (fun r_12 M_13 => gz r_12 (some (.inr (.inr (r_12, M_13))))) else cl2 (f_X10_readNumber 0 ((M_6 (a1 + 4) 0) - 1) M_6) (fun r_15 M_16 => (if w32 r_15 = 0 then some (.inr (.inr (0, M_16))) else bnd (M_16 38 7) (fun x4_17 => cl1 (f_X5_hasItem (a1 + 9) x2 x4_17 M_16) (fun r_18 => (if w32 r_18 = 0 then cl2 (f_X10_readNumber 1 99 M_16) (fun r_20 M_21 => (if w32 r_20 = 0 then some (.inr (.inr (0, M_21))) else cl2 (f_X5_appendLine (a1 + 9) x2 x4_17 (M_21 38 7) M_21) (fun r_22 M_23 => bnd (x3 + 1) (fun x3_24 => some (.inl (x3_24, M_23)))))) else cl2 (f_X10_fail 2 M_16) (fun r_25 M_26 => gz r_25 (some (.inr (.inr (r_25, M_26)))))))))))))))) := rfl
set_option maxHeartbeats 600000 in
theorem opL_ln {N : Nat → Int} {o : Nat} {i q : Int} (h : N (111 + 22 * o) = (lnN N o : Int)) : lnN (opLine N o i q) o = lnN N o + 1 ∧ (opLine N o i q) 4 = N 4 := by
  constructor
  · have : opLine N o i q (111 + 22 * o) = N (111 + 22 * o) + 1 := by unfold opLine; rw [if_pos rfl]
    show (opLine N o i q (111 + 22 * o)).toNat = _
    rw [this, h]
    omega
  · unfold opLine
    rw [if_neg (by omega), if_neg (by omega), if_neg (by omega), if_neg (by omega)]
set_option maxHeartbeats 600000 in
theorem opO_ln {N : Nat → Int} (hW : WF N) {due : Int} : lnN (opOrder N due) (N 4).toNat = 0 ∧ (opOrder N due) 4 = N 4 + 1 := by
  constructor
  · have : opOrder N due (111 + 22 * (N 4).toNat) = 0 := by
      unfold opOrder
      rw [if_neg (by omega), if_neg (by omega), if_pos (by omega)]
    show (opOrder N due (111 + 22 * (N 4).toNat)).toNat = 0
    rw [this]; rfl
  · unfold opOrder
    rw [if_pos rfl]
set_option maxHeartbeats 600000 in
theorem H19has {m : Mem} {N : Nat → Int} (hR : HR 19 m N) (hW : WF N) {o : Nat} (ho : (o : Int) < N 4) {x : Int} (hx : I32 x) : f_X5_hasItem 28 (o : Int) x m = some (if hasB N o x (lnN N o) = true then 1 else 0) := by
  obtain ⟨o16, l1, l6, hl⟩ := lnW hW ho
  have d := HR_D hR
  unfold HRD at d
  simp only [Nat.reduceAdd] at d
  have dd := d.2.2.2 o ho
  refine X5has (th := 28) hx o16 l6 (by simp only [Nat.reduceAdd]; rw [dd.2.2.1]; exact l1) (fun k hk => ?_)
  have a := hl k hk
  simp only [Nat.reduceAdd]
  exact ⟨(dd.2.2.2.2 k (by omega)).1, by omega, by omega⟩
set_option maxHeartbeats 600000 in
theorem C_lines {M0 : Mem} {t : Nat → Int} {n p0 o : Nat} : ∀ (f : Nat) (N : Nat → Int) (p : Nat) (m : Mem), CKp M0 t n N p m → f ≤ 6 → (o : Int) < N 4 → lnN N o = 6 - f → p0 ≤ p → wp (wh (fun x => s_X10_readOrder_45 19 (o : Int) x.1 x.2) (((6 - f : Nat) : Int), m)) (fun r => ∃ y : Int × Mem, r = .inr y ∧ PCs M0 t n p0 (rLines t n o (f + 1) N p) y) := by
  intro f
  induction f with
  | zero =>
    intro N p m h hf ho hl hp0
    have tr := tk_rng (t := t) h.2.2
    refine wp_unroll ?_
    show wp (s_X10_readOrder_45 19 (o : Int) ((6 - 0 : Nat) : Int) m) _
    rw [sq45]
    refine wp_ite_f (by decide) (wp_cl1 (wp_use (C_next h) (fun z hz => ?_)))
    obtain ⟨zB, zC⟩ := hz
    simp only [rLines, ↓reduceIte]
    rw [zC.1]
    by_cases k : tK t n p = 3
    · rw [if_pos k]
      exact wp_ite_t (by ((try simp (disch := omega) only [w32_and, w32_or, w32_shl, w32_shr, w32_xor, ixO, ixO0, ixO1, ixO2, ixO3, ixL0, ixL1, ixL2, ixC, ixB, ixI0, ixI00, ixI1, ixI2, ixI3, upd2_rd, upd2_nd, Nat.reduceEqDiff, Nat.reduceAdd, Nat.add_left_cancel_iff, Nat.add_right_cancel_iff, reduceCtorEq, ↓reduceIte, and_self, and_true, true_and, and_false, false_and, true_or, or_true, false_or, or_false, not_true_eq_false, not_false_eq_true]); (try simp only [w32_em]); (first | done | omega))) (wp_some ⟨_, rfl, PC_r rfl (CK_of zB h.2.2 zC) (by have := tr.2.2.2.2.1 (by omega); omega)⟩)
    · rw [if_neg k]
      refine wp_ite_f (by ((try simp (disch := omega) only [w32_and, w32_or, w32_shl, w32_shr, w32_xor, ixO, ixO0, ixO1, ixO2, ixO3, ixL0, ixL1, ixL2, ixC, ixB, ixI0, ixI00, ixI1, ixI2, ixI3, upd2_rd, upd2_nd, Nat.reduceEqDiff, Nat.reduceAdd, Nat.add_left_cancel_iff, Nat.add_right_cancel_iff, reduceCtorEq, ↓reduceIte, and_self, and_true, true_and, and_false, false_and, true_or, or_true, false_or, or_false, not_true_eq_false, not_false_eq_true]); (try simp only [w32_em]); (first | done | omega))) (wp_cl1 (wp_use (X10isW zB.1 h.2.2 zC (v := 3) (by omega)) (fun w hw => ?_)))
      rcases hw with ⟨rfl, hw⟩ | ⟨rfl, hw⟩
      · rw [if_pos (wdB_t.mpr hw)]
        exact wp_ite_f (by decide) (wp_ite_t (by decide) (wp_cl2 (wp_use (C_fail zB (Or.inr (Or.inr rfl)) zC.2.1) (fun r hr => wp_gz (Or.inl hr.1) (wp_some ⟨_, rfl, PC_l hr.1 hr.2⟩)))))
      · rw [if_neg (fun e => hw (wdB_t.mp e))]
        exact wp_ite_t (by decide) (wp_cl2 (wp_use (C_fail zB (Or.inl rfl) zC.2.1) (fun r hr => wp_gz (Or.inl hr.1) (wp_some ⟨_, rfl, PC_l hr.1 hr.2⟩))))
  | succ f ih =>
    intro N p m h hf ho hl hp0
    have tr := tk_rng (t := t) h.2.2
    have hW := h.1.2.2.2.2.1
    have hw3 := hW.1
    obtain ⟨o16, l1, l6, hll⟩ := lnW hW ho
    refine wp_unroll ?_
    show wp (s_X10_readOrder_45 19 (o : Int) ((6 - (f + 1) : Nat) : Int) m) _
    rw [sq45]
    refine wp_ite_f (by ((try simp (disch := omega) only [w32_and, w32_or, w32_shl, w32_shr, w32_xor, ixO, ixO0, ixO1, ixO2, ixO3, ixL0, ixL1, ixL2, ixC, ixB, ixI0, ixI00, ixI1, ixI2, ixI3, upd2_rd, upd2_nd, Nat.reduceEqDiff, Nat.reduceAdd, Nat.add_left_cancel_iff, Nat.add_right_cancel_iff, reduceCtorEq, ↓reduceIte, and_self, and_true, true_and, and_false, false_and, true_or, or_true, false_or, or_false, not_true_eq_false, not_false_eq_true]); (try simp only [w32_em]); (first | done | omega))) (wp_cl1 (wp_use (C_next h) (fun z hz => ?_)))
    obtain ⟨zB, zC⟩ := hz
    have es : rLines t n o (f + 1 + 1) N p = if tK t n p = 3 then .inr (tE t n p, N) else if wdB t n p 3 = true then bdE (rdN t n 0 (N 3 - 1) (tE t n p)) (fun a => if hasB N o a.1 (lnN N o) = true then .inl (2, ((tS t n (tE t n p) : Nat) : Int)) else bdE (rdN t n 1 99 a.2) (fun b => rLines t n o (f + 1) (opLine N o a.1 b.1) b.2)) else .inl (1, ((tS t n p : Nat) : Int)) := by
      rw [rLines, if_neg (show ¬ f + 1 = 0 by omega)]
    rw [es, zC.1]
    by_cases k : tK t n p = 3
    · rw [if_pos k]
      exact wp_ite_t (by ((try simp (disch := omega) only [w32_and, w32_or, w32_shl, w32_shr, w32_xor, ixO, ixO0, ixO1, ixO2, ixO3, ixL0, ixL1, ixL2, ixC, ixB, ixI0, ixI00, ixI1, ixI2, ixI3, upd2_rd, upd2_nd, Nat.reduceEqDiff, Nat.reduceAdd, Nat.add_left_cancel_iff, Nat.add_right_cancel_iff, reduceCtorEq, ↓reduceIte, and_self, and_true, true_and, and_false, false_and, true_or, or_true, false_or, or_false, not_true_eq_false, not_false_eq_true]); (try simp only [w32_em]); (first | done | omega))) (wp_some ⟨_, rfl, PC_r rfl (CK_of zB h.2.2 zC) (by have := tr.2.2.2.2.1 (by omega); omega)⟩)
    · rw [if_neg k]
      refine wp_ite_f (by ((try simp (disch := omega) only [w32_and, w32_or, w32_shl, w32_shr, w32_xor, ixO, ixO0, ixO1, ixO2, ixO3, ixL0, ixL1, ixL2, ixC, ixB, ixI0, ixI00, ixI1, ixI2, ixI3, upd2_rd, upd2_nd, Nat.reduceEqDiff, Nat.reduceAdd, Nat.add_left_cancel_iff, Nat.add_right_cancel_iff, reduceCtorEq, ↓reduceIte, and_self, and_true, true_and, and_false, false_and, true_or, or_true, false_or, or_false, not_true_eq_false, not_false_eq_true]); (try simp only [w32_em]); (first | done | omega))) (wp_cl1 (wp_use (X10isW zB.1 h.2.2 zC (v := 3) (by omega)) (fun w hw => ?_)))
      rcases hw with ⟨rfl, hw⟩ | ⟨rfl, hw⟩
      · rw [if_pos (wdB_t.mpr hw)]
        have z3 : z (19 + 4) 0 = N 3 := (HR19 zB.2.2.2.1).2.2.2.1
        rw [z3]
        refine wp_ite_f (by decide) (wp_ite_f (by ((try simp (disch := omega) only [w32_and, w32_or, w32_shl, w32_shr, w32_xor, ixO, ixO0, ixO1, ixO2, ixO3, ixL0, ixL1, ixL2, ixC, ixB, ixI0, ixI00, ixI1, ixI2, ixI3, upd2_rd, upd2_nd, Nat.reduceEqDiff, Nat.reduceAdd, Nat.add_left_cancel_iff, Nat.add_right_cancel_iff, reduceCtorEq, ↓reduceIte, and_self, and_true, true_and, and_false, false_and, true_or, or_true, false_or, or_false, not_true_eq_false, not_false_eq_true]); (try simp only [w32_em]); (first | done | omega))) (wp_cl2 (wp_use (C_rd (CK_of zB h.2.2 zC) (by omega) (by omega)) (fun r hr => ?_))))
        rcases hr with ⟨e, e1, r1, r2⟩ | ⟨v, q, e1, r1, r2, r3, r4, r5, r6, r7⟩
        · rw [e1, bd_l]; exact wp_ite_t (by rw [r1]; decide) (wp_some ⟨_, rfl, PC_l rfl r2⟩)
        rw [e1, bd_r]
        refine wp_ite_f (by rw [r1]; decide) (wp_bnd (wp_cl1 ?_))
        rw [r3]
        refine wp_eq (H19has r2.1.2.2.2.1 hW ho ⟨by omega, by omega⟩) ?_
        dsimp only
        cases hb : hasB N o v (lnN N o)
        · simp only [Bool.false_eq_true, ↓reduceIte]
          refine wp_ite_t (by decide) (wp_cl2 (wp_use (C_rd r2 (by omega) (by omega)) (fun s hs => ?_)))
          rcases hs with ⟨e, e2, s1, s2⟩ | ⟨v2, q2, e2, s1, s2, s3, s4, s5, s6, -⟩
          · rw [e2, bd_l]; exact wp_ite_t (by rw [s1]; decide) (wp_some ⟨_, rfl, PC_l rfl s2⟩)
          rw [e2, bd_r]
          refine wp_ite_f (by rw [s1]; decide) (wp_cl2 ?_)
          rw [s3]
          refine wp_use (X5appL (h := 19) s2.1.2.2.2.1 hW ho (by omega)) (fun x hx => wp_bnd (wp_some ?_))
          have cb := CB_up (z := x.2) (fun a ha => hx.2.1 a (by omega) (by omega) (by omega) (by omega)) hx.2.2 (WF_line hW ho (by omega) (i := v) (q := v2) (by omega) (by omega)) s2.1
          have ol := opL_ln (N := N) (o := o) (i := v) (q := v2) l1
          have x6 : x.2 38 6 = (q2 : Int) := by rw [hx.2.1 38 (by omega) (by omega) (by omega) (by omega)]; exact s2.2.1
          have e3 : ((6 - (f + 1) : Nat) : Int) + 1 = ((6 - f : Nat) : Int) := by omega
          rw [e3]
          exact ih (opLine N o v v2) q2 x.2 ⟨cb, x6, s2.2.2⟩ (by omega) (by rw [ol.2]; exact ho) (by rw [ol.1]; omega) (by omega)
        · simp only [↓reduceIte]
          exact wp_ite_f (by decide) (wp_cl2 (wp_use (C_fail r2.1 (Or.inr (Or.inl rfl)) r7) (fun u hu => wp_gz (Or.inl hu.1) (wp_some ⟨_, rfl, PC_l hu.1 hu.2⟩))))
      · rw [if_neg (fun e => hw (wdB_t.mp e))]
        exact wp_ite_t (by decide) (wp_cl2 (wp_use (C_fail zB (Or.inl rfl) zC.2.1) (fun r hr => wp_gz (Or.inl hr.1) (wp_some ⟨_, rfl, PC_l hr.1 hr.2⟩))))
set_option maxHeartbeats 600000 in
theorem C_order {M0 : Mem} {t : Nat → Int} {n p : Nat} {N : Nat → Int} {m : Mem} (h : CBs M0 t n N m) (hp : p ≤ n) (hC : CTk t n p m) : wp (f_X10_readOrder 19 m) (PCs M0 t n p (rOrder t n N p)) := by
  have tr := tk_rng (t := t) hp
  have hR := h.2.2.2.1
  have hW := h.2.2.2.2.1
  have hw := hW.1
  obtain ⟨a0, a1, a2, a3, a4⟩ := HR19 hR
  unfold f_X10_readOrder rOrder
  simp only [Nat.reduceAdd]
  rw [a4]
  by_cases k : N 4 = 16
  · rw [if_pos k]
    exact wp_ite_f (by ((try simp (disch := omega) only [w32_and, w32_or, w32_shl, w32_shr, w32_xor, ixO, ixO0, ixO1, ixO2, ixO3, ixL0, ixL1, ixL2, ixC, ixB, ixI0, ixI00, ixI1, ixI2, ixI3, upd2_rd, upd2_nd, Nat.reduceEqDiff, Nat.reduceAdd, Nat.add_left_cancel_iff, Nat.add_right_cancel_iff, reduceCtorEq, ↓reduceIte, and_self, and_true, true_and, and_false, false_and, true_or, or_true, false_or, or_false, not_true_eq_false, not_false_eq_true]); (try simp only [w32_em]); (first | done | omega))) (wp_cl2 (wp_use (C_fail h (Or.inr (Or.inr rfl)) hC.2.1) (fun r hr => wp_gz (Or.inl hr.1) (wp_some (PC_l hr.1 hr.2)))))
  · rw [if_neg k]
    refine wp_ite_t (by ((try simp (disch := omega) only [w32_and, w32_or, w32_shl, w32_shr, w32_xor, ixO, ixO0, ixO1, ixO2, ixO3, ixL0, ixL1, ixL2, ixC, ixB, ixI0, ixI00, ixI1, ixI2, ixI3, upd2_rd, upd2_nd, Nat.reduceEqDiff, Nat.reduceAdd, Nat.add_left_cancel_iff, Nat.add_right_cancel_iff, reduceCtorEq, ↓reduceIte, and_self, and_true, true_and, and_false, false_and, true_or, or_true, false_or, or_false, not_true_eq_false, not_false_eq_true]); (try simp only [w32_em]); (first | done | omega))) (wp_cl2 (wp_use (C_rd (CK_of h hp hC) (by omega) (by omega)) (fun r hr => ?_)))
    rcases hr with ⟨e, e1, r1, r2⟩ | ⟨v, q, e1, r1, r2, r3, r4, r5, r6, -⟩
    · rw [e1, bd_l]; exact wp_ite_t (by rw [r1]; decide) (wp_some (PC_l rfl r2))
    rw [e1, bd_r]
    refine wp_ite_f (by rw [r1]; decide) (wp_cl2 ?_)
    rw [r3]
    refine wp_use (X5app (h := 19) r2.1.2.2.2.1 hW (n := (N 4).toNat) (by omega) (by omega)) (fun x hx => ?_)
    obtain ⟨x1, x2, x3, x4⟩ := hx
    have cb := CB_up (z := x.2) (fun a ha => x2 a (by omega) (by omega) (by omega) (by omega)) x4 (WF_order hW (by omega) (by omega)) r2.1
    have ol := opO_ln (due := v) hW
    rw [x1]
    refine wp_lpb (wp_use (C_lines (p0 := p) (o := (N 4).toNat) 6 (opOrder N v) q x.2 ⟨cb, by rw [x2 38 (by omega) (by omega) (by omega) (by omega)]; exact r2.2.1, r2.2.2⟩ (by omega) (by rw [ol.2]; omega) (by rw [ol.1]) (by omega)) (fun r hr => ?_))
    obtain ⟨y, rfl, y1⟩ := hr
    exact wp_some y1
