-- ===== the reader: zones, buffers, times, policy; a whole text =====
set_option maxHeartbeats 600000 in
theorem zns_zN {N : Nat → Int} {a b : Int} (ha : 1 ≤ a) : zns (zN N a b) = if b = -1 then 2 else 3 := by
  unfold zns zN
  rw [if_neg (show ¬ (8 : Nat) = 7 by decide), if_pos rfl, if_pos rfl, if_neg (by omega)]
set_option maxHeartbeats 600000 in
theorem C_div {M0 : Mem} {t : Nat → Int} {n p p0 : Nat} {N : Nat → Int} {m : Mem} (h : CBs M0 t n N m) (hp : p ≤ n) (hC : CTk t n p m) (hp0 : p0 ≤ p) {a b : Int} (ha : 1 ≤ a ∧ a < N 0) (hb : b = -1 ∨ (a < b ∧ b < N 0)) : wp (j_X10_readZones_66 20 a b m) (PCs M0 t n p0 (bdE (smc t n p) (fun q => .inr (q, zN N a b)))) := by
  have tr := tk_rng (t := t) hp
  have hR := h.2.2.2.1
  have hW := h.2.2.2.2.1
  have hw := hW.1
  obtain ⟨hA, hB, -⟩ := id hR
  simp only [Nat.reduceAdd] at hA hB
  have zz := zns_zN (N := N) (a := a) (b := b) ha.1
  have key : ∀ y : Int, y = zns (zN N a b) → CBs M0 t n (zN N a b) (upd2 (upd2 (upd2 (upd2 m 20 3 y) (20 + 1) 0 0) (20 + 1) 1 a) (20 + 1) 2 b) := fun y hy => by
    refine CB_up (fun c hc => ?_) ?_ (WF_zN hW ha hb) h
    · rw [upd2_ne (by omega), upd2_ne (by omega), upd2_ne (by omega), upd2_ne (by omega)]
    · refine HR_low (h := 19) (M := m) (N := N) (fun d d1 d2 => ?_) (fun k hk => ?_) hR ?_ ?_
      · rw [upd2_ne (by omega), upd2_ne (by omega), upd2_ne (by omega), upd2_ne (by omega)]
      · unfold zN; rw [if_neg (by omega), if_neg (by omega)]
      · rw [← hy]
        simp only [upd2_rd, upd2_nd, Nat.reduceEqDiff, Nat.reduceAdd, Nat.add_left_cancel_iff, Nat.add_right_cancel_iff, reduceCtorEq, ↓reduceIte, and_self, and_true, true_and, and_false, false_and, true_or, or_true, false_or, or_false, not_true_eq_false, not_false_eq_true]
        unfold zN
        simp only [upd2_rd, upd2_nd, Nat.reduceEqDiff, Nat.reduceAdd, Nat.add_left_cancel_iff, Nat.add_right_cancel_iff, reduceCtorEq, ↓reduceIte, and_self, and_true, true_and, and_false, false_and, true_or, or_true, false_or, or_false, not_true_eq_false, not_false_eq_true]
        exact ⟨hA.1, hA.2.1, hA.2.2.1, hA.2.2.2.2.1, hA.2.2.2.2.2.1, hA.2.2.2.2.2.2⟩
      · simp only [upd2_rd, upd2_nd, Nat.reduceEqDiff, Nat.reduceAdd, Nat.add_left_cancel_iff, Nat.add_right_cancel_iff, reduceCtorEq, ↓reduceIte, and_self, and_true, true_and, and_false, false_and, true_or, or_true, false_or, or_false, not_true_eq_false, not_false_eq_true]
        unfold zN
        simp only [upd2_rd, upd2_nd, Nat.reduceEqDiff, Nat.reduceAdd, Nat.add_left_cancel_iff, Nat.add_right_cancel_iff, reduceCtorEq, ↓reduceIte, and_self, and_true, true_and, and_false, false_and, true_or, or_true, false_or, or_false, not_true_eq_false, not_false_eq_true]
        exact ⟨hB.2.2.2.1, hB.2.2.2.2⟩
  have fin : ∀ y : Int, y = zns (zN N a b) → wp (cl1 (j_X3_divide_20 20 a b y m) (fun M_15 => (if w32 (M_15 38 4) = 3 then j_X10_readZones_88 20 M_15 else cl2 (f_X10_fail 1 M_15) (fun r_16 M_17 => (if w32 r_16 = 0 then some (0, M_17) else j_X10_readZones_88 20 M_17))))) (PCs M0 t n p0 (bdE (smc t n p) (fun q => .inr (q, zN N a b)))) := fun y hy => by
    have cb := key y hy
    unfold j_X3_divide_20 j_X10_readZones_88
    refine wp_cl1 (wp_bnd (wp_bnd (wp_bnd (wp_bnd (wp_some ?_)))))
    have e38 : (upd2 (upd2 (upd2 (upd2 m 20 3 y) (20 + 1) 0 0) (20 + 1) 1 a) (20 + 1) 2 b) 38 = m 38 := by rw [upd2_ne (by omega), upd2_ne (by omega), upd2_ne (by omega), upd2_ne (by omega)]
    generalize upd2 (upd2 (upd2 (upd2 m 20 3 y) (20 + 1) 0 0) (20 + 1) 1 a) (20 + 1) 2 b = w at *
    rw [e38, hC.1]
    by_cases k : tK t n p = 3
    · have es : smc t n p = .inr (tE t n p) := by unfold smc; rw [if_pos k]
      rw [es, bd_r]
      exact wp_ite_t (by ((try simp (disch := omega) only [w32_and, w32_or, w32_shl, w32_shr, w32_xor, ixO, ixO0, ixO1, ixO2, ixO3, ixL0, ixL1, ixL2, ixC, ixB, ixI0, ixI00, ixI1, ixI2, ixI3, upd2_rd, upd2_nd, Nat.reduceEqDiff, Nat.reduceAdd, Nat.add_left_cancel_iff, Nat.add_right_cancel_iff, reduceCtorEq, ↓reduceIte, and_self, and_true, true_and, and_false, false_and, true_or, or_true, false_or, or_false, not_true_eq_false, not_false_eq_true]); (try simp only [w32_em]); (first | done | omega))) (wp_some (PC_r rfl ⟨cb, by dsimp only; rw [e38]; exact hC.2.2.1, tr.2.2.1⟩ (by have := tr.2.2.2.2.1 (by omega); omega)))
    · have es : smc t n p = .inl (1, ((tS t n p : Nat) : Int)) := by unfold smc; rw [if_neg k]
      rw [es, bd_l]
      exact wp_ite_f (by ((try simp (disch := omega) only [w32_and, w32_or, w32_shl, w32_shr, w32_xor, ixO, ixO0, ixO1, ixO2, ixO3, ixL0, ixL1, ixL2, ixC, ixB, ixI0, ixI00, ixI1, ixI2, ixI3, upd2_rd, upd2_nd, Nat.reduceEqDiff, Nat.reduceAdd, Nat.add_left_cancel_iff, Nat.add_right_cancel_iff, reduceCtorEq, ↓reduceIte, and_self, and_true, true_and, and_false, false_and, true_or, or_true, false_or, or_false, not_true_eq_false, not_false_eq_true]); (try simp only [w32_em]); (first | done | omega))) (wp_cl2 (wp_use (C_fail cb (Or.inl rfl) (by rw [e38]; exact hC.2.1)) (fun r hr => wp_ite_t (by rw [hr.1]; decide) (wp_some (PC_l rfl hr.2)))))
  unfold j_X10_readZones_66 f_X3_divide
  by_cases hb1 : b = -1
  · rw [if_pos hb1] at zz
    rw [if_neg (by rw [w32_ok ⟨by omega, by omega⟩]; omega), if_pos (by rw [hb1]; decide)]
    exact fin 2 zz.symm
  · rw [if_neg hb1] at zz
    rw [if_neg (by rw [w32_ok ⟨by omega, by omega⟩]; omega), if_neg (by rw [w32_ok ⟨by omega, by omega⟩]; omega)]
    exact fin 3 zz.symm
set_option maxHeartbeats 600000 in
theorem C_zones {M0 : Mem} {t : Nat → Int} {n p : Nat} {N : Nat → Int} {m : Mem} (h : CBs M0 t n N m) (hp : p ≤ n) (hC : CTk t n p m) : wp (f_X10_readZones 20 m) (PCs M0 t n p (rZones t n N p)) := by
  have tr := tk_rng (t := t) hp
  have hW := h.2.2.2.2.1
  have hw := hW.1
  obtain ⟨a0, -⟩ := HR19 h.2.2.2.1
  unfold f_X10_readZones rZones
  rw [a0]
  refine wp_cl2 (wp_use (C_rd (CK_of h hp hC) (by omega) (by omega)) (fun r hr => ?_))
  rcases hr with ⟨e, e1, r1, r2⟩ | ⟨v, q, e1, r1, r2, r3, r4, r5, r6, -⟩
  · rw [e1, bd_l]; exact wp_ite_t (by rw [r1]; decide) (wp_some (PC_l rfl r2))
  rw [e1, bd_r]
  refine wp_ite_f (by rw [r1]; decide) (wp_bnd (wp_cl1 (wp_use (C_next r2) (fun z hz => ?_))))
  obtain ⟨zB, zC⟩ := hz
  have trq := tk_rng (t := t) r2.2.2
  rw [r3, zC.1]
  dsimp only
  by_cases k : tK t n q = 2
  · rw [if_pos k]
    have z0 : z 20 0 = N 0 := (HR19 zB.2.2.2.1).1
    have z7 := zC.2.2.2 k
    obtain ⟨b, nb, _⟩ := tN_rng (t := t) (n := n) (p := q)
    unfold nmQ at nb
    unfold f_X10_isWithin
    rw [z0, z7]
    refine wp_ite_t (by ((try simp (disch := omega) only [w32_and, w32_or, w32_shl, w32_shr, w32_xor, ixO, ixO0, ixO1, ixO2, ixO3, ixL0, ixL1, ixL2, ixC, ixB, ixI0, ixI00, ixI1, ixI2, ixI3, upd2_rd, upd2_nd, Nat.reduceEqDiff, Nat.reduceAdd, Nat.add_left_cancel_iff, Nat.add_right_cancel_iff, reduceCtorEq, ↓reduceIte, and_self, and_true, true_and, and_false, false_and, true_or, or_true, false_or, or_false, not_true_eq_false, not_false_eq_true]); (try simp only [w32_em]); (first | done | omega))) (wp_cl1 ?_)
    by_cases w : v + 1 ≤ tN t n q ∧ tN t n q ≤ N 0 - 1
    · have es : rdN t n (v + 1) (N 0 - 1) q = .inr (tN t n q, tE t n q) := by unfold rdN; rw [if_pos k, if_pos w]
      rw [es, bd_r]
      refine wp_ite_f (by ((try simp (disch := omega) only [w32_and, w32_or, w32_shl, w32_shr, w32_xor, ixO, ixO0, ixO1, ixO2, ixO3, ixL0, ixL1, ixL2, ixC, ixB, ixI0, ixI00, ixI1, ixI2, ixI3, upd2_rd, upd2_nd, Nat.reduceEqDiff, Nat.reduceAdd, Nat.add_left_cancel_iff, Nat.add_right_cancel_iff, reduceCtorEq, ↓reduceIte, and_self, and_true, true_and, and_false, false_and, true_or, or_true, false_or, or_false, not_true_eq_false, not_false_eq_true]); (try simp only [w32_em]); (first | done | omega))) (wp_ite_f (by ((try simp (disch := omega) only [w32_and, w32_or, w32_shl, w32_shr, w32_xor, ixO, ixO0, ixO1, ixO2, ixO3, ixL0, ixL1, ixL2, ixC, ixB, ixI0, ixI00, ixI1, ixI2, ixI3, upd2_rd, upd2_nd, Nat.reduceEqDiff, Nat.reduceAdd, Nat.add_left_cancel_iff, Nat.add_right_cancel_iff, reduceCtorEq, ↓reduceIte, and_self, and_true, true_and, and_false, false_and, true_or, or_true, false_or, or_false, not_true_eq_false, not_false_eq_true]); (try simp only [w32_em]); (first | done | omega))) (wp_some (wp_ite_f (by decide) (wp_bnd (wp_cl1 (wp_use (C_next (CK_of zB r2.2.2 zC)) (fun y hy => ?_)))))))
      exact C_div hy.1 trq.2.2.1 hy.2 (by omega) ⟨by omega, by omega⟩ (Or.inr ⟨by omega, by omega⟩)
    · have es : rdN t n (v + 1) (N 0 - 1) q = .inl (2, ((tS t n q : Nat) : Int)) := by unfold rdN; rw [if_pos k, if_neg w]
      rw [es, bd_l]
      have fl : wp (cl2 (f_X10_fail 2 z) (fun r_8 M_9 => gz r_8 (some (r_8, M_9)))) (PCs M0 t n p (.inl (2, ((tS t n q : Nat) : Int)))) := wp_cl2 (wp_use (C_fail zB (Or.inr (Or.inl rfl)) zC.2.1) (fun r hr => wp_gz (Or.inl hr.1) (wp_some (PC_l hr.1 hr.2))))
      by_cases w1 : tN t n q < v + 1
      · exact wp_ite_t (by ((try simp (disch := omega) only [w32_and, w32_or, w32_shl, w32_shr, w32_xor, ixO, ixO0, ixO1, ixO2, ixO3, ixL0, ixL1, ixL2, ixC, ixB, ixI0, ixI00, ixI1, ixI2, ixI3, upd2_rd, upd2_nd, Nat.reduceEqDiff, Nat.reduceAdd, Nat.add_left_cancel_iff, Nat.add_right_cancel_iff, reduceCtorEq, ↓reduceIte, and_self, and_true, true_and, and_false, false_and, true_or, or_true, false_or, or_false, not_true_eq_false, not_false_eq_true]); (try simp only [w32_em]); (first | done | omega))) (wp_some (wp_ite_t (by decide) fl))
      · exact wp_ite_f (by ((try simp (disch := omega) only [w32_and, w32_or, w32_shl, w32_shr, w32_xor, ixO, ixO0, ixO1, ixO2, ixO3, ixL0, ixL1, ixL2, ixC, ixB, ixI0, ixI00, ixI1, ixI2, ixI3, upd2_rd, upd2_nd, Nat.reduceEqDiff, Nat.reduceAdd, Nat.add_left_cancel_iff, Nat.add_right_cancel_iff, reduceCtorEq, ↓reduceIte, and_self, and_true, true_and, and_false, false_and, true_or, or_true, false_or, or_false, not_true_eq_false, not_false_eq_true]); (try simp only [w32_em]); (first | done | omega))) (wp_ite_t (by ((try simp (disch := omega) only [w32_and, w32_or, w32_shl, w32_shr, w32_xor, ixO, ixO0, ixO1, ixO2, ixO3, ixL0, ixL1, ixL2, ixC, ixB, ixI0, ixI00, ixI1, ixI2, ixI3, upd2_rd, upd2_nd, Nat.reduceEqDiff, Nat.reduceAdd, Nat.add_left_cancel_iff, Nat.add_right_cancel_iff, reduceCtorEq, ↓reduceIte, and_self, and_true, true_and, and_false, false_and, true_or, or_true, false_or, or_false, not_true_eq_false, not_false_eq_true]); (try simp only [w32_em]); (first | done | omega))) (wp_some (wp_ite_t (by decide) fl)))
  · rw [if_neg k]
    exact wp_ite_f (by ((try simp (disch := omega) only [w32_and, w32_or, w32_shl, w32_shr, w32_xor, ixO, ixO0, ixO1, ixO2, ixO3, ixL0, ixL1, ixL2, ixC, ixB, ixI0, ixI00, ixI1, ixI2, ixI3, upd2_rd, upd2_nd, Nat.reduceEqDiff, Nat.reduceAdd, Nat.add_left_cancel_iff, Nat.add_right_cancel_iff, reduceCtorEq, ↓reduceIte, and_self, and_true, true_and, and_false, false_and, true_or, or_true, false_or, or_false, not_true_eq_false, not_false_eq_true]); (try simp only [w32_em]); (first | done | omega))) (C_div zB r2.2.2 zC (by omega) ⟨by omega, by omega⟩ (Or.inl rfl))
set_option maxHeartbeats 600000 in
theorem C_buf {M0 : Mem} {t : Nat → Int} {n p : Nat} {N : Nat → Int} {m : Mem} (h : CBs M0 t n N m) (hp : p ≤ n) (hC : CTk t n p m) : wp (f_X10_readBuffer 20 m) (PCs M0 t n p (rBuf t n N p)) := by
  have tr := tk_rng (t := t) hp
  have hW := h.2.2.2.2.1
  unfold f_X10_readBuffer rBuf
  refine wp_cl2 (wp_use (C_rd (CK_of h hp hC) (by omega) (by omega)) (fun r hr => ?_))
  rcases hr with ⟨e, e1, r1, r2⟩ | ⟨v, q, e1, r1, r2, r3, r4, r5, r6, -⟩
  · rw [e1, bd_l]; exact wp_ite_t (by rw [r1]; decide) (wp_some (PC_l rfl r2))
  rw [e1, bd_r]
  refine wp_ite_f (by rw [r1]; decide) (wp_bnd (wp_cl2 (wp_use (C_rd r2 (by omega) (by omega)) (fun s hs => ?_))))
  rcases hs with ⟨e, e2, s1, s2⟩ | ⟨v2, q2, e2, s1, s2, s3, s4, s5, s6, -⟩
  · rw [e2, bd_l]; exact wp_ite_t (by rw [s1]; decide) (wp_some (PC_l rfl s2))
  rw [e2, bd_r]
  rw [r3, s3]
  dsimp only
  obtain ⟨x, rfl⟩ : ∃ x : Nat, v = (x : Int) := ⟨v.toNat, by omega⟩
  have xx : ix (x : Int) = x := ix_nat (by omega)
  rw [xx, Int.toNat_natCast]
  refine wp_ite_f (by rw [s1]; decide) (wp_gi (by omega) (by omega) (by omega) (wp_bnd ?_))
  have hRs := s2.1.2.2.2.1
  obtain ⟨hA, hB, -⟩ := id hRs
  simp only [Nat.reduceAdd] at hA hB
  have cb : CBs M0 t n (setN N (9 + x) v2) (upd2 s.2 (20 + 2) x v2) := by
    refine CB_up (fun c hc => upd2_ne (by omega)) ?_ (WF_buf hW (by omega) (by omega)) s2.1
    refine HR_low (h := 19) (M := s.2) (N := N) (fun d d1 d2 => upd2_ne (by omega)) (fun k hk => setN_ne (by omega)) hRs ?_ ?_
    · have ez : zns (setN N (9 + x) v2) = zns N := by
        unfold zns
        rw [setN_ne (show 7 ≠ 9 + x by omega), setN_ne (show 8 ≠ 9 + x by omega)]
      rw [ez, setN_ne (by omega), setN_ne (by omega), setN_ne (by omega), setN_ne (by omega), setN_ne (by omega), setN_ne (by omega), upd2_ne (by omega)]
      exact hA
    · rw [upd2_ne (by omega)]
      rcases (show x = 0 ∨ x = 1 by omega) with rfl | rfl
      · simp only [Nat.reduceAdd, Nat.add_zero, upd2_rd, upd2_nd, Nat.reduceEqDiff, Nat.reduceAdd, Nat.add_left_cancel_iff, Nat.add_right_cancel_iff, reduceCtorEq, ↓reduceIte, and_self, and_true, true_and, and_false, false_and, true_or, or_true, false_or, or_false, not_true_eq_false, not_false_eq_true]
        rw [setN_ne (by omega), setN_ne (by omega), setN_eq, setN_ne (by omega)]
        exact ⟨hB.1, hB.2.1, hB.2.2.1, rfl, hB.2.2.2.2⟩
      · simp only [Nat.reduceAdd, upd2_rd, upd2_nd, Nat.reduceEqDiff, Nat.reduceAdd, Nat.add_left_cancel_iff, Nat.add_right_cancel_iff, reduceCtorEq, ↓reduceIte, and_self, and_true, true_and, and_false, false_and, true_or, or_true, false_or, or_false, not_true_eq_false, not_false_eq_true]
        rw [setN_ne (by omega), setN_ne (by omega), setN_ne (by omega), setN_eq]
        exact ⟨hB.1, hB.2.1, hB.2.2.1, hB.2.2.2.1, rfl⟩
  exact C_end (p := q2) (p0 := p) ⟨cb, by rw [upd2_ne (by omega)]; exact s2.2.1, s2.2.2⟩ (by omega)
set_option maxHeartbeats 600000 in
theorem CB_lay {M0 : Mem} {t : Nat → Int} {n : Nat} {N : Nat → Int} {m : Mem} {s k : Nat} {v : Int} (hs : (s = 5 ∧ k = 6) ∨ (s = 6 ∧ k = 11) ∨ (s = 7 ∧ k = 12)) (hv : 0 ≤ v ∧ v ≤ 99) (h6 : k = 6 → v ≤ 3) (h : CBs M0 t n N m) : CBs M0 t n (setN N k v) (upd2 m 20 s v) := CB_up (fun c hc => upd2_ne (by omega)) (HR_lay (h := 19) hs h.2.2.2.1) (WF_lay (by omega) hv.1 hv.2 h6 h.2.2.2.2.1) h
set_option maxHeartbeats 600000 in
theorem C_tim {M0 : Mem} {t : Nat → Int} {n p : Nat} {N : Nat → Int} {m : Mem} (h : CBs M0 t n N m) (hp : p ≤ n) (hC : CTk t n p m) : wp (f_X10_readTimes 20 m) (PCs M0 t n p (rTim t n N p)) := by
  have tr := tk_rng (t := t) hp
  unfold f_X10_readTimes rTim
  refine wp_cl2 (wp_use (C_rd (CK_of h hp hC) (by omega) (by omega)) (fun r hr => ?_))
  rcases hr with ⟨e, e1, r1, r2⟩ | ⟨v, q, e1, r1, r2, r3, r4, r5, r6, -⟩
  · rw [e1, bd_l]; exact wp_ite_t (by rw [r1]; decide) (wp_some (PC_l rfl r2))
  rw [e1, bd_r]
  rw [r3]
  refine wp_ite_f (by rw [r1]; decide) (wp_bnd (wp_cl2 ?_))
  have c1 := CB_lay (s := 6) (k := 11) (v := v) (by omega) (by omega) (by omega) r2.1
  refine wp_use (C_rd (p := q) ⟨c1, by rw [upd2_ne (by omega)]; exact r2.2.1, r2.2.2⟩ (by omega) (by omega)) (fun s hs => ?_)
  rcases hs with ⟨e, e2, s1, s2⟩ | ⟨v2, q2, e2, s1, s2, s3, s4, s5, s6, -⟩
  · rw [e2, bd_l]; exact wp_ite_t (by rw [s1]; decide) (wp_some (PC_l rfl s2))
  rw [e2, bd_r]
  rw [s3]
  refine wp_ite_f (by rw [s1]; decide) (wp_bnd ?_)
  have c2 := CB_lay (s := 7) (k := 12) (v := v2) (by omega) (by omega) (by omega) s2.1
  exact C_end (p := q2) (p0 := p) ⟨c2, by rw [upd2_ne (by omega)]; exact s2.2.1, s2.2.2⟩ (by omega)
set_option maxHeartbeats 600000 in
theorem C_pol {M0 : Mem} {t : Nat → Int} {n p : Nat} {N : Nat → Int} {m : Mem} (h : CBs M0 t n N m) (hp : p ≤ n) (hC : CTk t n p m) (hk : tK t n p ≠ 0) : wp (f_X10_readPolicy 20 m) (PCs M0 t n p (rPol t n N p)) := by
  have tr := tk_rng (t := t) hp
  have tre := tk_rng (t := t) tr.2.2.1
  have pe := tr.2.2.2.2.1 hk
  unfold f_X10_readPolicy rPol
  refine wp_cl1 (wp_use (C_next (CK_of h hp hC)) (fun z hz => ?_))
  obtain ⟨zB, zC⟩ := hz
  have fin : ∀ v : Int, 0 ≤ v → v ≤ 3 → wp (j_X10_readPolicy_78 20 (upd2 z 20 5 v)) (PCs M0 t n p (rPl1 t n N p v)) := fun v v0 v1 => by
    unfold j_X10_readPolicy_78 rPl1
    have c1 := CB_lay (s := 5) (k := 6) (v := v) (by omega) (by omega) (by omega) zB
    exact C_end (p := tE t n (tE t n p)) (p0 := p) ⟨c1, by rw [upd2_ne (by omega)]; exact zC.2.2.1, tre.2.2.1⟩ (by omega)
  refine wp_cl1 (wp_use (X10isW zB.1 tr.2.2.1 zC (v := 8) (by omega)) (fun w hw => ?_))
  rcases hw with ⟨rfl, hw⟩ | ⟨rfl, hw⟩
  · rw [if_pos (wdB_t.mpr hw)]
    exact wp_ite_f (by decide) (wp_bnd (fin 0 (by omega) (by omega)))
  rw [if_neg (fun e => hw (wdB_t.mp e))]
  refine wp_ite_t (by decide) (wp_cl1 (wp_use (X10isW zB.1 tr.2.2.1 zC (v := 9) (by omega)) (fun w hw => ?_)))
  rcases hw with ⟨rfl, hw⟩ | ⟨rfl, hw⟩
  · rw [if_pos (wdB_t.mpr hw)]
    exact wp_ite_f (by decide) (wp_bnd (fin 1 (by omega) (by omega)))
  rw [if_neg (fun e => hw (wdB_t.mp e))]
  refine wp_ite_t (by decide) (wp_cl1 (wp_use (X10isW zB.1 tr.2.2.1 zC (v := 10) (by omega)) (fun w hw => ?_)))
  rcases hw with ⟨rfl, hw⟩ | ⟨rfl, hw⟩
  · rw [if_pos (wdB_t.mpr hw)]
    exact wp_ite_f (by decide) (wp_bnd (fin 2 (by omega) (by omega)))
  rw [if_neg (fun e => hw (wdB_t.mp e))]
  refine wp_ite_t (by decide) (wp_cl1 (wp_use (X10isW zB.1 tr.2.2.1 zC (v := 11) (by omega)) (fun w hw => ?_)))
  rcases hw with ⟨rfl, hw⟩ | ⟨rfl, hw⟩
  · rw [if_pos (wdB_t.mpr hw)]
    exact wp_ite_f (by decide) (wp_bnd (fin 3 (by omega) (by omega)))
  rw [if_neg (fun e => hw (wdB_t.mp e))]
  exact wp_ite_t (by decide) (wp_cl2 (wp_use (C_fail zB (Or.inl rfl) zC.2.1) (fun r hr => wp_gz (Or.inl hr.1) (wp_some (PC_l hr.1 hr.2)))))
set_option maxHeartbeats 600000 in
theorem wp_gz2 {M0 : Mem} {t : Nat → Int} {n p : Nat} {q : Rs} {C : Option (Int × Mem)} (h : wp C (PCs M0 t n p q)) : wp (cl2 C (fun r M => gz r (some (r, M)))) (PCs M0 t n p q) := wp_cl2 (wp_use h (fun r hr => wp_gz (PC_01 hr) (wp_some hr)))
set_option maxHeartbeats 600000 in
theorem C_stm {M0 : Mem} {t : Nat → Int} {n p : Nat} {N : Nat → Int} {m : Mem} (h : CBs M0 t n N m) (hp : p ≤ n) (hC : CTk t n p m) (hk : tK t n p ≠ 0) : wp (f_X10_readStatement 19 m) (PCs M0 t n p (rStm t n N p)) := by
  unfold f_X10_readStatement rStm
  simp only [Nat.reduceAdd]
  refine wp_cl1 (wp_use (X10isW h.1 hp hC (v := 1) (by omega)) (fun w hw => ?_))
  rcases hw with ⟨rfl, hw⟩ | ⟨rfl, hw⟩
  · rw [if_pos (wdB_t.mpr hw)]
    exact wp_ite_f (by decide) (wp_gz2 (C_item h hp hC))
  rw [if_neg (fun e => hw (wdB_t.mp e))]
  refine wp_ite_t (by decide) (wp_cl1 (wp_use (X10isW h.1 hp hC (v := 2) (by omega)) (fun w hw => ?_)))
  rcases hw with ⟨rfl, hw⟩ | ⟨rfl, hw⟩
  · rw [if_pos (wdB_t.mpr hw)]
    exact wp_ite_f (by decide) (wp_gz2 (C_order h hp hC))
  rw [if_neg (fun e => hw (wdB_t.mp e))]
  refine wp_ite_t (by decide) (wp_cl1 (wp_use (X10isW h.1 hp hC (v := 4) (by omega)) (fun w hw => ?_)))
  rcases hw with ⟨rfl, hw⟩ | ⟨rfl, hw⟩
  · rw [if_pos (wdB_t.mpr hw)]
    exact wp_ite_f (by decide) (wp_gz2 (C_zones h hp hC))
  rw [if_neg (fun e => hw (wdB_t.mp e))]
  refine wp_ite_t (by decide) (wp_cl1 (wp_use (X10isW h.1 hp hC (v := 5) (by omega)) (fun w hw => ?_)))
  rcases hw with ⟨rfl, hw⟩ | ⟨rfl, hw⟩
  · rw [if_pos (wdB_t.mpr hw)]
    exact wp_ite_f (by decide) (wp_gz2 (C_buf h hp hC))
  rw [if_neg (fun e => hw (wdB_t.mp e))]
  refine wp_ite_t (by decide) (wp_cl1 (wp_use (X10isW h.1 hp hC (v := 6) (by omega)) (fun w hw => ?_)))
  rcases hw with ⟨rfl, hw⟩ | ⟨rfl, hw⟩
  · rw [if_pos (wdB_t.mpr hw)]
    exact wp_ite_f (by decide) (wp_gz2 (C_tim h hp hC))
  rw [if_neg (fun e => hw (wdB_t.mp e))]
  refine wp_ite_t (by decide) (wp_cl1 (wp_use (X10isW h.1 hp hC (v := 7) (by omega)) (fun w hw => ?_)))
  rcases hw with ⟨rfl, hw⟩ | ⟨rfl, hw⟩
  · rw [if_pos (wdB_t.mpr hw)]
    exact wp_ite_f (by decide) (wp_gz2 (C_pol h hp hC hk))
  rw [if_neg (fun e => hw (wdB_t.mp e))]
  exact wp_ite_t (by decide) (wp_cl2 (wp_use (C_fail h (Or.inl rfl) hC.2.1) (fun r hr => wp_gz (Or.inl hr.1) (wp_some (PC_l hr.1 hr.2)))))
set_option maxHeartbeats 600000 in
theorem C_hall {M0 : Mem} {t : Nat → Int} {n p : Nat} {N : Nat → Int} {m : Mem} (h : CKp M0 t n N p m) (h3 : N 3 ≤ 0) : wp (f_X10_readHall 20 m) (PCs M0 t n p (rHal t n N p)) := by
  have tr := tk_rng (t := t) h.2.2
  have hW := h.1.2.2.2.2.1
  unfold f_X10_readHall rHal
  refine wp_cl1 (wp_use (C_next h) (fun z hz => ?_))
  obtain ⟨zB, zC⟩ := hz
  refine wp_cl1 (wp_use (X10isW zB.1 h.2.2 zC (v := 0) (by omega)) (fun w hw => ?_))
  rcases hw with ⟨rfl, hw⟩ | ⟨rfl, hw⟩
  · rw [if_pos (wdB_t.mpr hw)]
    refine wp_ite_f (by decide) (wp_cl2 (wp_use (C_rd (CK_of zB h.2.2 zC) (by omega) (by omega)) (fun r hr => ?_)))
    rcases hr with ⟨e, e1, r1, r2⟩ | ⟨v, q, e1, r1, r2, r3, r4, r5, r6, -⟩
    · rw [e1, bd_l]; exact wp_ite_t (by rw [r1]; decide) (wp_some (PC_l rfl r2))
    rw [e1, bd_r]
    rw [r3]
    refine wp_ite_f (by rw [r1]; decide) (wp_bnd (wp_cl2 (wp_use (C_rd r2 (by omega) (by omega)) (fun s hs => ?_))))
    rcases hs with ⟨e, e2, s1, s2⟩ | ⟨v2, q2, e2, s1, s2, s3, s4, s5, s6, -⟩
    · rw [e2, bd_l]; exact wp_ite_t (by rw [s1]; decide) (wp_some (PC_l rfl s2))
    rw [e2, bd_r]
    rw [s3]
    refine wp_ite_f (by rw [s1]; decide) (wp_bnd (wp_cl2 (wp_use (C_rd s2 (by omega) (by omega)) (fun u hu => ?_))))
    rcases hu with ⟨e, e3, u1, u2⟩ | ⟨v3, q3, e3, u1, u2, u3, u4, u5, u6, -⟩
    · rw [e3, bd_l]; exact wp_ite_t (by rw [u1]; decide) (wp_some (PC_l rfl u2))
    rw [e3, bd_r]
    rw [u3]
    dsimp only
    refine wp_ite_f (by rw [u1]; decide) (wp_cl1 ?_)
    have hRu := u2.1.2.2.2.1
    obtain ⟨hA, hB, -⟩ := id hRu
    simp only [Nat.reduceAdd] at hA hB
    unfold f_X3_build f_X3_divide j_X3_divide_20
    refine wp_bnd (wp_bnd (wp_bnd (wp_cl1 (wp_ite_t (by decide) (wp_bnd (wp_bnd (wp_bnd (wp_bnd (wp_some (wp_some ?_))))))))))
    have cb : CBs M0 t n (hN N v v2 v3) (upd2 (upd2 (upd2 (upd2 (upd2 (upd2 (upd2 u.2 20 0 v) 20 1 v2) 20 2 v3) 20 3 1) (20 + 1) 0 0) (20 + 1) 1 (-1)) (20 + 1) 2 (-1)) := by
      refine CB_up (fun c hc => ?_) ?_ (WF_hN hW h3 (by omega) (by omega) (by omega)) u2.1
      · simp (disch := omega) only [upd2_ne]
      · refine HR_low (h := 19) (M := u.2) (N := N) (fun d d1 d2 => by simp (disch := omega) only [upd2_ne]) (fun k hk => ?_) hRu ?_ ?_
        · unfold hN; rw [if_neg (by omega), if_neg (by omega), if_neg (by omega), if_neg (by omega), if_neg (by omega)]
        · have ez : zns (hN N v v2 v3) = 1 := by unfold zns hN; simp
          rw [ez]
          simp only [upd2_rd, upd2_nd, Nat.reduceEqDiff, Nat.reduceAdd, Nat.add_left_cancel_iff, Nat.add_right_cancel_iff, reduceCtorEq, ↓reduceIte, and_self, and_true, true_and, and_false, false_and, true_or, or_true, false_or, or_false, not_true_eq_false, not_false_eq_true]
          unfold hN
          simp only [upd2_rd, upd2_nd, Nat.reduceEqDiff, Nat.reduceAdd, Nat.add_left_cancel_iff, Nat.add_right_cancel_iff, reduceCtorEq, ↓reduceIte, and_self, and_true, true_and, and_false, false_and, true_or, or_true, false_or, or_false, not_true_eq_false, not_false_eq_true]
          exact ⟨hA.2.2.2.2.1, hA.2.2.2.2.2.1, hA.2.2.2.2.2.2⟩
        · simp only [upd2_rd, upd2_nd, Nat.reduceEqDiff, Nat.reduceAdd, Nat.add_left_cancel_iff, Nat.add_right_cancel_iff, reduceCtorEq, ↓reduceIte, and_self, and_true, true_and, and_false, false_and, true_or, or_true, false_or, or_false, not_true_eq_false, not_false_eq_true]
          unfold hN
          simp only [upd2_rd, upd2_nd, Nat.reduceEqDiff, Nat.reduceAdd, Nat.add_left_cancel_iff, Nat.add_right_cancel_iff, reduceCtorEq, ↓reduceIte, and_self, and_true, true_and, and_false, false_and, true_or, or_true, false_or, or_false, not_true_eq_false, not_false_eq_true]
          exact ⟨hB.2.2.2.1, hB.2.2.2.2⟩
    refine C_end (p := q3) (p0 := p) ⟨cb, ?_, u2.2.2⟩ (by omega)
    simp (disch := omega) only [upd2_ne]
    exact u2.2.1
  · rw [if_neg (fun e => hw (wdB_t.mp e))]
    exact wp_ite_t (by decide) (wp_cl2 (wp_use (C_fail zB (Or.inl rfl) zC.2.1) (fun r hr => wp_gz (Or.inl hr.1) (wp_some (PC_l hr.1 hr.2)))))
