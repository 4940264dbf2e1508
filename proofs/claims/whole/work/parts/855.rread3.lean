-- ===== the reference: zones, buffers, times, policy; a whole text =====
set_option maxHeartbeats 600000 in
theorem RE_up {M1 : Mem} {t : Nat → Int} {n : Nat} {e : Er} {m : Mem} {k : Nat} {v : Int} (hk : k < 469) (h : REr M1 t n e m) : REr M1 t n e (upd2 m 140 k v) := by
  obtain ⟨h1, h2, h3, h4, h5⟩ := h
  exact ⟨by rw [upd2_ne (by decide)]; exact h1, by rw [upd2_ne (by decide)]; exact h2, h3, ⟨fun a a1 a2 => by rw [upd2_ne a2]; exact h4.1 a a1 a2, fun j hj => by rw [upd2_ne (by decide)]; exact h4.2 j hj⟩, fun j hj => by rw [upd2_row (by omega)]; exact h5 j hj⟩
set_option maxHeartbeats 600000 in
theorem up_set {m : Mem} {N : Nat → Int} (h : m 140 = N) {k : Nat} {v : Int} : upd2 m 140 k v 140 = setN N k v := by rw [upd2_fun, h]; rfl
set_option maxHeartbeats 600000 in
theorem REd_set {M1 : Mem} {N : Nat → Int} (h : REd M1 N) {k : Nat} {v : Int} (hk : k < 469) : REd M1 (setN N k v) := fun j hj => by rw [setN_ne (by omega)]; exact h j hj
set_option maxHeartbeats 600000 in
theorem R_52 {M1 : Mem} {t : Nat → Int} {n p p0 : Nat} {N : Nat → Int} {m : Mem} (h : RKp M1 t n N p m) (hE : REd M1 N) (h0 : p0 ≤ p) {a b : Int} (ha : 1 ≤ a ∧ a < N 0) (hb : b = -1 ∨ (a < b ∧ b < N 0)) : wp (j_X12_readZones_52 a b m) (QRs M1 t n p0 (bdE (smc t n p) (fun q => .inr (q, zN N a b)))) := by
  unfold j_X12_readZones_52
  refine wp_cl1 (wp_eq (R_well h.1) (wp_ite_f (by decide) (wp_bnd (wp_bnd (wp_some (Or.inr ⟨p, zN N a b, rfl, RK_up (fun c hc => by rw [upd2_ne hc, upd2_ne hc]) ?_ (WF_zN h.1.2.2.2.2.1 ha hb) h, h0, fun k hk => ?_⟩))))))
  · funext j
    unfold zN
    rw [upd2_at]
    by_cases e8 : j = 8
    · rw [if_pos e8, if_neg (by omega), if_pos e8]
    · rw [if_neg e8, upd2_at]
      by_cases e7 : j = 7
      · rw [if_pos e7, if_pos e7]
      · rw [if_neg e7, if_neg e7, if_neg e8, h.1.2.2.2.1]
  · unfold zN
    rw [if_neg (by omega), if_neg (by omega)]
    exact hE k hk
set_option maxHeartbeats 600000 in
theorem R_zones {M1 : Mem} {t : Nat → Int} {n p : Nat} {N : Nat → Int} {m : Mem} (h : RKp M1 t n N p m) (hE : REd M1 N) : wp (f_X12_readZones m) (QRs M1 t n p (rZones t n N p)) := by
  have tr := tk_rng (t := t) h.2.2
  have hW := h.1.2.2.2.2.1
  have hw := hW.1
  unfold f_X12_readZones rZones j_X12_readZones_51
  refine wp_cl1 (wp_use (R_adv h) (fun z hz => ?_))
  rw [hz.1.2.2.2.1]
  refine wp_cl2 (wp_use (R_rd hz hE (by omega) (by omega)) (fun r hr => ?_))
  rcases hr with ⟨e, e1, r2⟩ | ⟨v, q, e1, r1, r2, r4, r5, r6⟩
  · rw [e1, bd_l]
    unfold j_X12_readZones_52
    exact wp_cl1 (wp_eq (R_wellE r2) (wp_ite_t (by decide) (wp_cl1 (wp_eq (R_wellE r2) (wp_ite_t (by decide) (wp_some (Or.inl ⟨_, rfl, r2⟩)))))))
  rw [e1, bd_r, r1, r2.1.2.2.2.1, r2.2.1.1]
  dsimp only
  have trq := tk_rng (t := t) r2.2.2
  refine wp_cl1 (wp_eq (R_well r2.1) (wp_ite_f (by decide) ?_))
  by_cases k : tK t n q = 2
  · rw [if_pos k]
    refine wp_ite_t (by ((try simp (disch := omega) only [w32_and, w32_or, w32_shl, w32_shr, w32_xor, ixO, ixO0, ixO1, ixO2, ixO3, ixL0, ixL1, ixL2, ixC, ixB, ixI0, ixI00, ixI1, ixI2, ixI3, upd2_rd, upd2_nd, Nat.reduceEqDiff, Nat.reduceAdd, Nat.add_left_cancel_iff, Nat.add_right_cancel_iff, reduceCtorEq, ↓reduceIte, and_self, and_true, true_and, and_false, false_and, true_or, or_true, false_or, or_false, not_true_eq_false, not_false_eq_true]); (try simp only [w32_em]); (first | done | omega))) (wp_cl2 (wp_use (R_rd r2 hE (by omega) (by omega)) (fun s hs => ?_)))
    rcases hs with ⟨e, e2, s2⟩ | ⟨v2, q2, e2, s1, s2, s4, s5, s6⟩
    · rw [e2, bd_l]
      unfold j_X12_readZones_52
      exact wp_cl1 (wp_eq (R_wellE s2) (wp_ite_t (by decide) (wp_some (Or.inl ⟨_, rfl, s2⟩))))
    rw [e2, bd_r, s1]
    exact R_52 s2 hE (by omega) ⟨by omega, by omega⟩ (Or.inr ⟨by omega, by omega⟩)
  · rw [if_neg k]
    exact wp_ite_f (by ((try simp (disch := omega) only [w32_and, w32_or, w32_shl, w32_shr, w32_xor, ixO, ixO0, ixO1, ixO2, ixO3, ixL0, ixL1, ixL2, ixC, ixB, ixI0, ixI00, ixI1, ixI2, ixI3, upd2_rd, upd2_nd, Nat.reduceEqDiff, Nat.reduceAdd, Nat.add_left_cancel_iff, Nat.add_right_cancel_iff, reduceCtorEq, ↓reduceIte, and_self, and_true, true_and, and_false, false_and, true_or, or_true, false_or, or_false, not_true_eq_false, not_false_eq_true]); (try simp only [w32_em]); (first | done | omega))) (R_52 r2 hE (by omega) ⟨by omega, by omega⟩ (Or.inl rfl))
set_option maxHeartbeats 600000 in
theorem R_buf {M1 : Mem} {t : Nat → Int} {n p : Nat} {N : Nat → Int} {m : Mem} (h : RKp M1 t n N p m) (hE : REd M1 N) : wp (f_X12_readBuffer m) (QRs M1 t n p (rBuf t n N p)) := by
  have tr := tk_rng (t := t) h.2.2
  have hW := h.1.2.2.2.2.1
  unfold f_X12_readBuffer rBuf
  refine wp_cl1 (wp_use (R_adv h) (fun z hz => ?_))
  refine wp_cl2 (wp_use (R_rd hz hE (by omega) (by omega)) (fun r hr => ?_))
  rcases hr with ⟨e, e1, r2⟩ | ⟨v, q, e1, r1, r2, r4, r5, r6⟩
  · rw [e1, bd_l]
    refine wp_cl2 (wp_use (R_rdE r2) (fun s hs => ?_))
    rw [hs]
    exact wp_cl1 (wp_eq (R_wellE r2) (wp_ite_t (by decide) (wp_some (Or.inl ⟨_, rfl, r2⟩))))
  rw [e1, bd_r, r1]
  refine wp_cl2 (wp_use (R_rd r2 hE (by omega) (by omega)) (fun s hs => ?_))
  rcases hs with ⟨e, e2, s2⟩ | ⟨v2, q2, e2, s1, s2, s4, s5, s6⟩
  · rw [e2, bd_l]
    exact wp_cl1 (wp_eq (R_wellE s2) (wp_ite_t (by decide) (wp_some (Or.inl ⟨_, rfl, s2⟩))))
  rw [e2, bd_r, s1]
  dsimp only
  obtain ⟨x, rfl⟩ : ∃ x : Nat, v = (x : Int) := ⟨v.toNat, by omega⟩
  have xx : ix (9 + (x : Int)) = 9 + x := by rw [ix_of (by omega) (by omega)]; omega
  rw [xx, Int.toNat_natCast]
  exact wp_cl1 (wp_eq (R_well s2.1) (wp_ite_f (by decide) (wp_gi (by omega) (by omega) (by omega) (wp_bnd (wp_some (Or.inr ⟨q2, setN N (9 + x) v2, rfl, RK_up (fun c hc => upd2_ne hc) (up_set s2.1.2.2.2.1) (WF_buf hW (by omega) (by omega)) s2, by omega, REd_set hE (by omega)⟩))))))
set_option maxHeartbeats 600000 in
theorem R_tim {M1 : Mem} {t : Nat → Int} {n p : Nat} {N : Nat → Int} {m : Mem} (h : RKp M1 t n N p m) (hE : REd M1 N) : wp (f_X12_readTimes m) (QRs M1 t n p (rTim t n N p)) := by
  have tr := tk_rng (t := t) h.2.2
  have hW := h.1.2.2.2.2.1
  unfold f_X12_readTimes rTim
  refine wp_cl1 (wp_use (R_adv h) (fun z hz => ?_))
  refine wp_cl2 (wp_use (R_rd hz hE (by omega) (by omega)) (fun r hr => ?_))
  rcases hr with ⟨e, e1, r2⟩ | ⟨v, q, e1, r1, r2, r4, r5, r6⟩
  · rw [e1, bd_l]
    have r3 := RE_up (k := 11) (v := r.1) (by omega) r2
    refine wp_bnd (wp_cl2 (wp_use (R_rdE r3) (fun s hs => ?_)))
    rw [hs]
    exact wp_bnd (wp_some (Or.inl ⟨_, rfl, RE_up (by omega) r3⟩))
  rw [e1, bd_r, r1]
  have r3 : RKp M1 t n (setN N 11 v) q (upd2 r.2 140 11 v) := RK_up (fun c hc => upd2_ne hc) (up_set r2.1.2.2.2.1) (WF_lay (by omega) (by omega) (by omega) (by omega) hW) r2
  refine wp_bnd (wp_cl2 (wp_use (R_rd r3 (REd_set hE (by omega)) (by omega) (by omega)) (fun s hs => ?_)))
  rcases hs with ⟨e, e2, s2⟩ | ⟨v2, q2, e2, s1, s2, s4, s5, s6⟩
  · rw [e2, bd_l]
    exact wp_bnd (wp_some (Or.inl ⟨_, rfl, RE_up (by omega) s2⟩))
  rw [e2, bd_r, s1]
  exact wp_bnd (wp_some (Or.inr ⟨q2, setN (setN N 11 v) 12 v2, rfl, RK_up (fun c hc => upd2_ne hc) (up_set s2.1.2.2.2.1) (WF_lay (by omega) (by omega) (by omega) (by omega) s2.1.2.2.2.2.1) s2, by omega, REd_set (REd_set hE (by omega)) (by omega)⟩))
set_option maxHeartbeats 600000 in
theorem rPol_v {t : Nat → Int} {n p v : Nat} {N : Nat → Int} (hv : v < 4) (h : WdI t n (tE t n p) (8 + v)) : rPol t n N p = rPl1 t n N p (v : Int) := by
  have no : ∀ w, w < 12 → w ≠ 8 + v → ¬ wdB t n (tE t n p) w = true := fun w hw hne e => hne (Wd_one hw (by omega) (wdB_t.mp e) h)
  have yes := wdB_t.mpr h
  unfold rPol
  rcases (show v = 0 ∨ v = 1 ∨ v = 2 ∨ v = 3 by omega) with rfl | rfl | rfl | rfl
  · rw [if_pos yes]; rfl
  · rw [if_neg (no 8 (by omega) (by omega)), if_pos yes]; rfl
  · rw [if_neg (no 8 (by omega) (by omega)), if_neg (no 9 (by omega) (by omega)), if_pos yes]; rfl
  · rw [if_neg (no 8 (by omega) (by omega)), if_neg (no 9 (by omega) (by omega)), if_neg (no 10 (by omega) (by omega)), if_pos yes]; rfl
set_option maxHeartbeats 600000 in
theorem R_pol {M1 : Mem} {t : Nat → Int} {n p : Nat} {N : Nat → Int} {m : Mem} (h : RKp M1 t n N p m) (hE : REd M1 N) : wp (f_X12_readPolicy m) (QRs M1 t n p (rPol t n N p)) := by
  have tr := tk_rng (t := t) h.2.2
  have tre := tk_rng (t := t) tr.2.2.1
  have hW := h.1.2.2.2.2.1
  unfold f_X12_readPolicy
  refine wp_cl1 (wp_use (R_adv h) (fun z hz => wp_cl1 (wp_use (X12wh hz.1.1 hz.2.2 hz.2.1) (fun w hw => wp_bnd ?_))))
  by_cases k : ∃ v : Nat, v < 4 ∧ WdI t n (tE t n p) (8 + v)
  · obtain ⟨v, hv, hw2⟩ := k
    have ew : w = ((8 + v : Nat) : Int) := by
      rcases hw with ⟨_, hw⟩ | ⟨u, hu, hw, hw3⟩
      · exact absurd hw2 (hw (8 + v) (by omega))
      · rw [hw, Wd_one hu (by omega) hw3 hw2]
    subst ew
    rw [rPol_v hv hw2, show ((8 + v : Nat) : Int) - 8 = (v : Int) by omega]
    have z3 : RKp M1 t n (setN N 6 (v : Int)) (tE t n p) (upd2 z 140 6 (v : Int)) := RK_up (fun c hc => upd2_ne hc) (up_set hz.1.2.2.2.1) (WF_lay (by omega) (by omega) (by omega) (by omega) hW) hz
    exact wp_ite_f (by ((try simp (disch := omega) only [w32_and, w32_or, w32_shl, w32_shr, w32_xor, ixO, ixO0, ixO1, ixO2, ixO3, ixL0, ixL1, ixL2, ixC, ixB, ixI0, ixI00, ixI1, ixI2, ixI3, upd2_rd, upd2_nd, Nat.reduceEqDiff, Nat.reduceAdd, Nat.add_left_cancel_iff, Nat.add_right_cancel_iff, reduceCtorEq, ↓reduceIte, and_self, and_true, true_and, and_false, false_and, true_or, or_true, false_or, or_false, not_true_eq_false, not_false_eq_true]); (try simp only [w32_em]); (first | done | omega))) (wp_bnd (wp_cl1 (wp_use (R_adv z3) (fun y hy => wp_some (Or.inr ⟨_, _, rfl, hy, by omega, REd_set hE (by omega)⟩)))))
  · have ew : w32 (w - 8) < 0 := by
      rcases hw with ⟨rfl, _⟩ | ⟨u, hu, rfl, hw3⟩
      · decide
      · have : u < 8 := by
          rcases Nat.lt_or_ge u 8 with g | g
          · exact g
          · exact absurd ⟨u - 8, by omega, by rw [show 8 + (u - 8) = u by omega]; exact hw3⟩ k
        rw [w32_ok ⟨by omega, by omega⟩]
        omega
    have no : ∀ v, v < 4 → ¬ wdB t n (tE t n p) (8 + v) = true := fun v hv e => k ⟨v, hv, wdB_t.mp e⟩
    have es : rPol t n N p = .inl (1, ((tS t n (tE t n p) : Nat) : Int)) := by
      unfold rPol
      rw [if_neg (no 0 (by omega)), if_neg (no 1 (by omega)), if_neg (no 2 (by omega)), if_neg (no 3 (by omega))]
    rw [es]
    exact wp_ite_t ew (wp_cl1 (wp_use (R_fails hz.1 hE (Or.inl rfl) hz.2.1.2.1) (fun y hy => wp_some (Or.inl ⟨_, rfl, hy⟩))))
set_option maxHeartbeats 600000 in
theorem R_stm {M1 : Mem} {t : Nat → Int} {n p : Nat} {N : Nat → Int} {m : Mem} (h : RKp M1 t n N p m) (hE : REd M1 N) : wp (f_X12_readStatement m) (PRs M1 t n p (rStm t n N p)) := by
  unfold f_X12_readStatement
  have bad : rStm t n N p = .inl (1, ((tS t n p : Nat) : Int)) → wp (cl1 (f_X12_fails 1 m) (fun M => j_X12_readStatement_95 M)) (PRs M1 t n p (rStm t n N p)) := fun e => R_95 (by rw [e]; exact wp_use (R_fails h.1 hE (Or.inl rfl) h.2.1.2.1) (fun z hz => Or.inl ⟨_, rfl, hz⟩))
  refine wp_cl1 (wp_use (X12wh h.1.1 h.2.2 h.2.1) (fun w hw => ?_))
  rcases hw with ⟨rfl, hw⟩ | ⟨v, hv, rfl, hw⟩
  · have no : ∀ w, w < 12 → ¬ wdB t n p w = true := fun w hw' e => hw w hw' (wdB_t.mp e)
    have e : rStm t n N p = .inl (1, ((tS t n p : Nat) : Int)) := by
      unfold rStm
      rw [if_neg (no 1 (by omega)), if_neg (no 2 (by omega)), if_neg (no 4 (by omega)), if_neg (no 5 (by omega)), if_neg (no 6 (by omega)), if_neg (no 7 (by omega))]
    exact wp_ite_f (by decide) (wp_ite_f (by decide) (wp_ite_f (by decide) (wp_ite_f (by decide) (wp_ite_f (by decide) (wp_ite_f (by decide) (wp_ite_f (by decide) (bad e)))))))
  · have no : ∀ w, w < 12 → w ≠ v → ¬ wdB t n p w = true := fun w hw' hne e => hne (Wd_one hw' hv (wdB_t.mp e) hw)
    have yes := wdB_t.mpr hw
    rcases (show v = 1 ∨ v = 2 ∨ v = 4 ∨ v = 5 ∨ v = 6 ∨ v = 7 ∨ v = 3 ∨ (v = 0 ∨ 8 ≤ v) by omega) with rfl | rfl | rfl | rfl | rfl | rfl | rfl | hv2
    · have e : rStm t n N p = rItem t n N p := by unfold rStm; rw [if_pos yes]
      rw [e]
      exact wp_ite_t (by decide) (R_95 (R_item h hE))
    · have e : rStm t n N p = rOrder t n N p := by unfold rStm; rw [if_neg (no 1 (by omega) (by omega)), if_pos yes]
      rw [e]
      exact wp_ite_f (by decide) (wp_ite_t (by decide) (R_95 (R_order h hE)))
    · have e : rStm t n N p = rZones t n N p := by unfold rStm; rw [if_neg (no 1 (by omega) (by omega)), if_neg (no 2 (by omega) (by omega)), if_pos yes]
      rw [e]
      exact wp_ite_f (by decide) (wp_ite_f (by decide) (wp_ite_f (by decide) (wp_ite_t (by decide) (R_95 (R_zones h hE)))))
    · have e : rStm t n N p = rBuf t n N p := by unfold rStm; rw [if_neg (no 1 (by omega) (by omega)), if_neg (no 2 (by omega) (by omega)), if_neg (no 4 (by omega) (by omega)), if_pos yes]
      rw [e]
      exact wp_ite_f (by decide) (wp_ite_f (by decide) (wp_ite_f (by decide) (wp_ite_f (by decide) (wp_ite_t (by decide) (R_95 (R_buf h hE))))))
    · have e : rStm t n N p = rTim t n N p := by unfold rStm; rw [if_neg (no 1 (by omega) (by omega)), if_neg (no 2 (by omega) (by omega)), if_neg (no 4 (by omega) (by omega)), if_neg (no 5 (by omega) (by omega)), if_pos yes]
      rw [e]
      exact wp_ite_f (by decide) (wp_ite_f (by decide) (wp_ite_f (by decide) (wp_ite_f (by decide) (wp_ite_f (by decide) (wp_ite_t (by decide) (R_95 (R_tim h hE)))))))
    · have e : rStm t n N p = rPol t n N p := by unfold rStm; rw [if_neg (no 1 (by omega) (by omega)), if_neg (no 2 (by omega) (by omega)), if_neg (no 4 (by omega) (by omega)), if_neg (no 5 (by omega) (by omega)), if_neg (no 6 (by omega) (by omega)), if_pos yes]
      rw [e]
      exact wp_ite_f (by decide) (wp_ite_f (by decide) (wp_ite_f (by decide) (wp_ite_f (by decide) (wp_ite_f (by decide) (wp_ite_f (by decide) (wp_ite_t (by decide) (R_95 (R_pol h hE))))))))
    · have e : rStm t n N p = .inl (1, ((tS t n p : Nat) : Int)) := by
        unfold rStm
        rw [if_neg (no 1 (by omega) (by omega)), if_neg (no 2 (by omega) (by omega)), if_neg (no 4 (by omega) (by omega)), if_neg (no 5 (by omega) (by omega)), if_neg (no 6 (by omega) (by omega)), if_neg (no 7 (by omega) (by omega))]
      exact wp_ite_f (by decide) (wp_ite_f (by decide) (wp_ite_t (by decide) (bad e)))
    · have e : rStm t n N p = .inl (1, ((tS t n p : Nat) : Int)) := by
        unfold rStm
        rw [if_neg (no 1 (by omega) (by omega)), if_neg (no 2 (by omega) (by omega)), if_neg (no 4 (by omega) (by omega)), if_neg (no 5 (by omega) (by omega)), if_neg (no 6 (by omega) (by omega)), if_neg (no 7 (by omega) (by omega))]
      exact wp_ite_f (by ((try simp (disch := omega) only [w32_and, w32_or, w32_shl, w32_shr, w32_xor, ixO, ixO0, ixO1, ixO2, ixO3, ixL0, ixL1, ixL2, ixC, ixB, ixI0, ixI00, ixI1, ixI2, ixI3, upd2_rd, upd2_nd, Nat.reduceEqDiff, Nat.reduceAdd, Nat.add_left_cancel_iff, Nat.add_right_cancel_iff, reduceCtorEq, ↓reduceIte, and_self, and_true, true_and, and_false, false_and, true_or, or_true, false_or, or_false, not_true_eq_false, not_false_eq_true]); (try simp only [w32_em]); (first | done | omega))) (wp_ite_f (by ((try simp (disch := omega) only [w32_and, w32_or, w32_shl, w32_shr, w32_xor, ixO, ixO0, ixO1, ixO2, ixO3, ixL0, ixL1, ixL2, ixC, ixB, ixI0, ixI00, ixI1, ixI2, ixI3, upd2_rd, upd2_nd, Nat.reduceEqDiff, Nat.reduceAdd, Nat.add_left_cancel_iff, Nat.add_right_cancel_iff, reduceCtorEq, ↓reduceIte, and_self, and_true, true_and, and_false, false_and, true_or, or_true, false_or, or_false, not_true_eq_false, not_false_eq_true]); (try simp only [w32_em]); (first | done | omega))) (wp_ite_f (by ((try simp (disch := omega) only [w32_and, w32_or, w32_shl, w32_shr, w32_xor, ixO, ixO0, ixO1, ixO2, ixO3, ixL0, ixL1, ixL2, ixC, ixB, ixI0, ixI00, ixI1, ixI2, ixI3, upd2_rd, upd2_nd, Nat.reduceEqDiff, Nat.reduceAdd, Nat.add_left_cancel_iff, Nat.add_right_cancel_iff, reduceCtorEq, ↓reduceIte, and_self, and_true, true_and, and_false, false_and, true_or, or_true, false_or, or_false, not_true_eq_false, not_false_eq_true]); (try simp only [w32_em]); (first | done | omega))) (wp_ite_f (by ((try simp (disch := omega) only [w32_and, w32_or, w32_shl, w32_shr, w32_xor, ixO, ixO0, ixO1, ixO2, ixO3, ixL0, ixL1, ixL2, ixC, ixB, ixI0, ixI00, ixI1, ixI2, ixI3, upd2_rd, upd2_nd, Nat.reduceEqDiff, Nat.reduceAdd, Nat.add_left_cancel_iff, Nat.add_right_cancel_iff, reduceCtorEq, ↓reduceIte, and_self, and_true, true_and, and_false, false_and, true_or, or_true, false_or, or_false, not_true_eq_false, not_false_eq_true]); (try simp only [w32_em]); (first | done | omega))) (wp_ite_f (by ((try simp (disch := omega) only [w32_and, w32_or, w32_shl, w32_shr, w32_xor, ixO, ixO0, ixO1, ixO2, ixO3, ixL0, ixL1, ixL2, ixC, ixB, ixI0, ixI00, ixI1, ixI2, ixI3, upd2_rd, upd2_nd, Nat.reduceEqDiff, Nat.reduceAdd, Nat.add_left_cancel_iff, Nat.add_right_cancel_iff, reduceCtorEq, ↓reduceIte, and_self, and_true, true_and, and_false, false_and, true_or, or_true, false_or, or_false, not_true_eq_false, not_false_eq_true]); (try simp only [w32_em]); (first | done | omega))) (wp_ite_f (by ((try simp (disch := omega) only [w32_and, w32_or, w32_shl, w32_shr, w32_xor, ixO, ixO0, ixO1, ixO2, ixO3, ixL0, ixL1, ixL2, ixC, ixB, ixI0, ixI00, ixI1, ixI2, ixI3, upd2_rd, upd2_nd, Nat.reduceEqDiff, Nat.reduceAdd, Nat.add_left_cancel_iff, Nat.add_right_cancel_iff, reduceCtorEq, ↓reduceIte, and_self, and_true, true_and, and_false, false_and, true_or, or_true, false_or, or_false, not_true_eq_false, not_false_eq_true]); (try simp only [w32_em]); (first | done | omega))) (wp_ite_f (by ((try simp (disch := omega) only [w32_and, w32_or, w32_shl, w32_shr, w32_xor, ixO, ixO0, ixO1, ixO2, ixO3, ixL0, ixL1, ixL2, ixC, ixB, ixI0, ixI00, ixI1, ixI2, ixI3, upd2_rd, upd2_nd, Nat.reduceEqDiff, Nat.reduceAdd, Nat.add_left_cancel_iff, Nat.add_right_cancel_iff, reduceCtorEq, ↓reduceIte, and_self, and_true, true_and, and_false, false_and, true_or, or_true, false_or, or_false, not_true_eq_false, not_false_eq_true]); (try simp only [w32_em]); (first | done | omega))) (bad e)))))))
set_option maxHeartbeats 600000 in
theorem R_hall {M1 : Mem} {t : Nat → Int} {n p : Nat} {N : Nat → Int} {m : Mem} (h : RKp M1 t n N p m) (hE : REd M1 N) (h3 : N 3 ≤ 0) : wp (f_X12_readHall m) (PRs M1 t n p (rHal t n N p)) := by
  have tr := tk_rng (t := t) h.2.2
  have hW := h.1.2.2.2.2.1
  unfold f_X12_readHall rHal j_X12_readHall_55
  refine wp_cl1 (wp_use (X12wh h.1.1 h.2.2 h.2.1) (fun w hw => ?_))
  by_cases k : WdI t n p 0
  · have ew : w = 0 := by
      rcases hw with ⟨_, hw⟩ | ⟨v, hv, hw, hw2⟩
      · exact absurd k (hw 0 (by omega))
      · rw [hw, Wd_one hv (by omega) hw2 k]; rfl
    subst ew
    rw [if_pos (wdB_t.mpr k)]
    refine wp_ite_t (by decide) (wp_cl1 (wp_use (R_adv h) (fun z hz => ?_)))
    have fin : ∀ (q : Rs) (y : Mem), QRs M1 t n p q y → wp (cl1 (f_X12_ends y) (fun M_14 => some M_14)) (PRs M1 t n p q) := fun q y hy => wp_cl1 (wp_use (R_ends hy) (fun x hx => wp_some hx))
    refine wp_cl2 (wp_use (R_rd hz hE (by omega) (by omega)) (fun r hr => ?_))
    rcases hr with ⟨e, e1, r2⟩ | ⟨v, q, e1, r1, r2, r4, r5, r6⟩
    · rw [e1, bd_l]
      refine wp_cl2 (wp_use (R_rdE r2) (fun s hs => wp_cl2 ?_))
      rw [hs]
      refine wp_use (R_rdE r2) (fun u hu => ?_)
      rw [hu]
      exact wp_cl1 (wp_eq (R_wellE r2) (wp_ite_t (by decide) (fin _ _ (Or.inl ⟨_, rfl, r2⟩))))
    rw [e1, bd_r, r1]
    refine wp_cl2 (wp_use (R_rd r2 hE (by omega) (by omega)) (fun s hs => ?_))
    rcases hs with ⟨e, e2, s2⟩ | ⟨v2, q2, e2, s1, s2, s4, s5, s6⟩
    · rw [e2, bd_l]
      refine wp_cl2 (wp_use (R_rdE s2) (fun u hu => ?_))
      rw [hu]
      exact wp_cl1 (wp_eq (R_wellE s2) (wp_ite_t (by decide) (fin _ _ (Or.inl ⟨_, rfl, s2⟩))))
    rw [e2, bd_r, s1]
    refine wp_cl2 (wp_use (R_rd s2 hE (by omega) (by omega)) (fun u hu => ?_))
    rcases hu with ⟨e, e3, u2⟩ | ⟨v3, q3, e3, u1, u2, u4, u5, u6⟩
    · rw [e3, bd_l]
      exact wp_cl1 (wp_eq (R_wellE u2) (wp_ite_t (by decide) (fin _ _ (Or.inl ⟨_, rfl, u2⟩))))
    rw [e3, bd_r, u1]
    dsimp only
    unfold f_X12_laysHall
    refine wp_cl1 (wp_eq (R_well u2.1) (wp_ite_f (by decide) (wp_cl1 (wp_bnd (wp_bnd (wp_bnd (wp_bnd (wp_bnd (wp_some (fin _ _ (Or.inr ⟨q3, hN N v v2 v3, rfl, RK_up (m := u.2) (fun c hc => by simp (disch := omega) only [upd2_ne]) ?_ (WF_hN hW h3 (by omega) (by omega) (by omega)) u2, by omega, fun k hk => ?_⟩)))))))))))
    · funext j
      unfold hN
      rw [upd2_at, upd2_at, upd2_at, upd2_at, upd2_at, u2.1.2.2.2.1]
      by_cases e8 : j = 8
      · rw [if_pos e8, if_neg (by omega), if_neg (by omega), if_neg (by omega), if_neg (by omega), if_pos e8]
      · rw [if_neg e8]
        by_cases e7 : j = 7
        · rw [if_pos e7, if_neg (by omega), if_neg (by omega), if_neg (by omega), if_pos e7]
        · rw [if_neg e7]
          by_cases e2 : j = 2
          · rw [if_pos e2, if_neg (by omega), if_neg (by omega), if_pos e2]
          · rw [if_neg e2]
            by_cases e1 : j = 1
            · rw [if_pos e1, if_neg (by omega), if_pos e1]
            · rw [if_neg e1]
              by_cases e0 : j = 0
              · rw [if_pos e0, if_pos e0]
              · rw [if_neg e0, if_neg e0, if_neg e1, if_neg e2, if_neg e7, if_neg e8]
    · unfold hN
      rw [if_neg (by omega), if_neg (by omega), if_neg (by omega), if_neg (by omega), if_neg (by omega)]
      exact hE k hk
  · have ew : ¬ w32 w = 0 := by
      rcases hw with ⟨rfl, _⟩ | ⟨v, hv, rfl, hw2⟩
      · decide
      · intro e
        rw [w32_nat (by omega)] at e
        have : v = 0 := by omega
        rw [this] at hw2
        exact k hw2
    rw [if_neg (fun e => k (wdB_t.mp e))]
    exact wp_ite_f ew (wp_cl1 (wp_use (R_fails h.1 hE (Or.inl rfl) h.2.1.2.1) (fun z hz => wp_some (Or.inl ⟨_, rfl, hz⟩))))
