-- ===== the length of a route =====
def lnC (N : Nat → Int) (x : Int) (l : List Nat) (pol : Int) : Int := if pol = 1 then ssS N x l else if pol = 2 then gaS N x l else if pol = 3 then cW N x l l.length false else rtS N x l
def lnZ (N : Nat → Int) (x : Int) (z : Nat) (pol : Int) : Int := if (vz N x z).length = 0 then 0 else 2 * N 2 * (((vz N x z).getD ((vz N x z).length - 1) 0 : Nat) - zF N z) + lnC N x (vz N x z) pol
theorem vz_VL {N : Nat → Int} (hW : WF N) {x : Int} {z : Nat} (hz : (z : Int) < zns N) : VL N x (vz N x z) := ⟨vz_len hW hz, fun a ha => ⟨(vz_mem hW hz ha).1, (vz_mem hW hz ha).2.2⟩⟩
theorem HR_fr {th : Nat} (hth : 40 ≤ th) {M M' : Mem} {N : Nat → Int} (hR : HR 1 M N) (e : ∀ a, a < th → M' a = M a) : HR 1 M' N := HR_congr (fun d d1 d2 => e _ (by omega)) hR
theorem X6len {th : Nat} (hth : 40 ≤ th) {M : Mem} {N : Nat → Int} (hR : HR 1 M N) (hW : WF N) {x : Int} (hS : Sur th M N x) {z : Nat} (hz : (z : Int) < zns N) {pol : Int} (hp : 0 ≤ pol ∧ pol ≤ 3) : wp (f_X6_lengthIn th 2 (z : Int) pol M) (fun r => r.1 = lnZ N x z pol ∧ (∀ a, a < th ∨ th + 8 < a → r.2 a = M a) ∧ Sur th r.2 N x) := by
  have rr := z_rng hW hz
  have hv := vz_VL (x := x) hW hz
  have hB := hR.2.1
  have hA := hR.1
  simp only [Nat.reduceAdd] at hB hA
  have m3 : M 3 z = zF N z := by
    unfold zF
    rcases (show z = 0 ∨ z = 1 ∨ z = 2 by omega) with rfl | rfl | rfl
    · exact hB.1
    · exact hB.2.1
    · exact hB.2.2.1
  unfold f_X6_lengthIn
  refine wp_cl1 (wp_use (X6find hth hR hW hS hz) (fun r hr => ?_))
  obtain ⟨r1, r2, r3, r4⟩ := hr
  have hS' : Sur th r N x := ⟨by rw [r2 0 (by decide)]; exact hS.1, by rw [r2 1 (by decide)]; exact hS.2.1, fun a ha => by rw [r1 (th + 1) (by omega) (by omega), r1 (th + 2) (by omega) (by omega), r1 (th + 3) (by omega) (by omega), r1 (th + 4) (by omega) (by omega)]; exact hS.2.2 a ha⟩
  have hT : RT th r N x (vz N x z) := ⟨hS', r3, r4⟩
  have fr : ∀ a, a < th ∨ th + 8 < a → r a = M a := fun a ha => r1 a (by omega) (by omega)
  have hl6 := hv.1
  rw [r3]
  unfold lnZ
  by_cases q : (vz N x z).length = 0
  · rw [if_pos q]
    exact wp_ite_t (by rw [q]; decide) (wp_some ⟨rfl, fr, hS'⟩)
  · rw [if_neg q]
    have e5 := LR_get r4 (show (vz N x z).length - 1 < (vz N x z).length by omega)
    have x1 : ix (((vz N x z).length : Int) - 1) = (vz N x z).length - 1 := by rw [ix_of (by omega) (by omega)]; omega
    refine wp_ite_f (by ((try simp (disch := omega) only [w32_and, w32_or, w32_shl, w32_shr, w32_xor, ixO, ixO0, ixO1, ixO2, ixO3, ixL0, ixL1, ixL2, ixC, ixB, ixI0, ixI00, ixI1, ixI2, ixI3, upd2_rd, upd2_nd, Nat.reduceEqDiff, Nat.reduceAdd, Nat.add_left_cancel_iff, Nat.add_right_cancel_iff, reduceCtorEq, ↓reduceIte, and_self, and_true, true_and, and_false, false_and, true_or, or_true, false_or, or_false, not_true_eq_false, not_false_eq_true]); (try simp only [w32_em]); (first | done | omega))) (wp_gi (by omega) (by omega) (by omega) (wp_bnd (wp_gi (by omega) (by omega) (by omega) (wp_bnd ?_))))
    rw [x1, e5, show 2 + 1 = 3 from rfl, ix_nat (show z < 2147483648 by omega), fr 3 (by omega), m3, fr 2 (by omega), hA.2.2.1]
    unfold lnC
    by_cases p1 : pol = 1
    · rw [if_pos p1]
      refine wp_ite_t (by ((try simp (disch := omega) only [w32_and, w32_or, w32_shl, w32_shr, w32_xor, ixO, ixO0, ixO1, ixO2, ixO3, ixL0, ixL1, ixL2, ixC, ixB, ixI0, ixI00, ixI1, ixI2, ixI3, upd2_rd, upd2_nd, Nat.reduceEqDiff, Nat.reduceAdd, Nat.add_left_cancel_iff, Nat.add_right_cancel_iff, reduceCtorEq, ↓reduceIte, and_self, and_true, true_and, and_false, false_and, true_or, or_true, false_or, or_false, not_true_eq_false, not_false_eq_true]); (try simp only [w32_em]); (first | done | omega))) (wp_cl1 (wp_eq (X6shape hT hv (by omega)) (wp_some ⟨rfl, fr, hS'⟩)))
    · rw [if_neg p1]
      refine wp_ite_f (by ((try simp (disch := omega) only [w32_and, w32_or, w32_shl, w32_shr, w32_xor, ixO, ixO0, ixO1, ixO2, ixO3, ixL0, ixL1, ixL2, ixC, ixB, ixI0, ixI00, ixI1, ixI2, ixI3, upd2_rd, upd2_nd, Nat.reduceEqDiff, Nat.reduceAdd, Nat.add_left_cancel_iff, Nat.add_right_cancel_iff, reduceCtorEq, ↓reduceIte, and_self, and_true, true_and, and_false, false_and, true_or, or_true, false_or, or_false, not_true_eq_false, not_false_eq_true]); (try simp only [w32_em]); (first | done | omega))) ?_
      by_cases p2 : pol = 2
      · rw [if_pos p2]
        refine wp_ite_t (by ((try simp (disch := omega) only [w32_and, w32_or, w32_shl, w32_shr, w32_xor, ixO, ixO0, ixO1, ixO2, ixO3, ixL0, ixL1, ixL2, ixC, ixB, ixI0, ixI00, ixI1, ixI2, ixI3, upd2_rd, upd2_nd, Nat.reduceEqDiff, Nat.reduceAdd, Nat.add_left_cancel_iff, Nat.add_right_cancel_iff, reduceCtorEq, ↓reduceIte, and_self, and_true, true_and, and_false, false_and, true_or, or_true, false_or, or_false, not_true_eq_false, not_false_eq_true]); (try simp only [w32_em]); (first | done | omega))) (wp_cl2 (wp_use (X6gapC hW hT hv) (fun g hg => wp_some ⟨?_, fun a ha => ?_, ?_⟩)))
        · simp only; rw [hg.1]
        · simp only; rw [hg.2.1 a (by omega)]; exact fr a ha
        · exact (RT_upd hT (fun b b1 _ => hg.2.1 b (by omega)) (fun k hk => hg.2.2 k (by omega) (by omega))).1
      · rw [if_neg p2]
        refine wp_ite_f (by ((try simp (disch := omega) only [w32_and, w32_or, w32_shl, w32_shr, w32_xor, ixO, ixO0, ixO1, ixO2, ixO3, ixL0, ixL1, ixL2, ixC, ixB, ixI0, ixI00, ixI1, ixI2, ixI3, upd2_rd, upd2_nd, Nat.reduceEqDiff, Nat.reduceAdd, Nat.add_left_cancel_iff, Nat.add_right_cancel_iff, reduceCtorEq, ↓reduceIte, and_self, and_true, true_and, and_false, false_and, true_or, or_true, false_or, or_false, not_true_eq_false, not_false_eq_true]); (try simp only [w32_em]); (first | done | omega))) ?_
        by_cases p3 : pol = 3
        · rw [if_pos p3]
          refine wp_ite_t (by ((try simp (disch := omega) only [w32_and, w32_or, w32_shl, w32_shr, w32_xor, ixO, ixO0, ixO1, ixO2, ixO3, ixL0, ixL1, ixL2, ixC, ixB, ixI0, ixI00, ixI1, ixI2, ixI3, upd2_rd, upd2_nd, Nat.reduceEqDiff, Nat.reduceAdd, Nat.add_left_cancel_iff, Nat.add_right_cancel_iff, reduceCtorEq, ↓reduceIte, and_self, and_true, true_and, and_false, false_and, true_or, or_true, false_or, or_false, not_true_eq_false, not_false_eq_true]); (try simp only [w32_em]); (first | done | omega))) (wp_cl1 (wp_use (X6plan hW hT hv) (fun g hg => wp_some ⟨?_, fun a ha => ?_, ?_⟩)))
          · simp only; rw [(hg.2 0 (by omega)).1, Nat.sub_zero]
          · simp only; rw [hg.1 a (by omega) (by omega)]; exact fr a ha
          · exact (RT_upd hT (fun b b1 b2 => hg.1 b (by omega) (by omega)) (fun k hk => by rw [hg.1 th (by omega) (by omega)])).1
        · rw [if_neg p3]
          refine wp_ite_f (by ((try simp (disch := omega) only [w32_and, w32_or, w32_shl, w32_shr, w32_xor, ixO, ixO0, ixO1, ixO2, ixO3, ixL0, ixL1, ixL2, ixC, ixB, ixI0, ixI00, ixI1, ixI2, ixI3, upd2_rd, upd2_nd, Nat.reduceEqDiff, Nat.reduceAdd, Nat.add_left_cancel_iff, Nat.add_right_cancel_iff, reduceCtorEq, ↓reduceIte, and_self, and_true, true_and, and_false, false_and, true_or, or_true, false_or, or_false, not_true_eq_false, not_false_eq_true]); (try simp only [w32_em]); (first | done | omega))) (wp_cl1 (wp_eq (X6ret hT hv) (wp_some ⟨rfl, fr, hS'⟩)))
theorem X12len {M : Mem} {N : Nat → Int} (hN : M 140 = N) (hW : WF N) {x : Int} (hx : Ims N x) (hS : S4 N x M) {z : Nat} (hz : (z : Int) < zns N) {pol : Int} (hp : 0 ≤ pol ∧ pol ≤ 3) : wp (f_X12_routeOf (z : Int) pol M) (fun r => r.1 = lnZ N x z pol ∧ (∀ a, a ≠ 139 → a ≠ 146 → r.2 a = M a) ∧ ∀ k, k ≠ 8 → k ≠ 9 → k ≠ 10 → r.2 139 k = M 139 k) := by
  have rr := z_rng hW hz
  have hv := vz_VL (x := x) hW hz
  unfold f_X12_routeOf
  refine wp_cl1 (wp_use (X12find hN hW hx hS hz) (fun r hr => ?_))
  obtain ⟨r1, r2, r3, r4⟩ := hr
  have e140 : r 140 = N := by rw [r1 140 (by decide) (by decide), hN]
  have hA : RA r N x (vz N x z) := ⟨e140, by unfold S4 at hS ⊢; rw [r1 144 (by decide) (by decide), r1 145 (by decide) (by decide)]; exact hS, r3, r4⟩
  have fk : ∀ k, k ≠ 8 → k ≠ 9 → k ≠ 10 → r 139 k = M 139 k := fun k h _ _ => r2 k h
  have hl6 := hv.1
  rw [r3]
  unfold lnZ
  by_cases q : (vz N x z).length = 0
  · rw [if_pos q]
    exact wp_ite_t (by rw [q]; decide) (wp_some ⟨rfl, r1, fk⟩)
  · rw [if_neg q]
    have e5 := LR_get r4 (show (vz N x z).length - 1 < (vz N x z).length by omega)
    have x1 : ix (((vz N x z).length : Int) - 1) = (vz N x z).length - 1 := by rw [ix_of (by omega) (by omega)]; omega
    refine wp_ite_f (by ((try simp (disch := omega) only [w32_and, w32_or, w32_shl, w32_shr, w32_xor, ixO, ixO0, ixO1, ixO2, ixO3, ixL0, ixL1, ixL2, ixC, ixB, ixI0, ixI00, ixI1, ixI2, ixI3, upd2_rd, upd2_nd, Nat.reduceEqDiff, Nat.reduceAdd, Nat.add_left_cancel_iff, Nat.add_right_cancel_iff, reduceCtorEq, ↓reduceIte, and_self, and_true, true_and, and_false, false_and, true_or, or_true, false_or, or_false, not_true_eq_false, not_false_eq_true]); (try simp only [w32_em]); (first | done | omega))) (wp_gi (by omega) (by omega) (by omega) (wp_cl1 (wp_eq (X12first e140 (by omega)) (wp_bnd ?_))))
    rw [x1, e5, e140]
    unfold lnC
    by_cases p0 : pol = 0
    · rw [if_neg (show ¬ pol = 1 by omega), if_neg (show ¬ pol = 2 by omega), if_neg (show ¬ pol = 3 by omega)]
      exact wp_ite_t (by ((try simp (disch := omega) only [w32_and, w32_or, w32_shl, w32_shr, w32_xor, ixO, ixO0, ixO1, ixO2, ixO3, ixL0, ixL1, ixL2, ixC, ixB, ixI0, ixI00, ixI1, ixI2, ixI3, upd2_rd, upd2_nd, Nat.reduceEqDiff, Nat.reduceAdd, Nat.add_left_cancel_iff, Nat.add_right_cancel_iff, reduceCtorEq, ↓reduceIte, and_self, and_true, true_and, and_false, false_and, true_or, or_true, false_or, or_false, not_true_eq_false, not_false_eq_true]); (try simp only [w32_em]); (first | done | omega))) (wp_cl1 (wp_eq (X12ret hW hx hA hv) (wp_some ⟨rfl, r1, fk⟩)))
    · refine wp_ite_f (by ((try simp (disch := omega) only [w32_and, w32_or, w32_shl, w32_shr, w32_xor, ixO, ixO0, ixO1, ixO2, ixO3, ixL0, ixL1, ixL2, ixC, ixB, ixI0, ixI00, ixI1, ixI2, ixI3, upd2_rd, upd2_nd, Nat.reduceEqDiff, Nat.reduceAdd, Nat.add_left_cancel_iff, Nat.add_right_cancel_iff, reduceCtorEq, ↓reduceIte, and_self, and_true, true_and, and_false, false_and, true_or, or_true, false_or, or_false, not_true_eq_false, not_false_eq_true]); (try simp only [w32_em]); (first | done | omega))) ?_
      by_cases p1 : pol = 1
      · rw [if_pos p1]
        exact wp_ite_t (by ((try simp (disch := omega) only [w32_and, w32_or, w32_shl, w32_shr, w32_xor, ixO, ixO0, ixO1, ixO2, ixO3, ixL0, ixL1, ixL2, ixC, ixB, ixI0, ixI00, ixI1, ixI2, ixI3, upd2_rd, upd2_nd, Nat.reduceEqDiff, Nat.reduceAdd, Nat.add_left_cancel_iff, Nat.add_right_cancel_iff, reduceCtorEq, ↓reduceIte, and_self, and_true, true_and, and_false, false_and, true_or, or_true, false_or, or_false, not_true_eq_false, not_false_eq_true]); (try simp only [w32_em]); (first | done | omega))) (wp_cl1 (wp_eq (X12shape hW hx hA hv (by omega)) (wp_some ⟨rfl, r1, fk⟩)))
      · rw [if_neg p1]
        refine wp_ite_f (by ((try simp (disch := omega) only [w32_and, w32_or, w32_shl, w32_shr, w32_xor, ixO, ixO0, ixO1, ixO2, ixO3, ixL0, ixL1, ixL2, ixC, ixB, ixI0, ixI00, ixI1, ixI2, ixI3, upd2_rd, upd2_nd, Nat.reduceEqDiff, Nat.reduceAdd, Nat.add_left_cancel_iff, Nat.add_right_cancel_iff, reduceCtorEq, ↓reduceIte, and_self, and_true, true_and, and_false, false_and, true_or, or_true, false_or, or_false, not_true_eq_false, not_false_eq_true]); (try simp only [w32_em]); (first | done | omega))) ?_
        by_cases p2 : pol = 2
        · rw [if_pos p2]
          refine wp_ite_t (by ((try simp (disch := omega) only [w32_and, w32_or, w32_shl, w32_shr, w32_xor, ixO, ixO0, ixO1, ixO2, ixO3, ixL0, ixL1, ixL2, ixC, ixB, ixI0, ixI00, ixI1, ixI2, ixI3, upd2_rd, upd2_nd, Nat.reduceEqDiff, Nat.reduceAdd, Nat.add_left_cancel_iff, Nat.add_right_cancel_iff, reduceCtorEq, ↓reduceIte, and_self, and_true, true_and, and_false, false_and, true_or, or_true, false_or, or_false, not_true_eq_false, not_false_eq_true]); (try simp only [w32_em]); (first | done | omega))) (wp_cl2 (wp_use (X12gapC hW hx hA hv (by omega)) (fun g hg => wp_some ⟨?_, fun a a1 a2 => ?_, fun k k1 k2 k3 => ?_⟩)))
          · simp only; rw [hg.1]
          · simp only; rw [hg.2.1 a a1]; exact r1 a a1 a2
          · simp only; rw [hg.2.2 k k2 k3]; exact r2 k k1
        · rw [if_neg p2, if_pos (show pol = 3 by omega)]
          obtain ⟨b1, b2⟩ := X12best hW hx hA hv
          have gl := cG_lt (N := N) (x := x) (l := vz N x z) (vz N x z).length false
          have p64 : 2 ^ (vz N x z).length ≤ 2 ^ 6 := Nat.pow_le_pow_right (by decide) hl6
          have cb := X12combBy hW hx hA hv (c := cG N x (vz N x z) (vz N x z).length false) (by omega)
          rw [b2] at cb
          simp only [Bool.false_eq_true, ↓reduceIte] at cb
          rw [cG_eq _ _ (Nat.mod_eq_of_lt gl)] at cb
          exact wp_ite_f (by ((try simp (disch := omega) only [w32_and, w32_or, w32_shl, w32_shr, w32_xor, ixO, ixO0, ixO1, ixO2, ixO3, ixL0, ixL1, ixL2, ixC, ixB, ixI0, ixI00, ixI1, ixI2, ixI3, upd2_rd, upd2_nd, Nat.reduceEqDiff, Nat.reduceAdd, Nat.add_left_cancel_iff, Nat.add_right_cancel_iff, reduceCtorEq, ↓reduceIte, and_self, and_true, true_and, and_false, false_and, true_or, or_true, false_or, or_false, not_true_eq_false, not_false_eq_true]); (try simp only [w32_em]); (first | done | omega))) (wp_cl1 (wp_eq b1 (wp_cl1 (wp_eq cb (wp_some ⟨rfl, r1, fk⟩)))))
/-- the length of the routes of a set of orders -/
def lfS (N : Nat → Int) (m pol : Int) : Int := sm (fun z => lnZ N (IM N m) z pol) (zns N).toNat
theorem X6for {th : Nat} (hth : 40 ≤ th) {M : Mem} {N : Nat → Int} (hR : HR 1 M N) (hW : WF N) {m : Int} (hm : NN m) {pol : Int} (hp : 0 ≤ pol ∧ pol ≤ 3) : wp (f_X6_lengthFor th 1 m pol M) (fun r => r.1 = lfS N m pol ∧ (∀ a, a < th ∨ th + 8 < a → r.2 a = M a)) := by
  have c := zn_rng N
  have hA := hR.1
  simp only [Nat.reduceAdd] at hA
  unfold f_X6_lengthFor
  refine wp_cl1 (wp_use (X6survey hth hR hW hm) (fun r hr => ?_))
  obtain ⟨r1, r2, r3⟩ := hr
  refine wp_lpb (wp_forI (fun i y => y.1 = sm (fun z => lnZ N (IM N m) z pol) i ∧ y.2.1 = (i : Int) ∧ (∀ a, a < th ∨ th + 8 < a → y.2.2 a = M a) ∧ Sur th y.2.2 N (IM N m)) (zns N).toNat ?_ ?_ (Nat.zero_le _) ⟨rfl, rfl, fun a ha => r1 a (by omega), r3⟩)
  · rintro i ⟨c1, c2, t⟩ hi ⟨q1, q2, q3, q4⟩
    simp only at q1 q2 q3 q4
    subst q1
    subst q2
    have e23 : t 2 3 = zns N := by rw [q3 2 (by omega)]; exact hA.2.2.2.1
    have hRt : HR 1 t N := HR_fr hth hR (fun a ha => q3 a (by omega))
    simp only [s_X6_lengthFor_12, Nat.reduceAdd]
    refine wp_ite_t (by rw [e23]; ((try simp (disch := omega) only [w32_and, w32_or, w32_shl, w32_shr, w32_xor, ixO, ixO0, ixO1, ixO2, ixO3, ixL0, ixL1, ixL2, ixC, ixB, ixI0, ixI00, ixI1, ixI2, ixI3, upd2_rd, upd2_nd, Nat.reduceEqDiff, Nat.reduceAdd, Nat.add_left_cancel_iff, Nat.add_right_cancel_iff, reduceCtorEq, ↓reduceIte, and_self, and_true, true_and, and_false, false_and, true_or, or_true, false_or, or_false, not_true_eq_false, not_false_eq_true]); (try simp only [w32_em]); (first | done | omega))) (wp_cl2 (wp_use (X6len hth hRt hW q4 (by omega) hp) (fun g hg => wp_bnd (wp_bnd (wp_some ?_)))))
    dsimp only [Sum.elim_inl]
    refine ⟨by simp only [sm]; rw [hg.1], by omega, fun a ha => by rw [hg.2.1 a ha]; exact q3 a ha, hg.2.2⟩
  · rintro ⟨c1, c2, t⟩ ⟨q1, q2, q3, q4⟩
    simp only at q1 q2 q3 q4
    subst q1
    subst q2
    have e23 : t 2 3 = zns N := by rw [q3 2 (by omega)]; exact hA.2.2.2.1
    simp only [s_X6_lengthFor_12, Nat.reduceAdd]
    refine wp_ite_f (by rw [e23]; ((try simp (disch := omega) only [w32_and, w32_or, w32_shl, w32_shr, w32_xor, ixO, ixO0, ixO1, ixO2, ixO3, ixL0, ixL1, ixL2, ixC, ixB, ixI0, ixI00, ixI1, ixI2, ixI3, upd2_rd, upd2_nd, Nat.reduceEqDiff, Nat.reduceAdd, Nat.add_left_cancel_iff, Nat.add_right_cancel_iff, reduceCtorEq, ↓reduceIte, and_self, and_true, true_and, and_false, false_and, true_or, or_true, false_or, or_false, not_true_eq_false, not_false_eq_true]); (try simp only [w32_em]); (first | done | omega))) (wp_some ?_)
    dsimp only [Sum.elim_inl, Sum.elim_inr]
    exact wp_some ⟨rfl, q3⟩
theorem X12routes {M : Mem} {N : Nat → Int} (hN : M 140 = N) (hW : WF N) {m : Int} (hm : NN m) (hh : ∀ o, (N 4).toNat ≤ o → bit m o = false) {pol : Int} (hp : 0 ≤ pol ∧ pol ≤ 3) : wp (f_X12_routes m pol M) (fun r => r.1 = lfS N m pol ∧ (∀ a, a ≠ 139 → a ≠ 144 → a ≠ 145 → a ≠ 146 → r.2 a = M a) ∧ ∀ k, k ≠ 8 → k ≠ 9 → k ≠ 10 → r.2 139 k = M 139 k) := by
  have c := zn_rng N
  have hx := IM_ok (m := m) hW
  unfold f_X12_routes
  refine wp_cl1 (wp_use (X12spots hN hW hm hh) (fun r hr => ?_))
  obtain ⟨r1, r2⟩ := hr
  refine wp_lpb (wp_forI (fun i y => y.1 = sm (fun z => lnZ N (IM N m) z pol) i ∧ y.2.1 = (i : Int) ∧ (∀ a, a ≠ 139 → a ≠ 144 → a ≠ 145 → a ≠ 146 → y.2.2 a = M a) ∧ (∀ k, k ≠ 8 → k ≠ 9 → k ≠ 10 → y.2.2 139 k = M 139 k) ∧ S4 N (IM N m) y.2.2) (zns N).toNat ?_ ?_ (Nat.zero_le _) ⟨rfl, rfl, fun a _ a2 a3 _ => r1 a a2 a3, fun k _ _ _ => by simp only; rw [r1 139 (by decide) (by decide)], r2⟩)
  · rintro i ⟨c1, c2, t⟩ hi ⟨q1, q2, q3, q5, q4⟩
    simp only at q1 q2 q3 q4 q5
    subst q1
    subst q2
    have e140 : t 140 = N := by rw [q3 140 (by decide) (by decide) (by decide) (by decide), hN]
    simp only [s_X12_routes_10]
    refine wp_cl1 (wp_eq (X12zones e140 hW) (wp_ite_t (by ((try simp (disch := omega) only [w32_and, w32_or, w32_shl, w32_shr, w32_xor, ixO, ixO0, ixO1, ixO2, ixO3, ixL0, ixL1, ixL2, ixC, ixB, ixI0, ixI00, ixI1, ixI2, ixI3, upd2_rd, upd2_nd, Nat.reduceEqDiff, Nat.reduceAdd, Nat.add_left_cancel_iff, Nat.add_right_cancel_iff, reduceCtorEq, ↓reduceIte, and_self, and_true, true_and, and_false, false_and, true_or, or_true, false_or, or_false, not_true_eq_false, not_false_eq_true]); (try simp only [w32_em]); (first | done | omega))) (wp_cl2 (wp_use (X12len e140 hW hx q4 (by omega) hp) (fun g hg => wp_bnd (wp_bnd (wp_some ?_)))))))
    dsimp only [Sum.elim_inl]
    refine ⟨by simp only [sm]; rw [hg.1], by omega, fun a a1 a2 a3 a4 => by rw [hg.2.1 a a1 a4]; exact q3 a a1 a2 a3 a4, fun k k1 k2 k3 => by rw [hg.2.2 k k1 k2 k3]; exact q5 k k1 k2 k3, ?_⟩
    unfold S4 at q4 ⊢
    rw [hg.2.1 144 (by decide) (by decide), hg.2.1 145 (by decide) (by decide)]
    exact q4
  · rintro ⟨c1, c2, t⟩ ⟨q1, q2, q3, q5, q4⟩
    simp only at q1 q2 q3 q4 q5
    subst q1
    subst q2
    have e140 : t 140 = N := by rw [q3 140 (by decide) (by decide) (by decide) (by decide), hN]
    simp only [s_X12_routes_10]
    refine wp_cl1 (wp_eq (X12zones e140 hW) (wp_ite_f (by ((try simp (disch := omega) only [w32_and, w32_or, w32_shl, w32_shr, w32_xor, ixO, ixO0, ixO1, ixO2, ixO3, ixL0, ixL1, ixL2, ixC, ixB, ixI0, ixI00, ixI1, ixI2, ixI3, upd2_rd, upd2_nd, Nat.reduceEqDiff, Nat.reduceAdd, Nat.add_left_cancel_iff, Nat.add_right_cancel_iff, reduceCtorEq, ↓reduceIte, and_self, and_true, true_and, and_false, false_and, true_or, or_true, false_or, or_false, not_true_eq_false, not_false_eq_true]); (try simp only [w32_em]); (first | done | omega))) (wp_some ?_)))
    dsimp only [Sum.elim_inl, Sum.elim_inr]
    exact wp_some ⟨rfl, q3, q5⟩
