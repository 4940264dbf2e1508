-- ===== work times =====
def wkS (N : Nat → Int) (b z : Nat) : Int := if lcn N (IM N (N (461 + b))) (vz N (IM N (N (461 + b))) z) = 0 then 0 else N 11 + lnZ N (IM N (N (461 + b))) z (N 6) + N 12 * lcn N (IM N (N (461 + b))) (vz N (IM N (N (461 + b))) z)
theorem lcn_rng {N : Nat → Int} (hW : WF N) {x : Int} {z : Nat} : 0 ≤ lcn N x (vz N x z) ∧ lcn N x (vz N x z) ≤ 24 := by
  refine ⟨?_, vz_24 hW⟩
  have := sm_mono (g := fun k => cnF N x ((vz N x z).getD k 0)) (fun i => cn_pos _) (Nat.zero_le (vz N x z).length)
  unfold lcn
  simpa [sm] using this
theorem X7work {th : Nat} (hth : 40 ≤ th) {M : Mem} {N : Nat → Int} (hR : HR 1 M N) (hW : WF N) : wp (f_X7_measureWork th 1 M) (fun r => (∀ a, a < th + 2 ∨ (th + 9 < a ∧ a < th + 28) ∨ th + 36 < a → r a = M a) ∧ ∀ b z : Nat, (b : Int) < N 5 → (z : Int) < zns N → r (th + 2 + b) z = wkS N b z) := by
  have q5 := n5 hW
  have hw2 := hW.2.1
  have cz := zn_rng N
  unfold f_X7_measureWork
  refine wp_lpb (wp_forI (fun i y => y.1 = (i : Int) ∧ (∀ a, a < th + 2 ∨ (th + 9 < a ∧ a < th + 28) ∨ th + 36 < a → y.2 a = M a) ∧ ∀ b z : Nat, b < i → (z : Int) < zns N → y.2 (th + 2 + b) z = wkS N b z) (N 5).toNat ?_ ?_ (Nat.zero_le _) ⟨rfl, fun _ _ => rfl, fun b z hb => by omega⟩)
  · rintro i ⟨c, m⟩ hi ⟨k1, k2, k3⟩
    simp only at k1 k2 k3
    subst k1
    have hb : (i : Int) < N 5 := by omega
    have bm := bmem hW hb
    have hRm : HR 1 m N := HR_fr hth hR (fun a ha => k2 a (by omega))
    have e17 : m 17 0 = N 5 := (HR_E hRm).1
    have e18 : m 18 i = N (461 + i) := (HR_E hRm).2 i hb
    simp only [s_X7_measureWork_7, Nat.reduceAdd]
    simp (disch := omega) only [ixO, ixO0, ixO1, ixO2, ixO3, ixL0, ixL1, ixL2, ixC, ixB, ixI0, ixI00, ixI1, ixI2, ixI3, e18]
    refine wp_ite_t (by ((try simp (disch := omega) only [w32_and, w32_or, w32_shl, w32_shr, w32_xor, ixO, ixO0, ixO1, ixO2, ixO3, ixL0, ixL1, ixL2, ixC, ixB, ixI0, ixI00, ixI1, ixI2, ixI3, upd2_rd, upd2_nd, Nat.reduceEqDiff, Nat.reduceAdd, Nat.add_left_cancel_iff, Nat.add_right_cancel_iff, reduceCtorEq, ↓reduceIte, and_self, and_true, true_and, and_false, false_and, true_or, or_true, false_or, or_false, not_true_eq_false, not_false_eq_true]); (try simp only [w32_em]); (first | done | omega))) (wp_gi (by omega) (by omega) (by omega) (wp_cl1 (wp_use (X6survey (th := th + 28) (by omega) hRm hW bm.1) (fun r hr => wp_lpb ?_))))
    obtain ⟨r1, r2, r3⟩ := hr
    refine wp_forI (fun z y => y.1 = (z : Int) ∧ (∀ a, a < th + 2 ∨ (th + 9 < a ∧ a < th + 28) ∨ th + 36 < a → y.2 a = M a) ∧ (∀ b z' : Nat, b < i → (z' : Int) < zns N → y.2 (th + 2 + b) z' = wkS N b z') ∧ (∀ z' : Nat, z' < z → y.2 (th + 2 + i) z' = wkS N i z') ∧ Sur (th + 28) y.2 N (IM N (N (461 + i)))) (zns N).toNat ?_ ?_ (Nat.zero_le _) ⟨rfl, fun a ha => by simp only; rw [r1 a (by omega)]; exact k2 a ha, fun b z' h1 h2 => by simp only; rw [r1 _ (by omega)]; exact k3 b z' h1 h2, fun z' hz => by omega, r3⟩
    · rintro z ⟨c, t⟩ hz ⟨j1, j2, j3, j4, j5⟩
      simp only at j1 j2 j3 j4 j5
      subst j1
      have hRt : HR 1 t N := HR_fr hth hR (fun a ha => j2 a (by omega))
      have hA := hRt.1
      simp only [Nat.reduceAdd] at hA
      have hz' : (z : Int) < zns N := by omega
      have lr := lcn_rng (x := IM N (N (461 + i))) (z := z) hW
      have xi : ix (i : Int) = i := ix_nat (by omega)
      have xz : ix (z : Int) = z := ix_nat (by omega)
      simp only [s_X7_measureWork_38, j_X7_measureWork_107_38, Nat.reduceAdd]
      refine wp_ite_t (by rw [hA.2.2.2.1]; ((try simp (disch := omega) only [w32_and, w32_or, w32_shl, w32_shr, w32_xor, ixO, ixO0, ixO1, ixO2, ixO3, ixL0, ixL1, ixL2, ixC, ixB, ixI0, ixI00, ixI1, ixI2, ixI3, upd2_rd, upd2_nd, Nat.reduceEqDiff, Nat.reduceAdd, Nat.add_left_cancel_iff, Nat.add_right_cancel_iff, reduceCtorEq, ↓reduceIte, and_self, and_true, true_and, and_false, false_and, true_or, or_true, false_or, or_false, not_true_eq_false, not_false_eq_true]); (try simp only [w32_em]); (first | done | omega))) (wp_cl1 (wp_eq (X6items hRt hW j5 hz') (wp_cl2 ?_)))
      rw [hA.2.2.2.2.1, xi]
      refine wp_use (X6len (th := th + 28) (by omega) hRt hW j5 hz' (by omega)) (fun g hg => ?_)
      obtain ⟨g0, g⟩ := g
      obtain ⟨g1, g2, g3⟩ := hg
      simp only at g1 g2 g3 ⊢
      have hRg : HR 1 g N := HR_fr hth hRt (fun a ha => g2 a (by omega))
      have hAg := hRg.1
      simp only [Nat.reduceAdd] at hAg
      have key : ∀ v u, v = wkS N i z → u = upd2 g (th + 2 + i) z v → ((∀ a, a < th + 2 ∨ (th + 9 < a ∧ a < th + 28) ∨ th + 36 < a → u a = M a) ∧ (∀ b z' : Nat, b < i → (z' : Int) < zns N → u (th + 2 + b) z' = wkS N b z') ∧ (∀ z' : Nat, z' < z + 1 → u (th + 2 + i) z' = wkS N i z') ∧ Sur (th + 28) u N (IM N (N (461 + i)))) := by
        intro v u hv hu
        subst hu
        refine ⟨fun a ha => by rw [upd2_ne (by omega), g2 a (by omega)]; exact j2 a ha, fun b z' h1 h2 => by rw [upd2_ne (by omega), g2 _ (by omega)]; exact j3 b z' h1 h2, fun z' h => ?_, ?_⟩
        · rw [upd2_at]
          by_cases e : z' = z
          · rw [if_pos e, e]; exact hv
          · rw [if_neg e, g2 _ (by omega)]
            exact j4 z' (by omega)
        · refine ⟨by rw [upd2_ne (by omega)]; exact g3.1, by rw [upd2_ne (by omega)]; exact g3.2.1, fun a ha => ?_⟩
          rw [upd2_ne (by omega), upd2_ne (by omega), upd2_ne (by omega), upd2_ne (by omega)]
          exact g3.2.2 a ha
      have eid : th + 1 + 1 + i = th + 2 + i := by omega
      rw [eid, xz]
      refine wp_gi (by omega) (by omega) (by omega) ?_
      by_cases l0 : lcn N (IM N (N (461 + i))) (vz N (IM N (N (461 + i))) z) = 0
      · refine wp_ite_t (by rw [l0]; decide) (wp_gi (by omega) (by omega) (by omega) (wp_bnd (wp_bnd (wp_some ?_))))
        dsimp only [Sum.elim_inl]
        exact ⟨by omega, key 0 _ (by unfold wkS; rw [if_pos l0]) rfl⟩
      · refine wp_ite_f (by ((try simp (disch := omega) only [w32_and, w32_or, w32_shl, w32_shr, w32_xor, ixO, ixO0, ixO1, ixO2, ixO3, ixL0, ixL1, ixL2, ixC, ixB, ixI0, ixI00, ixI1, ixI2, ixI3, upd2_rd, upd2_nd, Nat.reduceEqDiff, Nat.reduceAdd, Nat.add_left_cancel_iff, Nat.add_right_cancel_iff, reduceCtorEq, ↓reduceIte, and_self, and_true, true_and, and_false, false_and, true_or, or_true, false_or, or_false, not_true_eq_false, not_false_eq_true]); (try simp only [w32_em]); (first | done | omega))) (wp_gi (by omega) (by omega) (by omega) (wp_bnd (wp_bnd (wp_some ?_))))
        dsimp only [Sum.elim_inl]
        refine ⟨by omega, key _ _ ?_ rfl⟩
        unfold wkS
        rw [if_neg l0, hAg.2.2.2.2.2.1, hAg.2.2.2.2.2.2, g1]
    · rintro ⟨c, t⟩ ⟨j1, j2, j3, j4, j5⟩
      simp only at j1 j2 j3 j4 j5
      subst j1
      have hRt : HR 1 t N := HR_fr hth hR (fun a ha => j2 a (by omega))
      have hA := hRt.1
      simp only [Nat.reduceAdd] at hA
      simp only [s_X7_measureWork_38, Nat.reduceAdd]
      refine wp_ite_f (by rw [hA.2.2.2.1]; ((try simp (disch := omega) only [w32_and, w32_or, w32_shl, w32_shr, w32_xor, ixO, ixO0, ixO1, ixO2, ixO3, ixL0, ixL1, ixL2, ixC, ixB, ixI0, ixI00, ixI1, ixI2, ixI3, upd2_rd, upd2_nd, Nat.reduceEqDiff, Nat.reduceAdd, Nat.add_left_cancel_iff, Nat.add_right_cancel_iff, reduceCtorEq, ↓reduceIte, and_self, and_true, true_and, and_false, false_and, true_or, or_true, false_or, or_false, not_true_eq_false, not_false_eq_true]); (try simp only [w32_em]); (first | done | omega))) (wp_some ?_)
      dsimp only [Sum.elim_inl, Sum.elim_inr]
      refine wp_bnd (wp_some ?_)
      dsimp only [Sum.elim_inl]
      refine ⟨by omega, j2, fun b z hb hz => ?_⟩
      by_cases e : b = i
      · rw [e]; exact j4 z (by omega)
      · exact j3 b z (by omega) hz
  · rintro ⟨c, m⟩ ⟨k1, k2, k3⟩
    simp only at k1 k2 k3
    subst k1
    have hRm : HR 1 m N := HR_fr hth hR (fun a ha => k2 a (by omega))
    have e17 : m 17 0 = N 5 := (HR_E hRm).1
    simp only [s_X7_measureWork_7, Nat.reduceAdd]
    refine wp_ite_f (by ((try simp (disch := omega) only [w32_and, w32_or, w32_shl, w32_shr, w32_xor, ixO, ixO0, ixO1, ixO2, ixO3, ixL0, ixL1, ixL2, ixC, ixB, ixI0, ixI00, ixI1, ixI2, ixI3, upd2_rd, upd2_nd, Nat.reduceEqDiff, Nat.reduceAdd, Nat.add_left_cancel_iff, Nat.add_right_cancel_iff, reduceCtorEq, ↓reduceIte, and_self, and_true, true_and, and_false, false_and, true_or, or_true, false_or, or_false, not_true_eq_false, not_false_eq_true]); (try simp only [w32_em]); (first | done | omega))) (wp_some ?_)
    dsimp only [Sum.elim_inl, Sum.elim_inr]
    exact wp_some ⟨k2, fun b z hb hz => k3 b z (by omega) hz⟩
/-- frame of the reference's work -/
def FW (M r : Mem) : Prop := (∀ a, a < 139 ∨ 149 < a ∨ (140 ≤ a ∧ a ≤ 143) → r a = M a) ∧ ∀ k, k ≠ 8 → k ≠ 9 → k ≠ 10 → k ≠ 14 → r 139 k = M 139 k
theorem X12work {M : Mem} {N : Nat → Int} (hN : M 140 = N) (hW : WF N) : wp (f_X12_laysWork M) (fun r => FW M r ∧ (∀ b z : Nat, (b : Int) < N 5 → (z : Int) < zns N → r 148 (3 * b + z) = wkS N b z) ∧ ∀ b : Nat, (b : Int) < N 5 → r 149 b = (b : Int)) := by
  have q5 := n5 hW
  have hw2 := hW.2.1
  have cz := zn_rng N
  unfold f_X12_laysWork
  refine wp_lpb (wp_forI (fun i y => y.1 = (i : Int) ∧ FW M y.2 ∧ (∀ b z : Nat, b < i → (z : Int) < zns N → y.2 148 (3 * b + z) = wkS N b z) ∧ ∀ b : Nat, b < i → y.2 149 b = (b : Int)) (N 5).toNat ?_ ?_ (Nat.zero_le _) ⟨rfl, ⟨fun _ _ => rfl, fun _ _ _ _ _ => rfl⟩, fun b z hb => by omega, fun b hb => by omega⟩)
  · rintro i ⟨c, m⟩ hi ⟨k1, k2, k3, k4⟩
    simp only at k1 k2 k3 k4
    subst k1
    have hb : (i : Int) < N 5 := by omega
    have bm := bmem hW hb
    have e140 : m 140 = N := by rw [k2.1 140 (by omega), hN]
    have e5 : m 140 5 = N 5 := by rw [e140]
    have xi : ix (i : Int) = i := ix_nat (by omega)
    have xb : ix (461 + (i : Int)) = 461 + i := ixB (by omega)
    simp only [s_X12_laysWork_2]
    refine wp_ite_t (by ((try simp (disch := omega) only [w32_and, w32_or, w32_shl, w32_shr, w32_xor, ixO, ixO0, ixO1, ixO2, ixO3, ixL0, ixL1, ixL2, ixC, ixB, ixI0, ixI00, ixI1, ixI2, ixI3, upd2_rd, upd2_nd, Nat.reduceEqDiff, Nat.reduceAdd, Nat.add_left_cancel_iff, Nat.add_right_cancel_iff, reduceCtorEq, ↓reduceIte, and_self, and_true, true_and, and_false, false_and, true_or, or_true, false_or, or_false, not_true_eq_false, not_false_eq_true]); (try simp only [w32_em]); (first | done | omega))) (wp_gi (by omega) (by omega) (by omega) (wp_bnd (wp_gi (by omega) (by omega) (by omega) (wp_cl1 ?_))))
    rw [xi, xb]
    have n140 : upd2 m 149 i (i : Int) 140 = N := by rw [upd2_ne (by decide), e140]
    refine wp_use (X12spots' n140 hW (m := N (461 + i)) (by rw [n140]) bm.1 bm.2) (fun r hr => wp_lpb ?_)
    obtain ⟨r1, r2⟩ := hr
    have ra : ∀ a, a ≠ 144 → a ≠ 145 → a ≠ 149 → r a = m a := fun a a1 a2 a3 => by rw [r1 a a1 a2, upd2_ne a3]
    have r149 : ∀ b : Nat, b < i + 1 → r 149 b = (b : Int) := fun b hb => by
      rw [r1 149 (by decide) (by decide), upd2_at]
      by_cases e : b = i
      · rw [if_pos e, e]
      · rw [if_neg e]; exact k4 b (by omega)
    refine wp_forI (fun z y => y.1 = (z : Int) ∧ FW M y.2 ∧ (∀ b z' : Nat, b < i → (z' : Int) < zns N → y.2 148 (3 * b + z') = wkS N b z') ∧ (∀ z' : Nat, z' < z → y.2 148 (3 * i + z') = wkS N i z') ∧ (∀ b : Nat, b < i + 1 → y.2 149 b = (b : Int)) ∧ S4 N (IM N (N (461 + i))) y.2) (zns N).toNat ?_ ?_ (Nat.zero_le _) ⟨rfl, ⟨fun a ha => by simp only; rw [ra a (by omega) (by omega) (by omega)]; exact k2.1 a ha, fun k a b c d => by simp only; rw [ra 139 (by decide) (by decide) (by decide)]; exact k2.2 k a b c d⟩, fun b z' h1 h2 => by simp only; rw [ra 148 (by decide) (by decide) (by decide)]; exact k3 b z' h1 h2, fun z' hz => by omega, r149, r2⟩
    · rintro z ⟨c, t⟩ hz ⟨j1, j2, j3, j4, j6, j5⟩
      simp only at j1 j2 j3 j4 j5 j6
      subst j1
      have t140 : t 140 = N := by rw [j2.1 140 (by omega), hN]
      have hz' : (z : Int) < zns N := by omega
      have lr := lcn_rng (x := IM N (N (461 + i))) (z := z) hW
      have xz : ix (3 * (i : Int) + (z : Int)) = 3 * i + z := by rw [ix_of (by omega) (by omega)]; omega
      simp only [s_X12_laysWork_35, j_X12_laysWork_101_35]
      refine wp_cl1 (wp_eq (X12zones t140 hW) (wp_ite_t (by ((try simp (disch := omega) only [w32_and, w32_or, w32_shl, w32_shr, w32_xor, ixO, ixO0, ixO1, ixO2, ixO3, ixL0, ixL1, ixL2, ixC, ixB, ixI0, ixI00, ixI1, ixI2, ixI3, upd2_rd, upd2_nd, Nat.reduceEqDiff, Nat.reduceAdd, Nat.add_left_cancel_iff, Nat.add_right_cancel_iff, reduceCtorEq, ↓reduceIte, and_self, and_true, true_and, and_false, false_and, true_or, or_true, false_or, or_false, not_true_eq_false, not_false_eq_true]); (try simp only [w32_em]); (first | done | omega))) (wp_cl1 (wp_use (X12stops t140 hW (IM_ok hW) j5 hz') (fun s hs => ?_)))))
      obtain ⟨s1, s2, s3⟩ := hs
      have s140 : s 140 = N := by rw [s1 140 (by decide) (by decide) (by decide), t140]
      have s14 : s 139 14 = lcn N (IM N (N (461 + i))) (vz N (IM N (N (461 + i))) z) := by rw [s3.1, stL_len hW]
      have sS : S4 N (IM N (N (461 + i))) s := by unfold S4 at j5 ⊢; rw [s1 144 (by decide) (by decide) (by decide), s1 145 (by decide) (by decide) (by decide)]; exact j5
      have key : ∀ (v : Int) (g : Mem), v = wkS N i z → (∀ a, a ≠ 139 → a ≠ 146 → a ≠ 147 → g a = t a) → (∀ k, k ≠ 8 → k ≠ 9 → k ≠ 10 → k ≠ 14 → g 139 k = t 139 k) → (FW M (upd2 g 148 (3 * i + z) v) ∧ (∀ b z' : Nat, b < i → (z' : Int) < zns N → upd2 g 148 (3 * i + z) v 148 (3 * b + z') = wkS N b z') ∧ (∀ z' : Nat, z' < z + 1 → upd2 g 148 (3 * i + z) v 148 (3 * i + z') = wkS N i z') ∧ (∀ b : Nat, b < i + 1 → upd2 g 148 (3 * i + z) v 149 b = (b : Int)) ∧ S4 N (IM N (N (461 + i))) (upd2 g 148 (3 * i + z) v)) := by
        intro v g hv g1 g2
        refine ⟨⟨fun a ha => by rw [upd2_ne (by omega), g1 a (by omega) (by omega) (by omega)]; exact j2.1 a ha, fun k a b c d => by rw [upd2_ne (by decide), g2 k a b c d]; exact j2.2 k a b c d⟩, fun b z' h1 h2 => by rw [upd2_row (by omega), g1 148 (by decide) (by decide) (by decide)]; exact j3 b z' h1 h2, fun z' h => ?_, fun b hb => by rw [upd2_ne (by decide), g1 149 (by decide) (by decide) (by decide)]; exact j6 b hb, ?_⟩
        · rw [upd2_at]
          by_cases e : z' = z
          · rw [if_pos (by omega), e]; exact hv
          · rw [if_neg (by omega), g1 148 (by decide) (by decide) (by decide)]
            exact j4 z' (by omega)
        · unfold S4 at j5 ⊢
          rw [upd2_ne (by decide), upd2_ne (by decide), g1 144 (by decide) (by decide) (by decide), g1 145 (by decide) (by decide) (by decide)]
          exact j5
      rw [xz]
      by_cases l0 : lcn N (IM N (N (461 + i))) (vz N (IM N (N (461 + i))) z) = 0
      · refine wp_ite_t (by rw [s14, l0]; decide) (wp_gi (by omega) (by omega) (by omega) (wp_bnd (wp_bnd (wp_some ?_))))
        dsimp only [Sum.elim_inl]
        exact ⟨by omega, key 0 s (by unfold wkS; rw [if_pos l0]) s1 s2⟩
      · refine wp_ite_f (by rw [s14]; ((try simp (disch := omega) only [w32_and, w32_or, w32_shl, w32_shr, w32_xor, ixO, ixO0, ixO1, ixO2, ixO3, ixL0, ixL1, ixL2, ixC, ixB, ixI0, ixI00, ixI1, ixI2, ixI3, upd2_rd, upd2_nd, Nat.reduceEqDiff, Nat.reduceAdd, Nat.add_left_cancel_iff, Nat.add_right_cancel_iff, reduceCtorEq, ↓reduceIte, and_self, and_true, true_and, and_false, false_and, true_or, or_true, false_or, or_false, not_true_eq_false, not_false_eq_true]); (try simp only [w32_em]); (first | done | omega))) (wp_cl2 ?_)
        rw [s140]
        refine wp_use (X12len s140 hW (IM_ok hW) sS hz' (by omega)) (fun g hg => ?_)
        obtain ⟨g0, g⟩ := g
        obtain ⟨g1, g2, g3⟩ := hg
        simp only at g1 g2 g3 ⊢
        refine wp_gi (by omega) (by omega) (by omega) (wp_bnd (wp_bnd (wp_some ?_)))
        dsimp only [Sum.elim_inl]
        refine ⟨by omega, key _ g ?_ (fun a a1 a2 a3 => by rw [g2 a a1 a2, s1 a a1 a2 a3]) (fun k a b c d => by rw [g3 k a b c, s2 k a b c d])⟩
        unfold wkS
        rw [if_neg l0, g2 140 (by decide) (by decide), s140, g3 14 (by decide) (by decide) (by decide), s14, g1]
    · rintro ⟨c, t⟩ ⟨j1, j2, j3, j4, j6, j5⟩
      simp only at j1 j2 j3 j4 j5 j6
      subst j1
      have t140 : t 140 = N := by rw [j2.1 140 (by omega), hN]
      simp only [s_X12_laysWork_35]
      refine wp_cl1 (wp_eq (X12zones t140 hW) (wp_ite_f (by ((try simp (disch := omega) only [w32_and, w32_or, w32_shl, w32_shr, w32_xor, ixO, ixO0, ixO1, ixO2, ixO3, ixL0, ixL1, ixL2, ixC, ixB, ixI0, ixI00, ixI1, ixI2, ixI3, upd2_rd, upd2_nd, Nat.reduceEqDiff, Nat.reduceAdd, Nat.add_left_cancel_iff, Nat.add_right_cancel_iff, reduceCtorEq, ↓reduceIte, and_self, and_true, true_and, and_false, false_and, true_or, or_true, false_or, or_false, not_true_eq_false, not_false_eq_true]); (try simp only [w32_em]); (first | done | omega))) (wp_some ?_)))
      dsimp only [Sum.elim_inl, Sum.elim_inr]
      refine wp_bnd (wp_some ?_)
      dsimp only [Sum.elim_inl]
      refine ⟨by omega, j2, fun b z hb hz => ?_, fun b hb => j6 b hb⟩
      by_cases e : b = i
      · rw [e]; exact j4 z (by omega)
      · exact j3 b z (by omega) hz
  · rintro ⟨c, m⟩ ⟨k1, k2, k3, k4⟩
    simp only at k1 k2 k3 k4
    subst k1
    have e5 : m 140 5 = N 5 := by rw [k2.1 140 (by omega), hN]
    simp only [s_X12_laysWork_2]
    refine wp_ite_f (by ((try simp (disch := omega) only [w32_and, w32_or, w32_shl, w32_shr, w32_xor, ixO, ixO0, ixO1, ixO2, ixO3, ixL0, ixL1, ixL2, ixC, ixB, ixI0, ixI00, ixI1, ixI2, ixI3, upd2_rd, upd2_nd, Nat.reduceEqDiff, Nat.reduceAdd, Nat.add_left_cancel_iff, Nat.add_right_cancel_iff, reduceCtorEq, ↓reduceIte, and_self, and_true, true_and, and_false, false_and, true_or, or_true, false_or, or_false, not_true_eq_false, not_false_eq_true]); (try simp only [w32_em]); (first | done | omega))) (wp_some ?_)
    dsimp only [Sum.elim_inl, Sum.elim_inr]
    exact wp_some ⟨k2, fun b z hb hz => k3 b z (by omega) hz, fun b hb => k4 b (by omega)⟩
