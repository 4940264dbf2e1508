theorem FQ_gap {m u : Mem} (h : (∀ b, b ≠ 139 → u b = m b) ∧ ∀ k, k ≠ 9 → k ≠ 10 → u 139 k = m 139 k) : FQ m u := ⟨fun b b1 _ => h.1 b b1, fun k _ b c => h.2 k b c⟩
theorem X12gapL {M : Mem} {N : Nat → Int} (hW : WF N) {x : Int} (hx : Ims N x) {l : List Nat} (hA : RA M N x l) (hl : VL N x l) (h24 : lcn N x l ≤ 24) (h2 : 2 ≤ l.length) (hs : Sr M []) : wp (f_X12_stopsByGaps M) (fun r => FQ M r ∧ Sr r (gUp N x l (l.length - 2))) := by
  have hw := hW.1
  have hl6 := hl.1
  have h8 := hA.2.2.1
  obtain ⟨n, hn⟩ : ∃ n, l.length = n + 2 := ⟨l.length - 2, by omega⟩
  obtain ⟨D, hD⟩ : ∃ D : Nat, N 1 = (D : Int) := ⟨(N 1).toNat, by omega⟩
  have e0 := LR_get hA.2.2.2 (show 0 < l.length by omega)
  have g0 := VL_get hl (show 0 < l.length by omega)
  have up := fun j => uS_pos (N := N) (x := x) (l := l) (j := j)
  have smm := fun (j : Nat) (h : j ≤ l.length) => sm_mono (g := fun k => cnF N x (l.getD k 0)) (fun i => cn_pos _) h
  unfold f_X12_stopsByGaps
  rw [h8]
  refine wp_bnd (wp_cl1 ?_)
  rw [e0]
  have c0 : (([] : List Nat).length : Int) + cnF N x (l.getD 0 0) ≤ 24 := by
    have := smm 1 (by omega)
    unfold lcn at h24
    simp only [sm] at this
    simp only [List.length_nil]
    omega
  refine wp_use (X12go hA.1 hW hA.2.1 g0.1 (beh := false) (e := 1) rfl hs c0) (fun r hr => wp_lpb ?_)
  refine wp_forI (fun i y => y.1 = ((i + 1 : Nat) : Int) ∧ FQ M y.2 ∧ Sr y.2 (gDn N x l i)) n ?_ ?_ (Nat.zero_le _) ⟨rfl, hr.1, hr.2⟩
  · rintro i ⟨c, m⟩ hi ⟨k1, k2, k3⟩
    simp only at k1 k2 k3
    subst k1
    have hAm := FQ_RA k2 hA
    have g := VL_get hl (show i + 1 < l.length by omega)
    have e := LR_get hAm.2.2.2 (show i + 1 < l.length by omega)
    have xi : ix ((i + 1 : Nat) : Int) = i + 1 := ix_nat (by omega)
    have dl := gDn_len (x := x) (l := l) hW i
    have dg := dug (x := x) (a := l.getD (i + 1) 0) hW
    have gr := gs_rng (x := x) (a := l.getD (i + 1) 0) hW
    have sm2 := smm (i + 2) (by omega)
    have e2 : sm (fun k => cnF N x (l.getD k 0)) (i + 2) = sm (fun k => cnF N x (l.getD k 0)) (i + 1) + cnF N x (l.getD (i + 1) 0) := rfl
    have up1 := up i
    unfold lcn at h24
    simp only [s_X12_stopsByGaps_20]
    refine wp_ite_t (by ((try simp (disch := omega) only [w32_and, w32_or, w32_shl, w32_shr, w32_xor, ixO, ixO0, ixO1, ixO2, ixO3, ixL0, ixL1, ixL2, ixC, ixB, ixI0, ixI00, ixI1, ixI2, ixI3, upd2_rd, upd2_nd, Nat.reduceEqDiff, Nat.reduceAdd, Nat.add_left_cancel_iff, Nat.add_right_cancel_iff, reduceCtorEq, ↓reduceIte, and_self, and_true, true_and, and_false, false_and, true_or, or_true, false_or, or_false, not_true_eq_false, not_false_eq_true]); (try simp only [w32_em]); (first | done | omega))) (wp_gi (by omega) (by omega) (by omega) (wp_cl1 ?_))
    rw [xi, e]
    refine wp_use (X12gap hAm.1 hW hx hAm.2.1 g.1) (fun u hu => wp_gi (by omega) (by omega) (by omega) (wp_cl1 ?_))
    have fu : FQ m u := FQ_gap ⟨hu.1, hu.2.1⟩
    have hAu := FQ_RA fu hAm
    have u1 : u 140 1 = (D : Int) := by rw [hAu.1, hD]
    rw [hu.1 146 (by decide), e, u1, hu.2.2.1, gr.1, show ((gsN N x (l.getD (i + 1) 0) : Nat) : Int) + 1 = ((gsN N x (l.getD (i + 1) 0) + 1 : Nat) : Int) by omega]
    rw [hD, Int.toNat_natCast] at gr
    have dq : dL N x (l.getD (i + 1) 0) D (D + 1 - (gsN N x (l.getD (i + 1) 0) + 1)) = dnG N x (l.getD (i + 1) 0) := by
      unfold dnG
      rw [hD, Int.toNat_natCast, show D + 1 - (gsN N x (l.getD (i + 1) 0) + 1) = D - gsN N x (l.getD (i + 1) 0) by omega]
    have q := X12dn hAu.1 hW hAu.2.1 (D := D) (lo := gsN N x (l.getD (i + 1) 0) + 1) g.1 (by omega) (by omega) (by omega) (ls := gDn N x l i) ⟨by rw [hu.2.1 14 (by decide) (by decide)]; exact k3.1, LR_congr k3.2 (hu.1 _ (by decide))⟩ (by rw [dq]; omega)
    rw [dq] at q
    refine wp_use q (fun v hv => wp_bnd (wp_some ?_))
    dsimp only [Sum.elim_inl]
    exact ⟨by omega, (k2.tr fu).tr hv.1.1, hv.2⟩
  · rintro ⟨c, m⟩ ⟨k1, k2, k3⟩
    simp only at k1 k2 k3
    subst k1
    have hAm := FQ_RA k2 hA
    have g := VL_get hl (show n + 1 < l.length by omega)
    have e := LR_get hAm.2.2.2 (show n + 1 < l.length by omega)
    have x1 : ix ((l.length : Int) - 1) = n + 1 := by rw [ix_of (by omega) (by omega)]; omega
    have dl := gDn_len (x := x) (l := l) hW n
    have e2 : lcn N x l = sm (fun k => cnF N x (l.getD k 0)) (n + 1) + cnF N x (l.getD (n + 1) 0) := by unfold lcn; rw [hn]; rfl
    have up1 := up n
    simp only [s_X12_stopsByGaps_20]
    refine wp_ite_f (by ((try simp (disch := omega) only [w32_and, w32_or, w32_shl, w32_shr, w32_xor, ixO, ixO0, ixO1, ixO2, ixO3, ixL0, ixL1, ixL2, ixC, ixB, ixI0, ixI00, ixI1, ixI2, ixI3, upd2_rd, upd2_nd, Nat.reduceEqDiff, Nat.reduceAdd, Nat.add_left_cancel_iff, Nat.add_right_cancel_iff, reduceCtorEq, ↓reduceIte, and_self, and_true, true_and, and_false, false_and, true_or, or_true, false_or, or_false, not_true_eq_false, not_false_eq_true]); (try simp only [w32_em]); (first | done | omega))) (wp_some ?_)
    dsimp only [Sum.elim_inl, Sum.elim_inr]
    rw [x1, e]
    refine wp_gi (by omega) (by omega) (by omega) (wp_cl1 (wp_use (X12go hAm.1 hW hAm.2.1 g.1 (beh := true) (e := 0) rfl k3 (by omega)) (fun v hv => wp_bnd (wp_lpb ?_))))
    have fv := k2.tr hv.1
    refine wp_forI (fun i y => y.1 = (l.length : Int) - 2 - (i : Int) ∧ FQ M y.2 ∧ Sr y.2 (gUp N x l i)) (l.length - 2) ?_ ?_ (Nat.zero_le _) ⟨by simp only; omega, fv, by simp only [gUp]; rw [show l.length - 2 = n by omega, show l.length - 1 = n + 1 by omega]; exact hv.2⟩
    · rintro i ⟨c, m2⟩ hi ⟨j1, j2, j3⟩
      simp only at j1 j2 j3
      have hA2 := FQ_RA j2 hA
      have hk : l.length - 2 - i < l.length := by omega
      have g := VL_get hl hk
      have e := LR_get hA2.2.2.2 hk
      have cc : c = ((l.length - 2 - i : Nat) : Int) := by omega
      subst cc
      have xi : ix ((l.length - 2 - i : Nat) : Int) = l.length - 2 - i := ix_nat (by omega)
      have ul2 := gUp_len (x := x) hW h2 (i + 1) (by omega)
      have up2 := up (l.length - 2 - (i + 1))
      simp only [gUp, List.length_append] at ul2
      have gr := gs_rng (x := x) (a := l.getD (l.length - 2 - i) 0) hW
      simp only [s_X12_stopsByGaps_78]
      refine wp_ite_t (by ((try simp (disch := omega) only [w32_and, w32_or, w32_shl, w32_shr, w32_xor, ixO, ixO0, ixO1, ixO2, ixO3, ixL0, ixL1, ixL2, ixC, ixB, ixI0, ixI00, ixI1, ixI2, ixI3, upd2_rd, upd2_nd, Nat.reduceEqDiff, Nat.reduceAdd, Nat.add_left_cancel_iff, Nat.add_right_cancel_iff, reduceCtorEq, ↓reduceIte, and_self, and_true, true_and, and_false, false_and, true_or, or_true, false_or, or_false, not_true_eq_false, not_false_eq_true]); (try simp only [w32_em]); (first | done | omega))) (wp_gi (by omega) (by omega) (by omega) (wp_cl1 ?_))
      rw [xi, e]
      refine wp_use (X12gap hA2.1 hW hx hA2.2.1 g.1) (fun u hu => wp_gi (by omega) (by omega) (by omega) (wp_cl1 ?_))
      have fu : FQ m2 u := FQ_gap ⟨hu.1, hu.2.1⟩
      have hAu := FQ_RA fu hA2
      rw [hu.1 146 (by decide), e, hu.2.2.1, gr.1]
      refine wp_use (X12up hAu.1 hW hAu.2.1 (h := gsN N x (l.getD (l.length - 2 - i) 0)) g.1 (by omega) (ls := gUp N x l i) ⟨by rw [hu.2.1 14 (by decide) (by decide)]; exact j3.1, LR_congr j3.2 (hu.1 _ (by decide))⟩ (by unfold upG at ul2; omega)) (fun v hv => wp_bnd (wp_some ?_))
      dsimp only [Sum.elim_inl]
      exact ⟨by omega, (j2.tr fu).tr hv.1.1, hv.2⟩
    · rintro ⟨c, m2⟩ ⟨j1, j2, j3⟩
      simp only at j1 j2 j3
      simp only [s_X12_stopsByGaps_78]
      refine wp_ite_f (by ((try simp (disch := omega) only [w32_and, w32_or, w32_shl, w32_shr, w32_xor, ixO, ixO0, ixO1, ixO2, ixO3, ixL0, ixL1, ixL2, ixC, ixB, ixI0, ixI00, ixI1, ixI2, ixI3, upd2_rd, upd2_nd, Nat.reduceEqDiff, Nat.reduceAdd, Nat.add_left_cancel_iff, Nat.add_right_cancel_iff, reduceCtorEq, ↓reduceIte, and_self, and_true, true_and, and_false, false_and, true_or, or_true, false_or, or_false, not_true_eq_false, not_false_eq_true]); (try simp only [w32_em]); (first | done | omega))) (wp_some ?_)
      dsimp only [Sum.elim_inl, Sum.elim_inr]
      exact wp_some ⟨j2, j3⟩
/-- the stops of a zone by a policy -/
def stL (N : Nat → Int) (x : Int) (l : List Nat) (pol : Int) : List Nat := if pol = 1 then dirL N x l (fun k => decide (k % 2 = 1)) l.length else if pol = 2 ∧ 2 ≤ l.length then gUp N x l (l.length - 2) else if pol = 3 then dirL N x l (cB N x l) l.length else dirL N x l (fun _ => false) l.length
theorem stL_len {N : Nat → Int} (hW : WF N) {x : Int} {l : List Nat} {pol : Int} : (((stL N x l pol).length : Nat) : Int) = lcn N x l := by
  unfold stL
  split
  · rw [dirL_len hW]; rfl
  · split
    · rename_i h
      rw [gUp_len hW h.2 _ (Nat.le_refl _), Nat.sub_self]
      simp [uS, sm]
    · split
      · rw [dirL_len hW]; rfl
      · rw [dirL_len hW]; rfl
theorem X12dirL {M : Mem} {N : Nat → Int} (hW : WF N) {x : Int} {l : List Nat} (hA : RA M N x l) (hl : VL N x l) (h24 : lcn N x l ≤ 24) (hs : Sr M []) (hp : 0 ≤ N 6 ∧ N 6 ≤ 3) : wp (wh (fun y => s_X12_laysStops_56 y.1 y.2) (0, M)) (fun r => ∃ t, r = .inl t ∧ FQ M t ∧ Sr t (dirL N x l (if N 6 = 1 then (fun k => decide (k % 2 = 1)) else fun _ => false) l.length)) := by
  have hl6 := hl.1
  refine wp_forI (fun i y => y.1 = (i : Int) ∧ FQ M y.2 ∧ Sr y.2 (dirL N x l (if N 6 = 1 then (fun k => decide (k % 2 = 1)) else fun _ => false) i)) l.length ?_ ?_ (Nat.zero_le _) ⟨rfl, FQ.rf, hs⟩
  · rintro i ⟨c, m⟩ hi ⟨k1, k2, k3⟩
    simp only at k1 k2 k3
    subst k1
    have hA' := FQ_RA k2 hA
    have g := VL_get hl hi
    have e := LR_get hA'.2.2.2 hi
    have h8 := hA'.2.2.1
    have e6 : m 140 6 = N 6 := by rw [hA'.1]
    have rm := rem2 i (by omega)
    have ft := dirL_fit (b := (if N 6 = 1 then (fun k => decide (k % 2 = 1)) else fun _ => false)) hW h24 hi
    simp only [s_X12_laysStops_56, j_X12_laysStops_88_56, j_X12_laysStops_93_56]
    simp (disch := omega) only [ixO, ixO0, ixO1, ixO2, ixO3, ixL0, ixL1, ixL2, ixC, ixB, ixI0, ixI00, ixI1, ixI2, ixI3, e]
    refine wp_ite_t (by ((try simp (disch := omega) only [w32_and, w32_or, w32_shl, w32_shr, w32_xor, ixO, ixO0, ixO1, ixO2, ixO3, ixL0, ixL1, ixL2, ixC, ixB, ixI0, ixI00, ixI1, ixI2, ixI3, upd2_rd, upd2_nd, Nat.reduceEqDiff, Nat.reduceAdd, Nat.add_left_cancel_iff, Nat.add_right_cancel_iff, reduceCtorEq, ↓reduceIte, and_self, and_true, true_and, and_false, false_and, true_or, or_true, false_or, or_false, not_true_eq_false, not_false_eq_true]); (try simp only [w32_em]); (first | done | omega))) (wp_gi (by omega) (by omega) (by omega) ?_)
    by_cases p1 : N 6 = 1
    · simp only [if_pos p1] at k3 ft ⊢
      refine wp_ite_t (by ((try simp (disch := omega) only [w32_and, w32_or, w32_shl, w32_shr, w32_xor, ixO, ixO0, ixO1, ixO2, ixO3, ixL0, ixL1, ixL2, ixC, ixB, ixI0, ixI00, ixI1, ixI2, ixI3, upd2_rd, upd2_nd, Nat.reduceEqDiff, Nat.reduceAdd, Nat.add_left_cancel_iff, Nat.add_right_cancel_iff, reduceCtorEq, ↓reduceIte, and_self, and_true, true_and, and_false, false_and, true_or, or_true, false_or, or_false, not_true_eq_false, not_false_eq_true]); (try simp only [w32_em]); (first | done | omega))) ?_
      by_cases q : i % 2 = 1
      · refine wp_ite_f (by rw [rm, q]; decide) (wp_cl1 (wp_use (X12go hA'.1 hW hA'.2.1 g.1 (beh := true) (e := 0) rfl k3 ft) (fun r hr => wp_bnd (wp_some ?_))))
        dsimp only [Sum.elim_inl]
        simp only [dirL, q, decide_true]
        exact ⟨by omega, k2.tr hr.1, hr.2⟩
      · refine wp_ite_t (by rw [rm, show i % 2 = 0 by omega]; decide) (wp_cl1 (wp_use (X12go hA'.1 hW hA'.2.1 g.1 (beh := false) (e := 1) rfl k3 ft) (fun r hr => wp_bnd (wp_some ?_))))
        dsimp only [Sum.elim_inl]
        simp only [dirL, q, decide_false]
        exact ⟨by omega, k2.tr hr.1, hr.2⟩
    · simp only [if_neg p1] at k3 ft ⊢
      refine wp_ite_f (by ((try simp (disch := omega) only [w32_and, w32_or, w32_shl, w32_shr, w32_xor, ixO, ixO0, ixO1, ixO2, ixO3, ixL0, ixL1, ixL2, ixC, ixB, ixI0, ixI00, ixI1, ixI2, ixI3, upd2_rd, upd2_nd, Nat.reduceEqDiff, Nat.reduceAdd, Nat.add_left_cancel_iff, Nat.add_right_cancel_iff, reduceCtorEq, ↓reduceIte, and_self, and_true, true_and, and_false, false_and, true_or, or_true, false_or, or_false, not_true_eq_false, not_false_eq_true]); (try simp only [w32_em]); (first | done | omega))) (wp_cl1 (wp_use (X12go hA'.1 hW hA'.2.1 g.1 (beh := false) (e := 1) rfl k3 ft) (fun r hr => wp_bnd (wp_some ?_))))
      dsimp only [Sum.elim_inl]
      simp only [dirL]
      exact ⟨by omega, k2.tr hr.1, hr.2⟩
  · rintro ⟨c, m⟩ ⟨k1, k2, k3⟩
    simp only at k1 k2 k3
    subst k1
    have h8 := (FQ_RA k2 hA).2.2.1
    simp only [s_X12_laysStops_56]
    refine wp_ite_f (by ((try simp (disch := omega) only [w32_and, w32_or, w32_shl, w32_shr, w32_xor, ixO, ixO0, ixO1, ixO2, ixO3, ixL0, ixL1, ixL2, ixC, ixB, ixI0, ixI00, ixI1, ixI2, ixI3, upd2_rd, upd2_nd, Nat.reduceEqDiff, Nat.reduceAdd, Nat.add_left_cancel_iff, Nat.add_right_cancel_iff, reduceCtorEq, ↓reduceIte, and_self, and_true, true_and, and_false, false_and, true_or, or_true, false_or, or_false, not_true_eq_false, not_false_eq_true]); (try simp only [w32_em]); (first | done | omega))) (wp_some ?_)
    dsimp only [Sum.elim_inl, Sum.elim_inr]
    exact ⟨m, rfl, k2, k3⟩
theorem vz_24 {N : Nat → Int} (hW : WF N) {x : Int} {z : Nat} : lcn N x (vz N x z) ≤ 24 := lcn_24 hW
theorem X12stops {M : Mem} {N : Nat → Int} (hN : M 140 = N) (hW : WF N) {x : Int} (hx : Ims N x) (hS : S4 N x M) {z : Nat} (hz : (z : Int) < zns N) : wp (f_X12_laysStops (z : Int) M) (fun r => (∀ a, a ≠ 139 → a ≠ 146 → a ≠ 147 → r a = M a) ∧ (∀ k, k ≠ 8 → k ≠ 9 → k ≠ 10 → k ≠ 14 → r 139 k = M 139 k) ∧ Sr r (stL N x (vz N x z) (N 6))) := by
  have hw2 := hW.2.1
  have hv := vz_VL (x := x) hW hz
  have h24 := vz_24 (x := x) (z := z) hW
  have hl6 := hv.1
  unfold f_X12_laysStops
  refine wp_cl1 (wp_use (X12find hN hW hx hS hz) (fun r hr => wp_bnd ?_))
  obtain ⟨r1, r2, r3, r4⟩ := hr
  generalize hM3 : upd2 r 139 14 0 = M3
  have a3 : ∀ a, a ≠ 139 → M3 a = r a := fun a ha => by rw [← hM3, upd2_ne ha]
  have k3 : ∀ k, k ≠ 14 → M3 139 k = r 139 k := fun k hk => by rw [← hM3, upd2_row hk]
  have s0 : Sr M3 [] := ⟨by rw [← hM3, upd2_same]; rfl, fun j hj => by simp at hj⟩
  have hA : RA M3 N x (vz N x z) := ⟨by rw [a3 140 (by decide), r1 140 (by decide) (by decide), hN], by unfold S4 at hS ⊢; rw [a3 144 (by decide), a3 145 (by decide), r1 144 (by decide) (by decide), r1 145 (by decide) (by decide)]; exact hS, by rw [k3 8 (by decide)]; exact r3, LR_congr r4 (a3 146 (by decide))⟩
  have e6 : M3 140 6 = N 6 := by rw [hA.1]
  have e8 := hA.2.2.1
  have fin : ∀ t ls, FQ M3 t → Sr t ls → ls = stL N x (vz N x z) (N 6) → ((∀ a, a ≠ 139 → a ≠ 146 → a ≠ 147 → t a = M a) ∧ (∀ k, k ≠ 8 → k ≠ 9 → k ≠ 10 → k ≠ 14 → t 139 k = M 139 k) ∧ Sr t (stL N x (vz N x z) (N 6))) := by
    intro t ls f s e
    rw [← e]
    exact ⟨fun a b1 b2 b3 => by rw [f.1 a b1 b3, a3 a b1, r1 a b1 b2], fun k b1 b2 b3 b4 => by rw [f.2 k b4 b2 b3, k3 k b4, r2 k b1], s⟩
  have j36 : ¬ (N 6 = 2 ∧ 2 ≤ (vz N x z).length) → wp (j_X12_laysStops_36 M3) (fun r => (∀ a, a ≠ 139 → a ≠ 146 → a ≠ 147 → r a = M a) ∧ (∀ k, k ≠ 8 → k ≠ 9 → k ≠ 10 → k ≠ 14 → r 139 k = M 139 k) ∧ Sr r (stL N x (vz N x z) (N 6))) := by
    intro hn
    unfold j_X12_laysStops_36
    by_cases p3 : N 6 = 3
    · refine wp_ite_t (by ((try simp (disch := omega) only [w32_and, w32_or, w32_shl, w32_shr, w32_xor, ixO, ixO0, ixO1, ixO2, ixO3, ixL0, ixL1, ixL2, ixC, ixB, ixI0, ixI00, ixI1, ixI2, ixI3, upd2_rd, upd2_nd, Nat.reduceEqDiff, Nat.reduceAdd, Nat.add_left_cancel_iff, Nat.add_right_cancel_iff, reduceCtorEq, ↓reduceIte, and_self, and_true, true_and, and_false, false_and, true_or, or_true, false_or, or_false, not_true_eq_false, not_false_eq_true]); (try simp only [w32_em]); (first | done | omega))) (wp_cl1 (wp_use (X12cmbL hW hx hA hv h24 s0) (fun t ht => wp_some (fin t _ ht.1 ht.2 ?_))))
      unfold stL
      rw [if_neg (by omega), if_neg hn, if_pos p3]
    · refine wp_ite_f (by ((try simp (disch := omega) only [w32_and, w32_or, w32_shl, w32_shr, w32_xor, ixO, ixO0, ixO1, ixO2, ixO3, ixL0, ixL1, ixL2, ixC, ixB, ixI0, ixI00, ixI1, ixI2, ixI3, upd2_rd, upd2_nd, Nat.reduceEqDiff, Nat.reduceAdd, Nat.add_left_cancel_iff, Nat.add_right_cancel_iff, reduceCtorEq, ↓reduceIte, and_self, and_true, true_and, and_false, false_and, true_or, or_true, false_or, or_false, not_true_eq_false, not_false_eq_true]); (try simp only [w32_em]); (first | done | omega))) (wp_lpb (wp_use (X12dirL hW hA hv h24 s0 (by omega)) (fun t ht => ?_)))
      obtain ⟨t, rfl, t1, t2⟩ := ht
      refine wp_some (fin t _ t1 t2 ?_)
      unfold stL
      by_cases p1 : N 6 = 1
      · rw [if_pos p1, if_pos p1]
      · rw [if_neg p1, if_neg p1, if_neg hn, if_neg p3]
  by_cases p2 : N 6 = 2
  · refine wp_ite_t (by ((try simp (disch := omega) only [w32_and, w32_or, w32_shl, w32_shr, w32_xor, ixO, ixO0, ixO1, ixO2, ixO3, ixL0, ixL1, ixL2, ixC, ixB, ixI0, ixI00, ixI1, ixI2, ixI3, upd2_rd, upd2_nd, Nat.reduceEqDiff, Nat.reduceAdd, Nat.add_left_cancel_iff, Nat.add_right_cancel_iff, reduceCtorEq, ↓reduceIte, and_self, and_true, true_and, and_false, false_and, true_or, or_true, false_or, or_false, not_true_eq_false, not_false_eq_true]); (try simp only [w32_em]); (first | done | omega))) ?_
    by_cases l2 : 2 ≤ (vz N x z).length
    · refine wp_ite_t (by ((try simp (disch := omega) only [w32_and, w32_or, w32_shl, w32_shr, w32_xor, ixO, ixO0, ixO1, ixO2, ixO3, ixL0, ixL1, ixL2, ixC, ixB, ixI0, ixI00, ixI1, ixI2, ixI3, upd2_rd, upd2_nd, Nat.reduceEqDiff, Nat.reduceAdd, Nat.add_left_cancel_iff, Nat.add_right_cancel_iff, reduceCtorEq, ↓reduceIte, and_self, and_true, true_and, and_false, false_and, true_or, or_true, false_or, or_false, not_true_eq_false, not_false_eq_true]); (try simp only [w32_em]); (first | done | omega))) (wp_cl1 (wp_use (X12gapL hW hx hA hv h24 l2 s0) (fun t ht => wp_some (fin t _ ht.1 ht.2 ?_))))
      unfold stL
      rw [if_neg (by omega), if_pos ⟨p2, l2⟩]
    · exact wp_ite_f (by ((try simp (disch := omega) only [w32_and, w32_or, w32_shl, w32_shr, w32_xor, ixO, ixO0, ixO1, ixO2, ixO3, ixL0, ixL1, ixL2, ixC, ixB, ixI0, ixI00, ixI1, ixI2, ixI3, upd2_rd, upd2_nd, Nat.reduceEqDiff, Nat.reduceAdd, Nat.add_left_cancel_iff, Nat.add_right_cancel_iff, reduceCtorEq, ↓reduceIte, and_self, and_true, true_and, and_false, false_and, true_or, or_true, false_or, or_false, not_true_eq_false, not_false_eq_true]); (try simp only [w32_em]); (first | done | omega))) (j36 (fun h => l2 h.2))
  · exact wp_ite_f (by ((try simp (disch := omega) only [w32_and, w32_or, w32_shl, w32_shr, w32_xor, ixO, ixO0, ixO1, ixO2, ixO3, ixL0, ixL1, ixL2, ixC, ixB, ixI0, ixI00, ixI1, ixI2, ixI3, upd2_rd, upd2_nd, Nat.reduceEqDiff, Nat.reduceAdd, Nat.add_left_cancel_iff, Nat.add_right_cancel_iff, reduceCtorEq, ↓reduceIte, and_self, and_true, true_and, and_false, false_and, true_or, or_true, false_or, or_false, not_true_eq_false, not_false_eq_true]); (try simp only [w32_em]); (first | done | omega))) (j36 (fun h => p2 h.1))
