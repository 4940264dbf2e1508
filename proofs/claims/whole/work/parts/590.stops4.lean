-- ===== COMBINED: the ends at which the aisles are entered =====
/-- behind at aisle k -/
def cB (N : Nat → Int) (x : Int) (l : List Nat) : Nat → Bool
  | 0 => false
  | k + 1 => if thr N + cW N x l (l.length - (k + 1)) (!cB N x l k) < cH N x l (cB N x l k) k + cW N x l (l.length - (k + 1)) (cB N x l k) then !cB N x l k else cB N x l k
/-- the choice's bits say the same -/
theorem cG_bits {N : Nat → Int} {x : Int} {l : List Nat} : ∀ k, k ≤ l.length → cG N x l l.length false % 2 ^ (l.length - k) = cG N x l (l.length - k) (cB N x l k) := by
  intro k
  induction k with
  | zero => intro _; rw [Nat.sub_zero]; exact Nat.mod_eq_of_lt (cG_lt _ _)
  | succ k ih =>
    intro hk
    have h := ih (by omega)
    obtain ⟨r, hr⟩ : ∃ r, l.length - k = r + 1 := ⟨l.length - (k + 1), by omega⟩
    have hr2 : l.length - (k + 1) = r := by omega
    rw [hr] at h
    rw [hr2]
    have e : cG N x l l.length false % 2 ^ r = cG N x l l.length false % 2 ^ (r + 1) % 2 ^ r := by
      rw [Nat.mod_mod_of_dvd]
      exact Nat.pow_dvd_pow 2 (by omega)
    rw [e, h]
    simp only [cG, cB]
    rw [hr2, show l.length - (r + 1) = k by omega]
    split
    · have g := cG_lt (N := N) (x := x) (l := l) r (!cB N x l k)
      rw [Nat.add_mod_left]
      exact Nat.mod_eq_of_lt g
    · exact Nat.mod_eq_of_lt (cG_lt _ _)
theorem cG_test {N : Nat → Int} {x : Int} {l : List Nat} {k r : Nat} (hk : k + (r + 1) = l.length) : (cG N x l l.length false).testBit r = decide (thr N + cW N x l r (!cB N x l k) < cH N x l (cB N x l k) k + cW N x l r (cB N x l k)) := by
  have h := cG_bits (N := N) (x := x) (l := l) k (by omega)
  rw [show l.length - k = r + 1 by omega] at h
  have m := mod2s (cG N x l l.length false) r
  rw [h] at m
  have lt := Nat.mod_lt (cG N x l l.length false) (Nat.two_pow_pos r)
  simp only [cG] at m
  rw [show l.length - (r + 1) = k by omega] at m
  split at m
  · rename_i q
    have g := cG_lt (N := N) (x := x) (l := l) r (!cB N x l k)
    cases t : (cG N x l l.length false).testBit r
    · rw [t] at m
      simp only [Bool.toNat_false, Nat.mul_zero, Nat.add_zero] at m
      omega
    · simp [q]
  · rename_i q
    have g := cG_lt (N := N) (x := x) (l := l) r (cB N x l k)
    cases t : (cG N x l l.length false).testBit r
    · simp [q]
    · rw [t] at m
      simp only [Bool.toNat_true, Nat.mul_one] at m
      omega
theorem X6cmbL {th : Nat} (hth : 40 ≤ th) {M : Mem} {N : Nat → Int} (hR : HR 1 M N) (hW : WF N) {x : Int} (hx : Ims N x) {l : List Nat} (hT : RT th M N x l) (hl : VL N x l) (h24 : lcn N x l ≤ 24) (hs : St th M []) (hp : ∀ k, k ≤ l.length → M (th + 6) k = cW N x l (l.length - k) false ∧ M (th + 7) k = cW N x l (l.length - k) true) : wp (f_X6_listCombined th 1 M) (fun r => FS th M r ∧ St th r (dirL N x l (cB N x l) l.length)) := by
  have hw := hW.1
  have hl6 := hl.1
  have tr := thr_rng hW
  unfold f_X6_listCombined
  refine wp_lpb (wp_forI (fun i y => y.1 = (if cB N x l i = true then 1 else 0) ∧ y.2.1 = (i : Int) ∧ FS th M y.2.2 ∧ St th y.2.2 (dirL N x l (cB N x l) i)) l.length ?_ ?_ (Nat.zero_le _) ⟨rfl, rfl, FS.rf, hs⟩)
  · rintro i ⟨c1, c2, m⟩ hi ⟨k0, k1, k2, k3⟩
    simp only at k0 k1 k2 k3
    subst k1
    obtain ⟨r, hr⟩ : ∃ r, i + (r + 1) = l.length := ⟨l.length - (i + 1), by omega⟩
    have hT' := FS_RT k2 hT
    have g := VL_get hl hi
    have e := LR_get hT'.2.2 hi
    have h6 := hT'.2.1
    have ft := dirL_fit (b := cB N x l) hW h24 hi
    have a := cW_rng (x := x) (l := l) hW r (cB N x l i)
    have b := cW_rng (x := x) (l := l) hW r (!cB N x l i)
    have hh := cH_rng (x := x) (l := l) (beh := cB N x l i) (k := i) hW
    have q1 : (if cB N x l i = true then (1000000 : Int) else 0) ≤ 1000000 := by split <;> omega
    have q2 : (if (!cB N x l i) = true then (1000000 : Int) else 0) ≤ 1000000 := by split <;> omega
    simp only [s_X6_listCombined_4, j_X6_listCombined_48_4, j_X6_listCombined_49_4]
    simp (disch := omega) only [ixO, ixO0, ixO1, ixO2, ixO3, ixL0, ixL1, ixL2, ixC, ixB, ixI0, ixI00, ixI1, ixI2, ixI3, e]
    refine wp_ite_t (by ((try simp (disch := omega) only [w32_and, w32_or, w32_shl, w32_shr, w32_xor, ixO, ixO0, ixO1, ixO2, ixO3, ixL0, ixL1, ixL2, ixC, ixB, ixI0, ixI00, ixI1, ixI2, ixI3, upd2_rd, upd2_nd, Nat.reduceEqDiff, Nat.reduceAdd, Nat.add_left_cancel_iff, Nat.add_right_cancel_iff, reduceCtorEq, ↓reduceIte, and_self, and_true, true_and, and_false, false_and, true_or, or_true, false_or, or_false, not_true_eq_false, not_false_eq_true]); (try simp only [w32_em]); (first | done | omega))) (wp_gi (by omega) (by omega) (by omega) (wp_cl1 (wp_use (X6go hth (FS_HR hth k2 hR) hW hx hT'.1 g.1 (beh := cB N x l i) k0 k3 ft) (fun u hu => ?_))))
    have hTu := FS_RT hu.1 hT'
    have fu := k2.tr hu.1
    have p1 := hp (i + 1) (by omega)
    rw [show l.length - (i + 1) = r by omega] at p1
    have st := X6stay hTu hl hr (beh := cB N x l i) k0 (by rw [fu.1 (th + 6) (by omega) (by omega)]; exact p1.1) (by rw [fu.1 (th + 7) (by omega) (by omega)]; exact p1.2)
    refine wp_cl1 (wp_eq st.2 (wp_cl1 (wp_eq st.1 ?_)))
    by_cases c : thr N + cW N x l r (!cB N x l i) < cH N x l (cB N x l i) i + cW N x l r (cB N x l i)
    · have cb : cB N x l (i + 1) = !cB N x l i := by simp only [cB]; rw [show l.length - (i + 1) = r by omega, if_pos c]
      refine wp_ite_t (by rw [w32_ok ⟨by omega, by omega⟩, w32_ok ⟨by omega, by omega⟩]; exact c) ?_
      cases hcb : cB N x l i
      · rw [hcb] at k0 cb
        simp only [Bool.false_eq_true, ↓reduceIte] at k0
        subst k0
        refine wp_ite_t (by decide) (wp_bnd (wp_some ?_))
        dsimp only [Sum.elim_inl]
        refine ⟨by rw [cb]; rfl, by omega, fu, ?_⟩
        simp only [dirL]
        exact hu.2
      · rw [hcb] at k0 cb
        simp only [↓reduceIte] at k0
        subst k0
        refine wp_ite_f (by decide) (wp_bnd (wp_some ?_))
        dsimp only [Sum.elim_inl]
        refine ⟨by rw [cb]; rfl, by omega, fu, ?_⟩
        simp only [dirL]
        exact hu.2
    · have cb : cB N x l (i + 1) = cB N x l i := by simp only [cB]; rw [show l.length - (i + 1) = r by omega, if_neg c]
      refine wp_ite_f (by rw [w32_ok ⟨by omega, by omega⟩, w32_ok ⟨by omega, by omega⟩]; exact c) (wp_bnd (wp_some ?_))
      dsimp only [Sum.elim_inl]
      refine ⟨by rw [cb]; exact k0, by omega, fu, ?_⟩
      simp only [dirL]
      exact hu.2
  · rintro ⟨c1, c2, m⟩ ⟨k0, k1, k2, k3⟩
    simp only at k0 k1 k2 k3
    subst k1
    have h6 := (FS_RT k2 hT).2.1
    simp only [s_X6_listCombined_4]
    refine wp_ite_f (by ((try simp (disch := omega) only [w32_and, w32_or, w32_shl, w32_shr, w32_xor, ixO, ixO0, ixO1, ixO2, ixO3, ixL0, ixL1, ixL2, ixC, ixB, ixI0, ixI00, ixI1, ixI2, ixI3, upd2_rd, upd2_nd, Nat.reduceEqDiff, Nat.reduceAdd, Nat.add_left_cancel_iff, Nat.add_right_cancel_iff, reduceCtorEq, ↓reduceIte, and_self, and_true, true_and, and_false, false_and, true_or, or_true, false_or, or_false, not_true_eq_false, not_false_eq_true]); (try simp only [w32_em]); (first | done | omega))) (wp_some ?_)
    dsimp only [Sum.elim_inl, Sum.elim_inr]
    exact wp_some ⟨k2, k3⟩
theorem X12cmbL {M : Mem} {N : Nat → Int} (hW : WF N) {x : Int} (hx : Ims N x) {l : List Nat} (hA : RA M N x l) (hl : VL N x l) (h24 : lcn N x l ≤ 24) (hs : Sr M []) : wp (f_X12_stopsCombined M) (fun r => FQ M r ∧ Sr r (dirL N x l (cB N x l) l.length)) := by
  have hl6 := hl.1
  obtain ⟨b1, b2⟩ := X12best hW hx hA hl
  have gl := cG_lt (N := N) (x := x) (l := l) l.length false
  have p64 : 2 ^ l.length ≤ 2 ^ 6 := Nat.pow_le_pow_right (by decide) hl6
  have nc : NN ((cG N x l l.length false : Nat) : Int) := ⟨by omega, by omega⟩
  unfold f_X12_stopsCombined
  refine wp_cl1 (wp_eq b1 (wp_lpb ?_))
  refine wp_forI (fun i y => y.1 = (if cB N x l i = true then 1 else 0) ∧ y.2.1 = (i : Int) ∧ FQ M y.2.2 ∧ Sr y.2.2 (dirL N x l (cB N x l) i)) l.length ?_ ?_ (Nat.zero_le _) ⟨rfl, rfl, FQ.rf, hs⟩
  · rintro i ⟨c1, c2, m⟩ hi ⟨k0, k1, k2, k3⟩
    simp only at k0 k1 k2 k3
    subst k1
    obtain ⟨r, hr⟩ : ∃ r, i + (r + 1) = l.length := ⟨l.length - (i + 1), by omega⟩
    have hA' := FQ_RA k2 hA
    have g := VL_get hl hi
    have e := LR_get hA'.2.2.2 hi
    have h8 := hA'.2.2.1
    have ft := dirL_fit (b := cB N x l) hW h24 hi
    have tb := cG_test (N := N) (x := x) (l := l) hr
    have er : (l.length : Int) - 1 - (i : Int) = (r : Int) := by omega
    simp only [s_X12_stopsCombined_9, j_X12_stopsCombined_33_9, j_X12_stopsCombined_57_9]
    simp (disch := omega) only [ixO, ixO0, ixO1, ixO2, ixO3, ixL0, ixL1, ixL2, ixC, ixB, ixI0, ixI00, ixI1, ixI2, ixI3, e]
    have fin : ∀ u, FQ m u → Sr u (dirL N x l (cB N x l) i ++ goL N x (cB N x l i) (l.getD i 0)) → wp (cl1 (f_X12_has ((cG N x l l.length false : Nat) : Int) (u 139 8 - 1 - (i : Int)) u) (fun r_6 => if w32 c1 = w32 r_6 then bnd ((i : Int) + 1) (fun x3_8 => some (.inl ((0 : Int), x3_8, u))) else bnd ((i : Int) + 1) (fun x3_8 => some (.inl ((1 : Int), x3_8, u))))) (Sum.elim (fun y => y.1 = (if cB N x l (i + 1) = true then 1 else 0) ∧ y.2.1 = ((i + 1 : Nat) : Int) ∧ FQ M y.2.2 ∧ Sr y.2.2 (dirL N x l (cB N x l) (i + 1))) (fun a => wp (Sum.elim (fun z_9 => some z_9) (fun q => some q) a) fun r => FQ M r ∧ Sr r (dirL N x l (cB N x l) l.length))) := by
      intro u f1 f2
      rw [(FQ_RA f1 hA').2.2.1, er]
      have cbs : cB N x l (i + 1) = if (cG N x l l.length false).testBit r = true then !cB N x l i else cB N x l i := by
        rw [tb]
        simp only [cB]
        rw [show l.length - (i + 1) = r by omega]
        simp
      rcases Bool.eq_false_or_eq_true ((cG N x l l.length false).testBit r) with t | t
      · rw [t] at cbs
        simp only [↓reduceIte] at cbs
        refine wp_cl1 (wp_eq (has_t nc (by omega) (by rw [bit_nat, t])) ?_)
        cases hcb : cB N x l i
        · rw [hcb] at k0 cbs
          simp only [Bool.false_eq_true, ↓reduceIte] at k0
          subst k0
          refine wp_ite_f (by decide) (wp_bnd (wp_some ?_))
          dsimp only [Sum.elim_inl]
          exact ⟨by rw [cbs]; rfl, by omega, k2.tr f1, f2⟩
        · rw [hcb] at k0 cbs
          simp only [↓reduceIte] at k0
          subst k0
          refine wp_ite_t (by decide) (wp_bnd (wp_some ?_))
          dsimp only [Sum.elim_inl]
          exact ⟨by rw [cbs]; rfl, by omega, k2.tr f1, f2⟩
      · rw [t] at cbs
        simp only [Bool.false_eq_true, ↓reduceIte] at cbs
        refine wp_cl1 (wp_eq (has_f nc (by omega) (by rw [bit_nat, t])) ?_)
        cases hcb : cB N x l i
        · rw [hcb] at k0 cbs
          simp only [Bool.false_eq_true, ↓reduceIte] at k0
          subst k0
          refine wp_ite_t (by decide) (wp_bnd (wp_some ?_))
          dsimp only [Sum.elim_inl]
          exact ⟨by rw [cbs]; rfl, by omega, k2.tr f1, f2⟩
        · rw [hcb] at k0 cbs
          simp only [↓reduceIte] at k0
          subst k0
          refine wp_ite_f (by decide) (wp_bnd (wp_some ?_))
          dsimp only [Sum.elim_inl]
          exact ⟨by rw [cbs]; rfl, by omega, k2.tr f1, f2⟩
    refine wp_ite_t (by ((try simp (disch := omega) only [w32_and, w32_or, w32_shl, w32_shr, w32_xor, ixO, ixO0, ixO1, ixO2, ixO3, ixL0, ixL1, ixL2, ixC, ixB, ixI0, ixI00, ixI1, ixI2, ixI3, upd2_rd, upd2_nd, Nat.reduceEqDiff, Nat.reduceAdd, Nat.add_left_cancel_iff, Nat.add_right_cancel_iff, reduceCtorEq, ↓reduceIte, and_self, and_true, true_and, and_false, false_and, true_or, or_true, false_or, or_false, not_true_eq_false, not_false_eq_true]); (try simp only [w32_em]); (first | done | omega))) (wp_gi (by omega) (by omega) (by omega) ?_)
    cases hcb : cB N x l i
    · have k0' := k0
      rw [hcb] at k0'
      simp only [Bool.false_eq_true, ↓reduceIte] at k0'
      rw [hcb] at fin
      refine wp_ite_t (by rw [k0']; decide) (wp_cl1 (wp_use (X12go hA'.1 hW hA'.2.1 g.1 (beh := false) (e := 1) rfl k3 ft) (fun u hu => fin u hu.1 hu.2)))
    · have k0' := k0
      rw [hcb] at k0'
      simp only [↓reduceIte] at k0'
      rw [hcb] at fin
      refine wp_ite_f (by rw [k0']; decide) (wp_cl1 (wp_use (X12go hA'.1 hW hA'.2.1 g.1 (beh := true) (e := 0) rfl k3 ft) (fun u hu => fin u hu.1 hu.2)))
  · rintro ⟨c1, c2, m⟩ ⟨k0, k1, k2, k3⟩
    simp only at k0 k1 k2 k3
    subst k1
    have h8 := (FQ_RA k2 hA).2.2.1
    simp only [s_X12_stopsCombined_9]
    refine wp_ite_f (by ((try simp (disch := omega) only [w32_and, w32_or, w32_shl, w32_shr, w32_xor, ixO, ixO0, ixO1, ixO2, ixO3, ixL0, ixL1, ixL2, ixC, ixB, ixI0, ixI00, ixI1, ixI2, ixI3, upd2_rd, upd2_nd, Nat.reduceEqDiff, Nat.reduceAdd, Nat.add_left_cancel_iff, Nat.add_right_cancel_iff, reduceCtorEq, ↓reduceIte, and_self, and_true, true_and, and_false, false_and, true_or, or_true, false_or, or_false, not_true_eq_false, not_false_eq_true]); (try simp only [w32_em]); (first | done | omega))) (wp_some ?_)
    dsimp only [Sum.elim_inl, Sum.elim_inr]
    exact wp_some ⟨k2, k3⟩
