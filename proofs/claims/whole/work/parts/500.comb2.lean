theorem cH_rng {N : Nat → Int} (hW : WF N) {x : Int} {l : List Nat} {beh : Bool} {k : Nat} : -40 ≤ cH N x l beh k ∧ cH N x l beh k ≤ 42 := by
  have h := hi_rng (x := x) (a := l.getD k 0) hW
  have o := lo_rng (x := x) (a := l.getD k 0) hW
  have tr := thr_rng hW
  unfold cH
  split <;> omega
/-- costs lie near 0, or near 1000000 where one ends behind -/
def behF (c : Nat) : Nat → Bool → Bool
  | 0, beh => beh
  | r + 1, beh => behF c r (if c.testBit r = true then !beh else beh)
theorem cC_rng {N : Nat → Int} (hW : WF N) {x : Int} {l : List Nat} {c : Nat} : ∀ (r : Nat) (beh : Bool), (if behF c r beh = true then 1000000 else 0) - 40 * (r : Int) ≤ cC N x l c r beh ∧ cC N x l c r beh ≤ (if behF c r beh = true then 1000000 else 0) + 42 * (r : Int) := by
  have tr := thr_rng hW
  intro r
  induction r with
  | zero => intro beh; cases beh <;> simp [cC, behF]
  | succ r ih =>
    intro beh
    have hh := cH_rng (x := x) (l := l) (beh := beh) (k := l.length - (r + 1)) hW
    simp only [cC, behF]
    rcases Bool.eq_false_or_eq_true (c.testBit r) with t | t
    rotate_left
    · have a := ih beh
      simp only [t, Bool.false_eq_true, ↓reduceIte] at a ⊢
      generalize (if behF c r beh = true then (1000000 : Int) else 0) = q at *
      omega
    · have a := ih (!beh)
      simp only [t, ↓reduceIte] at a ⊢
      generalize (if behF c r (!beh) = true then (1000000 : Int) else 0) = q at *
      omega
theorem cW_rng {N : Nat → Int} (hW : WF N) {x : Int} {l : List Nat} : ∀ (r : Nat) (beh : Bool), -40 * (r : Int) ≤ cW N x l r beh ∧ cW N x l r beh ≤ (if beh = true then 1000000 else 0) + 42 * (r : Int) := by
  have tr := thr_rng hW
  intro r
  induction r with
  | zero => intro beh; cases beh <;> simp [cW]
  | succ r ih =>
    intro beh
    have hh := cH_rng (x := x) (l := l) (beh := beh) (k := l.length - (r + 1)) hW
    have a := ih beh
    have b := ih (!beh)
    simp only [cW]
    generalize (if beh = true then (1000000 : Int) else 0) = q at *
    split
    · omega
    · omega
/-- the class's table -/
theorem X6stay {th : Nat} {M : Mem} {N : Nat → Int} {x : Int} {l : List Nat} (hT : RT th M N x l) (hl : VL N x l) {k r : Nat} (hk : k + (r + 1) = l.length) {beh : Bool} {e : Int} (he : e = if beh = true then 1 else 0) (f1 : M (th + 6) (k + 1) = cW N x l r false) (f2 : M (th + 7) (k + 1) = cW N x l r true) :
    f_X6_stayingCost th (k : Int) e M = some (cH N x l beh k + cW N x l r beh) ∧ f_X6_crossingCost th (k : Int) e M = some (thr N + cW N x l r (!beh)) := by
  have hl6 := hl.1
  have g := VL_get hl (show k < l.length by omega)
  have e5 := LR_get hT.2.2 (show k < l.length by omega)
  have s := hT.1.2.2 _ g.1
  have m1 : M th 1 = thr N := hT.1.2.1
  have xk : ix (k : Int) = k := ix_nat (by omega)
  have xk1 : ix ((k : Int) + 1) = k + 1 := by rw [ix_of (by omega) (by omega)]; omega
  have xa : ix ((l.getD k 0 : Nat) : Int) = l.getD k 0 := ix_nat (by omega)
  subst he
  constructor
  · apply wp_val
    unfold f_X6_stayingCost
    rw [xk, e5, xk1]
    refine wp_gi (by omega) (by omega) (by omega) (wp_bnd ?_)
    rw [xa]
    cases beh
    · refine wp_ite_t (by decide) (wp_gi (by omega) (by omega) (by omega) (wp_gi (by omega) (by omega) (by omega) (wp_some ?_)))
      rw [f1, s.2.2.1]
      rfl
    · refine wp_ite_f (by decide) (wp_gi (by omega) (by omega) (by omega) (wp_gi (by omega) (by omega) (by omega) (wp_some ?_)))
      rw [f2, s.2.1, m1]
      rfl
  · apply wp_val
    unfold f_X6_crossingCost j_X6_crossingCost_27
    rw [xk1]
    cases beh
    · refine wp_ite_t (by decide) (wp_gi (by omega) (by omega) (by omega) (wp_some ?_))
      rw [f2, m1]
      rfl
    · refine wp_ite_f (by decide) (wp_gi (by omega) (by omega) (by omega) (wp_some ?_))
      rw [f1, m1]
      rfl
theorem min_W {N : Nat → Int} (hW : WF N) {x : Int} {l : List Nat} {k r : Nat} (hk : k + (r + 1) = l.length) (hl6 : l.length ≤ 6) {beh : Bool} : i_min (cH N x l beh k + cW N x l r beh) (thr N + cW N x l r (!beh)) = cW N x l (r + 1) beh := by
  have tr := thr_rng hW
  have a := cW_rng (x := x) (l := l) hW r beh
  have b := cW_rng (x := x) (l := l) hW r (!beh)
  have hh := cH_rng (x := x) (l := l) (beh := beh) (k := k) hW
  have q1 : (if beh = true then (1000000 : Int) else 0) ≤ 1000000 := by split <;> omega
  have q2 : (if (!beh) = true then (1000000 : Int) else 0) ≤ 1000000 := by split <;> omega
  unfold i_min
  rw [w32_ok ⟨by omega, by omega⟩, w32_ok ⟨by omega, by omega⟩]
  simp only [cW]
  rw [show l.length - (r + 1) = k by omega]
theorem X6plan {th : Nat} {M : Mem} {N : Nat → Int} (hW : WF N) {x : Int} {l : List Nat} (hT : RT th M N x l) (hl : VL N x l) : wp (f_X6_planCombined th M) (fun r => (∀ b, b ≠ th + 6 → b ≠ th + 7 → r b = M b) ∧ ∀ k, k ≤ l.length → r (th + 6) k = cW N x l (l.length - k) false ∧ r (th + 7) k = cW N x l (l.length - k) true) := by
  have h6 := hT.2.1
  have hl6 := hl.1
  have xn : ix (l.length : Int) = l.length := ix_nat (by omega)
  unfold f_X6_planCombined
  rw [h6]
  refine wp_gi (by omega) (by omega) (by omega) (wp_bnd ?_)
  rw [upd2_ne (show th ≠ th + 6 by omega), h6]
  refine wp_gi (by omega) (by omega) (by omega) (wp_bnd (wp_bnd (wp_lpb ?_)))
  rw [upd2_ne (show th ≠ th + 7 by omega), upd2_ne (show th ≠ th + 6 by omega), h6, xn]
  refine wp_forI (fun i y => y.1 = (l.length : Int) - 1 - (i : Int) ∧ (∀ b, b ≠ th + 6 → b ≠ th + 7 → y.2 b = M b) ∧ ∀ k, k ≤ l.length → l.length ≤ k + i → y.2 (th + 6) k = cW N x l (l.length - k) false ∧ y.2 (th + 7) k = cW N x l (l.length - k) true) l.length ?_ ?_ (Nat.zero_le _) ⟨by simp, fun b b1 b2 => by simp only; rw [upd2_ne b2, upd2_ne b1], fun k k1 k2 => ?_⟩
  · rintro i ⟨c, m⟩ hi ⟨q1, q2, q3⟩
    simp only at q1 q2 q3
    obtain ⟨k, hk⟩ : ∃ k, k + (i + 1) = l.length := ⟨l.length - (i + 1), by omega⟩
    have ck : c = (k : Int) := by omega
    subst ck
    have hT' : RT th m N x l := RT_upd hT (fun b b1 b2 => q2 b (by omega) (by omega)) (fun j _ => by rw [q2 th (by omega) (by omega)])
    obtain ⟨f1, f2⟩ := q3 (k + 1) (by omega) (by omega)
    rw [show l.length - (k + 1) = i by omega] at f1 f2
    have s1 := X6stay hT' hl hk (beh := false) (e := 0) rfl f1 f2
    have xk : ix (k : Int) = k := ix_nat (by omega)
    simp only [s_X6_planCombined_28]
    refine wp_ite_f (by ((try simp (disch := omega) only [w32_and, w32_or, w32_shl, w32_shr, w32_xor, ixO, ixO0, ixO1, ixO2, ixO3, ixL0, ixL1, ixL2, ixC, ixB, ixI0, ixI00, ixI1, ixI2, ixI3, upd2_rd, upd2_nd, Nat.reduceEqDiff, Nat.reduceAdd, Nat.add_left_cancel_iff, Nat.add_right_cancel_iff, reduceCtorEq, ↓reduceIte, and_self, and_true, true_and, and_false, false_and, true_or, or_true, false_or, or_false, not_true_eq_false, not_false_eq_true]); (try simp only [w32_em]); (first | done | omega))) (wp_cl1 (wp_eq s1.1 (wp_cl1 (wp_eq s1.2 (wp_gi (by omega) (by omega) (by omega) (wp_bnd ?_))))))
    rw [xk, min_W hW hk hl6]
    generalize hm2 : upd2 m (th + 6) k (cW N x l (i + 1) false) = m2
    have e6 : ∀ j, m2 (th + 6) j = if j = k then cW N x l (i + 1) false else m (th + 6) j := fun j => by rw [← hm2, upd2_at]
    have eo : ∀ b, b ≠ th + 6 → m2 b = m b := fun b hb => by rw [← hm2, upd2_ne hb]
    have hT2 : RT th m2 N x l := RT_upd hT' (fun b b1 b2 => eo b (by omega)) (fun j _ => by rw [eo th (by omega)])
    have s2 := X6stay hT2 hl hk (beh := true) (e := 1) rfl (by rw [e6, if_neg (by omega)]; exact f1) (by rw [eo _ (by omega)]; exact f2)
    refine wp_cl1 (wp_eq s2.1 (wp_cl1 (wp_eq s2.2 (wp_gi (by omega) (by omega) (by omega) (wp_bnd (wp_bnd (wp_some ?_)))))))
    rw [min_W hW hk hl6]
    dsimp only [Sum.elim_inl]
    refine ⟨by omega, fun b b1 b2 => by rw [upd2_ne b2, eo b b1]; exact q2 b b1 b2, fun j j1 j2 => ?_⟩
    rw [upd2_ne (show th + 6 ≠ th + 7 by omega), e6, upd2_at, eo _ (show th + 7 ≠ th + 6 by omega)]
    by_cases e : j = k
    · rw [if_pos e, if_pos e, show l.length - j = i + 1 by omega]
      exact ⟨rfl, rfl⟩
    · rw [if_neg e, if_neg e]
      exact q3 j j1 (by omega)
  · rintro ⟨c, m⟩ ⟨q1, q2, q3⟩
    simp only at q1 q2 q3
    simp only [s_X6_planCombined_28]
    refine wp_ite_t (by ((try simp (disch := omega) only [w32_and, w32_or, w32_shl, w32_shr, w32_xor, ixO, ixO0, ixO1, ixO2, ixO3, ixL0, ixL1, ixL2, ixC, ixB, ixI0, ixI00, ixI1, ixI2, ixI3, upd2_rd, upd2_nd, Nat.reduceEqDiff, Nat.reduceAdd, Nat.add_left_cancel_iff, Nat.add_right_cancel_iff, reduceCtorEq, ↓reduceIte, and_self, and_true, true_and, and_false, false_and, true_or, or_true, false_or, or_false, not_true_eq_false, not_false_eq_true]); (try simp only [w32_em]); (first | done | omega))) (wp_some ?_)
    dsimp only [Sum.elim_inl, Sum.elim_inr]
    exact wp_some ⟨q2, fun k hk => q3 k hk (by omega)⟩
  · simp only
    have : k = l.length := by omega
    subst this
    rw [upd2_ne (show th + 6 ≠ th + 7 by omega), upd2_same, upd2_same, Nat.sub_self]
    exact ⟨rfl, rfl⟩
