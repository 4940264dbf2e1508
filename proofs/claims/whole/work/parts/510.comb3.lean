theorem bit_nat (c r : Nat) : bit (c : Int) r = c.testBit r := by unfold bit; rw [Int.toNat_natCast]
theorem X12combBy {M : Mem} {N : Nat → Int} (hW : WF N) {x : Int} (hx : Ims N x) {l : List Nat} (hA : RA M N x l) (hl : VL N x l) {c : Nat} (hc : c < 64) : f_X12_combinedBy (c : Int) M = some (if behF c l.length false = true then -1 else cC N x l c l.length false) := by
  obtain ⟨hN, hS, h8, hr⟩ := hA
  have hl6 := hl.1
  have tr := thr_rng hW
  have nc : NN (c : Int) := ⟨by omega, by omega⟩
  apply wp_val
  unfold f_X12_combinedBy
  refine wp_lpb (wp_forI (fun k y => ∃ b : Bool, y.1 = (if b = true then 1 else 0) ∧ y.2.2 = (k : Int) ∧ y.2.1 + cC N x l c (l.length - k) b = cC N x l c l.length false ∧ behF c (l.length - k) b = behF c l.length false) l.length ?_ ?_ (Nat.zero_le _) ⟨false, rfl, rfl, by simp, by simp⟩)
  · rintro k ⟨y1, y2, y3⟩ hk ⟨b, q1, q2, q3, q4⟩
    simp only at q1 q2 q3 q4
    subst q2
    obtain ⟨r, hr'⟩ : ∃ r, k + (r + 1) = l.length := ⟨l.length - (k + 1), by omega⟩
    rw [show l.length - k = r + 1 by omega] at q3 q4
    simp only [cC, behF] at q3 q4
    rw [show l.length - (r + 1) = k by omega] at q3
    have g := VL_get hl hk
    have e := LR_get hr hk
    have hh := X12hi hN hW hx hS g.1
    have ll := X12lo hN hW hx hS g.1 g.2
    have ht : f_X12_through M = some (thr N) := by unfold f_X12_through; rw [hN]; rfl
    have er : (l.length : Int) - 1 - (k : Int) = (r : Int) := by omega
    have xk : ix (k : Int) = k := ix_nat (by omega)
    simp only [s_X12_combinedBy_7, j_X12_combinedBy_79_7, j_X12_combinedBy_80_7, j_X12_combinedBy_93_7]
    rw [h8, er, xk, e]
    have e1 : l.length - (k + 1) = r := by omega
    refine wp_ite_t (by ((try simp (disch := omega) only [w32_and, w32_or, w32_shl, w32_shr, w32_xor, ixO, ixO0, ixO1, ixO2, ixO3, ixL0, ixL1, ixL2, ixC, ixB, ixI0, ixI00, ixI1, ixI2, ixI3, upd2_rd, upd2_nd, Nat.reduceEqDiff, Nat.reduceAdd, Nat.add_left_cancel_iff, Nat.add_right_cancel_iff, reduceCtorEq, ↓reduceIte, and_self, and_true, true_and, and_false, false_and, true_or, or_true, false_or, or_false, not_true_eq_false, not_false_eq_true]); (try simp only [w32_em]); (first | done | omega))) (wp_cl1 ?_)
    rcases Bool.eq_false_or_eq_true (c.testBit r) with t | t
    · refine wp_eq (has_t nc (by omega) (by rw [bit_nat, t])) (wp_ite_f (by decide) (wp_cl1 (wp_eq ht (wp_bnd ?_))))
      simp only [t, ↓reduceIte] at q3 q4
      cases b
      · simp only [Bool.false_eq_true, ↓reduceIte] at q1
        subst q1
        refine wp_ite_f (by decide) (wp_bnd (wp_some ?_))
        dsimp only [Sum.elim_inl]
        refine ⟨true, rfl, by omega, ?_, ?_⟩
        · rw [e1]; simp only [Bool.not_false] at q3; omega
        · rw [e1]; exact q4
      · simp only [↓reduceIte] at q1
        subst q1
        refine wp_ite_t (by decide) (wp_bnd (wp_some ?_))
        dsimp only [Sum.elim_inl]
        refine ⟨false, rfl, by omega, ?_, ?_⟩
        · rw [e1]; simp only [Bool.not_true] at q3; omega
        · rw [e1]; exact q4
    · refine wp_eq (has_f nc (by omega) (by rw [bit_nat, t])) (wp_ite_t (by decide) ?_)
      simp only [t, Bool.false_eq_true, ↓reduceIte] at q3 q4
      cases b
      · simp only [Bool.false_eq_true, ↓reduceIte] at q1
        subst q1
        refine wp_ite_t (by decide) (wp_gi (by omega) (by omega) (by omega) (wp_cl1 (wp_eq hh (wp_bnd (wp_ite_t (by decide) (wp_bnd (wp_some ?_)))))))
        dsimp only [Sum.elim_inl]
        refine ⟨false, rfl, by omega, ?_, ?_⟩
        · rw [e1]; simp only [cH, Bool.false_eq_true, ↓reduceIte] at q3; omega
        · rw [e1]; exact q4
      · simp only [↓reduceIte] at q1
        subst q1
        refine wp_ite_f (by decide) (wp_cl1 (wp_eq ht (wp_gi (by omega) (by omega) (by omega) (wp_cl1 (wp_eq ll (wp_bnd (wp_ite_f (by decide) (wp_bnd (wp_some ?_)))))))))
        dsimp only [Sum.elim_inl]
        refine ⟨true, rfl, by omega, ?_, ?_⟩
        · rw [e1]; simp only [cH, ↓reduceIte] at q3; omega
        · rw [e1]; exact q4
  · rintro ⟨y1, y2, y3⟩ ⟨b, q1, q2, q3, q4⟩
    simp only at q1 q2 q3 q4
    subst q2
    rw [Nat.sub_self] at q3 q4
    simp only [s_X12_combinedBy_7]
    refine wp_ite_f (by ((try simp (disch := omega) only [w32_and, w32_or, w32_shl, w32_shr, w32_xor, ixO, ixO0, ixO1, ixO2, ixO3, ixL0, ixL1, ixL2, ixC, ixB, ixI0, ixI00, ixI1, ixI2, ixI3, upd2_rd, upd2_nd, Nat.reduceEqDiff, Nat.reduceAdd, Nat.add_left_cancel_iff, Nat.add_right_cancel_iff, reduceCtorEq, ↓reduceIte, and_self, and_true, true_and, and_false, false_and, true_or, or_true, false_or, or_false, not_true_eq_false, not_false_eq_true]); (try simp only [w32_em]); (first | done | omega))) (wp_some ?_)
    dsimp only [Sum.elim_inl, Sum.elim_inr]
    rw [← q4]
    cases b
    · simp only [Bool.false_eq_true, ↓reduceIte] at q1
      subst q1
      refine wp_ite_t (by decide) (wp_some ?_)
      simp only [cC, behF, Bool.false_eq_true, ↓reduceIte] at q3 ⊢
      omega
    · simp only [↓reduceIte] at q1
      subst q1
      refine wp_ite_f (by decide) (wp_some ?_)
      simp only [behF, ↓reduceIte]
theorem lo_hi {N : Nat → Int} (hW : WF N) {x : Int} {a : Nat} (h : 0 < hiF N x a) : loF N x a ≤ hiF N x a ∧ hiF N x a ≤ N 1 := by
  have q3 := n3 hW
  obtain ⟨g1, g2, g3, g4⟩ := hiA_ok (x := x) (a := a) hW (N 3).toNat (by omega)
  obtain ⟨h1, h2, h3, h4⟩ := loA_ok (x := x) (a := a) hW (N 3).toNat (by omega)
  unfold hiF at h
  unfold loF hiF
  rcases g4 with g4 | ⟨j, j1, j2, j3, j4⟩
  · omega
  · have := h3 j j1 j2 j3
    exact ⟨by omega, g2⟩
theorem cH_pos {N : Nat → Int} (hW : WF N) {x : Int} {l : List Nat} (hl : VL N x l) {beh : Bool} {k : Nat} (hk : k < l.length) : 0 ≤ cH N x l beh k := by
  have g := VL_get hl hk
  have a := lo_hi hW g.2
  have h := hi_rng (x := x) (a := l.getD k 0) hW
  unfold cH thr
  split <;> omega
theorem cC_pos {N : Nat → Int} (hW : WF N) {x : Int} {l : List Nat} (hl : VL N x l) {c : Nat} : ∀ (r : Nat) (beh : Bool), r ≤ l.length → 0 ≤ cC N x l c r beh := by
  have tr := thr_rng hW
  intro r
  induction r with
  | zero => intro beh _; cases beh <;> simp [cC]
  | succ r ih =>
    intro beh hr
    have a := ih beh (by omega)
    have b := ih (!beh) (by omega)
    have h := cH_pos hW hl (beh := beh) (show l.length - (r + 1) < l.length by omega)
    simp only [cC]
    split <;> omega
theorem behF0 : ∀ r beh, behF 0 r beh = beh := by
  intro r
  induction r with
  | zero => intro beh; rfl
  | succ r ih => intro beh; simp only [behF, Nat.zero_testBit, Bool.false_eq_true, ↓reduceIte]; exact ih beh
theorem X12best {M : Mem} {N : Nat → Int} (hW : WF N) {x : Int} (hx : Ims N x) {l : List Nat} (hA : RA M N x l) (hl : VL N x l) : f_X12_bestChoice M = some ((cG N x l l.length false : Nat) : Int) ∧ behF (cG N x l l.length false) l.length false = false := by
  have hA' := hA
  obtain ⟨hN, hS, h8, hr⟩ := hA
  have hl6 := hl.1
  have p64 : 2 ^ l.length ≤ 64 := by
    have : 2 ^ l.length ≤ 2 ^ 6 := Nat.pow_le_pow_right (by decide) hl6
    omega
  have p1 : 0 < 2 ^ l.length := Nat.two_pow_pos _
  have hsh := shl_lt l.length (by omega)
  have gl := cG_lt (N := N) (x := x) (l := l) l.length false
  have gm : cG N x l l.length false % 2 ^ l.length = cG N x l l.length false := Nat.mod_eq_of_lt gl
  have ge := cG_eq (N := N) (x := x) (l := l) (c := cG N x l l.length false) l.length false gm
  have w1 := cW_rng (x := x) (l := l) hW l.length false
  have r1 := cC_rng (x := x) (l := l) (c := cG N x l l.length false) hW l.length false
  have bG : behF (cG N x l l.length false) l.length false = false := by
    cases q : behF (cG N x l l.length false) l.length false
    · rfl
    · rw [q] at r1
      simp only [↓reduceIte, Bool.false_eq_true] at r1 w1
      omega
  refine ⟨?_, bG⟩
  have key : wp (f_X12_bestChoice M) (fun v => ∃ b : Nat, v = (b : Int) ∧ b < 2 ^ l.length ∧ (∀ c, c < 2 ^ l.length → cC N x l b l.length false ≤ cC N x l c l.length false) ∧ ∀ c, c < b → cC N x l b l.length false < cC N x l c l.length false) := by
    unfold f_X12_bestChoice
    refine wp_lpb (wp_forI (fun i y => 1 ≤ i ∧ ∃ b : Nat, y = ((b : Int), (i : Int)) ∧ b < i ∧ behF b l.length false = false ∧ (∀ c, c < i → cC N x l b l.length false ≤ cC N x l c l.length false) ∧ ∀ c, c < b → cC N x l b l.length false < cC N x l c l.length false) (2 ^ l.length) ?_ ?_ (i0 := 1) (by omega) ⟨Nat.le_refl _, 0, rfl, by omega, behF0 _ _, fun c hc => by rw [show c = 0 by omega]; exact Int.le_refl _, fun c hc => by omega⟩)
    · rintro i ⟨y1, y2⟩ hi ⟨i1, b, q0, q1, q2, q3, q4⟩
      simp only [Prod.mk.injEq] at q0
      obtain ⟨rfl, rfl⟩ := q0
      have c1 := X12combBy hW hx hA' hl (c := i) (by omega)
      have c2 := X12combBy hW hx hA' hl (c := b) (by omega)
      have ri := cC_rng (x := x) (l := l) (c := i) hW l.length false
      have rb := cC_rng (x := x) (l := l) (c := b) hW l.length false
      rw [q2] at c2 rb
      simp only [Bool.false_eq_true, ↓reduceIte] at c2 rb
      simp only [s_X12_bestChoice_4, j_X12_bestChoice_38_4, j_X12_bestChoice_39_4]
      rw [h8, hsh]
      have pi : ((2 ^ l.length : Nat) : Int) ≤ 64 ∧ (i : Int) < ((2 ^ l.length : Nat) : Int) := ⟨by have := Int.ofNat_le.mpr p64; simpa using this, Int.ofNat_lt.mpr hi⟩
      generalize ((2 ^ l.length : Nat) : Int) = P at *
      generalize hVb : cC N x l b l.length false = Vb at *
      generalize hVi : cC N x l i l.length false = Vi at *
      refine wp_ite_t (by ((try simp (disch := omega) only [w32_and, w32_or, w32_shl, w32_shr, w32_xor, ixO, ixO0, ixO1, ixO2, ixO3, ixL0, ixL1, ixL2, ixC, ixB, ixI0, ixI00, ixI1, ixI2, ixI3, upd2_rd, upd2_nd, Nat.reduceEqDiff, Nat.reduceAdd, Nat.add_left_cancel_iff, Nat.add_right_cancel_iff, reduceCtorEq, ↓reduceIte, and_self, and_true, true_and, and_false, false_and, true_or, or_true, false_or, or_false, not_true_eq_false, not_false_eq_true]); (try simp only [w32_em]); (first | done | omega))) (wp_cl1 (wp_eq c1 ?_))
      cases qi : behF i l.length false
      · rw [qi] at ri
        simp only [Bool.false_eq_true, ↓reduceIte] at ri ⊢
        have pv := cC_pos hW hl (c := i) l.length false (Nat.le_refl _)
        rw [hVi] at pv
        refine wp_ite_f (by ((try simp (disch := omega) only [w32_and, w32_or, w32_shl, w32_shr, w32_xor, ixO, ixO0, ixO1, ixO2, ixO3, ixL0, ixL1, ixL2, ixC, ixB, ixI0, ixI00, ixI1, ixI2, ixI3, upd2_rd, upd2_nd, Nat.reduceEqDiff, Nat.reduceAdd, Nat.add_left_cancel_iff, Nat.add_right_cancel_iff, reduceCtorEq, ↓reduceIte, and_self, and_true, true_and, and_false, false_and, true_or, or_true, false_or, or_false, not_true_eq_false, not_false_eq_true]); (try simp only [w32_em]); (first | done | omega))) (wp_cl1 (wp_eq c2 ?_))
        by_cases g : Vi < Vb
        · refine wp_ite_t (by ((try simp (disch := omega) only [w32_and, w32_or, w32_shl, w32_shr, w32_xor, ixO, ixO0, ixO1, ixO2, ixO3, ixL0, ixL1, ixL2, ixC, ixB, ixI0, ixI00, ixI1, ixI2, ixI3, upd2_rd, upd2_nd, Nat.reduceEqDiff, Nat.reduceAdd, Nat.add_left_cancel_iff, Nat.add_right_cancel_iff, reduceCtorEq, ↓reduceIte, and_self, and_true, true_and, and_false, false_and, true_or, or_true, false_or, or_false, not_true_eq_false, not_false_eq_true]); (try simp only [w32_em]); (first | done | omega))) (wp_bnd (wp_some ?_))
          dsimp only [Sum.elim_inl]
          refine ⟨by omega, i, by simp, by omega, qi, fun c hc => ?_, fun c hc => ?_⟩
          · rw [hVi]
            by_cases e : c = i
            · rw [e, hVi]; omega
            · have := q3 c (by omega)
              omega
          · rw [hVi]
            have := q3 c hc
            omega
        · refine wp_ite_f (by ((try simp (disch := omega) only [w32_and, w32_or, w32_shl, w32_shr, w32_xor, ixO, ixO0, ixO1, ixO2, ixO3, ixL0, ixL1, ixL2, ixC, ixB, ixI0, ixI00, ixI1, ixI2, ixI3, upd2_rd, upd2_nd, Nat.reduceEqDiff, Nat.reduceAdd, Nat.add_left_cancel_iff, Nat.add_right_cancel_iff, reduceCtorEq, ↓reduceIte, and_self, and_true, true_and, and_false, false_and, true_or, or_true, false_or, or_false, not_true_eq_false, not_false_eq_true]); (try simp only [w32_em]); (first | done | omega))) (wp_bnd (wp_some ?_))
          dsimp only [Sum.elim_inl]
          refine ⟨by omega, b, by simp, by omega, q2, fun c hc => ?_, fun c hc => by rw [hVb]; exact q4 c hc⟩
          rw [hVb]
          by_cases e : c = i
          · rw [e, hVi]; omega
          · exact q3 c (by omega)
      · rw [qi] at ri
        simp only [↓reduceIte] at ri ⊢
        refine wp_ite_t (by decide) (wp_bnd (wp_some ?_))
        dsimp only [Sum.elim_inl]
        refine ⟨by omega, b, by simp, by omega, q2, fun c hc => ?_, fun c hc => by rw [hVb]; exact q4 c hc⟩
        rw [hVb]
        by_cases e : c = i
        · rw [e, hVi]; omega
        · exact q3 c (by omega)
    · rintro ⟨y1, y2⟩ ⟨i1, b, q0, q1, q2, q3, q4⟩
      simp only [Prod.mk.injEq] at q0
      obtain ⟨rfl, rfl⟩ := q0
      simp only [s_X12_bestChoice_4]
      rw [h8, hsh]
      have pi : ((2 ^ l.length : Nat) : Int) ≤ 64 ∧ 0 < ((2 ^ l.length : Nat) : Int) := ⟨by have := Int.ofNat_le.mpr p64; simpa using this, Int.ofNat_lt.mpr p1⟩
      refine wp_ite_f (Int.lt_irrefl _) (wp_some ?_)
      dsimp only [Sum.elim_inl, Sum.elim_inr]
      exact wp_some ⟨b, rfl, q1, q3, q4⟩
  obtain ⟨v, e, b, rfl, b1, b2, b3⟩ := key
  rw [e]
  have a1 := b2 _ gl
  have a2 := cW_le (N := N) (x := x) (l := l) (c := b) l.length false
  have : b = cG N x l l.length false := by
    rcases Nat.lt_trichotomy b (cG N x l l.length false) with h | h | h
    · have := cG_first (N := N) (x := x) (l := l) (c := b) l.length false (by rw [Nat.mod_eq_of_lt b1]; exact h)
      omega
    · exact h
    · have := b3 _ h
      omega
  rw [this]
