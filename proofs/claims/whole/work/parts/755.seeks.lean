-- ===== the reference seeks the best move =====
/-- the frame of the reference's search for a move -/
def FSk (M r : Mem) : Prop := (∀ a, a ≠ 139 → a ≠ 144 → a ≠ 145 → a ≠ 146 → r a = M a) ∧ ∀ k, k < 8 ∨ 12 < k → r 139 k = M 139 k
set_option maxHeartbeats 600000 in
theorem FSk.tr {M r u : Mem} (h1 : FSk M r) (h2 : FSk r u) : FSk M u := ⟨fun a a1 a2 a3 a4 => (h2.1 a a1 a2 a3 a4).trans (h1.1 a a1 a2 a3 a4), fun k hk => (h2.2 k hk).trans (h1.2 k hk)⟩
def R12 (M : Mem) (s : Int × Int × Int) : Prop := 0 < s.1 → M 139 11 = s.2.1 ∧ M 139 12 = s.2.2
set_option maxHeartbeats 600000 in
theorem X12gain {M : Mem} {N : Nat → Int} (hN : M 140 = N) (hW : WF N) {o b c : Nat} (ho : o < (N 4).toNat) (hb : (b : Int) < N 5) (hc : (c : Int) < N 5) : wp (f_X12_gainOf (o : Int) (b : Int) (c : Int) M) (fun r => r.1 = gnO N o b c ∧ FSk M r.2 ∧ r.2 139 11 = M 139 11 ∧ r.2 139 12 = M 139 12) := by
  have q4 := n4 hW
  have q5 := n5 hW
  have hw2 := hW.2.1
  have bmb := bmem hW hb
  have bmc := bmem hW hc
  have sb := shl_bits (show o < 31 by omega)
  have ab := andn_bits bmb.1 sb.1
  have ob := or_bits bmc.1 sb.1
  have xb : ix (461 + (b : Int)) = 461 + b := ixB (by omega)
  have xc : ix (461 + (c : Int)) = 461 + c := ixB (by omega)
  have e : ∀ k, M 140 k = N k := fun k => by rw [hN]
  unfold f_X12_gainOf
  rw [xb, xc, e, e, e]
  refine wp_gi (by omega) (by omega) (by omega) (wp_bnd (wp_gi (by omega) (by omega) (by omega) (wp_bnd (wp_bnd ?_))))
  refine wp_cl2 (wp_use (X12routes hN hW bmb.1 bmb.2 (by omega)) (fun r1 h1 => ?_))
  have n1 : r1.2 140 = N := by rw [h1.2.1 140 (by decide) (by decide) (by decide) (by decide)]; exact hN
  refine wp_cl2 (wp_use (X12routes n1 hW bmc.1 bmc.2 (by omega)) (fun r2 h2 => ?_))
  have n2 : r2.2 140 = N := by rw [h2.2.1 140 (by decide) (by decide) (by decide) (by decide)]; exact n1
  refine wp_cl2 (wp_use (X12routes n2 hW ab.1 (fun k hk => by rw [ab.2, bmb.2 k hk]; rfl) (by omega)) (fun r3 h3 => ?_))
  have n3 : r3.2 140 = N := by rw [h3.2.1 140 (by decide) (by decide) (by decide) (by decide)]; exact n2
  refine wp_cl2 (wp_use (X12routes n3 hW ob.1 (fun k hk => by rw [ob.2, sb.2, bmc.2 k hk, decide_eq_false (by omega)]; rfl) (by omega)) (fun r4 h4 => wp_some ?_))
  have k39 : ∀ k, k ≠ 8 → k ≠ 9 → k ≠ 10 → r4.2 139 k = M 139 k := fun k a b c => by rw [h4.2.2 k a b c, h3.2.2 k a b c, h2.2.2 k a b c, h1.2.2 k a b c]
  refine ⟨?_, ⟨fun a a1 a2 a3 a4 => ?_, fun k hk => k39 k (by omega) (by omega) (by omega)⟩, k39 11 (by decide) (by decide) (by decide), k39 12 (by decide) (by decide) (by decide)⟩
  · rw [h1.1, h2.1, h3.1, h4.1]
    rfl
  · rw [h4.2.1 a a1 a2 a3 a4, h3.2.1 a a1 a2 a3 a4, h2.2.1 a a1 a2 a3 a4, h1.2.1 a a1 a2 a3 a4]
set_option maxHeartbeats 600000 in
theorem X12takes {M : Mem} {N : Nat → Int} (hN : M 140 = N) (hW : WF N) {L lim : Int} (hL : 1 ≤ L ∧ L ≤ 6) (hl : 1 ≤ lim ∧ lim ≤ 99999) {o c : Nat} (ho : o < (N 4).toNat) (hc : (c : Int) < N 5) : f_X12_takes (c : Int) (o : Int) L lim M = some (if tk1 N L lim o c = true then 1 else 0) := by
  have q4 := n4 hW
  have q5 := n5 hW
  have bmc := bmem hW hc
  have wb := hW.2.2.2.2.2.1 c hc
  unfold WFb at wb
  have xc : ix (461 + (c : Int)) = 461 + c := ixB (by omega)
  have e : M 140 (461 + c) = N (461 + c) := by rw [hN]
  have o1 := one_rng (a := N (461 + c))
  have w1 := wA_rng hW (m := N (461 + c))
  have w2 := wO_rng hW (o := o) (by omega)
  apply wp_val
  unfold f_X12_takes
  rw [xc, e]
  refine wp_gi (by omega) (by omega) (by omega) (wp_bnd (wp_cl1 (wp_eq (X12ones bmc.1.1 (by omega)) ?_)))
  by_cases h1 : one (N (461 + c)) < L
  · refine wp_ite_t (by ((try simp (disch := omega) only [w32_and, w32_or, w32_shl, w32_shr, w32_xor, ixO, ixO0, ixO1, ixO2, ixO3, ixL0, ixL1, ixL2, ixC, ixB, ixI0, ixI00, ixI1, ixI2, ixI3, upd2_rd, upd2_nd, Nat.reduceEqDiff, Nat.reduceAdd, Nat.add_left_cancel_iff, Nat.add_right_cancel_iff, reduceCtorEq, ↓reduceIte, and_self, and_true, true_and, and_false, false_and, true_or, or_true, false_or, or_false, not_true_eq_false, not_false_eq_true]); (try simp only [w32_em]); (first | done | omega))) (wp_cl1 (wp_eq (X12wA hN hW rfl bmc.1 bmc.2) (wp_cl1 (wp_eq (X12w hN hW (by omega)) ?_))))
    by_cases h2 : wA N (N (461 + c)) + wO N o ≤ lim
    · have t : tk1 N L lim o c = true := by unfold tk1; exact decide_eq_true ⟨h1, h2⟩
      rw [t]
      exact wp_ite_f (by ((try simp (disch := omega) only [w32_and, w32_or, w32_shl, w32_shr, w32_xor, ixO, ixO0, ixO1, ixO2, ixO3, ixL0, ixL1, ixL2, ixC, ixB, ixI0, ixI00, ixI1, ixI2, ixI3, upd2_rd, upd2_nd, Nat.reduceEqDiff, Nat.reduceAdd, Nat.add_left_cancel_iff, Nat.add_right_cancel_iff, reduceCtorEq, ↓reduceIte, and_self, and_true, true_and, and_false, false_and, true_or, or_true, false_or, or_false, not_true_eq_false, not_false_eq_true]); (try simp only [w32_em]); (first | done | omega))) (wp_some rfl)
    · have t : tk1 N L lim o c = false := by unfold tk1; exact decide_eq_false (fun h => h2 h.2)
      rw [t]
      exact wp_ite_t (by ((try simp (disch := omega) only [w32_and, w32_or, w32_shl, w32_shr, w32_xor, ixO, ixO0, ixO1, ixO2, ixO3, ixL0, ixL1, ixL2, ixC, ixB, ixI0, ixI00, ixI1, ixI2, ixI3, upd2_rd, upd2_nd, Nat.reduceEqDiff, Nat.reduceAdd, Nat.add_left_cancel_iff, Nat.add_right_cancel_iff, reduceCtorEq, ↓reduceIte, and_self, and_true, true_and, and_false, false_and, true_or, or_true, false_or, or_false, not_true_eq_false, not_false_eq_true]); (try simp only [w32_em]); (first | done | omega))) (wp_some rfl)
  · have t : tk1 N L lim o c = false := by unfold tk1; exact decide_eq_false (fun h => h1 h.1)
    rw [t]
    exact wp_ite_f (by ((try simp (disch := omega) only [w32_and, w32_or, w32_shl, w32_shr, w32_xor, ixO, ixO0, ixO1, ixO2, ixO3, ixL0, ixL1, ixL2, ixC, ixB, ixI0, ixI00, ixI1, ixI2, ixI3, upd2_rd, upd2_nd, Nat.reduceEqDiff, Nat.reduceAdd, Nat.add_left_cancel_iff, Nat.add_right_cancel_iff, reduceCtorEq, ↓reduceIte, and_self, and_true, true_and, and_false, false_and, true_or, or_true, false_or, or_false, not_true_eq_false, not_false_eq_true]); (try simp only [w32_em]); (first | done | omega))) (wp_some rfl)
set_option maxHeartbeats 600000 in
theorem X12in1 {M : Mem} {N : Nat → Int} (hN : M 140 = N) (hW : WF N) {L lim : Int} (hL : 1 ≤ L ∧ L ≤ 6) (hl : 1 ≤ lim ∧ lim ≤ 99999) {o : Nat} (ho : o < (N 4).toNat) {s : Int × Int × Int} (hs : MVs N s) (h12 : R12 M s) : wp (wh (fun x => s_X12_seeksMove_27 L lim (o : Int) (bF N o (N 5).toNat) x.1 x.2.1 x.2.2) (s.1, 0, M)) (fun r => ∃ t : Int × Int × Int, ∃ z : Mem, t = (if bF N o (N 5).toNat = -1 then s else in1 N L lim o (bF N o (N 5).toNat).toNat s (N 5).toNat) ∧ r = .inl (t.1, z) ∧ FSk M z ∧ R12 z t) := by
  have q4 := n4 hW
  have q5 := n5 hW
  have e5 : M 140 5 = N 5 := by rw [hN]
  rcases bF_spec (N := N) (o := o) (n := (N 5).toNat) with ⟨e1, _⟩ | ⟨b, e1, e2, e3⟩
  · rw [e1, if_pos rfl]
    refine wp_unroll ?_
    simp only [s_X12_seeksMove_27]
    by_cases h5 : (0 : Int) < N 5
    · refine wp_ite_t (by ((try simp (disch := omega) only [w32_and, w32_or, w32_shl, w32_shr, w32_xor, ixO, ixO0, ixO1, ixO2, ixO3, ixL0, ixL1, ixL2, ixC, ixB, ixI0, ixI00, ixI1, ixI2, ixI3, upd2_rd, upd2_nd, Nat.reduceEqDiff, Nat.reduceAdd, Nat.add_left_cancel_iff, Nat.add_right_cancel_iff, reduceCtorEq, ↓reduceIte, and_self, and_true, true_and, and_false, false_and, true_or, or_true, false_or, or_false, not_true_eq_false, not_false_eq_true]); (try simp only [w32_em]); (first | done | omega))) (wp_ite_t (by decide) (wp_some ?_))
      exact ⟨s, M, rfl, rfl, ⟨fun _ _ _ _ _ => rfl, fun _ _ => rfl⟩, h12⟩
    · refine wp_ite_f (by ((try simp (disch := omega) only [w32_and, w32_or, w32_shl, w32_shr, w32_xor, ixO, ixO0, ixO1, ixO2, ixO3, ixL0, ixL1, ixL2, ixC, ixB, ixI0, ixI00, ixI1, ixI2, ixI3, upd2_rd, upd2_nd, Nat.reduceEqDiff, Nat.reduceAdd, Nat.add_left_cancel_iff, Nat.add_right_cancel_iff, reduceCtorEq, ↓reduceIte, and_self, and_true, true_and, and_false, false_and, true_or, or_true, false_or, or_false, not_true_eq_false, not_false_eq_true]); (try simp only [w32_em]); (first | done | omega))) (wp_some ?_)
      exact ⟨s, M, rfl, rfl, ⟨fun _ _ _ _ _ => rfl, fun _ _ => rfl⟩, h12⟩
  · rw [e2, if_neg (show ¬ ((b : Nat) : Int) = -1 by omega), Int.toNat_natCast]
    have hb : (b : Int) < N 5 := by omega
    refine wp_forI (fun i x => x.2.1 = (i : Int) ∧ x.1 = (in1 N L lim o b s i).1 ∧ FSk M x.2.2 ∧ R12 x.2.2 (in1 N L lim o b s i)) (N 5).toNat ?_ ?_ (Nat.zero_le _) ⟨rfl, rfl, ⟨fun _ _ _ _ _ => rfl, fun _ _ => rfl⟩, h12⟩
    · rintro c ⟨x1, x2, m⟩ hc ⟨k1, k2, k3, k4⟩
      simp only at k1 k2 k3 k4
      subst k1 k2
      have hc' : (c : Int) < N 5 := by omega
      have mN : m 140 = N := by rw [k3.1 140 (by decide) (by decide) (by decide) (by decide)]; exact hN
      have m5 : m 140 5 = N 5 := by rw [mN]
      have sr := MV_rng hW (MV_in (L := L) (lim := lim) ho e2 hs c (by omega))
      have gr := gnO_rng hW (o := o) (b := b) (c := c)
      have same : ¬ (c ≠ b ∧ tk1 N L lim o c = true) → (((c : Int) + 1 = ((c + 1 : Nat) : Int)) ∧ (in1 N L lim o b s c).1 = (in1 N L lim o b s (c + 1)).1 ∧ FSk M m ∧ R12 m (in1 N L lim o b s (c + 1))) := fun hn => by
        have : in1 N L lim o b s (c + 1) = in1 N L lim o b s c := by
          simp only [in1, stq]
          rw [if_neg (fun h => hn h.1)]
        rw [this]
        exact ⟨by omega, rfl, k3, k4⟩
      simp only [s_X12_seeksMove_27, j_X12_seeksMove_77_27, j_X12_seeksMove_78_27, j_X12_seeksMove_101_27]
      refine wp_ite_t (by ((try simp (disch := omega) only [w32_and, w32_or, w32_shl, w32_shr, w32_xor, ixO, ixO0, ixO1, ixO2, ixO3, ixL0, ixL1, ixL2, ixC, ixB, ixI0, ixI00, ixI1, ixI2, ixI3, upd2_rd, upd2_nd, Nat.reduceEqDiff, Nat.reduceAdd, Nat.add_left_cancel_iff, Nat.add_right_cancel_iff, reduceCtorEq, ↓reduceIte, and_self, and_true, true_and, and_false, false_and, true_or, or_true, false_or, or_false, not_true_eq_false, not_false_eq_true]); (try simp only [w32_em]); (first | done | omega))) (wp_ite_f (by ((try simp (disch := omega) only [w32_and, w32_or, w32_shl, w32_shr, w32_xor, ixO, ixO0, ixO1, ixO2, ixO3, ixL0, ixL1, ixL2, ixC, ixB, ixI0, ixI00, ixI1, ixI2, ixI3, upd2_rd, upd2_nd, Nat.reduceEqDiff, Nat.reduceAdd, Nat.add_left_cancel_iff, Nat.add_right_cancel_iff, reduceCtorEq, ↓reduceIte, and_self, and_true, true_and, and_false, false_and, true_or, or_true, false_or, or_false, not_true_eq_false, not_false_eq_true]); (try simp only [w32_em]); (first | done | omega))) ?_)
      by_cases hcb : c = b
      · refine wp_ite_t (by rw [hcb]) (wp_ite_f (by ((try simp (disch := omega) only [w32_and, w32_or, w32_shl, w32_shr, w32_xor, ixO, ixO0, ixO1, ixO2, ixO3, ixL0, ixL1, ixL2, ixC, ixB, ixI0, ixI00, ixI1, ixI2, ixI3, upd2_rd, upd2_nd, Nat.reduceEqDiff, Nat.reduceAdd, Nat.add_left_cancel_iff, Nat.add_right_cancel_iff, reduceCtorEq, ↓reduceIte, and_self, and_true, true_and, and_false, false_and, true_or, or_true, false_or, or_false, not_true_eq_false, not_false_eq_true]); (try simp only [w32_em]); (first | done | omega))) (wp_bnd (wp_some ?_)))
        exact same (fun h => h.1 hcb)
      · refine wp_ite_f (by ((try simp (disch := omega) only [w32_and, w32_or, w32_shl, w32_shr, w32_xor, ixO, ixO0, ixO1, ixO2, ixO3, ixL0, ixL1, ixL2, ixC, ixB, ixI0, ixI00, ixI1, ixI2, ixI3, upd2_rd, upd2_nd, Nat.reduceEqDiff, Nat.reduceAdd, Nat.add_left_cancel_iff, Nat.add_right_cancel_iff, reduceCtorEq, ↓reduceIte, and_self, and_true, true_and, and_false, false_and, true_or, or_true, false_or, or_false, not_true_eq_false, not_false_eq_true]); (try simp only [w32_em]); (first | done | omega))) (wp_cl1 (wp_eq (X12takes mN hW hL hl ho hc') ?_))
        cases tk : tk1 N L lim o c
        · refine wp_ite_t (by decide) (wp_ite_f (by ((try simp (disch := omega) only [w32_and, w32_or, w32_shl, w32_shr, w32_xor, ixO, ixO0, ixO1, ixO2, ixO3, ixL0, ixL1, ixL2, ixC, ixB, ixI0, ixI00, ixI1, ixI2, ixI3, upd2_rd, upd2_nd, Nat.reduceEqDiff, Nat.reduceAdd, Nat.add_left_cancel_iff, Nat.add_right_cancel_iff, reduceCtorEq, ↓reduceIte, and_self, and_true, true_and, and_false, false_and, true_or, or_true, false_or, or_false, not_true_eq_false, not_false_eq_true]); (try simp only [w32_em]); (first | done | omega))) (wp_bnd (wp_some ?_)))
          exact same (fun h => by rw [tk] at h; exact absurd h.2 (by decide))
        · refine wp_ite_f (by decide) (wp_cl2 (wp_use (X12gain mN hW ho hb hc') (fun v hv => ?_)))
          obtain ⟨v1, v2, v3, v4⟩ := hv
          rw [v1]
          by_cases g : (in1 N L lim o b s c).1 < gnO N o b c
          · have up : in1 N L lim o b s (c + 1) = (gnO N o b c, (o : Int), (c : Int)) := by
              simp only [in1, stq]
              rw [if_pos ⟨⟨hcb, tk⟩, g⟩]
            refine wp_ite_t (by ((try simp (disch := omega) only [w32_and, w32_or, w32_shl, w32_shr, w32_xor, ixO, ixO0, ixO1, ixO2, ixO3, ixL0, ixL1, ixL2, ixC, ixB, ixI0, ixI00, ixI1, ixI2, ixI3, upd2_rd, upd2_nd, Nat.reduceEqDiff, Nat.reduceAdd, Nat.add_left_cancel_iff, Nat.add_right_cancel_iff, reduceCtorEq, ↓reduceIte, and_self, and_true, true_and, and_false, false_and, true_or, or_true, false_or, or_false, not_true_eq_false, not_false_eq_true]); (try simp only [w32_em]); (first | done | omega))) (wp_bnd (wp_bnd (wp_bnd (wp_some ?_))))
            refine ⟨by (try dsimp only); omega, by rw [up], k3.tr (v2.tr ⟨fun a a1 a2 a3 a4 => ?_, fun k hk => ?_⟩), ?_⟩
            · dsimp only
              rw [upd2_ne a1, upd2_ne a1]
            · dsimp only
              rw [upd2_row (by omega), upd2_row (by omega)]
            · rw [up]
              intro _
              try dsimp only
              exact ⟨by simp only [upd2_rd, upd2_nd, Nat.reduceEqDiff, Nat.reduceAdd, Nat.add_left_cancel_iff, Nat.add_right_cancel_iff, reduceCtorEq, ↓reduceIte, and_self, and_true, true_and, and_false, false_and, true_or, or_true, false_or, or_false, not_true_eq_false, not_false_eq_true], by simp only [upd2_rd, upd2_nd, Nat.reduceEqDiff, Nat.reduceAdd, Nat.add_left_cancel_iff, Nat.add_right_cancel_iff, reduceCtorEq, ↓reduceIte, and_self, and_true, true_and, and_false, false_and, true_or, or_true, false_or, or_false, not_true_eq_false, not_false_eq_true]⟩
          · have up : in1 N L lim o b s (c + 1) = in1 N L lim o b s c := by
              simp only [in1, stq]
              rw [if_neg (fun h => g h.2)]
            refine wp_ite_f (by ((try simp (disch := omega) only [w32_and, w32_or, w32_shl, w32_shr, w32_xor, ixO, ixO0, ixO1, ixO2, ixO3, ixL0, ixL1, ixL2, ixC, ixB, ixI0, ixI00, ixI1, ixI2, ixI3, upd2_rd, upd2_nd, Nat.reduceEqDiff, Nat.reduceAdd, Nat.add_left_cancel_iff, Nat.add_right_cancel_iff, reduceCtorEq, ↓reduceIte, and_self, and_true, true_and, and_false, false_and, true_or, or_true, false_or, or_false, not_true_eq_false, not_false_eq_true]); (try simp only [w32_em]); (first | done | omega))) (wp_bnd (wp_some ?_))
            refine ⟨by (try dsimp only); omega, by rw [up], k3.tr v2, ?_⟩
            rw [up]
            intro h
            try dsimp only
            rw [v3, v4]
            exact k4 h
    · rintro ⟨x1, x2, m⟩ ⟨k1, k2, k3, k4⟩
      simp only at k1 k2 k3 k4
      subst k1 k2
      have mN : m 140 = N := by rw [k3.1 140 (by decide) (by decide) (by decide) (by decide)]; exact hN
      have m5 : m 140 5 = N 5 := by rw [mN]
      simp only [s_X12_seeksMove_27]
      refine wp_ite_f (by ((try simp (disch := omega) only [w32_and, w32_or, w32_shl, w32_shr, w32_xor, ixO, ixO0, ixO1, ixO2, ixO3, ixL0, ixL1, ixL2, ixC, ixB, ixI0, ixI00, ixI1, ixI2, ixI3, upd2_rd, upd2_nd, Nat.reduceEqDiff, Nat.reduceAdd, Nat.add_left_cancel_iff, Nat.add_right_cancel_iff, reduceCtorEq, ↓reduceIte, and_self, and_true, true_and, and_false, false_and, true_or, or_true, false_or, or_false, not_true_eq_false, not_false_eq_true]); (try simp only [w32_em]); (first | done | omega))) (wp_some ?_)
      exact ⟨_, m, rfl, rfl, k3, k4⟩
set_option maxHeartbeats 600000 in
theorem X12seek {M : Mem} {N : Nat → Int} (hN : M 140 = N) (hW : WF N) {L lim : Int} (hL : 1 ≤ L ∧ L ≤ 6) (hl : 1 ≤ lim ∧ lim ≤ 99999) : wp (f_X12_seeksMove L lim M) (fun r => r.1 = (if 0 < (ou1 N L lim (N 4).toNat).1 then 1 else 0) ∧ FSk M r.2 ∧ R12 r.2 (ou1 N L lim (N 4).toNat)) := by
  have q4 := n4 hW
  unfold f_X12_seeksMove
  refine wp_lpb (wp_forI (fun i x => x.2.1 = (i : Int) ∧ x.1 = (ou1 N L lim i).1 ∧ FSk M x.2.2 ∧ R12 x.2.2 (ou1 N L lim i)) (N 4).toNat ?_ ?_ (Nat.zero_le _) ⟨rfl, rfl, ⟨fun _ _ _ _ _ => rfl, fun _ _ => rfl⟩, fun h => absurd h (Int.lt_irrefl 0)⟩)
  · rintro i ⟨x1, x2, m⟩ hi ⟨k1, k2, k3, k4⟩
    simp only at k1 k2 k3 k4
    subst k1 k2
    have mN : m 140 = N := by rw [k3.1 140 (by decide) (by decide) (by decide) (by decide)]; exact hN
    have m4 : m 140 4 = N 4 := by rw [mN]
    simp only [s_X12_seeksMove_5, j_X12_seeksMove_107_5]
    refine wp_ite_t (by ((try simp (disch := omega) only [w32_and, w32_or, w32_shl, w32_shr, w32_xor, ixO, ixO0, ixO1, ixO2, ixO3, ixL0, ixL1, ixL2, ixC, ixB, ixI0, ixI00, ixI1, ixI2, ixI3, upd2_rd, upd2_nd, Nat.reduceEqDiff, Nat.reduceAdd, Nat.add_left_cancel_iff, Nat.add_right_cancel_iff, reduceCtorEq, ↓reduceIte, and_self, and_true, true_and, and_false, false_and, true_or, or_true, false_or, or_false, not_true_eq_false, not_false_eq_true]); (try simp only [w32_em]); (first | done | omega))) (wp_cl1 (wp_eq (X12of mN hW (show i < 31 by omega)) (wp_lpb (wp_use (X12in1 mN hW hL hl hi (MV_ou i (by omega)) k4) (fun r hr => ?_)))))
    obtain ⟨t, z, ht, rfl, z1, z2⟩ := hr
    dsimp only [Sum.elim_inl, Sum.elim_inr]
    refine wp_bnd (wp_some ?_)
    have up : ou1 N L lim (i + 1) = t := by rw [ht]; rfl
    refine ⟨by (try dsimp only); omega, by rw [up], k3.tr z1, by rw [up]; exact z2⟩
  · rintro ⟨x1, x2, m⟩ ⟨k1, k2, k3, k4⟩
    simp only at k1 k2 k3 k4
    subst k1 k2
    have mN : m 140 = N := by rw [k3.1 140 (by decide) (by decide) (by decide) (by decide)]; exact hN
    have m4 : m 140 4 = N 4 := by rw [mN]
    have sr := MV_rng hW (MV_ou (N := N) (L := L) (lim := lim) (N 4).toNat (Nat.le_refl _))
    simp only [s_X12_seeksMove_5]
    refine wp_ite_f (by ((try simp (disch := omega) only [w32_and, w32_or, w32_shl, w32_shr, w32_xor, ixO, ixO0, ixO1, ixO2, ixO3, ixL0, ixL1, ixL2, ixC, ixB, ixI0, ixI00, ixI1, ixI2, ixI3, upd2_rd, upd2_nd, Nat.reduceEqDiff, Nat.reduceAdd, Nat.add_left_cancel_iff, Nat.add_right_cancel_iff, reduceCtorEq, ↓reduceIte, and_self, and_true, true_and, and_false, false_and, true_or, or_true, false_or, or_false, not_true_eq_false, not_false_eq_true]); (try simp only [w32_em]); (first | done | omega))) (wp_some ?_)
    dsimp only [Sum.elim_inl, Sum.elim_inr]
    by_cases g : 0 < (ou1 N L lim (N 4).toNat).1
    · rw [if_pos g]
      exact wp_ite_t (by ((try simp (disch := omega) only [w32_and, w32_or, w32_shl, w32_shr, w32_xor, ixO, ixO0, ixO1, ixO2, ixO3, ixL0, ixL1, ixL2, ixC, ixB, ixI0, ixI00, ixI1, ixI2, ixI3, upd2_rd, upd2_nd, Nat.reduceEqDiff, Nat.reduceAdd, Nat.add_left_cancel_iff, Nat.add_right_cancel_iff, reduceCtorEq, ↓reduceIte, and_self, and_true, true_and, and_false, false_and, true_or, or_true, false_or, or_false, not_true_eq_false, not_false_eq_true]); (try simp only [w32_em]); (first | done | omega))) (wp_some ⟨rfl, k3, k4⟩)
    · rw [if_neg g]
      exact wp_ite_f (by ((try simp (disch := omega) only [w32_and, w32_or, w32_shl, w32_shr, w32_xor, ixO, ixO0, ixO1, ixO2, ixO3, ixL0, ixL1, ixL2, ixC, ixB, ixI0, ixI00, ixI1, ixI2, ixI3, upd2_rd, upd2_nd, Nat.reduceEqDiff, Nat.reduceAdd, Nat.add_left_cancel_iff, Nat.add_right_cancel_iff, reduceCtorEq, ↓reduceIte, and_self, and_true, true_and, and_false, false_and, true_or, or_true, false_or, or_false, not_true_eq_false, not_false_eq_true]); (try simp only [w32_em]); (first | done | omega))) (wp_some ⟨rfl, k3, k4⟩)
