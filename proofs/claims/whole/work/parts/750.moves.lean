-- ===== moves of orders between batches: the best one =====
set_option maxHeartbeats 600000 in
theorem lnZ_rng2 {N : Nat → Int} (hW : WF N) {x : Int} {z : Nat} (hz : (z : Int) < zns N) {pol : Int} : 0 ≤ lnZ N x z pol ∧ lnZ N x z pol ≤ 390 := by
  have hw := hW.1
  have hv := vz_VL (x := x) hW hz
  have h6 := hv.1
  unfold lnZ
  split
  · omega
  · rename_i q
    have hk : (vz N x z).length - 1 < (vz N x z).length := by omega
    have m := vz_mem hW hz (a := (vz N x z).getD ((vz N x z).length - 1) 0) (by rw [gD hk]; exact List.getElem_mem hk)
    have zr := z_rng hW hz
    have lc : 0 ≤ lnC N x (vz N x z) pol ∧ lnC N x (vz N x z) pol ≤ 300 := by
      unfold lnC
      split
      · have := ssS_rng (x := x) hW h6 (by omega); omega
      · split
        · exact gaS_rng hW h6
        · split
          · have := cW_pos hW hv; omega
          · have := rtS_rng (x := x) hW h6; omega
    obtain ⟨d, hd⟩ : ∃ d : Nat, (((vz N x z).getD ((vz N x z).length - 1) 0 : Nat) : Int) - zF N z = (d : Int) := ⟨((((vz N x z).getD ((vz N x z).length - 1) 0 : Nat) : Int) - zF N z).toNat, by omega⟩
    rw [hd]
    have hd6 : d ≤ 5 := by omega
    rcases (show d = 0 ∨ d = 1 ∨ d = 2 ∨ d = 3 ∨ d = 4 ∨ d = 5 by omega) with rfl | rfl | rfl | rfl | rfl | rfl <;> simp <;> omega
set_option maxHeartbeats 600000 in
theorem lf_rng {N : Nat → Int} (hW : WF N) {m pol : Int} : 0 ≤ lfS N m pol ∧ lfS N m pol ≤ 1170 := by
  have c := zn_rng N
  have := sm_bd (g := fun z => lnZ N (IM N m) z pol) (n := (zns N).toNat) (B := 390) (by omega) (fun z hz => lnZ_rng2 hW (by omega))
  unfold lfS
  omega
set_option maxHeartbeats 600000 in
theorem sm_upv {f g : Nat → Int} {o : Nat} {v : Int} (h : ∀ k, k ≠ o → f k = g k) (ho : f o = g o + v) : ∀ n : Nat, sm f n = sm g n + (if o < n then v else 0) := by
  intro n
  induction n with
  | zero => rfl
  | succ n ih =>
    simp only [sm]
    rw [ih]
    by_cases e : n = o
    · subst e
      rw [ho, if_neg (by omega), if_pos (by omega)]; omega
    · rw [h n e]
      by_cases l : o < n
      · rw [if_pos l, if_pos (by omega)]; omega
      · rw [if_neg l, if_neg (by omega)]; omega
set_option maxHeartbeats 600000 in
theorem wA_or {N : Nat → Int} (hW : WF N) {m : Int} (hm : NN m) {o : Nat} (ho : (o : Int) < N 4) (hb : bit m o = false) : wA N (i_or m (i_shl 1 (o : Int))) = wA N m + wO N o := by
  have q4 := n4 hW
  have s := shl_bits (show o < 31 by omega)
  have r := or_bits hm s.1
  unfold wA
  rw [sm_upv (f := fun k => if bit (i_or m (i_shl 1 (o : Int))) k = true then wO N k else 0) (g := fun k => if bit m k = true then wO N k else 0) (o := o) (v := wO N o) (fun k hk => by (try dsimp only); rw [r.2, s.2, decide_eq_false hk, Bool.or_false]) (by (try dsimp only); rw [r.2, s.2, hb]; simp), if_pos (by omega)]
/-- may order o come into batch c -/
def tk1 (N : Nat → Int) (L lim : Int) (o c : Nat) : Bool := decide (one (N (461 + c)) < L ∧ wA N (N (461 + c)) + wO N o ≤ lim)
/-- what is gained when order o goes from batch b to batch c -/
def gnO (N : Nat → Int) (o b c : Nat) : Int := lfS N (N (461 + b)) (N 6) + lfS N (N (461 + c)) (N 6) - lfS N (wo (N (461 + b)) (i_shl 1 (o : Int))) (N 6) - lfS N (i_or (N (461 + c)) (i_shl 1 (o : Int))) (N 6)
def stq (N : Nat → Int) (L lim : Int) (o b c : Nat) (s : Int × Int × Int) : Int × Int × Int := if (c ≠ b ∧ tk1 N L lim o c = true) ∧ s.1 < gnO N o b c then (gnO N o b c, (o : Int), (c : Int)) else s
def in1 (N : Nat → Int) (L lim : Int) (o b : Nat) (s : Int × Int × Int) : Nat → Int × Int × Int
  | 0 => s
  | n + 1 => stq N L lim o b n (in1 N L lim o b s n)
def ou1 (N : Nat → Int) (L lim : Int) : Nat → Int × Int × Int
  | 0 => (0, 0, 0)
  | n + 1 => if bF N n (N 5).toNat = -1 then ou1 N L lim n else in1 N L lim n (bF N n (N 5).toNat).toNat (ou1 N L lim n) (N 5).toNat
/-- a move that may be made -/
def MVs (N : Nat → Int) (s : Int × Int × Int) : Prop := s.1 = 0 ∨ (0 < s.1 ∧ ∃ o b c : Nat, s = (gnO N o b c, (o : Int), (c : Int)) ∧ o < (N 4).toNat ∧ bF N o (N 5).toNat = (b : Int) ∧ b < (N 5).toNat ∧ bit (N (461 + b)) o = true ∧ c < (N 5).toNat ∧ c ≠ b)
set_option maxHeartbeats 600000 in
theorem MV0 {N : Nat → Int} {s : Int × Int × Int} (h : MVs N s) : 0 ≤ s.1 := by
  rcases h with h | ⟨h, _⟩ <;> omega
set_option maxHeartbeats 600000 in
theorem gnO_rng {N : Nat → Int} (hW : WF N) {o b c : Nat} : -2340 ≤ gnO N o b c ∧ gnO N o b c ≤ 2340 := by
  have a1 := lf_rng hW (m := N (461 + b)) (pol := N 6)
  have a2 := lf_rng hW (m := N (461 + c)) (pol := N 6)
  have a3 := lf_rng hW (m := wo (N (461 + b)) (i_shl 1 (o : Int))) (pol := N 6)
  have a4 := lf_rng hW (m := i_or (N (461 + c)) (i_shl 1 (o : Int))) (pol := N 6)
  unfold gnO
  omega
set_option maxHeartbeats 600000 in
theorem MV_rng {N : Nat → Int} (hW : WF N) {s : Int × Int × Int} (h : MVs N s) : 0 ≤ s.1 ∧ s.1 ≤ 2340 := by
  rcases h with h | ⟨h, o, b, c, e, _⟩
  · omega
  · have := gnO_rng hW (o := o) (b := b) (c := c)
    rw [e] at h ⊢
    exact ⟨by dsimp only at h ⊢; omega, this.2⟩
set_option maxHeartbeats 600000 in
theorem MV_in {N : Nat → Int} {L lim : Int} {o b : Nat} (ho : o < (N 4).toNat) (hb : bF N o (N 5).toNat = (b : Int)) {s : Int × Int × Int} (hs : MVs N s) : ∀ n : Nat, n ≤ (N 5).toNat → MVs N (in1 N L lim o b s n) := by
  intro n
  induction n with
  | zero => intro _; exact hs
  | succ n ih =>
    intro hn
    have i := ih (by omega)
    simp only [in1, stq]
    split
    · rename_i h
      refine Or.inr ⟨by have := MV0 i; dsimp only; omega, o, b, n, rfl, ho, hb, ?_, ?_, by omega, h.1.1⟩
      · rcases bF_spec (N := N) (o := o) (n := (N 5).toNat) with ⟨e, _⟩ | ⟨b', e1, e2, e3⟩
        · omega
        · omega
      · rcases bF_spec (N := N) (o := o) (n := (N 5).toNat) with ⟨e, _⟩ | ⟨b', e1, e2, e3⟩
        · omega
        · rw [show b = b' by omega]; exact e3
    · exact i
set_option maxHeartbeats 600000 in
theorem MV_ou {N : Nat → Int} {L lim : Int} : ∀ n : Nat, n ≤ (N 4).toNat → MVs N (ou1 N L lim n) := by
  intro n
  induction n with
  | zero => intro _; exact Or.inl rfl
  | succ n ih =>
    intro hn
    have i := ih (by omega)
    simp only [ou1]
    split
    · exact i
    · rcases bF_spec (N := N) (o := n) (n := (N 5).toNat) with ⟨e, _⟩ | ⟨b, e1, e2, e3⟩
      · exact absurd e (by assumption)
      · rw [e2, Int.toNat_natCast]
        exact MV_in (by omega) e2 i _ (Nat.le_refl _)
/-- the best move so far, where it is kept -/
def R86 (M : Mem) (s : Int × Int × Int) : Prop := M 86 2 = s.1 ∧ (0 < s.1 → M 86 3 = s.2.1 ∧ M 86 4 = s.2.2)
set_option maxHeartbeats 600000 in
theorem X4keep {M : Mem} {s : Int × Int × Int} (h : R86 M s) (hs : 0 ≤ s.1 ∧ s.1 ≤ 2340) {g o c : Int} (hg : -2340 ≤ g ∧ g ≤ 2340) : wp (f_X4_keepBetter g o c M) (fun r => (∀ a, a ≠ 86 → r a = M a) ∧ R86 r (if s.1 < g then (g, o, c) else s)) := by
  have h1 := h.1
  unfold f_X4_keepBetter
  by_cases q : s.1 < g
  · rw [if_pos q]
    refine wp_ite_t (by ((try simp (disch := omega) only [w32_and, w32_or, w32_shl, w32_shr, w32_xor, ixO, ixO0, ixO1, ixO2, ixO3, ixL0, ixL1, ixL2, ixC, ixB, ixI0, ixI00, ixI1, ixI2, ixI3, upd2_rd, upd2_nd, Nat.reduceEqDiff, Nat.reduceAdd, Nat.add_left_cancel_iff, Nat.add_right_cancel_iff, reduceCtorEq, ↓reduceIte, and_self, and_true, true_and, and_false, false_and, true_or, or_true, false_or, or_false, not_true_eq_false, not_false_eq_true]); (try simp only [w32_em]); (first | done | omega))) (wp_bnd (wp_bnd (wp_bnd (wp_some ⟨fun a ha => ?_, ?_, fun _ => ⟨?_, ?_⟩⟩))))
    · rw [upd2_ne ha, upd2_ne ha, upd2_ne ha]
    · simp only [upd2_rd, upd2_nd, Nat.reduceEqDiff, Nat.reduceAdd, Nat.add_left_cancel_iff, Nat.add_right_cancel_iff, reduceCtorEq, ↓reduceIte, and_self, and_true, true_and, and_false, false_and, true_or, or_true, false_or, or_false, not_true_eq_false, not_false_eq_true]
    · simp only [upd2_rd, upd2_nd, Nat.reduceEqDiff, Nat.reduceAdd, Nat.add_left_cancel_iff, Nat.add_right_cancel_iff, reduceCtorEq, ↓reduceIte, and_self, and_true, true_and, and_false, false_and, true_or, or_true, false_or, or_false, not_true_eq_false, not_false_eq_true]
    · simp only [upd2_rd, upd2_nd, Nat.reduceEqDiff, Nat.reduceAdd, Nat.add_left_cancel_iff, Nat.add_right_cancel_iff, reduceCtorEq, ↓reduceIte, and_self, and_true, true_and, and_false, false_and, true_or, or_true, false_or, or_false, not_true_eq_false, not_false_eq_true]
  · rw [if_neg q]
    exact wp_ite_f (by ((try simp (disch := omega) only [w32_and, w32_or, w32_shl, w32_shr, w32_xor, ixO, ixO0, ixO1, ixO2, ixO3, ixL0, ixL1, ixL2, ixC, ixB, ixI0, ixI00, ixI1, ixI2, ixI3, upd2_rd, upd2_nd, Nat.reduceEqDiff, Nat.reduceAdd, Nat.add_left_cancel_iff, Nat.add_right_cancel_iff, reduceCtorEq, ↓reduceIte, and_self, and_true, true_and, and_false, false_and, true_or, or_true, false_or, or_false, not_true_eq_false, not_false_eq_true]); (try simp only [w32_em]); (first | done | omega))) (wp_some ⟨fun _ _ => rfl, h⟩)
/-- the frame of the moves' measures -/
def FM (M r : Mem) : Prop := ∀ a, a < 86 ∨ 95 < a → r a = M a
set_option maxHeartbeats 600000 in
theorem R86_fr {M r : Mem} {s : Int × Int × Int} (e : r 86 = M 86) (h : R86 M s) : R86 r s := by
  unfold R86 at *
  rw [e]
  exact h
set_option maxHeartbeats 600000 in
theorem X4try {M : Mem} {N : Nat → Int} (hR : HR 1 M N) (hW : WF N) {L lim : Int} (hL : 1 ≤ L ∧ L ≤ 6) (hl : 1 ≤ lim ∧ lim ≤ 99999) {o : Nat} (ho : o < (N 4).toNat) (h96 : ∀ c : Nat, (c : Int) < N 5 → M 96 c = lfS N (N (461 + c)) (N 6)) {s : Int × Int × Int} (hs : MVs N s) (h86 : R86 M s) : wp (f_X4_tryMoves 1 (o : Int) L lim M) (fun r => FM M r ∧ R86 r (if bF N o (N 5).toNat = -1 then s else in1 N L lim o (bF N o (N 5).toNat).toNat s (N 5).toNat)) := by
  have q4 := n4 hW
  have q5 := n5 hW
  have hw2 := hW.2.1
  have hA := hR.1
  simp only [Nat.reduceAdd] at hA
  unfold f_X4_tryMoves
  simp only [Nat.reduceAdd]
  refine wp_cl1 (wp_eq (X0with hR hW (show o < 31 by omega)) ?_)
  rcases bF_spec (N := N) (o := o) (n := (N 5).toNat) with ⟨e1, _⟩ | ⟨b, e1, e2, e3⟩
  · rw [e1, if_pos rfl]
    exact wp_ite_t (by decide) (wp_some ⟨fun _ _ => rfl, h86⟩)
  · rw [e2, if_neg (show ¬ ((b : Nat) : Int) = -1 by omega), Int.toNat_natCast]
    have hb : (b : Int) < N 5 := by omega
    have bmb := bmem hW hb
    have xb : ix (b : Int) = b := ix_nat (by omega)
    have e18 : ∀ M' : Mem, HR 1 M' N → ∀ c : Nat, (c : Int) < N 5 → M' 18 c = N (461 + c) := fun M' h c hc => (HR_E h).2 c hc
    have sb := shl_bits (show o < 31 by omega)
    have ab := andn_bits bmb.1 sb.1
    simp only [xb, e18 M hR b hb, hA.2.2.2.2.1, h96 b hb]
    refine wp_ite_f (by ((try simp (disch := omega) only [w32_and, w32_or, w32_shl, w32_shr, w32_xor, ixO, ixO0, ixO1, ixO2, ixO3, ixL0, ixL1, ixL2, ixC, ixB, ixI0, ixI00, ixI1, ixI2, ixI3, upd2_rd, upd2_nd, Nat.reduceEqDiff, Nat.reduceAdd, Nat.add_left_cancel_iff, Nat.add_right_cancel_iff, reduceCtorEq, ↓reduceIte, and_self, and_true, true_and, and_false, false_and, true_or, or_true, false_or, or_false, not_true_eq_false, not_false_eq_true]); (try simp only [w32_em]); (first | done | omega))) (wp_gi (by omega) (by omega) (by omega) (wp_bnd (wp_gi (by omega) (by omega) (by omega) (wp_cl2 (wp_use (X6for (th := 87) (by omega) hR hW ab.1 (by omega)) (fun r hr => wp_bnd ?_))))))
    obtain ⟨r1, r2⟩ := hr
    rw [r1]
    have fr0 : FM M r.2 := fun a ha => r2 a (by omega)
    refine wp_lpb (wp_forI (fun i x => x.1 = (i : Int) ∧ FM M x.2 ∧ R86 x.2 (in1 N L lim o b s i)) (N 5).toNat ?_ ?_ (Nat.zero_le _) ⟨rfl, fr0, R86_fr (r2 86 (by omega)) h86⟩)
    · rintro c ⟨x, m⟩ hc ⟨k1, k2, k3⟩
      simp only at k1 k2 k3
      subst k1
      have hc' : (c : Int) < N 5 := by omega
      have hRm : HR 1 m N := HR_fr (th := 40) (by omega) hR (fun a ha => k2 a (by omega))
      have m5 : m 17 0 = N 5 := (HR_E hRm).1
      have m6 : m 2 5 = N 6 := by rw [k2 2 (by omega)]; exact hA.2.2.2.2.1
      have m96 : m 96 c = lfS N (N (461 + c)) (N 6) := by rw [k2 96 (by omega)]; exact h96 c hc'
      have xc : ix (c : Int) = c := ix_nat (by omega)
      have bmc := bmem hW hc'
      have ob := or_bits bmc.1 sb.1
      have olt0 := bit_lt (n := 16) ob.1 (by omega) (fun k hk => by rw [ob.2, sb.2, bmc.2 k (by omega), decide_eq_false (by omega)]; rfl)
      have olt : i_or (N (461 + c)) (i_shl 1 (o : Int)) < 65536 := by omega
      have or1 := one_rng (a := i_or (N (461 + c)) (i_shl 1 (o : Int)))
      have wr1 := wA_rng hW (m := i_or (N (461 + c)) (i_shl 1 (o : Int)))
      have sr := MV_rng hW (MV_in (L := L) (lim := lim) ho e2 hs c (by omega))
      have same : ¬ (c ≠ b ∧ tk1 N L lim o c = true) → wp (some (Sum.inl ((c : Int) + 1, m)) : Option ((Int × Mem) ⊕ ((Mem) ⊕ (Mem)))) (Sum.elim (fun y => y.1 = ((c + 1 : Nat) : Int) ∧ FM M y.2 ∧ R86 y.2 (in1 N L lim o b s (c + 1))) (fun a => wp (Sum.elim (fun z_22 => some z_22) (fun q => some q) a) (fun r => FM M r ∧ R86 r (in1 N L lim o b s (N 5).toNat)))) := fun hn => by
        refine wp_some ⟨by (try dsimp only); omega, k2, ?_⟩
        simp only [in1, stq]
        rw [if_neg (fun h => hn h.1)]
        exact k3
      simp only [s_X4_tryMoves_65, j_X4_tryMoves_117_65, j_X4_tryMoves_118_65, j_X4_tryMoves_171_65, Nat.reduceAdd, xc, e18 m hRm c hc', m6]
      refine wp_ite_t (by ((try simp (disch := omega) only [w32_and, w32_or, w32_shl, w32_shr, w32_xor, ixO, ixO0, ixO1, ixO2, ixO3, ixL0, ixL1, ixL2, ixC, ixB, ixI0, ixI00, ixI1, ixI2, ixI3, upd2_rd, upd2_nd, Nat.reduceEqDiff, Nat.reduceAdd, Nat.add_left_cancel_iff, Nat.add_right_cancel_iff, reduceCtorEq, ↓reduceIte, and_self, and_true, true_and, and_false, false_and, true_or, or_true, false_or, or_false, not_true_eq_false, not_false_eq_true]); (try simp only [w32_em]); (first | done | omega))) (wp_gi (by omega) (by omega) (by omega) (wp_bnd (wp_cl1 (wp_eq (bc16 ob.1.1 olt) ?_))))
      by_cases hcb : c = b
      · have sm1 := same (fun h => h.1 hcb)
        refine wp_ite (fun _ => ?_) (fun _ => ?_)
        · exact wp_ite_t (by rw [hcb]) (wp_bnd sm1)
        · refine wp_cl1 (wp_eq (X1wA hRm hW ob.1) ?_)
          refine wp_ite (fun _ => ?_) (fun _ => ?_)
          · exact wp_ite_t (by rw [hcb]) (wp_bnd sm1)
          · exact wp_ite_t (by rw [hcb]) (wp_bnd sm1)
      · have nbit : bit (N (461 + c)) o = false := (hW.2.2.2.2.2.1 b hb).2.2.2 c hc' hcb o e3
        have o1 := one_or bmc.1 (show o < 16 by omega) nbit
        have w1 := wA_or hW bmc.1 (show (o : Int) < N 4 by omega) nbit
        by_cases t1 : L < one (i_or (N (461 + c)) (i_shl 1 (o : Int)))
        · have sm1 := same (fun h => by have := h.2; unfold tk1 at this; rw [decide_eq_true_eq] at this; omega)
          exact wp_ite_t (by ((try simp (disch := omega) only [w32_and, w32_or, w32_shl, w32_shr, w32_xor, ixO, ixO0, ixO1, ixO2, ixO3, ixL0, ixL1, ixL2, ixC, ixB, ixI0, ixI00, ixI1, ixI2, ixI3, upd2_rd, upd2_nd, Nat.reduceEqDiff, Nat.reduceAdd, Nat.add_left_cancel_iff, Nat.add_right_cancel_iff, reduceCtorEq, ↓reduceIte, and_self, and_true, true_and, and_false, false_and, true_or, or_true, false_or, or_false, not_true_eq_false, not_false_eq_true]); (try simp only [w32_em]); (first | done | omega))) (wp_ite_f (by ((try simp (disch := omega) only [w32_and, w32_or, w32_shl, w32_shr, w32_xor, ixO, ixO0, ixO1, ixO2, ixO3, ixL0, ixL1, ixL2, ixC, ixB, ixI0, ixI00, ixI1, ixI2, ixI3, upd2_rd, upd2_nd, Nat.reduceEqDiff, Nat.reduceAdd, Nat.add_left_cancel_iff, Nat.add_right_cancel_iff, reduceCtorEq, ↓reduceIte, and_self, and_true, true_and, and_false, false_and, true_or, or_true, false_or, or_false, not_true_eq_false, not_false_eq_true]); (try simp only [w32_em]); (first | done | omega))) (wp_ite_t (by decide) (wp_bnd sm1)))
        · refine wp_ite_f (by ((try simp (disch := omega) only [w32_and, w32_or, w32_shl, w32_shr, w32_xor, ixO, ixO0, ixO1, ixO2, ixO3, ixL0, ixL1, ixL2, ixC, ixB, ixI0, ixI00, ixI1, ixI2, ixI3, upd2_rd, upd2_nd, Nat.reduceEqDiff, Nat.reduceAdd, Nat.add_left_cancel_iff, Nat.add_right_cancel_iff, reduceCtorEq, ↓reduceIte, and_self, and_true, true_and, and_false, false_and, true_or, or_true, false_or, or_false, not_true_eq_false, not_false_eq_true]); (try simp only [w32_em]); (first | done | omega))) (wp_cl1 (wp_eq (X1wA hRm hW ob.1) ?_))
          by_cases t2 : lim < wA N (i_or (N (461 + c)) (i_shl 1 (o : Int)))
          · have sm1 := same (fun h => by have := h.2; unfold tk1 at this; rw [decide_eq_true_eq] at this; omega)
            exact wp_ite_t (by ((try simp (disch := omega) only [w32_and, w32_or, w32_shl, w32_shr, w32_xor, ixO, ixO0, ixO1, ixO2, ixO3, ixL0, ixL1, ixL2, ixC, ixB, ixI0, ixI00, ixI1, ixI2, ixI3, upd2_rd, upd2_nd, Nat.reduceEqDiff, Nat.reduceAdd, Nat.add_left_cancel_iff, Nat.add_right_cancel_iff, reduceCtorEq, ↓reduceIte, and_self, and_true, true_and, and_false, false_and, true_or, or_true, false_or, or_false, not_true_eq_false, not_false_eq_true]); (try simp only [w32_em]); (first | done | omega))) (wp_ite_f (by ((try simp (disch := omega) only [w32_and, w32_or, w32_shl, w32_shr, w32_xor, ixO, ixO0, ixO1, ixO2, ixO3, ixL0, ixL1, ixL2, ixC, ixB, ixI0, ixI00, ixI1, ixI2, ixI3, upd2_rd, upd2_nd, Nat.reduceEqDiff, Nat.reduceAdd, Nat.add_left_cancel_iff, Nat.add_right_cancel_iff, reduceCtorEq, ↓reduceIte, and_self, and_true, true_and, and_false, false_and, true_or, or_true, false_or, or_false, not_true_eq_false, not_false_eq_true]); (try simp only [w32_em]); (first | done | omega))) (wp_ite_t (by decide) (wp_bnd sm1)))
          · have tk : tk1 N L lim o c = true := by unfold tk1; rw [decide_eq_true_eq]; omega
            refine wp_ite_f (by ((try simp (disch := omega) only [w32_and, w32_or, w32_shl, w32_shr, w32_xor, ixO, ixO0, ixO1, ixO2, ixO3, ixL0, ixL1, ixL2, ixC, ixB, ixI0, ixI00, ixI1, ixI2, ixI3, upd2_rd, upd2_nd, Nat.reduceEqDiff, Nat.reduceAdd, Nat.add_left_cancel_iff, Nat.add_right_cancel_iff, reduceCtorEq, ↓reduceIte, and_self, and_true, true_and, and_false, false_and, true_or, or_true, false_or, or_false, not_true_eq_false, not_false_eq_true]); (try simp only [w32_em]); (first | done | omega))) (wp_ite_f (by ((try simp (disch := omega) only [w32_and, w32_or, w32_shl, w32_shr, w32_xor, ixO, ixO0, ixO1, ixO2, ixO3, ixL0, ixL1, ixL2, ixC, ixB, ixI0, ixI00, ixI1, ixI2, ixI3, upd2_rd, upd2_nd, Nat.reduceEqDiff, Nat.reduceAdd, Nat.add_left_cancel_iff, Nat.add_right_cancel_iff, reduceCtorEq, ↓reduceIte, and_self, and_true, true_and, and_false, false_and, true_or, or_true, false_or, or_false, not_true_eq_false, not_false_eq_true]); (try simp only [w32_em]); (first | done | omega))) (wp_ite_f (by decide) (wp_cl2 (wp_use (X6for (th := 87) (by omega) hRm hW ob.1 (by omega)) (fun v hv => ?_)))))
            obtain ⟨v1, v2⟩ := hv
            have v96 : v.2 96 c = lfS N (N (461 + c)) (N 6) := by rw [v2 96 (by omega)]; exact m96
            rw [v1, v96]
            have ge : lfS N (N (461 + b)) (N 6) - lfS N (i_and (N (461 + b)) (i_xor (i_shl 1 (o : Int)) (-1))) (N 6) - (lfS N (i_or (N (461 + c)) (i_shl 1 (o : Int))) (N 6) - lfS N (N (461 + c)) (N 6)) = gnO N o b c := by
              show _ = lfS N (N (461 + b)) (N 6) + lfS N (N (461 + c)) (N 6) - lfS N (i_and (N (461 + b)) (i_xor (i_shl 1 (o : Int)) (-1))) (N 6) - lfS N (i_or (N (461 + c)) (i_shl 1 (o : Int))) (N 6)
              omega
            refine wp_gi (by omega) (by omega) (by omega) (wp_bnd ?_)
            rw [ge]
            refine wp_cl1 (wp_use (X4keep (R86_fr (v2 86 (by omega)) k3) sr (gnO_rng hW)) (fun w hw => wp_bnd (wp_some ?_)))
            refine ⟨by (try dsimp only); omega, fun a ha => ?_, ?_⟩
            · dsimp only
              rw [hw.1 a (by omega), v2 a (by omega)]
              exact k2 a ha
            · simp only [in1, stq]
              by_cases g : (in1 N L lim o b s c).1 < gnO N o b c
              · rw [if_pos ⟨⟨hcb, tk⟩, g⟩]
                have := hw.2
                rw [if_pos g] at this
                exact this
              · rw [if_neg (fun h => g h.2)]
                have := hw.2
                rw [if_neg g] at this
                exact this
    · rintro ⟨x, m⟩ ⟨k1, k2, k3⟩
      simp only at k1 k2 k3
      subst k1
      have hRm : HR 1 m N := HR_fr (th := 40) (by omega) hR (fun a ha => k2 a (by omega))
      have m5 : m 17 0 = N 5 := (HR_E hRm).1
      simp only [s_X4_tryMoves_65, Nat.reduceAdd]
      refine wp_ite_f (by ((try simp (disch := omega) only [w32_and, w32_or, w32_shl, w32_shr, w32_xor, ixO, ixO0, ixO1, ixO2, ixO3, ixL0, ixL1, ixL2, ixC, ixB, ixI0, ixI00, ixI1, ixI2, ixI3, upd2_rd, upd2_nd, Nat.reduceEqDiff, Nat.reduceAdd, Nat.add_left_cancel_iff, Nat.add_right_cancel_iff, reduceCtorEq, ↓reduceIte, and_self, and_true, true_and, and_false, false_and, true_or, or_true, false_or, or_false, not_true_eq_false, not_false_eq_true]); (try simp only [w32_em]); (first | done | omega))) (wp_some ?_)
      dsimp only [Sum.elim_inl, Sum.elim_inr]
      exact wp_some ⟨k2, k3⟩
set_option maxHeartbeats 600000 in
theorem X4meas {M : Mem} {N : Nat → Int} (hR : HR 1 M N) (hW : WF N) : wp (f_X4_measureBatches 1 M) (fun r => (∀ a, a < 87 ∨ 96 < a → r a = M a) ∧ ∀ c : Nat, (c : Int) < N 5 → r 96 c = lfS N (N (461 + c)) (N 6)) := by
  have q5 := n5 hW
  have hw2 := hW.2.1
  have hA := hR.1
  simp only [Nat.reduceAdd] at hA
  unfold f_X4_measureBatches
  refine wp_lpb (wp_forI (fun i x => x.1 = (i : Int) ∧ (∀ a, a < 87 ∨ 96 < a → x.2 a = M a) ∧ ∀ c : Nat, c < i → x.2 96 c = lfS N (N (461 + c)) (N 6)) (N 5).toNat ?_ ?_ (Nat.zero_le _) ⟨rfl, fun _ _ => rfl, fun c hc => by omega⟩)
  · rintro i ⟨x, m⟩ hi ⟨k1, k2, k3⟩
    simp only at k1 k2 k3
    subst k1
    have hi' : (i : Int) < N 5 := by omega
    have hRm : HR 1 m N := HR_fr (th := 40) (by omega) hR (fun a ha => k2 a (by omega))
    have m5 : m 17 0 = N 5 := (HR_E hRm).1
    have m18 : m 18 i = N (461 + i) := (HR_E hRm).2 i hi'
    have m6 : m 2 5 = N 6 := by rw [k2 2 (by omega)]; exact hA.2.2.2.2.1
    have xi : ix (i : Int) = i := ix_nat (by omega)
    simp only [s_X4_measureBatches_2, Nat.reduceAdd, xi, m18, m6]
    refine wp_ite_t (by ((try simp (disch := omega) only [w32_and, w32_or, w32_shl, w32_shr, w32_xor, ixO, ixO0, ixO1, ixO2, ixO3, ixL0, ixL1, ixL2, ixC, ixB, ixI0, ixI00, ixI1, ixI2, ixI3, upd2_rd, upd2_nd, Nat.reduceEqDiff, Nat.reduceAdd, Nat.add_left_cancel_iff, Nat.add_right_cancel_iff, reduceCtorEq, ↓reduceIte, and_self, and_true, true_and, and_false, false_and, true_or, or_true, false_or, or_false, not_true_eq_false, not_false_eq_true]); (try simp only [w32_em]); (first | done | omega))) (wp_gi (by omega) (by omega) (by omega) (wp_cl2 (wp_use (X6for (th := 87) (by omega) hRm hW (bmem hW hi').1 (by omega)) (fun v hv => wp_gi (by omega) (by omega) (by omega) (wp_bnd (wp_bnd (wp_some ?_)))))))
    obtain ⟨v1, v2⟩ := hv
    refine ⟨by (try dsimp only); omega, fun a ha => ?_, fun c hc => ?_⟩
    · dsimp only
      rw [upd2_ne (by omega), v2 a (by omega)]
      exact k2 a ha
    · dsimp only
      rw [upd2_at]
      by_cases e : c = i
      · rw [if_pos e, v1, e]
      · rw [if_neg e, v2 96 (by omega)]
        exact k3 c (by omega)
  · rintro ⟨x, m⟩ ⟨k1, k2, k3⟩
    simp only at k1 k2 k3
    subst k1
    have hRm : HR 1 m N := HR_fr (th := 40) (by omega) hR (fun a ha => k2 a (by omega))
    have m5 : m 17 0 = N 5 := (HR_E hRm).1
    simp only [s_X4_measureBatches_2, Nat.reduceAdd]
    refine wp_ite_f (by ((try simp (disch := omega) only [w32_and, w32_or, w32_shl, w32_shr, w32_xor, ixO, ixO0, ixO1, ixO2, ixO3, ixL0, ixL1, ixL2, ixC, ixB, ixI0, ixI00, ixI1, ixI2, ixI3, upd2_rd, upd2_nd, Nat.reduceEqDiff, Nat.reduceAdd, Nat.add_left_cancel_iff, Nat.add_right_cancel_iff, reduceCtorEq, ↓reduceIte, and_self, and_true, true_and, and_false, false_and, true_or, or_true, false_or, or_false, not_true_eq_false, not_false_eq_true]); (try simp only [w32_em]); (first | done | omega))) (wp_some ?_)
    dsimp only [Sum.elim_inl, Sum.elim_inr]
    exact wp_some ⟨k2, fun c hc => k3 c (by omega)⟩
set_option maxHeartbeats 600000 in
theorem X4seek {M : Mem} {N : Nat → Int} (hR : HR 1 M N) (hW : WF N) {L lim x4 : Int} (hL : 1 ≤ L ∧ L ≤ 6) (hl : 1 ≤ lim ∧ lim ≤ 99999) (h96 : ∀ c : Nat, (c : Int) < N 5 → M 96 c = lfS N (N (461 + c)) (N 6)) (h86 : M 86 2 = 0) : wp (wh (fun x => s_X4_makeAll_24 1 L lim x4 x.1 x.2) (0, M)) (fun r => ∃ z : Mem, r = .inl z ∧ FM M z ∧ R86 z (ou1 N L lim (N 4).toNat)) := by
  have q4 := n4 hW
  refine wp_forI (fun i x => x.1 = (i : Int) ∧ FM M x.2 ∧ R86 x.2 (ou1 N L lim i)) (N 4).toNat ?_ ?_ (Nat.zero_le _) ⟨rfl, fun _ _ => rfl, h86, fun h => absurd h (Int.lt_irrefl 0)⟩
  · rintro i ⟨x, m⟩ hi ⟨k1, k2, k3⟩
    simp only at k1 k2 k3
    subst k1
    have hRm : HR 1 m N := HR_fr (th := 40) (by omega) hR (fun a ha => k2 a (by omega))
    have m4 : m 10 0 = N 4 := (HR_O hRm).1
    simp only [s_X4_makeAll_24, Nat.reduceAdd]
    refine wp_ite_t (by ((try simp (disch := omega) only [w32_and, w32_or, w32_shl, w32_shr, w32_xor, ixO, ixO0, ixO1, ixO2, ixO3, ixL0, ixL1, ixL2, ixC, ixB, ixI0, ixI00, ixI1, ixI2, ixI3, upd2_rd, upd2_nd, Nat.reduceEqDiff, Nat.reduceAdd, Nat.add_left_cancel_iff, Nat.add_right_cancel_iff, reduceCtorEq, ↓reduceIte, and_self, and_true, true_and, and_false, false_and, true_or, or_true, false_or, or_false, not_true_eq_false, not_false_eq_true]); (try simp only [w32_em]); (first | done | omega))) (wp_cl1 (wp_use (X4try hRm hW hL hl hi (fun c hc => by rw [k2 96 (by omega)]; exact h96 c hc) (MV_ou i (by omega)) k3) (fun r hr => wp_bnd (wp_some ?_))))
    refine ⟨by (try dsimp only); omega, fun a ha => (hr.1 a ha).trans (k2 a ha), ?_⟩
    simp only [ou1]
    exact hr.2
  · rintro ⟨x, m⟩ ⟨k1, k2, k3⟩
    simp only at k1 k2 k3
    subst k1
    have hRm : HR 1 m N := HR_fr (th := 40) (by omega) hR (fun a ha => k2 a (by omega))
    have m4 : m 10 0 = N 4 := (HR_O hRm).1
    simp only [s_X4_makeAll_24, Nat.reduceAdd]
    refine wp_ite_f (by ((try simp (disch := omega) only [w32_and, w32_or, w32_shl, w32_shr, w32_xor, ixO, ixO0, ixO1, ixO2, ixO3, ixL0, ixL1, ixL2, ixC, ixB, ixI0, ixI00, ixI1, ixI2, ixI3, upd2_rd, upd2_nd, Nat.reduceEqDiff, Nat.reduceAdd, Nat.add_left_cancel_iff, Nat.add_right_cancel_iff, reduceCtorEq, ↓reduceIte, and_self, and_true, true_and, and_false, false_and, true_or, or_true, false_or, or_false, not_true_eq_false, not_false_eq_true]); (try simp only [w32_em]); (first | done | omega))) (wp_some ?_)
    dsimp only [Sum.elim_inl, Sum.elim_inr]
    exact ⟨m, rfl, k2, k3⟩
