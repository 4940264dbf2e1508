-- ===== a move is made; moves until there is none =====
set_option maxHeartbeats 600000 in
theorem WF_mv {N N2 : Nat → Int} (hW : WF N) {b n : Nat} (hn : N 5 = (n : Int)) (hb : b < n) (x0 : ∀ k, k < 461 → N2 k = N k) (hB : ∀ j, j < n → NN (N2 (461 + j)) ∧ (∀ o : Nat, bit (N2 (461 + j)) o = true → (o : Int) < N 4 ∧ N (110 + 22 * o) = 1) ∧ ∀ i, i < n → i ≠ j → ∀ o : Nat, bit (N2 (461 + j)) o = true → bit (N2 (461 + i)) o = false) (hZ : ∀ j, j < n → j ≠ b → N2 (461 + j) ≠ 0) (hG : ∀ o : Nat, (o : Int) < N 4 → N (110 + 22 * o) = 1 → ∃ j, j < n ∧ bit (N2 (461 + j)) o = true) : WF (if N2 (461 + b) = 0 then opDrop N2 b else N2) := by
  have q4 := n4 hW
  have q5 := n5 hW
  have m5 : N2 5 = (n : Int) := by rw [x0 5 (by omega), hn]
  have lt : ∀ j, j < n → N2 (461 + j) < 65536 := fun j hj => by
    have := bit_lt (n := 16) (hB j hj).1 (by omega) (fun k hk => by
      cases e : bit (N2 (461 + j)) k
      · rfl
      · have := ((hB j hj).2.1 k e).1; omega)
    omega
  have st : ∀ o : Nat, (o : Int) < N 4 → 0 ≤ N (110 + 22 * o) ∧ N (110 + 22 * o) ≤ 3 := fun o ho => by
    have := hW.2.2.2.2.1 o ho
    unfold WFo at this
    omega
  by_cases z : N2 (461 + b) = 0
  · rw [if_pos z]
    have x5 : opDrop N2 b 5 = (n : Int) - 1 := by unfold opDrop; rw [if_pos rfl, m5]
    have xk : ∀ k, k ≠ 5 → k < 461 → opDrop N2 b k = N k := fun k h1 h2 => by
      unfold opDrop
      rw [if_neg h1, if_neg (by omega), x0 k h2]
    have xb : ∀ j, j + 1 < n → opDrop N2 b (461 + j) = N2 (461 + shf b j) := fun j hj => opDrop_s m5 hj
    refine WF_st hW (fun k h1 h2 _ => xk k h1 h2) (fun o ho => by rw [xk _ (by omega) (by omega)]; exact st o ho) ⟨by rw [x5]; omega, by rw [x5]; omega⟩ (fun j hj => ?_) (fun o ho hs => ?_)
    · rw [x5] at hj
      have hj' : j + 1 < n := by omega
      have s1 : shf b j < n := shf_lt hj'
      obtain ⟨c1, c2, c3⟩ := hB _ s1
      have nz := hZ _ s1 shf_ne
      have l := lt _ s1
      unfold WFb
      rw [xb j hj', xk 4 (by omega) (by omega), x5]
      refine ⟨by unfold NN at c1; omega, l, fun o ho => ?_, fun i hi hne o ho => ?_⟩
      · have c := c2 o ho
        rw [xk _ (by omega) (by omega)]
        exact c
      · have hi' : i + 1 < n := by omega
        rw [xb i hi']
        exact c3 _ (shf_lt hi') (shf_inj hne) o ho
    · rw [xk 4 (by omega) (by omega)] at ho
      rw [xk _ (by omega) (by omega)] at hs
      obtain ⟨j, hj, hbit⟩ := hG o ho hs
      have jb : j ≠ b := fun e => by rw [e, z, bit_zero] at hbit; cases hbit
      by_cases l : j < b
      · refine ⟨j, by rw [x5]; omega, ?_⟩
        rw [xb j (by omega), show shf b j = j by unfold shf; rw [if_neg (by omega)]]
        exact hbit
      · refine ⟨j - 1, by rw [x5]; omega, ?_⟩
        rw [xb (j - 1) (by omega), show shf b (j - 1) = j by unfold shf; rw [if_pos (by omega)]; omega]
        exact hbit
  · rw [if_neg z]
    refine WF_st hW (fun k _ h2 _ => x0 k h2) (fun o ho => by rw [x0 _ (by omega)]; exact st o ho) ⟨by omega, by omega⟩ (fun j hj => ?_) (fun o ho hs => ?_)
    · rw [m5] at hj
      have hj' : j < n := by omega
      obtain ⟨c1, c2, c3⟩ := hB j hj'
      have nz : N2 (461 + j) ≠ 0 := by
        by_cases e : j = b
        · rw [e]; exact z
        · exact hZ j hj' e
      have l := lt j hj'
      unfold WFb
      rw [x0 4 (by omega), m5]
      refine ⟨by unfold NN at c1; omega, l, fun o ho => ?_, fun i hi hne o ho => c3 i (by omega) hne o ho⟩
      have c := c2 o ho
      rw [x0 _ (by omega)]
      exact c
    · rw [x0 4 (by omega)] at ho
      rw [x0 _ (by omega)] at hs
      obtain ⟨j, hj, hbit⟩ := hG o ho hs
      exact ⟨j, by omega, hbit⟩
/-- order o goes from batch b to batch c -/
noncomputable def opMove (N : Nat → Int) (b c o : Nat) : Nat → Int := opTake (setN N (461 + c) (i_or (N (461 + c)) (i_shl 1 (o : Int)))) b o
noncomputable def mv2 (N : Nat → Int) (b c o : Nat) : Nat → Int := setN (setN N (461 + c) (i_or (N (461 + c)) (i_shl 1 (o : Int)))) (461 + b) (wo (N (461 + b)) (i_shl 1 (o : Int)))
set_option maxHeartbeats 600000 in
theorem tkV_mv {N : Nat → Int} {b c o : Nat} (hcb : c ≠ b) : tkV (setN N (461 + c) (i_or (N (461 + c)) (i_shl 1 (o : Int)))) b o = wo (N (461 + b)) (i_shl 1 (o : Int)) := by
  unfold tkV
  rw [setN_ne (by omega)]
set_option maxHeartbeats 600000 in
theorem opMove_eq {N : Nat → Int} {b c o : Nat} (hcb : c ≠ b) : opMove N b c o = if mv2 N b c o (461 + b) = 0 then opDrop (mv2 N b c o) b else mv2 N b c o := by
  unfold opMove opTake
  rw [tkV_mv hcb]
  unfold mv2
  rw [setN_eq]
set_option maxHeartbeats 600000 in
theorem mv2_k {N : Nat → Int} {b c o k : Nat} (hk : k < 461) : mv2 N b c o k = N k := by
  unfold mv2
  rw [setN_ne (by omega), setN_ne (by omega)]
set_option maxHeartbeats 600000 in
theorem mv2_b {N : Nat → Int} {b c o j : Nat} : mv2 N b c o (461 + j) = if j = b then wo (N (461 + b)) (i_shl 1 (o : Int)) else if j = c then i_or (N (461 + c)) (i_shl 1 (o : Int)) else N (461 + j) := by
  unfold mv2
  by_cases e : j = b
  · rw [if_pos e, e, setN_eq]
  · rw [if_neg e, setN_ne (by omega)]
    by_cases e2 : j = c
    · rw [if_pos e2, e2, setN_eq]
    · rw [if_neg e2, setN_ne (by omega)]
set_option maxHeartbeats 600000 in
theorem mv2_bits {N : Nat → Int} (hW : WF N) {b c o n : Nat} (hn : N 5 = (n : Int)) (hb : b < n) (hcb : c ≠ b) (ho : o < 16) (hbit : bit (N (461 + b)) o = true) {j : Nat} (hj : j < n) : NN (mv2 N b c o (461 + j)) ∧ ∀ p, bit (mv2 N b c o (461 + j)) p = if p = o then decide (j = c) else bit (N (461 + j)) p := by
  have sb := shl_bits (show o < 31 by omega)
  have bj := bmem hW (show (j : Int) < N 5 by omega)
  rw [mv2_b]
  by_cases e : j = b
  · subst e
    rw [if_pos rfl]
    have a := andn_bits bj.1 sb.1
    refine ⟨a.1, fun p => ?_⟩
    rw [a.2, sb.2]
    by_cases ep : p = o
    · rw [if_pos ep, decide_eq_true ep, decide_eq_false (Ne.symm hcb)]; simp
    · rw [if_neg ep, decide_eq_false ep]; simp
  · rw [if_neg e]
    by_cases e2 : j = c
    · subst e2
      rw [if_pos rfl]
      have a := or_bits bj.1 sb.1
      refine ⟨a.1, fun p => ?_⟩
      rw [a.2, sb.2]
      by_cases ep : p = o
      · rw [if_pos ep, decide_eq_true ep]; simp
      · rw [if_neg ep, decide_eq_false ep]; simp
    · rw [if_neg e2]
      refine ⟨bj.1, fun p => ?_⟩
      by_cases ep : p = o
      · rw [if_pos ep, ep, decide_eq_false e2]
        exact (hW.2.2.2.2.2.1 b (by omega)).2.2.2 j (by omega) e o hbit
      · rw [if_neg ep]
set_option maxHeartbeats 600000 in
theorem WF_move {N : Nat → Int} (hW : WF N) {b c o n : Nat} (hn : N 5 = (n : Int)) (hb : b < n) (hc : c < n) (hcb : c ≠ b) (hbit : bit (N (461 + b)) o = true) : WF (opMove N b c o) := by
  have q4 := n4 hW
  have wb := (hW.2.2.2.2.2.1 b (by omega)).2.2.1 o hbit
  have kk := fun j hj => mv2_bits hW hn hb hcb (show o < 16 by omega) hbit (j := j) hj
  rw [opMove_eq hcb]
  refine WF_mv hW hn hb (fun k hk => mv2_k hk) (fun j hj => ⟨(kk j hj).1, fun p hp => ?_, fun i hi hne p hp => ?_⟩) (fun j hj hne z => ?_) (fun p hp hs => ?_)
  · rw [(kk j hj).2] at hp
    by_cases ep : p = o
    · rw [ep]; exact wb
    · rw [if_neg ep] at hp
      exact (hW.2.2.2.2.2.1 j (by omega)).2.2.1 p hp
  · rw [(kk j hj).2] at hp
    rw [(kk i hi).2]
    by_cases ep : p = o
    · rw [if_pos ep] at hp ⊢
      rw [decide_eq_true_eq] at hp
      exact decide_eq_false (by omega)
    · rw [if_neg ep] at hp ⊢
      exact (hW.2.2.2.2.2.1 j (by omega)).2.2.2 i (by omega) hne p hp
  · by_cases e : j = c
    · have := (kk j hj).2 o
      rw [z, bit_zero, if_pos rfl, decide_eq_true e] at this
      cases this
    · rw [mv2_b, if_neg hne, if_neg e] at z
      have w := hW.2.2.2.2.2.1 j (by omega)
      unfold WFb at w
      omega
  · by_cases ep : p = o
    · exact ⟨c, hc, by rw [(kk c hc).2, if_pos ep]; exact decide_eq_true rfl⟩
    · obtain ⟨j, hj, h⟩ := hW.2.2.2.2.2.2 p hp hs
      exact ⟨j, by omega, by rw [(kk j (by omega)).2, if_neg ep]; exact h⟩
/-- the sum of all batches' lengths -/
def TT (N : Nat → Int) : Int := sm (fun j => lfS N (N (461 + j)) (N 6)) (N 5).toNat
set_option maxHeartbeats 600000 in
theorem TT_rng {N : Nat → Int} (hW : WF N) : 0 ≤ TT N ∧ TT N ≤ 9360 := by
  have q5 := n5 hW
  have := sm_bd (g := fun j => lfS N (N (461 + j)) (N 6)) (n := (N 5).toNat) (B := 1170) (by omega) (fun j _ => lf_rng hW)
  unfold TT
  omega
set_option maxHeartbeats 600000 in
theorem sm_drop {f : Nat → Int} {b : Nat} : ∀ n : Nat, b < n + 1 → sm (fun j => f (shf b j)) n + f b = sm f (n + 1) := by
  intro n
  induction n with
  | zero =>
    intro h
    rw [show b = 0 by omega]
    simp [sm]
  | succ n ih =>
    intro h
    by_cases e : b < n + 1
    · have i := ih e
      have s1 : sm (fun j => f (shf b j)) (n + 1) = sm (fun j => f (shf b j)) n + f (shf b n) := rfl
      have s2 : sm f (n + 1 + 1) = sm f (n + 1) + f (n + 1) := rfl
      rw [s1, s2, show shf b n = n + 1 by unfold shf; rw [if_pos (by omega)]]
      omega
    · have eb : b = n + 1 := by omega
      have s2 : sm f (n + 1 + 1) = sm f (n + 1) + f (n + 1) := rfl
      rw [s2, eb, sm_congr (g := f) (fun j hj => by unfold shf; rw [if_neg (by omega)])]
set_option maxHeartbeats 600000 in
theorem TT_move {N : Nat → Int} (hW : WF N) {b c o n : Nat} (hn : N 5 = (n : Int)) (hb : b < n) (hc : c < n) (hcb : c ≠ b) : TT (opMove N b c o) + gnO N o b c ≤ TT N := by
  have tn : (N 5).toNat = n := by omega
  have e2 : sm (fun j => lfS N (mv2 N b c o (461 + j)) (N 6)) n = TT N - gnO N o b c := by
    have h1 := sm_upv (f := fun j => if j = c then lfS N (i_or (N (461 + c)) (i_shl 1 (o : Int))) (N 6) else lfS N (N (461 + j)) (N 6)) (g := fun j => lfS N (N (461 + j)) (N 6)) (o := c) (v := lfS N (i_or (N (461 + c)) (i_shl 1 (o : Int))) (N 6) - lfS N (N (461 + c)) (N 6)) (fun k hk => by (try dsimp only); rw [if_neg hk]) (by (try dsimp only); rw [if_pos rfl]; omega) n
    have h2 := sm_upv (f := fun j => lfS N (mv2 N b c o (461 + j)) (N 6)) (g := fun j => if j = c then lfS N (i_or (N (461 + c)) (i_shl 1 (o : Int))) (N 6) else lfS N (N (461 + j)) (N 6)) (o := b) (v := lfS N (wo (N (461 + b)) (i_shl 1 (o : Int))) (N 6) - lfS N (N (461 + b)) (N 6)) (fun k hk => by
      try dsimp only
      rw [mv2_b, if_neg hk]
      by_cases e : k = c
      · rw [if_pos e, if_pos e]
      · rw [if_neg e, if_neg e]) (by (try dsimp only); rw [mv2_b, if_pos rfl, if_neg (Ne.symm hcb)]; omega) n
    rw [if_pos hc] at h1
    rw [if_pos hb] at h2
    rw [h2, h1]
    unfold TT gnO
    rw [tn]
    omega
  have m5 : mv2 N b c o 5 = (n : Int) := by rw [mv2_k (by omega), hn]
  rw [opMove_eq hcb]
  by_cases z : mv2 N b c o (461 + b) = 0
  · rw [if_pos z]
    have x5 : opDrop (mv2 N b c o) b 5 = (n : Int) - 1 := by unfold opDrop; rw [if_pos rfl, m5]
    have xk : E5 N (opDrop (mv2 N b c o) b) := fun k h1 h2 => by
      unfold opDrop
      rw [if_neg h1, if_neg (by omega), mv2_k h2]
    have d := sm_drop (f := fun j => lfS N (mv2 N b c o (461 + j)) (N 6)) (b := b) (n - 1) (by omega)
    rw [show n - 1 + 1 = n by omega] at d
    have p := lf_rng hW (m := mv2 N b c o (461 + b)) (pol := N 6)
    have t : TT (opDrop (mv2 N b c o) b) = sm (fun j => lfS N (mv2 N b c o (461 + shf b j)) (N 6)) (n - 1) := by
      unfold TT
      rw [x5, show ((n : Int) - 1).toNat = n - 1 by omega]
      refine sm_congr (fun j hj => ?_)
      try dsimp only
      rw [lfS_c hW xk, xk 6 (by omega) (by omega), opDrop_s m5 (by omega)]
    rw [t]
    (try dsimp only at d)
    omega
  · rw [if_neg z]
    have xk : E5 N (mv2 N b c o) := fun k h1 h2 => mv2_k h2
    have t : TT (mv2 N b c o) = sm (fun j => lfS N (mv2 N b c o (461 + j)) (N 6)) n := by
      unfold TT
      rw [m5, Int.toNat_natCast]
      refine sm_congr (fun j hj => ?_)
      try dsimp only
      rw [lfS_c hW xk, xk 6 (by omega) (by omega)]
    rw [t, e2]
    omega
set_option maxHeartbeats 600000 in
theorem X0move {M : Mem} {N : Nat → Int} (hR : HR 1 M N) (hW : WF N) {b c o n : Nat} (hn : N 5 = (n : Int)) (hb : b < n) (hc : c < n) (hcb : c ≠ b) (ho : o < 31) (hq : bF N o (N 5).toNat = (b : Int)) : wp (f_X0_move 17 (o : Int) (c : Int) M) (fun r => (∀ a, a ≠ 17 → a ≠ 18 → r a = M a) ∧ HR 1 r (opMove N b c o)) := by
  have q5 := n5 hW
  have xc : ix (c : Int) = c := ix_nat (by omega)
  have e18 : M 18 c = N (461 + c) := (HR_E hR).2 c (by omega)
  have g := HR_setB (M := M) (M' := upd2 M 18 c (i_or (N (461 + c)) (i_shl 1 (o : Int)))) (b := c) (v := i_or (N (461 + c)) (i_shl 1 (o : Int))) hR (WF_w hW) (fun a h1 _ _ => upd2_ne h1) (fun j => upd2_at _ _ _ _ _)
  unfold f_X0_move
  simp only [Nat.reduceAdd, xc, e18]
  refine wp_cl1 (wp_eq (X0with hR hW ho) ?_)
  rw [hq]
  refine wp_gi (by omega) (by omega) (by omega) (wp_gi (by omega) (by omega) (by omega) (wp_bnd (wp_ite_f (by ((try simp (disch := omega) only [w32_and, w32_or, w32_shl, w32_shr, w32_xor, ixO, ixO0, ixO1, ixO2, ixO3, ixL0, ixL1, ixL2, ixC, ixB, ixI0, ixI00, ixI1, ixI2, ixI3, upd2_rd, upd2_nd, Nat.reduceEqDiff, Nat.reduceAdd, Nat.add_left_cancel_iff, Nat.add_right_cancel_iff, reduceCtorEq, ↓reduceIte, and_self, and_true, true_and, and_false, false_and, true_or, or_true, false_or, or_false, not_true_eq_false, not_false_eq_true]); (try simp only [w32_em]); (first | done | omega))) (wp_ite_f (by ((try simp (disch := omega) only [w32_and, w32_or, w32_shl, w32_shr, w32_xor, ixO, ixO0, ixO1, ixO2, ixO3, ixL0, ixL1, ixL2, ixC, ixB, ixI0, ixI00, ixI1, ixI2, ixI3, upd2_rd, upd2_nd, Nat.reduceEqDiff, Nat.reduceAdd, Nat.add_left_cancel_iff, Nat.add_right_cancel_iff, reduceCtorEq, ↓reduceIte, and_self, and_true, true_and, and_false, false_and, true_or, or_true, false_or, or_false, not_true_eq_false, not_false_eq_true]); (try simp only [w32_em]); (first | done | omega))) (wp_cl1 (wp_use (X0take (n := n) (b := b) (o := o) g.1 g.2 (by rw [setN_ne (by omega), hn]) hb) (fun r hr => wp_some ⟨fun a h1 h2 => ?_, hr.2.1⟩)))))))
  rw [hr.1 a h1 h2, upd2_ne h2]
/-- the row after the best move -/
noncomputable def mvN (N : Nat → Int) (s : Int × Int × Int) : Nat → Int := opMove N (bF N s.2.1.toNat (N 5).toNat).toNat s.2.2.toNat s.2.1.toNat
noncomputable def ipr (L lim : Int) : Nat → Int → (Nat → Int) → Int × (Nat → Int)
  | 0, n, N => (n, N)
  | f + 1, n, N => if (ou1 N L lim (N 4).toNat).1 = 0 then (n, N) else ipr L lim f (n + 1) (mvN N (ou1 N L lim (N 4).toNat))
set_option maxHeartbeats 600000 in
theorem MV_pos {N : Nat → Int} (hW : WF N) {s : Int × Int × Int} (h : MVs N s) (h0 : s.1 ≠ 0) : ∃ o b c n : Nat, N 5 = (n : Int) ∧ s.2.1 = (o : Int) ∧ s.2.2 = (c : Int) ∧ o < 16 ∧ (o : Int) < N 4 ∧ b < n ∧ c < n ∧ c ≠ b ∧ bF N o (N 5).toNat = (b : Int) ∧ bit (N (461 + b)) o = true ∧ mvN N s = opMove N b c o ∧ WF (mvN N s) ∧ TT (mvN N s) < TT N ∧ 0 < s.1 := by
  have q4 := n4 hW
  have q5 := n5 hW
  rcases h with h | ⟨h, o, b, c, e, e1, e2, e3, e4, e5, e6⟩
  · exact absurd h h0
  · have em : mvN N s = opMove N b c o := by
      unfold mvN
      rw [e]
      try dsimp only
      rw [Int.toNat_natCast, Int.toNat_natCast, e2, Int.toNat_natCast]
    have t := TT_move hW (o := o) (n := (N 5).toNat) (by omega) e3 e5 e6
    have hs : s.1 = gnO N o b c := by rw [e]
    refine ⟨o, b, c, (N 5).toNat, by omega, by rw [e], by rw [e], by omega, by omega, e3, e5, e6, e2, e4, em, ?_, ?_, h⟩
    · rw [em]; exact WF_move hW (n := (N 5).toNat) (by omega) e3 e5 e6 e4
    · rw [em]; omega
set_option maxHeartbeats 600000 in
theorem X4all {M : Mem} {N : Nat → Int} {F : Nat} (hF : 9361 ≤ F) (hR : HR 1 M N) (hW : WF N) {L lim : Int} (hL : 1 ≤ L ∧ L ≤ 6) (hl : 1 ≤ lim ∧ lim ≤ 99999) : wp (f_X4_makeAll 1 L lim M) (fun r => r.1 = (ipr L lim F 0 N).1 ∧ HR 1 r.2 (ipr L lim F 0 N).2 ∧ (∀ a, a < 17 ∨ 18 < a → a < 86 ∨ 96 < a → r.2 a = M a)) := by
  have t0 := TT_rng hW
  unfold f_X4_makeAll
  generalize hX : ipr L lim F 0 N = X
  refine wp_lpb (wp_wh (fun x => ∃ f : Nat, ∃ N' : Nat → Int, ipr L lim f x.1 N' = X ∧ HR 1 x.2 N' ∧ WF N' ∧ TT N' < (f : Int) ∧ 0 ≤ x.1 ∧ x.1 + TT N' ≤ 9360 ∧ (∀ a, a < 17 ∨ 18 < a → a < 86 ∨ 96 < a → x.2 a = M a)) (fun x => (9999 - x.1).toNat) ?_ ⟨F, N, hX, hR, hW, by omega, by (try dsimp only); omega, by (try dsimp only); omega, fun _ _ _ => rfl⟩)
  rintro ⟨n, M'⟩ ⟨f, N', h2, h3, h4, h5, h6, h7, h8⟩
  simp only at h2 h3 h4 h5 h6 h7 h8
  have tr := TT_rng h4
  cases f with
  | zero => omega
  | succ f =>
    simp only [ipr] at h2
    simp only [s_X4_makeAll_3]
    refine wp_ite_t (by ((try simp (disch := omega) only [w32_and, w32_or, w32_shl, w32_shr, w32_xor, ixO, ixO0, ixO1, ixO2, ixO3, ixL0, ixL1, ixL2, ixC, ixB, ixI0, ixI00, ixI1, ixI2, ixI3, upd2_rd, upd2_nd, Nat.reduceEqDiff, Nat.reduceAdd, Nat.add_left_cancel_iff, Nat.add_right_cancel_iff, reduceCtorEq, ↓reduceIte, and_self, and_true, true_and, and_false, false_and, true_or, or_true, false_or, or_false, not_true_eq_false, not_false_eq_true]); (try simp only [w32_em]); (first | done | omega))) (wp_cl1 (wp_use (X4meas h3 h4) (fun r hr => wp_bnd ?_)))
    obtain ⟨r1, r2⟩ := hr
    have hR2 : HR 1 (upd2 r 86 2 0) N' := HR_fr (th := 40) (by omega) h3 (fun a ha => by rw [upd2_ne (by omega), r1 a (by omega)])
    refine wp_lpb (wp_use (X4seek hR2 h4 hL hl (fun c hc => by rw [upd2_ne (by decide)]; exact r2 c hc) (by rw [upd2_same])) (fun v hv => ?_))
    obtain ⟨z, rfl, z1, z2⟩ := hv
    dsimp only [Sum.elim_inl, Sum.elim_inr]
    have mv := MV_ou (N := N') (L := L) (lim := lim) (N' 4).toNat (Nat.le_refl _)
    have sr := MV_rng h4 mv
    have hRz : HR 1 z N' := HR_fr (th := 40) (by omega) hR2 (fun a ha => z1 a (by omega))
    have fz : ∀ a, a < 86 ∨ 96 < a → z a = M' a := fun a ha => by rw [z1 a (by omega), upd2_ne (by omega), r1 a (by omega)]
    have z86 := z2.1
    generalize hs : ou1 N' L lim (N' 4).toNat = s at *
    by_cases g : s.1 = 0
    · rw [if_pos g] at h2
      refine wp_ite_t (by ((try simp (disch := omega) only [w32_and, w32_or, w32_shl, w32_shr, w32_xor, ixO, ixO0, ixO1, ixO2, ixO3, ixL0, ixL1, ixL2, ixC, ixB, ixI0, ixI00, ixI1, ixI2, ixI3, upd2_rd, upd2_nd, Nat.reduceEqDiff, Nat.reduceAdd, Nat.add_left_cancel_iff, Nat.add_right_cancel_iff, reduceCtorEq, ↓reduceIte, and_self, and_true, true_and, and_false, false_and, true_or, or_true, false_or, or_false, not_true_eq_false, not_false_eq_true]); (try simp only [w32_em]); (first | done | omega))) (wp_some ?_)
      dsimp only [Sum.elim_inl, Sum.elim_inr]
      refine wp_some ?_
      rw [← h2]
      exact ⟨rfl, hRz, fun a a1 a2 => (fz a a2).trans (h8 a a1 a2)⟩
    · rw [if_neg g] at h2
      obtain ⟨o, b, c, k, k1, k2, k3, k4, k5, k6, k7, k8, k9, k10, k11, k12, k13, k14⟩ := MV_pos h4 mv g
      obtain ⟨w1, w2⟩ := z2.2 k14
      rw [w1, w2, k2, k3]
      refine wp_ite_f (by ((try simp (disch := omega) only [w32_and, w32_or, w32_shl, w32_shr, w32_xor, ixO, ixO0, ixO1, ixO2, ixO3, ixL0, ixL1, ixL2, ixC, ixB, ixI0, ixI00, ixI1, ixI2, ixI3, upd2_rd, upd2_nd, Nat.reduceEqDiff, Nat.reduceAdd, Nat.add_left_cancel_iff, Nat.add_right_cancel_iff, reduceCtorEq, ↓reduceIte, and_self, and_true, true_and, and_false, false_and, true_or, or_true, false_or, or_false, not_true_eq_false, not_false_eq_true]); (try simp only [w32_em]); (first | done | omega))) (wp_cl1 (wp_use (X0move hRz h4 k1 k6 k7 k8 (by omega) k9) (fun u hu => wp_bnd (wp_some ?_))))
      dsimp only [Sum.elim_inl, Sum.elim_inr]
      refine ⟨⟨f, mvN N' s, h2, by rw [k11]; exact hu.2, k12, by omega, by omega, by omega, fun a a1 a2 => ?_⟩, by omega⟩
      rw [hu.1 a (by omega) (by omega), fz a a2]
      exact h8 a a1 a2
set_option maxHeartbeats 600000 in
theorem X12imp {M : Mem} {N : Nat → Int} {F : Nat} (hF : 9361 ≤ F) (hN : M 140 = N) (hW : WF N) {L lim : Int} (hL : 1 ≤ L ∧ L ≤ 6) (hl : 1 ≤ lim ∧ lim ≤ 99999) : wp (wh (fun x => s_X12_improve_40 L lim x.1 x.2) (0, M)) (fun r => ∃ u : Mem, r = .inl ((ipr L lim F 0 N).1, u) ∧ u 140 = (ipr L lim F 0 N).2 ∧ WF (u 140) ∧ (∀ a, a ≠ 139 → a ≠ 140 → a ≠ 144 → a ≠ 145 → a ≠ 146 → u a = M a) ∧ ∀ k, k < 8 ∨ 12 < k → u 139 k = M 139 k) := by
  have t0 := TT_rng hW
  generalize hX : ipr L lim F 0 N = X
  refine wp_wh (fun x => ∃ f : Nat, ∃ N' : Nat → Int, ipr L lim f x.1 N' = X ∧ x.2 140 = N' ∧ WF N' ∧ TT N' < (f : Int) ∧ 0 ≤ x.1 ∧ x.1 + TT N' ≤ 9360 ∧ (∀ a, a ≠ 139 → a ≠ 140 → a ≠ 144 → a ≠ 145 → a ≠ 146 → x.2 a = M a) ∧ ∀ k, k < 8 ∨ 12 < k → x.2 139 k = M 139 k) (fun x => (9999 - x.1).toNat) ?_ ⟨F, N, hX, hN, hW, by omega, by (try dsimp only); omega, by (try dsimp only); omega, fun _ _ _ _ _ _ => rfl, fun _ _ => rfl⟩
  rintro ⟨n, M'⟩ ⟨f, N', h2, h3, h4, h5, h6, h7, h8, h9⟩
  simp only at h2 h3 h4 h5 h6 h7 h8 h9
  have tr := TT_rng h4
  have p5 := n5 h4
  cases f with
  | zero => omega
  | succ f =>
    simp only [ipr] at h2
    simp only [s_X12_improve_40, j_X12_improve_123_40]
    refine wp_cl2 (wp_use (X12seek h3 h4 hL hl) (fun r hr => ?_))
    obtain ⟨r0, r⟩ := r
    obtain ⟨r1, r2, r3⟩ := hr
    simp only at r1 r2 r3 ⊢
    have mv := MV_ou (N := N') (L := L) (lim := lim) (N' 4).toNat (Nat.le_refl _)
    have sr := MV_rng h4 mv
    have rN : r 140 = N' := by rw [r2.1 140 (by decide) (by decide) (by decide) (by decide)]; exact h3
    generalize hs : ou1 N' L lim (N' 4).toNat = s at *
    by_cases g : s.1 = 0
    · rw [if_pos g] at h2
      rw [if_neg (by omega)] at r1
      refine wp_ite_t (by rw [r1]; decide) (wp_some ?_)
      dsimp only [Sum.elim_inl, Sum.elim_inr]
      rw [← h2]
      exact ⟨r, rfl, rN, by rw [rN]; exact h4, fun a a1 a2 a3 a4 a5 => (r2.1 a a1 a3 a4 a5).trans (h8 a a1 a2 a3 a4 a5), fun k hk => (r2.2 k hk).trans (h9 k hk)⟩
    · rw [if_neg g] at h2
      rw [if_pos (by omega)] at r1
      obtain ⟨o, b, c, m, k1, k2, k3, k4, k5, k6, k7, k8, k9, k10, k11, k12, k13, k14⟩ := MV_pos h4 mv g
      obtain ⟨w1, w2⟩ := r3 k14
      rw [k2] at w1
      rw [k3] at w2
      have xc : ix (461 + (c : Int)) = 461 + c := ixB (by omega)
      have xb : ix (461 + (b : Int)) = 461 + b := ixB (by omega)
      rw [w1, w2, xc]
      refine wp_ite_f (by rw [r1]; decide) (wp_cl1 (wp_eq (X12of rN h4 (by omega)) ?_))
      rw [k9, xb]
      have e1 : upd2 r 140 (461 + c) (i_or (r 140 (461 + c)) (i_shl 1 (o : Int))) 140 = setN N' (461 + c) (i_or (N' (461 + c)) (i_shl 1 (o : Int))) := by rw [upd2_fun, rN]; rfl
      have e2 : upd2 r 140 (461 + c) (i_or (r 140 (461 + c)) (i_shl 1 (o : Int))) 139 11 = (o : Int) := by rw [upd2_ne (by decide)]; exact w1
      refine wp_gi (by omega) (by omega) (by omega) (wp_gi (by omega) (by omega) (by omega) (wp_bnd ?_))
      generalize hm1 : upd2 r 140 (461 + c) (i_or (r 140 (461 + c)) (i_shl 1 (o : Int))) = r' at *
      have f1 : ∀ a, a ≠ 140 → r' a = r a := fun a ha => by rw [← hm1, upd2_ne ha]
      rw [e2]
      have et : i_and (r' 140 (461 + b)) (i_xor (i_shl 1 (o : Int)) (-1)) = tkV (r' 140) b o := rfl
      rw [et]
      refine wp_gi (by omega) (by omega) (by omega) (wp_gi (by omega) (by omega) (by omega) (wp_bnd (wp_gi (by omega) (by omega) (by omega) ?_)))
      rw [upd2_same]
      have ew : w32 (tkV (r' 140) b o) = tkV (r' 140) b o := w32_and _ _
      rw [ew]
      have e3 : upd2 r' 140 (461 + b) (tkV (r' 140) b o) 140 = setN (r' 140) (461 + b) (tkV (r' 140) b o) := by rw [upd2_fun]; rfl
      have fin : ∀ u : Mem, (∀ a, a ≠ 140 → u a = r' a) → u 140 = opTake (r' 140) b o → wp (bnd (n + 1) (fun x3_17 => some (Sum.inl (x3_17, u))) : Option ((Int × Mem) ⊕ ((Int × Mem) ⊕ (Int × Mem)))) (Sum.elim (fun y => (∃ f : Nat, ∃ N' : Nat → Int, ipr L lim f y.1 N' = X ∧ y.2 140 = N' ∧ WF N' ∧ TT N' < (f : Int) ∧ 0 ≤ y.1 ∧ y.1 + TT N' ≤ 9360 ∧ (∀ a, a ≠ 139 → a ≠ 140 → a ≠ 144 → a ≠ 145 → a ≠ 146 → y.2 a = M a) ∧ ∀ k, k < 8 ∨ 12 < k → y.2 139 k = M 139 k) ∧ (9999 - y.1).toNat < (9999 - (n, M').1).toNat) (fun r => ∃ u : Mem, r = .inl (X.1, u) ∧ u 140 = X.2 ∧ WF (u 140) ∧ (∀ a, a ≠ 139 → a ≠ 140 → a ≠ 144 → a ≠ 145 → a ≠ 146 → u a = M a) ∧ ∀ k, k < 8 ∨ 12 < k → u 139 k = M 139 k)) := fun u u1 u2 => by
        refine wp_bnd (wp_some ?_)
        dsimp only [Sum.elim_inl, Sum.elim_inr]
        have un : u 140 = mvN N' s := by rw [u2, e1, k11]; rfl
        refine ⟨⟨f, mvN N' s, h2, un, k12, by omega, by omega, by omega, fun a a1 a2 a3 a4 a5 => ?_, fun k hk => ?_⟩, by omega⟩
        · rw [u1 a a2, f1 a a2, r2.1 a a1 a3 a4 a5]
          exact h8 a a1 a2 a3 a4 a5
        · rw [u1 139 (by decide), f1 139 (by decide), r2.2 k hk]
          exact h9 k hk
      refine wp_ite (fun z0 => ?_) (fun z0 => ?_)
      · refine wp_cl1 (wp_use (X12rem (n := m) e3 (by rw [setN_ne (by omega), e1, setN_ne (by omega), k1]) k6 (by omega)) (fun u hu => fin u (fun a ha => ?_) ?_))
        · rw [hu.1 a ha, upd2_ne ha]
        · unfold opTake
          rw [if_pos z0]
          exact hu.2
      · refine fin _ (fun a ha => upd2_ne ha) ?_
        unfold opTake
        rw [if_neg z0]
        exact e3
set_option maxHeartbeats 600000 in
theorem key_li {a : Nat} (h : keyb a = true) : (2 ≤ a ∧ a ≤ 18) ∨ a = 37 ∨ a = 39 ∨ a = 140 ∨ a = 142 ∨ a = 143 ∨ a = 155 ∨ a = 156 ∨ 160 ≤ a := by
  unfold keyb at h
  simp only [Bool.or_eq_true, Bool.and_eq_true, beq_iff_eq, Nat.ble_eq] at h
  omega
set_option maxHeartbeats 600000 in
theorem lf4 {M u : Mem} (hI : Inv M) (e : ∀ a, keyb a = true → 18 < a → a ≠ 140 → u a = M a) (e38 : ∀ k, 1 ≤ k → k < 4 → u 38 k = M 38 k) (e1 : u 139 23 = M 139 23) (e2 : u 139 28 = M 139 28) (e3 : u 139 29 = M 139 29) (hH : HR 1 u (u 140)) (hW : WF (u 140)) : Inv u ∧ u 37 = M 37 :=
  ⟨Inv_new hI hH hW e e38 e1 e2 e3, e 37 rfl (by decide) (by decide)⟩
set_option maxHeartbeats 600000 in
theorem o_22 {M : Mem} (hI : Inv M) {p1 p2 : Int} (h1 : I32 p1) (h2 : I32 p2) (p3 p4 : Int) : Ow (L_22 p1 p2 p3 p4 M) M := by
  unfold I32 at h1 h2
  have hR := hI.1; have hW := hI.2.1; have hw := hI.2.1.1; have hw2 := hI.2.1.2.1; have hw3 := hI.2.1.2.2.1; obtain ⟨hA, hB, hC⟩ := hI.1; have hC3 := hC.1.1; have hC4 := hC.2.1.1; have hC5 := hC.2.2.1; simp only [Nat.reduceAdd] at hA hB hC3 hC4 hC5; have hz : M 2 3 = 1 ∧ M 140 7 = -1 ∨ M 2 3 = 2 ∧ M 140 7 ≠ -1 ∧ M 140 8 = -1 ∨ M 2 3 = 3 ∧ M 140 7 ≠ -1 ∧ M 140 8 ≠ -1 := zn3 hA.2.2.2.1; show wp _ _
  simp only [L_22, f_L_improve, f_X11_improve, f_X11_needBatchLimits, f_X11_needArgument, j_X11_needArgument_10, f_X12_improve, j_X12_improve_25, j_X12_improve_26, f_X12_in, f_X12_thrown]
  by_cases q : (1 ≤ p1 ∧ p1 ≤ 6) ∧ (1 ≤ p2 ∧ p2 ≤ 99999)
  · obtain ⟨qa, qb⟩ := q
    obtain ⟨F, hF⟩ : ∃ F : Nat, 9361 ≤ F := ⟨9361, by omega⟩
    (repeat' (first | with_reducible refine wp_use (X4all hF hR hW qa qb) (fun r hr => stp_mk ?_) | with_reducible refine wp_bnd ?_ | with_reducible refine wp_cl1 ?_ | with_reducible refine wp_cl2 ?_ | with_reducible refine wp_cx1 ?_ | with_reducible refine wp_cx2 ?_ | with_reducible refine wp_some ?_ | with_reducible refine wp_ite_t (lcmp0 (by ((try simp (disch := omega) only [w32_and, w32_or, w32_shl, w32_shr, w32_xor, ixO, ixO0, ixO1, ixO2, ixO3, ixL0, ixL1, ixL2, ixC, ixB, ixI0, ixI00, ixI1, ixI2, ixI3, upd2_rd, upd2_nd, Nat.reduceEqDiff, Nat.reduceAdd, Nat.add_left_cancel_iff, Nat.add_right_cancel_iff, reduceCtorEq, ↓reduceIte, and_self, and_true, true_and, and_false, false_and, true_or, or_true, false_or, or_false, not_true_eq_false, not_false_eq_true]); (try simp only [w32_em]); (first | done | omega)))) ?_ | with_reducible refine wp_ite_t (by ((try simp (disch := omega) only [w32_and, w32_or, w32_shl, w32_shr, w32_xor, ixO, ixO0, ixO1, ixO2, ixO3, ixL0, ixL1, ixL2, ixC, ixB, ixI0, ixI00, ixI1, ixI2, ixI3, upd2_rd, upd2_nd, Nat.reduceEqDiff, Nat.reduceAdd, Nat.add_left_cancel_iff, Nat.add_right_cancel_iff, reduceCtorEq, ↓reduceIte, and_self, and_true, true_and, and_false, false_and, true_or, or_true, false_or, or_false, not_true_eq_false, not_false_eq_true]); (try simp only [w32_em]); (first | done | omega))) ?_ | with_reducible refine wp_ite_f (by ((try simp (disch := omega) only [w32_and, w32_or, w32_shl, w32_shr, w32_xor, ixO, ixO0, ixO1, ixO2, ixO3, ixL0, ixL1, ixL2, ixC, ixB, ixI0, ixI00, ixI1, ixI2, ixI3, upd2_rd, upd2_nd, Nat.reduceEqDiff, Nat.reduceAdd, Nat.add_left_cancel_iff, Nat.add_right_cancel_iff, reduceCtorEq, ↓reduceIte, and_self, and_true, true_and, and_false, false_and, true_or, or_true, false_or, or_false, not_true_eq_false, not_false_eq_true]); (try simp only [w32_em]); (first | done | omega))) ?_ | with_reducible refine wp_itei ?_ ?_ | (with_reducible refine wp_imp (fun hc => ?_); (try simp (disch := omega) only [w32_and, w32_or, w32_shl, w32_shr, w32_xor, ixO, ixO0, ixO1, ixO2, ixO3, ixL0, ixL1, ixL2, ixC, ixB, ixI0, ixI00, ixI1, ixI2, ixI3, upd2_rd, upd2_nd, Nat.reduceEqDiff, Nat.reduceAdd, Nat.add_left_cancel_iff, Nat.add_right_cancel_iff, reduceCtorEq, ↓reduceIte, and_self, and_true, true_and, and_false, false_and, true_or, or_true, false_or, or_false, not_true_eq_false, not_false_eq_true] at hc); (try simp only [w32_em] at hc)) | with_reducible refine wp_gi (by ((try simp (disch := omega) only [w32_and, w32_or, w32_shl, w32_shr, w32_xor, ixO, ixO0, ixO1, ixO2, ixO3, ixL0, ixL1, ixL2, ixC, ixB, ixI0, ixI00, ixI1, ixI2, ixI3, upd2_rd, upd2_nd, Nat.reduceEqDiff, Nat.reduceAdd, Nat.add_left_cancel_iff, Nat.add_right_cancel_iff, reduceCtorEq, ↓reduceIte, and_self, and_true, true_and, and_false, false_and, true_or, or_true, false_or, or_false, not_true_eq_false, not_false_eq_true]); (try simp only [w32_em]); (first | done | omega))) (by ((try simp (disch := omega) only [w32_and, w32_or, w32_shl, w32_shr, w32_xor, ixO, ixO0, ixO1, ixO2, ixO3, ixL0, ixL1, ixL2, ixC, ixB, ixI0, ixI00, ixI1, ixI2, ixI3, upd2_rd, upd2_nd, Nat.reduceEqDiff, Nat.reduceAdd, Nat.add_left_cancel_iff, Nat.add_right_cancel_iff, reduceCtorEq, ↓reduceIte, and_self, and_true, true_and, and_false, false_and, true_or, or_true, false_or, or_false, not_true_eq_false, not_false_eq_true]); (try simp only [w32_em]); (first | done | omega))) (by omega) ?_ | with_reducible refine wp_gz (by ((try simp (disch := omega) only [w32_and, w32_or, w32_shl, w32_shr, w32_xor, ixO, ixO0, ixO1, ixO2, ixO3, ixL0, ixL1, ixL2, ixC, ixB, ixI0, ixI00, ixI1, ixI2, ixI3, upd2_rd, upd2_nd, Nat.reduceEqDiff, Nat.reduceAdd, Nat.add_left_cancel_iff, Nat.add_right_cancel_iff, reduceCtorEq, ↓reduceIte, and_self, and_true, true_and, and_false, false_and, true_or, or_true, false_or, or_false, not_true_eq_false, not_false_eq_true]); (try simp only [w32_em]); (first | done | omega))) ?_ | dsimp only [Sum.elim_inl, Sum.elim_inr])) <;> (first | exact lf1 hI | exact lf2 hI | skip)
    unfold stp
    obtain ⟨r1, r2⟩ := r
    obtain ⟨t1, t2, t3⟩ := hr
    simp only at t1 t2 t3 ⊢
    have e140 : r2 140 = M 140 := t3 140 (by decide) (by decide)
    (repeat' (first | with_reducible refine wp_bnd ?_ | with_reducible refine wp_cl1 ?_ | with_reducible refine wp_cl2 ?_ | with_reducible refine wp_cx1 ?_ | with_reducible refine wp_cx2 ?_ | with_reducible refine wp_some ?_ | with_reducible refine wp_ite_t (lcmp0 (by ((try simp (disch := omega) only [w32_and, w32_or, w32_shl, w32_shr, w32_xor, ixO, ixO0, ixO1, ixO2, ixO3, ixL0, ixL1, ixL2, ixC, ixB, ixI0, ixI00, ixI1, ixI2, ixI3, upd2_rd, upd2_nd, Nat.reduceEqDiff, Nat.reduceAdd, Nat.add_left_cancel_iff, Nat.add_right_cancel_iff, reduceCtorEq, ↓reduceIte, and_self, and_true, true_and, and_false, false_and, true_or, or_true, false_or, or_false, not_true_eq_false, not_false_eq_true]); (try simp only [w32_em]); (first | done | omega)))) ?_ | with_reducible refine wp_ite_t (by ((try simp (disch := omega) only [w32_and, w32_or, w32_shl, w32_shr, w32_xor, ixO, ixO0, ixO1, ixO2, ixO3, ixL0, ixL1, ixL2, ixC, ixB, ixI0, ixI00, ixI1, ixI2, ixI3, upd2_rd, upd2_nd, Nat.reduceEqDiff, Nat.reduceAdd, Nat.add_left_cancel_iff, Nat.add_right_cancel_iff, reduceCtorEq, ↓reduceIte, and_self, and_true, true_and, and_false, false_and, true_or, or_true, false_or, or_false, not_true_eq_false, not_false_eq_true]); (try simp only [w32_em]); (first | done | omega))) ?_ | with_reducible refine wp_ite_f (by ((try simp (disch := omega) only [w32_and, w32_or, w32_shl, w32_shr, w32_xor, ixO, ixO0, ixO1, ixO2, ixO3, ixL0, ixL1, ixL2, ixC, ixB, ixI0, ixI00, ixI1, ixI2, ixI3, upd2_rd, upd2_nd, Nat.reduceEqDiff, Nat.reduceAdd, Nat.add_left_cancel_iff, Nat.add_right_cancel_iff, reduceCtorEq, ↓reduceIte, and_self, and_true, true_and, and_false, false_and, true_or, or_true, false_or, or_false, not_true_eq_false, not_false_eq_true]); (try simp only [w32_em]); (first | done | omega))) ?_ | with_reducible refine wp_itei ?_ ?_ | (with_reducible refine wp_imp (fun hc => ?_); (try simp (disch := omega) only [w32_and, w32_or, w32_shl, w32_shr, w32_xor, ixO, ixO0, ixO1, ixO2, ixO3, ixL0, ixL1, ixL2, ixC, ixB, ixI0, ixI00, ixI1, ixI2, ixI3, upd2_rd, upd2_nd, Nat.reduceEqDiff, Nat.reduceAdd, Nat.add_left_cancel_iff, Nat.add_right_cancel_iff, reduceCtorEq, ↓reduceIte, and_self, and_true, true_and, and_false, false_and, true_or, or_true, false_or, or_false, not_true_eq_false, not_false_eq_true] at hc); (try simp only [w32_em] at hc)) | with_reducible refine wp_gi (by ((try simp (disch := omega) only [w32_and, w32_or, w32_shl, w32_shr, w32_xor, ixO, ixO0, ixO1, ixO2, ixO3, ixL0, ixL1, ixL2, ixC, ixB, ixI0, ixI00, ixI1, ixI2, ixI3, upd2_rd, upd2_nd, Nat.reduceEqDiff, Nat.reduceAdd, Nat.add_left_cancel_iff, Nat.add_right_cancel_iff, reduceCtorEq, ↓reduceIte, and_self, and_true, true_and, and_false, false_and, true_or, or_true, false_or, or_false, not_true_eq_false, not_false_eq_true]); (try simp only [w32_em]); (first | done | omega))) (by ((try simp (disch := omega) only [w32_and, w32_or, w32_shl, w32_shr, w32_xor, ixO, ixO0, ixO1, ixO2, ixO3, ixL0, ixL1, ixL2, ixC, ixB, ixI0, ixI00, ixI1, ixI2, ixI3, upd2_rd, upd2_nd, Nat.reduceEqDiff, Nat.reduceAdd, Nat.add_left_cancel_iff, Nat.add_right_cancel_iff, reduceCtorEq, ↓reduceIte, and_self, and_true, true_and, and_false, false_and, true_or, or_true, false_or, or_false, not_true_eq_false, not_false_eq_true]); (try simp only [w32_em]); (first | done | omega))) (by omega) ?_ | with_reducible refine wp_gz (by ((try simp (disch := omega) only [w32_and, w32_or, w32_shl, w32_shr, w32_xor, ixO, ixO0, ixO1, ixO2, ixO3, ixL0, ixL1, ixL2, ixC, ixB, ixI0, ixI00, ixI1, ixI2, ixI3, upd2_rd, upd2_nd, Nat.reduceEqDiff, Nat.reduceAdd, Nat.add_left_cancel_iff, Nat.add_right_cancel_iff, reduceCtorEq, ↓reduceIte, and_self, and_true, true_and, and_false, false_and, true_or, or_true, false_or, or_false, not_true_eq_false, not_false_eq_true]); (try simp only [w32_em]); (first | done | omega))) ?_ | dsimp only [Sum.elim_inl, Sum.elim_inr])) <;> (first | exact lf1 hI | exact lf2 hI | skip)
    refine wp_lpb (wp_use (X12imp (N := M 140) hF (by (try simp (disch := omega) only [upd2_ne]); exact e140) hW qa qb) (fun r hr => ?_))
    obtain ⟨u, rfl, u1, u2, u3, u4⟩ := hr
    dsimp only [Sum.elim_inl, Sum.elim_inr]
    have u139 : u 139 0 = 0 := by rw [u4 0 (by omega)]; (simp (disch := omega) only [ixO, ixO0, ixO1, ixO2, ixO3, ixL0, ixL1, ixL2, ixC, ixB, ixI0, ixI00, ixI1, ixI2, ixI3, upd2_rd, upd2_nd, Nat.reduceEqDiff, Nat.reduceAdd, Nat.add_left_cancel_iff, Nat.add_right_cancel_iff, reduceCtorEq, ↓reduceIte, and_self, and_true, true_and, and_false, false_and, true_or, or_true, false_or, or_false, not_true_eq_false, not_false_eq_true, if_pos, if_neg])
    have u157 : u 157 0 = w32 r1 := by rw [u3 157 (by decide) (by decide) (by decide) (by decide) (by decide)]; (simp (disch := omega) only [ixO, ixO0, ixO1, ixO2, ixO3, ixL0, ixL1, ixL2, ixC, ixB, ixI0, ixI00, ixI1, ixI2, ixI3, upd2_rd, upd2_nd, Nat.reduceEqDiff, Nat.reduceAdd, Nat.add_left_cancel_iff, Nat.add_right_cancel_iff, reduceCtorEq, ↓reduceIte, and_self, and_true, true_and, and_false, false_and, true_or, or_true, false_or, or_false, not_true_eq_false, not_false_eq_true, if_pos, if_neg])
    rw [t1, w32_em] at u157
    (repeat' (first | with_reducible refine wp_bnd ?_ | with_reducible refine wp_cl1 ?_ | with_reducible refine wp_cl2 ?_ | with_reducible refine wp_cx1 ?_ | with_reducible refine wp_cx2 ?_ | with_reducible refine wp_some ?_ | with_reducible refine wp_ite_t (lcmp0 (by ((try simp (disch := omega) only [w32_and, w32_or, w32_shl, w32_shr, w32_xor, ixO, ixO0, ixO1, ixO2, ixO3, ixL0, ixL1, ixL2, ixC, ixB, ixI0, ixI00, ixI1, ixI2, ixI3, upd2_rd, upd2_nd, Nat.reduceEqDiff, Nat.reduceAdd, Nat.add_left_cancel_iff, Nat.add_right_cancel_iff, reduceCtorEq, ↓reduceIte, and_self, and_true, true_and, and_false, false_and, true_or, or_true, false_or, or_false, not_true_eq_false, not_false_eq_true]); (try simp only [w32_em]); (first | done | omega)))) ?_ | with_reducible refine wp_ite_t (by ((try simp (disch := omega) only [w32_and, w32_or, w32_shl, w32_shr, w32_xor, ixO, ixO0, ixO1, ixO2, ixO3, ixL0, ixL1, ixL2, ixC, ixB, ixI0, ixI00, ixI1, ixI2, ixI3, upd2_rd, upd2_nd, Nat.reduceEqDiff, Nat.reduceAdd, Nat.add_left_cancel_iff, Nat.add_right_cancel_iff, reduceCtorEq, ↓reduceIte, and_self, and_true, true_and, and_false, false_and, true_or, or_true, false_or, or_false, not_true_eq_false, not_false_eq_true]); (try simp only [w32_em]); (first | done | omega))) ?_ | with_reducible refine wp_ite_f (by ((try simp (disch := omega) only [w32_and, w32_or, w32_shl, w32_shr, w32_xor, ixO, ixO0, ixO1, ixO2, ixO3, ixL0, ixL1, ixL2, ixC, ixB, ixI0, ixI00, ixI1, ixI2, ixI3, upd2_rd, upd2_nd, Nat.reduceEqDiff, Nat.reduceAdd, Nat.add_left_cancel_iff, Nat.add_right_cancel_iff, reduceCtorEq, ↓reduceIte, and_self, and_true, true_and, and_false, false_and, true_or, or_true, false_or, or_false, not_true_eq_false, not_false_eq_true]); (try simp only [w32_em]); (first | done | omega))) ?_ | with_reducible refine wp_itei ?_ ?_ | (with_reducible refine wp_imp (fun hc => ?_); (try simp (disch := omega) only [w32_and, w32_or, w32_shl, w32_shr, w32_xor, ixO, ixO0, ixO1, ixO2, ixO3, ixL0, ixL1, ixL2, ixC, ixB, ixI0, ixI00, ixI1, ixI2, ixI3, upd2_rd, upd2_nd, Nat.reduceEqDiff, Nat.reduceAdd, Nat.add_left_cancel_iff, Nat.add_right_cancel_iff, reduceCtorEq, ↓reduceIte, and_self, and_true, true_and, and_false, false_and, true_or, or_true, false_or, or_false, not_true_eq_false, not_false_eq_true] at hc); (try simp only [w32_em] at hc)) | with_reducible refine wp_gi (by ((try simp (disch := omega) only [w32_and, w32_or, w32_shl, w32_shr, w32_xor, ixO, ixO0, ixO1, ixO2, ixO3, ixL0, ixL1, ixL2, ixC, ixB, ixI0, ixI00, ixI1, ixI2, ixI3, upd2_rd, upd2_nd, Nat.reduceEqDiff, Nat.reduceAdd, Nat.add_left_cancel_iff, Nat.add_right_cancel_iff, reduceCtorEq, ↓reduceIte, and_self, and_true, true_and, and_false, false_and, true_or, or_true, false_or, or_false, not_true_eq_false, not_false_eq_true]); (try simp only [w32_em]); (first | done | omega))) (by ((try simp (disch := omega) only [w32_and, w32_or, w32_shl, w32_shr, w32_xor, ixO, ixO0, ixO1, ixO2, ixO3, ixL0, ixL1, ixL2, ixC, ixB, ixI0, ixI00, ixI1, ixI2, ixI3, upd2_rd, upd2_nd, Nat.reduceEqDiff, Nat.reduceAdd, Nat.add_left_cancel_iff, Nat.add_right_cancel_iff, reduceCtorEq, ↓reduceIte, and_self, and_true, true_and, and_false, false_and, true_or, or_true, false_or, or_false, not_true_eq_false, not_false_eq_true]); (try simp only [w32_em]); (first | done | omega))) (by omega) ?_ | with_reducible refine wp_gz (by ((try simp (disch := omega) only [w32_and, w32_or, w32_shl, w32_shr, w32_xor, ixO, ixO0, ixO1, ixO2, ixO3, ixL0, ixL1, ixL2, ixC, ixB, ixI0, ixI00, ixI1, ixI2, ixI3, upd2_rd, upd2_nd, Nat.reduceEqDiff, Nat.reduceAdd, Nat.add_left_cancel_iff, Nat.add_right_cancel_iff, reduceCtorEq, ↓reduceIte, and_self, and_true, true_and, and_false, false_and, true_or, or_true, false_or, or_false, not_true_eq_false, not_false_eq_true]); (try simp only [w32_em]); (first | done | omega))) ?_ | dsimp only [Sum.elim_inl, Sum.elim_inr])) <;> (first | exact lf1 hI | exact lf2 hI | skip)
    refine lf4 hI (fun a ka k2 k3 => ?_) (fun k _ _ => ?_) ?_ ?_ ?_ ?_ u2
    · have := key_li ka
      rw [u3 a (by omega) (by omega) (by omega) (by omega) (by omega)]
      simp (disch := omega) only [upd2_ne]
      exact t3 a (by omega) (by omega)
    · rw [u3 38 (by decide) (by decide) (by decide) (by decide) (by decide)]
      simp (disch := omega) only [upd2_ne]
      rw [t3 38 (by decide) (by decide)]
    · rw [u4 23 (by omega)]
      simp only [upd2_rd, upd2_nd, Nat.reduceEqDiff, Nat.reduceAdd, Nat.add_left_cancel_iff, Nat.add_right_cancel_iff, reduceCtorEq, ↓reduceIte, and_self, and_true, true_and, and_false, false_and, true_or, or_true, false_or, or_false, not_true_eq_false, not_false_eq_true]
      rw [t3 139 (by decide) (by decide)]
    · rw [u4 28 (by omega)]
      simp only [upd2_rd, upd2_nd, Nat.reduceEqDiff, Nat.reduceAdd, Nat.add_left_cancel_iff, Nat.add_right_cancel_iff, reduceCtorEq, ↓reduceIte, and_self, and_true, true_and, and_false, false_and, true_or, or_true, false_or, or_false, not_true_eq_false, not_false_eq_true]
      rw [t3 139 (by decide) (by decide)]
    · rw [u4 29 (by omega)]
      simp only [upd2_rd, upd2_nd, Nat.reduceEqDiff, Nat.reduceAdd, Nat.add_left_cancel_iff, Nat.add_right_cancel_iff, reduceCtorEq, ↓reduceIte, and_self, and_true, true_and, and_false, false_and, true_or, or_true, false_or, or_false, not_true_eq_false, not_false_eq_true]
      rw [t3 139 (by decide) (by decide)]
    · rw [u1]
      exact HR_congr (fun d d1 d2 => by rw [u3 _ (by omega) (by omega) (by omega) (by omega) (by omega)]; simp (disch := omega) only [upd2_ne]) t2
  · by_cases qa : 1 ≤ p1 ∧ p1 ≤ 6
    · (repeat' (first | with_reducible refine wp_bnd ?_ | with_reducible refine wp_cl1 ?_ | with_reducible refine wp_cl2 ?_ | with_reducible refine wp_cx1 ?_ | with_reducible refine wp_cx2 ?_ | with_reducible refine wp_some ?_ | with_reducible refine wp_ite_t (lcmp0 (by ((try simp (disch := omega) only [w32_and, w32_or, w32_shl, w32_shr, w32_xor, ixO, ixO0, ixO1, ixO2, ixO3, ixL0, ixL1, ixL2, ixC, ixB, ixI0, ixI00, ixI1, ixI2, ixI3, upd2_rd, upd2_nd, Nat.reduceEqDiff, Nat.reduceAdd, Nat.add_left_cancel_iff, Nat.add_right_cancel_iff, reduceCtorEq, ↓reduceIte, and_self, and_true, true_and, and_false, false_and, true_or, or_true, false_or, or_false, not_true_eq_false, not_false_eq_true]); (try simp only [w32_em]); (first | done | omega)))) ?_ | with_reducible refine wp_ite_t (by ((try simp (disch := omega) only [w32_and, w32_or, w32_shl, w32_shr, w32_xor, ixO, ixO0, ixO1, ixO2, ixO3, ixL0, ixL1, ixL2, ixC, ixB, ixI0, ixI00, ixI1, ixI2, ixI3, upd2_rd, upd2_nd, Nat.reduceEqDiff, Nat.reduceAdd, Nat.add_left_cancel_iff, Nat.add_right_cancel_iff, reduceCtorEq, ↓reduceIte, and_self, and_true, true_and, and_false, false_and, true_or, or_true, false_or, or_false, not_true_eq_false, not_false_eq_true]); (try simp only [w32_em]); (first | done | omega))) ?_ | with_reducible refine wp_ite_f (by ((try simp (disch := omega) only [w32_and, w32_or, w32_shl, w32_shr, w32_xor, ixO, ixO0, ixO1, ixO2, ixO3, ixL0, ixL1, ixL2, ixC, ixB, ixI0, ixI00, ixI1, ixI2, ixI3, upd2_rd, upd2_nd, Nat.reduceEqDiff, Nat.reduceAdd, Nat.add_left_cancel_iff, Nat.add_right_cancel_iff, reduceCtorEq, ↓reduceIte, and_self, and_true, true_and, and_false, false_and, true_or, or_true, false_or, or_false, not_true_eq_false, not_false_eq_true]); (try simp only [w32_em]); (first | done | omega))) ?_ | with_reducible refine wp_itei ?_ ?_ | (with_reducible refine wp_imp (fun hc => ?_); (try simp (disch := omega) only [w32_and, w32_or, w32_shl, w32_shr, w32_xor, ixO, ixO0, ixO1, ixO2, ixO3, ixL0, ixL1, ixL2, ixC, ixB, ixI0, ixI00, ixI1, ixI2, ixI3, upd2_rd, upd2_nd, Nat.reduceEqDiff, Nat.reduceAdd, Nat.add_left_cancel_iff, Nat.add_right_cancel_iff, reduceCtorEq, ↓reduceIte, and_self, and_true, true_and, and_false, false_and, true_or, or_true, false_or, or_false, not_true_eq_false, not_false_eq_true] at hc); (try simp only [w32_em] at hc)) | with_reducible refine wp_gi (by ((try simp (disch := omega) only [w32_and, w32_or, w32_shl, w32_shr, w32_xor, ixO, ixO0, ixO1, ixO2, ixO3, ixL0, ixL1, ixL2, ixC, ixB, ixI0, ixI00, ixI1, ixI2, ixI3, upd2_rd, upd2_nd, Nat.reduceEqDiff, Nat.reduceAdd, Nat.add_left_cancel_iff, Nat.add_right_cancel_iff, reduceCtorEq, ↓reduceIte, and_self, and_true, true_and, and_false, false_and, true_or, or_true, false_or, or_false, not_true_eq_false, not_false_eq_true]); (try simp only [w32_em]); (first | done | omega))) (by ((try simp (disch := omega) only [w32_and, w32_or, w32_shl, w32_shr, w32_xor, ixO, ixO0, ixO1, ixO2, ixO3, ixL0, ixL1, ixL2, ixC, ixB, ixI0, ixI00, ixI1, ixI2, ixI3, upd2_rd, upd2_nd, Nat.reduceEqDiff, Nat.reduceAdd, Nat.add_left_cancel_iff, Nat.add_right_cancel_iff, reduceCtorEq, ↓reduceIte, and_self, and_true, true_and, and_false, false_and, true_or, or_true, false_or, or_false, not_true_eq_false, not_false_eq_true]); (try simp only [w32_em]); (first | done | omega))) (by omega) ?_ | with_reducible refine wp_gz (by ((try simp (disch := omega) only [w32_and, w32_or, w32_shl, w32_shr, w32_xor, ixO, ixO0, ixO1, ixO2, ixO3, ixL0, ixL1, ixL2, ixC, ixB, ixI0, ixI00, ixI1, ixI2, ixI3, upd2_rd, upd2_nd, Nat.reduceEqDiff, Nat.reduceAdd, Nat.add_left_cancel_iff, Nat.add_right_cancel_iff, reduceCtorEq, ↓reduceIte, and_self, and_true, true_and, and_false, false_and, true_or, or_true, false_or, or_false, not_true_eq_false, not_false_eq_true]); (try simp only [w32_em]); (first | done | omega))) ?_ | dsimp only [Sum.elim_inl, Sum.elim_inr])) <;> (first | exact lf1 hI | exact lf2 hI | skip)
    · (repeat' (first | with_reducible refine wp_bnd ?_ | with_reducible refine wp_cl1 ?_ | with_reducible refine wp_cl2 ?_ | with_reducible refine wp_cx1 ?_ | with_reducible refine wp_cx2 ?_ | with_reducible refine wp_some ?_ | with_reducible refine wp_ite_t (lcmp0 (by ((try simp (disch := omega) only [w32_and, w32_or, w32_shl, w32_shr, w32_xor, ixO, ixO0, ixO1, ixO2, ixO3, ixL0, ixL1, ixL2, ixC, ixB, ixI0, ixI00, ixI1, ixI2, ixI3, upd2_rd, upd2_nd, Nat.reduceEqDiff, Nat.reduceAdd, Nat.add_left_cancel_iff, Nat.add_right_cancel_iff, reduceCtorEq, ↓reduceIte, and_self, and_true, true_and, and_false, false_and, true_or, or_true, false_or, or_false, not_true_eq_false, not_false_eq_true]); (try simp only [w32_em]); (first | done | omega)))) ?_ | with_reducible refine wp_ite_t (by ((try simp (disch := omega) only [w32_and, w32_or, w32_shl, w32_shr, w32_xor, ixO, ixO0, ixO1, ixO2, ixO3, ixL0, ixL1, ixL2, ixC, ixB, ixI0, ixI00, ixI1, ixI2, ixI3, upd2_rd, upd2_nd, Nat.reduceEqDiff, Nat.reduceAdd, Nat.add_left_cancel_iff, Nat.add_right_cancel_iff, reduceCtorEq, ↓reduceIte, and_self, and_true, true_and, and_false, false_and, true_or, or_true, false_or, or_false, not_true_eq_false, not_false_eq_true]); (try simp only [w32_em]); (first | done | omega))) ?_ | with_reducible refine wp_ite_f (by ((try simp (disch := omega) only [w32_and, w32_or, w32_shl, w32_shr, w32_xor, ixO, ixO0, ixO1, ixO2, ixO3, ixL0, ixL1, ixL2, ixC, ixB, ixI0, ixI00, ixI1, ixI2, ixI3, upd2_rd, upd2_nd, Nat.reduceEqDiff, Nat.reduceAdd, Nat.add_left_cancel_iff, Nat.add_right_cancel_iff, reduceCtorEq, ↓reduceIte, and_self, and_true, true_and, and_false, false_and, true_or, or_true, false_or, or_false, not_true_eq_false, not_false_eq_true]); (try simp only [w32_em]); (first | done | omega))) ?_ | with_reducible refine wp_itei ?_ ?_ | (with_reducible refine wp_imp (fun hc => ?_); (try simp (disch := omega) only [w32_and, w32_or, w32_shl, w32_shr, w32_xor, ixO, ixO0, ixO1, ixO2, ixO3, ixL0, ixL1, ixL2, ixC, ixB, ixI0, ixI00, ixI1, ixI2, ixI3, upd2_rd, upd2_nd, Nat.reduceEqDiff, Nat.reduceAdd, Nat.add_left_cancel_iff, Nat.add_right_cancel_iff, reduceCtorEq, ↓reduceIte, and_self, and_true, true_and, and_false, false_and, true_or, or_true, false_or, or_false, not_true_eq_false, not_false_eq_true] at hc); (try simp only [w32_em] at hc)) | with_reducible refine wp_gi (by ((try simp (disch := omega) only [w32_and, w32_or, w32_shl, w32_shr, w32_xor, ixO, ixO0, ixO1, ixO2, ixO3, ixL0, ixL1, ixL2, ixC, ixB, ixI0, ixI00, ixI1, ixI2, ixI3, upd2_rd, upd2_nd, Nat.reduceEqDiff, Nat.reduceAdd, Nat.add_left_cancel_iff, Nat.add_right_cancel_iff, reduceCtorEq, ↓reduceIte, and_self, and_true, true_and, and_false, false_and, true_or, or_true, false_or, or_false, not_true_eq_false, not_false_eq_true]); (try simp only [w32_em]); (first | done | omega))) (by ((try simp (disch := omega) only [w32_and, w32_or, w32_shl, w32_shr, w32_xor, ixO, ixO0, ixO1, ixO2, ixO3, ixL0, ixL1, ixL2, ixC, ixB, ixI0, ixI00, ixI1, ixI2, ixI3, upd2_rd, upd2_nd, Nat.reduceEqDiff, Nat.reduceAdd, Nat.add_left_cancel_iff, Nat.add_right_cancel_iff, reduceCtorEq, ↓reduceIte, and_self, and_true, true_and, and_false, false_and, true_or, or_true, false_or, or_false, not_true_eq_false, not_false_eq_true]); (try simp only [w32_em]); (first | done | omega))) (by omega) ?_ | with_reducible refine wp_gz (by ((try simp (disch := omega) only [w32_and, w32_or, w32_shl, w32_shr, w32_xor, ixO, ixO0, ixO1, ixO2, ixO3, ixL0, ixL1, ixL2, ixC, ixB, ixI0, ixI00, ixI1, ixI2, ixI3, upd2_rd, upd2_nd, Nat.reduceEqDiff, Nat.reduceAdd, Nat.add_left_cancel_iff, Nat.add_right_cancel_iff, reduceCtorEq, ↓reduceIte, and_self, and_true, true_and, and_false, false_and, true_or, or_true, false_or, or_false, not_true_eq_false, not_false_eq_true]); (try simp only [w32_em]); (first | done | omega))) ?_ | dsimp only [Sum.elim_inl, Sum.elim_inr])) <;> (first | exact lf1 hI | exact lf2 hI | skip)
