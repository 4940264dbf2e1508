-- ===== the reference seeks the best sequence =====
set_option maxHeartbeats 600000 in
theorem nxl_none {n : Nat} {l : List Nat} (h : nxl n l = none) : nxf n (qL l) = none := by
  unfold nxl at h
  cases e : nxf n (qL l) with
  | none => rfl
  | some b => rw [e] at h; cases h
set_option maxHeartbeats 600000 in
theorem nxl_some {n : Nat} {l b : List Nat} (h : nxl n l = some b) : ∃ f, nxf n (qL l) = some f ∧ ∀ j, j < n → qL b j = f j := by
  unfold nxl at h
  cases e : nxf n (qL l) with
  | none => rw [e] at h; cases h
  | some f =>
    rw [e] at h
    dsimp only at h
    rw [Option.some_inj] at h
    refine ⟨f, rfl, fun j hj => ?_⟩
    rw [← h]
    unfold qL
    simp [List.getD_eq_getElem?_getD, List.getElem?_map, List.getElem?_range hj]
set_option maxHeartbeats 600000 in
theorem qL_range {n j : Nat} (h : j < n) : qL (List.range n) j = j := by
  unfold qL
  simp [List.getD_eq_getElem?_getD, List.getElem?_range h]
set_option maxHeartbeats 600000 in
theorem sq13 {x : Int} {m : Mem} : s_X12_seeksSequence_13 x m = cl2 (f_X12_goesOn m) (fun r_7 M_8 => (if w32 r_7 = 0 then some (.inr (.inl M_8)) else cl1 (f_X12_laysTimes M_8) (fun M_10 => cl1 (f_X12_tardiness M_10) (fun r_11 => (if w32 r_11 < w32 x then cl1 (f_X12_keepsBest M_10) (fun M_14 => some (.inl (r_11, M_14))) else some (.inl (x, M_10))))))) := rfl
set_option maxHeartbeats 600000 in
theorem vL_rng {N : Nat → Int} (hW : WF N) {p : List Nat} (h : p.length ≤ 8) : 0 ≤ vL N p ∧ vL N p ≤ 12800000 := by
  have := vq_rng hW (q := qL p) p.length h
  unfold vL
  omega
/-- the frame of the search -/
def FQr (M u : Mem) : Prop := ∀ a, a ≠ 149 → a ≠ 150 → a ≠ 151 → a ≠ 153 → u a = M a
set_option maxHeartbeats 600000 in
theorem X12seql {M : Mem} {N : Nat → Int} (hN : M 140 = N) (hW : WF N) (hw : ∀ b z : Nat, (b : Int) < N 5 → (z : Int) < zns N → M 148 (3 * b + z) = wkS N b z) {n : Nat} (hn : N 5 = (n : Int)) : ∀ (rest : List (List Nat)) (cur : List Nat) (s : Int × List Nat) (m : Mem), chn n (cur :: rest) = true → (∀ l, l ∈ cur :: rest → l.length = n ∧ PMq n (qL l)) → 0 ≤ s.1 → s.1 ≤ 1000000000 → FQr M m → (∀ j, j < n → m 149 j = ((qL cur j : Nat) : Int)) → (∀ j, j < n → m 153 j = ((qL s.2 j : Nat) : Int)) → wp (wh (fun x => s_X12_seeksSequence_13 x.1 x.2) (s.1, m)) (fun r => ∃ u : Mem, r = .inl u ∧ FQr M u ∧ ∀ j, j < n → u 153 j = ((qL (rest.foldl (upS N) s).2 j : Nat) : Int)) := by
  have q5 := n5 hW
  have tn : (N 5).toNat = n := by omega
  intro rest
  induction rest with
  | nil =>
    intro cur s m hc hp hs0 hs1 hm h149 h153
    have pc := (hp cur (List.mem_cons_self ..)).2
    simp only [chn, Bool.and_true, Option.isNone_iff_eq_none] at hc
    have nx := nxl_none hc
    have m5 : m 140 5 = (n : Int) := by rw [hm 140 (by decide) (by decide) (by decide) (by decide), hN, hn]
    refine wp_unroll ?_
    show wp (s_X12_seeksSequence_13 s.1 m) _
    rw [sq13]
    refine wp_cl2 (wp_use (X12goes (by omega) m5 (fun j hj => by have := pc.1 j hj; omega) h149) (fun r hr => ?_))
    obtain ⟨r1, r2⟩ := hr
    rcases r2 with ⟨_, r2⟩ | ⟨b, r2, _⟩
    · refine wp_ite_t (by rw [r2]; decide) (wp_some ?_)
      refine ⟨r.2, rfl, fun a a1 a2 a3 a4 => (r1 a a1).trans (hm a a1 a2 a3 a4), fun j hj => ?_⟩
      rw [r1 153 (by decide)]
      exact h153 j hj
    · rw [nx] at r2; cases r2
  | cons b rest ih =>
    intro cur s m hc hp hs0 hs1 hm h149 h153
    have pc := (hp cur (List.mem_cons_self ..)).2
    have pb := hp b (List.mem_cons_of_mem _ (List.mem_cons_self ..))
    rw [chn, Bool.and_eq_true] at hc
    obtain ⟨c1, c2⟩ := hc
    try dsimp only at c1
    rw [beq_iff_eq] at c1
    obtain ⟨f, f1, f2⟩ := nxl_some c1
    have m5 : m 140 5 = (n : Int) := by rw [hm 140 (by decide) (by decide) (by decide) (by decide), hN, hn]
    refine wp_unroll ?_
    show wp (s_X12_seeksSequence_13 s.1 m) _
    rw [sq13]
    refine wp_cl2 (wp_use (X12goes (by omega) m5 (fun j hj => by have := pc.1 j hj; omega) h149) (fun r hr => ?_))
    obtain ⟨r1, r2⟩ := hr
    rcases r2 with ⟨r2, _⟩ | ⟨b', r2, r3, r4⟩
    · rw [f1] at r2; cases r2
    · rw [f1, Option.some_inj] at r2
      subst r2
      have n149 : ∀ j, j < n → r.2 149 j = ((qL b j : Nat) : Int) := fun j hj => by rw [r4 j hj, f2 j hj]
      have rN : r.2 140 = N := by rw [r1 140 (by decide), hm 140 (by decide) (by decide) (by decide) (by decide)]; exact hN
      refine wp_ite_f (by rw [r3]; decide) (wp_cl1 (wp_use (X12times (q := qL b) rN hW (fun c z hcc hz => by rw [r1 148 (by decide), hm 148 (by decide) (by decide) (by decide) (by decide)]; exact hw c z hcc hz) (fun k hk => ⟨n149 k (by omega), by have := pb.2.1 k (by omega); omega⟩)) (fun t ht => ?_)))
      have tN : t 140 = N := by rw [ht.1 140 (by decide) (by decide)]; exact rN
      have t149 : ∀ j, j < n → t 149 j = ((qL b j : Nat) : Int) := fun j hj => by rw [ht.1 149 (by decide) (by decide)]; exact n149 j hj
      have tv : tdQ N (qL b) (N 5).toNat = vL N b := by
        rw [vq_full, tn]
        unfold vL
        rw [pb.1]
      have fT : FQr M t := fun a a1 a2 a3 a4 => by rw [ht.1 a a2 a3, r1 a a1]; exact hm a a1 a2 a3 a4
      have t153 : ∀ j, j < n → t 153 j = ((qL s.2 j : Nat) : Int) := fun j hj => by rw [ht.1 153 (by decide) (by decide), r1 153 (by decide)]; exact h153 j hj
      have vr := vL_rng hW (p := b) (by omega)
      refine wp_cl1 (wp_eq (X12tard tN hW (q := qL b) (fun k hk => ⟨t149 k (by omega), by have := pb.2.1 k (by omega); omega⟩) ht.2) ?_)
      rw [tv]
      rw [List.foldl_cons]
      by_cases hv : vL N b < s.1
      · have eu : upS N s b = (vL N b, b) := by unfold upS; rw [if_pos hv]
        rw [eu]
        refine wp_ite_t (by ((try simp (disch := omega) only [w32_and, w32_or, w32_shl, w32_shr, w32_xor, ixO, ixO0, ixO1, ixO2, ixO3, ixL0, ixL1, ixL2, ixC, ixB, ixI0, ixI00, ixI1, ixI2, ixI3, upd2_rd, upd2_nd, Nat.reduceEqDiff, Nat.reduceAdd, Nat.add_left_cancel_iff, Nat.add_right_cancel_iff, reduceCtorEq, ↓reduceIte, and_self, and_true, true_and, and_false, false_and, true_or, or_true, false_or, or_false, not_true_eq_false, not_false_eq_true]); (try simp only [w32_em]); (first | done | omega))) (wp_cl1 (wp_use (X12keeps (n := n) (by omega) (by rw [tN, hn])) (fun w hw2 => wp_some ?_)))
        dsimp only [Sum.elim_inl, Sum.elim_inr]
        exact ih b (vL N b, b) w c2 (fun l hl => hp l (List.mem_cons_of_mem _ hl)) vr.1 (by (try dsimp only); omega) (fun a a1 a2 a3 a4 => by rw [hw2.1 a a4]; exact fT a a1 a2 a3 a4) (fun j hj => by rw [hw2.1 149 (by decide)]; exact t149 j hj) (fun j hj => by rw [hw2.2 j hj]; exact t149 j hj)
      · have eu : upS N s b = s := by unfold upS; rw [if_neg hv]
        rw [eu]
        refine wp_ite_f (by ((try simp (disch := omega) only [w32_and, w32_or, w32_shl, w32_shr, w32_xor, ixO, ixO0, ixO1, ixO2, ixO3, ixL0, ixL1, ixL2, ixC, ixB, ixI0, ixI00, ixI1, ixI2, ixI3, upd2_rd, upd2_nd, Nat.reduceEqDiff, Nat.reduceAdd, Nat.add_left_cancel_iff, Nat.add_right_cancel_iff, reduceCtorEq, ↓reduceIte, and_self, and_true, true_and, and_false, false_and, true_or, or_true, false_or, or_false, not_true_eq_false, not_false_eq_true]); (try simp only [w32_em]); (first | done | omega))) (wp_some ?_)
        dsimp only [Sum.elim_inl, Sum.elim_inr]
        exact ih b s t c2 (fun l hl => hp l (List.mem_cons_of_mem _ hl)) hs0 hs1 fT t149 t153
/-- the best sequence of n batches -/
def bsQ (N : Nat → Int) (n : Nat) : List Nat := ((allp n 8 []).foldl (upS N) (1000000000, [])).2
set_option maxHeartbeats 600000 in
theorem bs_first {N : Nat → Int} (hW : WF N) {n : Nat} (hn : n ≤ 6) {r : List (List Nat)} (hr : allp n 8 [] = List.range n :: r) : bsQ N n = (r.foldl (upS N) (vL N (List.range n), List.range n)).2 := by
  have v := vL_rng hW (p := List.range n) (by rw [List.length_range]; omega)
  unfold bsQ
  rw [hr, List.foldl_cons]
  have eu : upS N (1000000000, []) (List.range n) = (vL N (List.range n), List.range n) := by unfold upS; rw [if_pos (by (try dsimp only); omega)]
  rw [eu]
set_option maxHeartbeats 600000 in
theorem up_mem {N : Nat → Int} : ∀ (L : List (List Nat)) (s : Int × List Nat), (L.foldl (upS N) s).2 = s.2 ∨ (L.foldl (upS N) s).2 ∈ L := by
  intro L
  induction L with
  | nil => intro s; exact Or.inl rfl
  | cons c L ih =>
    intro s
    rw [List.foldl_cons]
    rcases ih (upS N s c) with h | h
    · by_cases hv : vL N c < s.1
      · have eu : upS N s c = (vL N c, c) := by unfold upS; rw [if_pos hv]
        rw [eu] at h ⊢
        rw [h]
        exact Or.inr (List.mem_cons_self ..)
      · have eu : upS N s c = s := by unfold upS; rw [if_neg hv]
        rw [eu] at h ⊢
        exact Or.inl h
    · exact Or.inr (List.mem_cons_of_mem _ h)
set_option maxHeartbeats 600000 in
theorem bs_pm {N : Nat → Int} (hW : WF N) {n : Nat} (hn : n ≤ 6) : (bsQ N n).length = n ∧ PMq n (qL (bsQ N n)) := by
  obtain ⟨r, r1, r2, r3⟩ := seqs hn
  rw [bs_first hW hn r1]
  rcases up_mem (N := N) r (vL N (List.range n), List.range n) with h | h
  · rw [h]
    exact r3 _ (List.mem_cons_self ..)
  · exact r3 _ (List.mem_cons_of_mem _ h)
set_option maxHeartbeats 600000 in
theorem X12seeks {M : Mem} {N : Nat → Int} (hN : M 140 = N) (hW : WF N) (hw : ∀ b z : Nat, (b : Int) < N 5 → (z : Int) < zns N → M 148 (3 * b + z) = wkS N b z) {n : Nat} (hn : N 5 = (n : Int)) (h6 : n ≤ 6) (h149 : ∀ b : Nat, (b : Int) < N 5 → M 149 b = (b : Int)) : wp (f_X12_seeksSequence M) (fun r => FQr M r ∧ ∀ j, j < n → r 149 j = ((qL (bsQ N n) j : Nat) : Int)) := by
  have tn : (N 5).toNat = n := by omega
  obtain ⟨r, r1, r2, r3⟩ := seqs h6
  unfold f_X12_seeksSequence
  refine wp_cl1 (wp_use (X12times (q := id) hN hW hw (fun k hk => ⟨h149 k hk, hk⟩)) (fun t ht => ?_))
  have tN : t 140 = N := by rw [ht.1 140 (by decide) (by decide)]; exact hN
  have t149 : ∀ b : Nat, (b : Int) < N 5 → t 149 b = (b : Int) := fun b hb => by rw [ht.1 149 (by decide) (by decide)]; exact h149 b hb
  refine wp_cl1 (wp_eq (X12tard tN hW (q := id) (fun k hk => ⟨t149 k hk, hk⟩) ht.2) (wp_cl1 (wp_use (X12keeps (n := n) (by omega) (by rw [tN, hn])) (fun w hw2 => ?_))))
  have tv : tdQ N id (N 5).toNat = vL N (List.range n) := by
    rw [vq_full, tn]
    unfold vL
    rw [List.length_range]
    exact vq_q (fun j hj => (qL_range hj).symm)
  have vr := vL_rng hW (p := List.range n) (by rw [List.length_range]; omega)
  rw [tv]
  have fw : FQr M w := fun a a1 a2 a3 a4 => by rw [hw2.1 a a4, ht.1 a a2 a3]
  have l149 : ∀ j, j < n → t 149 j = ((qL (List.range n) j : Nat) : Int) := fun j hj => by rw [t149 j (by omega), qL_range hj]
  refine wp_lpb (wp_use (X12seql hN hW hw hn r (List.range n) (vL N (List.range n), List.range n) w r2 r3 vr.1 (by (try dsimp only); omega) fw (fun j hj => by rw [hw2.1 149 (by decide)]; exact l149 j hj) (fun j hj => by rw [hw2.2 j hj]; exact l149 j hj)) (fun v hv => ?_))
  obtain ⟨u, rfl, u1, u2⟩ := hv
  rw [← bs_first hW h6 r1] at u2
  dsimp only [Sum.elim_inl, Sum.elim_inr]
  refine wp_lpb (wp_forI (fun i x => x.1 = (i : Int) ∧ (∀ c, c ≠ 149 → x.2 c = u c) ∧ ∀ j, j < i → x.2 149 j = u 153 j) n ?_ ?_ (Nat.zero_le _) ⟨rfl, fun _ _ => rfl, fun j hj => by omega⟩)
  · rintro i ⟨y, m⟩ hi ⟨k1, k2, k3⟩
    simp only at k1 k2 k3
    subst k1
    have xi : ix (i : Int) = i := ix_nat (by omega)
    have m5 : m 140 5 = (n : Int) := by rw [k2 140 (by decide), u1 140 (by decide) (by decide) (by decide) (by decide), hN, hn]
    simp only [s_X12_seeksSequence_45, xi]
    refine wp_ite_t (by ((try simp (disch := omega) only [w32_and, w32_or, w32_shl, w32_shr, w32_xor, ixO, ixO0, ixO1, ixO2, ixO3, ixL0, ixL1, ixL2, ixC, ixB, ixI0, ixI00, ixI1, ixI2, ixI3, upd2_rd, upd2_nd, Nat.reduceEqDiff, Nat.reduceAdd, Nat.add_left_cancel_iff, Nat.add_right_cancel_iff, reduceCtorEq, ↓reduceIte, and_self, and_true, true_and, and_false, false_and, true_or, or_true, false_or, or_false, not_true_eq_false, not_false_eq_true]); (try simp only [w32_em]); (first | done | omega))) (wp_gi (by omega) (by omega) (by omega) (wp_gi (by omega) (by omega) (by omega) (wp_bnd (wp_bnd (wp_some ⟨by (try dsimp only); omega, fun c hc => ?_, fun j hj => ?_⟩)))))
    · try dsimp only
      rw [upd2_ne hc]
      exact k2 c hc
    · try dsimp only
      rw [upd2_at]
      by_cases e : j = i
      · rw [if_pos e, k2 153 (by decide), e]
      · rw [if_neg e]
        exact k3 j (by omega)
  · rintro ⟨y, m⟩ ⟨k1, k2, k3⟩
    simp only at k1 k2 k3
    subst k1
    have m5 : m 140 5 = (n : Int) := by rw [k2 140 (by decide), u1 140 (by decide) (by decide) (by decide) (by decide), hN, hn]
    simp only [s_X12_seeksSequence_45]
    refine wp_ite_f (by ((try simp (disch := omega) only [w32_and, w32_or, w32_shl, w32_shr, w32_xor, ixO, ixO0, ixO1, ixO2, ixO3, ixL0, ixL1, ixL2, ixC, ixB, ixI0, ixI00, ixI1, ixI2, ixI3, upd2_rd, upd2_nd, Nat.reduceEqDiff, Nat.reduceAdd, Nat.add_left_cancel_iff, Nat.add_right_cancel_iff, reduceCtorEq, ↓reduceIte, and_self, and_true, true_and, and_false, false_and, true_or, or_true, false_or, or_false, not_true_eq_false, not_false_eq_true]); (try simp only [w32_em]); (first | done | omega))) (wp_some ?_)
    dsimp only [Sum.elim_inl, Sum.elim_inr]
    exact wp_some ⟨fun a a1 a2 a3 a4 => by rw [k2 a a1]; exact u1 a a1 a2 a3 a4, fun j hj => by rw [k3 j hj]; exact u2 j hj⟩
