-- ===== the search, depth first =====
/-- what holds where the sequence p stands -/
def DSq (N : Nat → Int) (p : List Nat) (m : Mem) : Prop := HR 1 m N ∧ (∀ b z : Nat, (b : Int) < N 5 → (z : Int) < zns N → m (98 + 2 + b) z = wkS N b z) ∧ (∀ j, j < p.length → m 136 j = ((qL p j : Nat) : Int)) ∧ ∀ j z : Nat, j < p.length → (z : Int) < zns N → m (98 + 11 + j) z = (tms N (qL p) p.length).1 j z ∧ m (98 + 20 + j) z = (tms N (qL p) p.length).2 j z
/-- the best sequence so far -/
def BSq (n : Nat) (s : Int × List Nat) (m : Mem) : Prop := m 97 5 = s.1 ∧ (s.2.length = n → ∀ j, j < n → m 137 j = ((qL s.2 j : Nat) : Int))
/-- the frame of the search from depth k -/
def FDq (k : Nat) (m r : Mem) : Prop := (∀ a, a ≠ 97 → a ≠ 136 → a ≠ 137 → (a < 109 ∨ 126 < a) → r a = m a) ∧ (∀ j, j < k → r 136 j = m 136 j) ∧ ∀ j, j < k → r (98 + 11 + j) = m (98 + 11 + j) ∧ r (98 + 20 + j) = m (98 + 20 + j)
set_option maxHeartbeats 600000 in
theorem FDq.rf {k : Nat} {m : Mem} : FDq k m m := ⟨fun _ _ _ _ _ => rfl, fun _ _ => rfl, fun _ _ => ⟨rfl, rfl⟩⟩
set_option maxHeartbeats 600000 in
theorem FDq.tr {k k' : Nat} {m r u : Mem} (hk : k ≤ k') (h1 : FDq k m r) (h2 : FDq k' r u) : FDq k m u := ⟨fun a a1 a2 a3 a4 => (h2.1 a a1 a2 a3 a4).trans (h1.1 a a1 a2 a3 a4), fun j hj => (h2.2.1 j (by omega)).trans (h1.2.1 j hj), fun j hj => ⟨(h2.2.2 j (by omega)).1.trans (h1.2.2 j hj).1, (h2.2.2 j (by omega)).2.trans (h1.2.2 j hj).2⟩⟩
set_option maxHeartbeats 600000 in
theorem DSq_fr {N : Nat → Int} {p : List Nat} {m r : Mem} (hW : WF N) (h : FDq p.length m r) (hD : DSq N p m) : DSq N p r := by
  have q5 := n5 hW
  obtain ⟨d1, d2, d3, d4⟩ := hD
  refine ⟨HR_fr (th := 40) (by omega) d1 (fun a ha => h.1 a (by omega) (by omega) (by omega) (by omega)), fun b z hb hz => ?_, fun j hj => ?_, fun j z hj hz => ?_⟩
  · rw [h.1 _ (by omega) (by omega) (by omega) (by omega)]
    exact d2 b z hb hz
  · rw [h.2.1 j hj]; exact d3 j hj
  · rw [(h.2.2 j hj).1, (h.2.2 j hj).2]; exact d4 j z hj hz
set_option maxHeartbeats 600000 in
theorem sq42 {rec : Nat → Int → Int → Int → Mem → Option (Mem)} {a1 : Nat} {x2 x3 x4 x5 : Int} {M : Mem} : s_X9_search_42 rec a1 x2 x3 x4 x5 M = (if w32 x5 < w32 (M (a1 + 16) 0) then (if w32 (i_and (i_shr x3 x5) 1) = 0 then gi x2 8 (bnd (upd2 M 136 (ix x2) x5) (fun M_1 => cl1 (f_X7_run 98 (a1 + 1) x2 x5 M_1) (fun M_4 => cl1 (f_X7_completion 98 (a1 + 1) x2 M_4) (fun r_5 => cl1 (f_X1_tardinessOf a1 x5 r_5 M_4) (fun r_7 => bnd (x4 + r_7) (fun x6_9 => (if w32 x6_9 < w32 (M_4 97 5) then cl1 (rec a1 (x2 + 1) (i_or x3 (i_shl 1 x5)) x6_9 M_4) (fun M_11 => some (.inl (x5 + 1, M_11))) else some (.inl (x5 + 1, M_4))))))))) else some (.inl (x5 + 1, M))) else some (.inr (.inl M))) := rfl
set_option maxHeartbeats 600000 in
theorem X7c98 {r : Mem} {N : Nat → Int} (hR : HR 1 r N) {k : Nat} (hk : k < 8) : f_X7_completion 98 2 (k : Int) r = some (r (98 + 20 + k) (zns N - 1).toNat) := by
  have cz := zn_rng N
  have hA := hR.1
  simp only [Nat.reduceAdd] at hA
  have xk : ix (k : Int) = k := ix_nat (by omega)
  have xz : ix (zns N - 1) = (zns N - 1).toNat := ix_of (by omega) (by omega)
  apply wp_val
  unfold f_X7_completion
  rw [hA.2.2.2.1, xk, xz]
  exact wp_gi (by omega) (by omega) (by omega) (wp_gi (by omega) (by omega) (by omega) (wp_some rfl))
set_option maxHeartbeats 600000 in
theorem X9dfs {N : Nat → Int} (hW : WF N) {n : Nat} (hn : N 5 = (n : Int)) (h6 : n ≤ 6) : ∀ (d : Nat) (p : List Nat) (s : Int × List Nat) (m : Mem) (mask : Int), p.length ≤ n → n + 1 ≤ d + p.length → (∀ x, x ∈ p → x < n) → DSq N p m → BSq n s m → 0 ≤ s.1 → s.1 ≤ 1000000000 → NN mask → (∀ x, x < n → bit mask x = p.contains x) → wp (fd_X9_search d 1 (p.length : Int) mask (vL N p) m) (fun r => FDq p.length m r ∧ BSq n (dfs N n d p s) r ∧ 0 ≤ (dfs N n d p s).1 ∧ (dfs N n d p s).1 ≤ 1000000000) := by
  have q4 := n4 hW
  have cz := zn_rng N
  intro d
  induction d with
  | zero => intro p s m mask h1 h2; omega
  | succ d ih =>
    intro p s m mask h1 h2 hp hD hB hs0 hs1 hm hbit
    have vr := vL_rng hW (p := p) (by omega)
    have m5 : m 17 0 = (n : Int) := by rw [(HR_E hD.1).1, hn]
    show wp (g_X9_search (fd_X9_search d) 1 (p.length : Int) mask (vL N p) m) _
    unfold g_X9_search
    by_cases hl : p.length < n
    · have ed : dfs N n (d + 1) p s = (List.range n).foldl (fun s x => if p.contains x = true then s else if vL N (p ++ [x]) < s.1 then dfs N n d (p ++ [x]) s else s) s := by simp only [dfs, if_pos hl]
      rw [ed]
      generalize hf : (fun (s : Int × List Nat) x => if p.contains x = true then s else if vL N (p ++ [x]) < s.1 then dfs N n d (p ++ [x]) s else s) = f
      refine wp_ite_t (by ((try simp (disch := omega) only [w32_and, w32_or, w32_shl, w32_shr, w32_xor, ixO, ixO0, ixO1, ixO2, ixO3, ixL0, ixL1, ixL2, ixC, ixB, ixI0, ixI00, ixI1, ixI2, ixI3, upd2_rd, upd2_nd, Nat.reduceEqDiff, Nat.reduceAdd, Nat.add_left_cancel_iff, Nat.add_right_cancel_iff, reduceCtorEq, ↓reduceIte, and_self, and_true, true_and, and_false, false_and, true_or, or_true, false_or, or_false, not_true_eq_false, not_false_eq_true]); (try simp only [w32_em]); (first | done | omega))) (wp_ite_t (by ((try simp (disch := omega) only [w32_and, w32_or, w32_shl, w32_shr, w32_xor, ixO, ixO0, ixO1, ixO2, ixO3, ixL0, ixL1, ixL2, ixC, ixB, ixI0, ixI00, ixI1, ixI2, ixI3, upd2_rd, upd2_nd, Nat.reduceEqDiff, Nat.reduceAdd, Nat.add_left_cancel_iff, Nat.add_right_cancel_iff, reduceCtorEq, ↓reduceIte, and_self, and_true, true_and, and_false, false_and, true_or, or_true, false_or, or_false, not_true_eq_false, not_false_eq_true]); (try simp only [w32_em]); (first | done | omega))) (wp_lpb (wp_forI (fun i x => x.1 = (i : Int) ∧ FDq p.length m x.2 ∧ BSq n ((List.range i).foldl f s) x.2 ∧ 0 ≤ ((List.range i).foldl f s).1 ∧ ((List.range i).foldl f s).1 ≤ 1000000000) n ?_ ?_ (Nat.zero_le _) (i0 := 0) (x := ((0 : Int), m)) ?_)))
      · rintro i ⟨x, w⟩ hi ⟨k1, k2, k3, k4, k5⟩
        simp only at k1 k2 k3 k4 k5
        subst k1
        have wD := DSq_fr hW k2 hD
        have w5 : w 17 0 = (n : Int) := by rw [(HR_E wD.1).1, hn]
        have er : (List.range (i + 1)).foldl f s = f ((List.range i).foldl f s) i := by rw [List.range_succ, List.foldl_append]; rfl
        rw [er]
        generalize (List.range i).foldl f s = t at *
        rw [sq42]
        have fx : f t i = if p.contains i = true then t else if vL N (p ++ [i]) < t.1 then dfs N n d (p ++ [i]) t else t := by rw [← hf]
        refine wp_ite_t (by ((try simp (disch := omega) only [w32_and, w32_or, w32_shl, w32_shr, w32_xor, ixO, ixO0, ixO1, ixO2, ixO3, ixL0, ixL1, ixL2, ixC, ixB, ixI0, ixI00, ixI1, ixI2, ixI3, upd2_rd, upd2_nd, Nat.reduceEqDiff, Nat.reduceAdd, Nat.add_left_cancel_iff, Nat.add_right_cancel_iff, reduceCtorEq, ↓reduceIte, and_self, and_true, true_and, and_false, false_and, true_or, or_true, false_or, or_false, not_true_eq_false, not_false_eq_true]); (try simp only [w32_em]); (first | done | omega))) ?_
        cases hc : p.contains i
        · have hq := tst_f hm (show i < 31 by omega) (by rw [hbit i hi, hc])
          rw [hc] at fx
          simp only [Bool.false_eq_true, ↓reduceIte] at fx
          have xk : ix (p.length : Int) = p.length := ix_nat (by omega)
          refine wp_ite_t (by rw [hq]; decide) (wp_gi (by omega) (by omega) (by omega) (wp_bnd ?_))
          rw [xk]
          have hR1 : HR 1 (upd2 w 136 p.length (i : Int)) N := HR_fr (th := 40) (by omega) wD.1 (fun a ha => upd2_ne (by omega))
          refine wp_cl1 (wp_use (X7run (th := 98) (by omega) hR1 hW (S := (tms N (qL p) p.length).1) (L := (tms N (qL p) p.length).2) (k := p.length) (b := i) (by omega) (by omega) (fun z hz => by rw [upd2_ne (by omega)]; exact wD.2.1 i z (by omega) hz) (fun j z hj hz => by rw [upd2_ne (by omega), upd2_ne (by omega)]; exact wD.2.2.2 j z hj hz)) (fun v hv => ?_))
          obtain ⟨v1, v2⟩ := hv
          have vw : ∀ a, a ≠ 136 → (a < 109 ∨ 126 < a) → v a = w a := fun a a1 a2 => by rw [v1 a (by omega) (by omega), upd2_ne a1]
          have hRv : HR 1 v N := HR_fr (th := 40) (by omega) wD.1 (fun a ha => vw a (by omega) (by omega))
          have tq : tms N (qL (p ++ [i])) p.length = tms N (qL p) p.length := tms_q p.length (fun j hj => qL_ap hj)
          have ta := fun z => tms_at (N := N) (q := qL (p ++ [i])) (k := p.length) (z := z)
          simp only [qL_at, tq] at ta
          have vc : v (98 + 20 + p.length) (zns N - 1).toNat = (tms N (qL (p ++ [i])) (p.length + 1)).2 p.length (zns N - 1).toNat := by
            rw [(v2 _ (by omega)).2, (ta _).2]
          have cr := cj_rng hW (q := qL (p ++ [i])) (j := p.length) (by omega)
          refine wp_cl1 (wp_eq (X7c98 hRv (by omega)) ?_)
          rw [vc]
          refine wp_cl1 (wp_eq (X1tard hRv hW (by omega) cr) (wp_bnd ?_))
          rw [← vL_ap]
          have v5 : v 97 5 = t.1 := by rw [vw 97 (by decide) (by omega)]; exact k3.1
          have pr := vL_rng hW (p := p ++ [i]) (by rw [List.length_append, List.length_singleton]; omega)
          have fv : FDq p.length m v := FDq.tr (Nat.le_refl _) k2 ⟨fun a a1 a2 a3 a4 => vw a a2 a4, fun j hj => by rw [v1 136 (by omega) (by omega), upd2_row (by omega)], fun j hj => ⟨by rw [v1 _ (by omega) (by omega), upd2_ne (by omega)], by rw [v1 _ (by omega) (by omega), upd2_ne (by omega)]⟩⟩
          have Bv : BSq n t v := ⟨v5, fun h j hj => by rw [vw 137 (by decide) (by omega)]; exact k3.2 h j hj⟩
          rw [v5]
          by_cases hv : vL N (p ++ [i]) < t.1
          · rw [if_pos hv] at fx
            rw [fx]
            have lp : (p ++ [i]).length = p.length + 1 := by rw [List.length_append, List.length_singleton]
            have sb := shl_bits (show i < 31 by omega)
            have ob := or_bits hm sb.1
            have e1 : (p.length : Int) + 1 = ((p ++ [i]).length : Int) := by rw [lp]; omega
            rw [e1]
            refine wp_ite_t (by ((try simp (disch := omega) only [w32_and, w32_or, w32_shl, w32_shr, w32_xor, ixO, ixO0, ixO1, ixO2, ixO3, ixL0, ixL1, ixL2, ixC, ixB, ixI0, ixI00, ixI1, ixI2, ixI3, upd2_rd, upd2_nd, Nat.reduceEqDiff, Nat.reduceAdd, Nat.add_left_cancel_iff, Nat.add_right_cancel_iff, reduceCtorEq, ↓reduceIte, and_self, and_true, true_and, and_false, false_and, true_or, or_true, false_or, or_false, not_true_eq_false, not_false_eq_true]); (try simp only [w32_em]); (first | done | omega))) (wp_cl1 (wp_use (ih (p ++ [i]) t v _ (by omega) (by omega) (fun x hx => ?_) ⟨hRv, fun b z hb hz => ?_, fun j hj => ?_, fun j z hj hz => ?_⟩ Bv k4 k5 ob.1 (fun x hx => ?_)) (fun u hu => wp_some ?_)))
            · rw [List.mem_append, List.mem_singleton] at hx
              rcases hx with hx | rfl
              · exact hp x hx
              · exact hi
            · rw [vw _ (by omega) (by omega)]; exact wD.2.1 b z hb hz
            · rw [v1 136 (by omega) (by omega), upd2_at]
              by_cases e : j = p.length
              · rw [if_pos e, e, qL_at]
              · rw [if_neg e, qL_ap (by omega)]; exact wD.2.2.1 j (by omega)
            · rw [lp]
              by_cases e : j = p.length
              · subst e
                rw [(v2 z hz).1, (v2 z hz).2, (ta z).1, (ta z).2]
                exact ⟨rfl, rfl⟩
              · have st := tms_st (N := N) (q := qL (p ++ [i])) (j := j) (k := p.length + 1) (by omega) z
                have st2 := tms_st (N := N) (q := qL (p ++ [i])) (j := j) (k := p.length) (by omega) z
                rw [st.1, st.2, ← st2.1, ← st2.2, tq, v1 _ (by omega) (by omega), v1 _ (by omega) (by omega), upd2_ne (by omega), upd2_ne (by omega)]
                exact wD.2.2.2 j z (by omega) hz
            · rw [ob.2, sb.2, hbit x hx]
              by_cases e : x = i
              · subst e; simp
              · simp [e]
            · obtain ⟨u1, u2, u3, u4⟩ := hu
              exact ⟨by (try dsimp only); omega, FDq.tr (by omega) fv u1, u2, u3, u4⟩
          · rw [if_neg hv] at fx
            rw [fx]
            refine wp_ite_f (by ((try simp (disch := omega) only [w32_and, w32_or, w32_shl, w32_shr, w32_xor, ixO, ixO0, ixO1, ixO2, ixO3, ixL0, ixL1, ixL2, ixC, ixB, ixI0, ixI00, ixI1, ixI2, ixI3, upd2_rd, upd2_nd, Nat.reduceEqDiff, Nat.reduceAdd, Nat.add_left_cancel_iff, Nat.add_right_cancel_iff, reduceCtorEq, ↓reduceIte, and_self, and_true, true_and, and_false, false_and, true_or, or_true, false_or, or_false, not_true_eq_false, not_false_eq_true]); (try simp only [w32_em]); (first | done | omega))) (wp_some ?_)
            exact ⟨by (try dsimp only); omega, fv, Bv, k4, k5⟩
        · have hq := tst_t hm (show i < 31 by omega) (by rw [hbit i hi, hc])
          rw [hc] at fx
          simp only [↓reduceIte] at fx
          rw [fx]
          refine wp_ite_f (by rw [hq]; decide) (wp_some ?_)
          exact ⟨by (try dsimp only); omega, k2, k3, k4, k5⟩
      · rintro ⟨x, w⟩ ⟨k1, k2, k3, k4, k5⟩
        simp only at k1 k2 k3 k4 k5
        subst k1
        have wD := DSq_fr hW k2 hD
        have w5 : w 17 0 = (n : Int) := by rw [(HR_E wD.1).1, hn]
        rw [sq42]
        refine wp_ite_f (by ((try simp (disch := omega) only [w32_and, w32_or, w32_shl, w32_shr, w32_xor, ixO, ixO0, ixO1, ixO2, ixO3, ixL0, ixL1, ixL2, ixC, ixB, ixI0, ixI00, ixI1, ixI2, ixI3, upd2_rd, upd2_nd, Nat.reduceEqDiff, Nat.reduceAdd, Nat.add_left_cancel_iff, Nat.add_right_cancel_iff, reduceCtorEq, ↓reduceIte, and_self, and_true, true_and, and_false, false_and, true_or, or_true, false_or, or_false, not_true_eq_false, not_false_eq_true]); (try simp only [w32_em]); (first | done | omega))) (wp_some ?_)
        dsimp only [Sum.elim_inl, Sum.elim_inr]
        exact wp_some ⟨k2, k3, k4, k5⟩
      · have z0 : (List.range 0).foldl f s = s := rfl
        rw [z0]
        exact ⟨rfl, FDq.rf, hB, hs0, hs1⟩
    · have el : p.length = n := by omega
      have ed : dfs N n (d + 1) p s = (vL N p, p) := by simp only [dfs, if_neg hl]
      rw [ed]
      have leaf : wp (j_X9_search_17 (fd_X9_search d) 1 (vL N p) m) (fun r => FDq p.length m r ∧ BSq n (vL N p, p) r ∧ 0 ≤ vL N p ∧ vL N p ≤ 1000000000) := by
        unfold j_X9_search_17
        have c1 : ∀ a, a ≠ 137 → cpy2 (upd2 m 97 5 (vL N p)) 136 137 8 a = upd2 m 97 5 (vL N p) a := fun a ha => by unfold cpy2; rw [if_neg ha]
        refine wp_bnd (wp_bnd (wp_some ⟨⟨fun a a1 a2 a3 a4 => by rw [c1 a a3, upd2_ne a1], fun j hj => by rw [c1 136 (by decide), upd2_ne (by decide)], fun j hj => ⟨by rw [c1 _ (by omega), upd2_ne (by omega)], by rw [c1 _ (by omega), upd2_ne (by omega)]⟩⟩, ⟨?_, fun _ j hj => ?_⟩, vr.1, by omega⟩))
        · rw [c1 97 (by decide), upd2_same]
        · show (cpy2 (upd2 m 97 5 (vL N p)) 136 137 8) 137 j = _
          unfold cpy2
          rw [if_pos rfl]
          try dsimp only
          rw [if_pos (by omega), upd2_ne (by decide)]
          exact hD.2.2.1 j (by omega)
      by_cases k6 : p.length < 6
      · exact wp_ite_t (by ((try simp (disch := omega) only [w32_and, w32_or, w32_shl, w32_shr, w32_xor, ixO, ixO0, ixO1, ixO2, ixO3, ixL0, ixL1, ixL2, ixC, ixB, ixI0, ixI00, ixI1, ixI2, ixI3, upd2_rd, upd2_nd, Nat.reduceEqDiff, Nat.reduceAdd, Nat.add_left_cancel_iff, Nat.add_right_cancel_iff, reduceCtorEq, ↓reduceIte, and_self, and_true, true_and, and_false, false_and, true_or, or_true, false_or, or_false, not_true_eq_false, not_false_eq_true]); (try simp only [w32_em]); (first | done | omega))) (wp_ite_f (by ((try simp (disch := omega) only [w32_and, w32_or, w32_shl, w32_shr, w32_xor, ixO, ixO0, ixO1, ixO2, ixO3, ixL0, ixL1, ixL2, ixC, ixB, ixI0, ixI00, ixI1, ixI2, ixI3, upd2_rd, upd2_nd, Nat.reduceEqDiff, Nat.reduceAdd, Nat.add_left_cancel_iff, Nat.add_right_cancel_iff, reduceCtorEq, ↓reduceIte, and_self, and_true, true_and, and_false, false_and, true_or, or_true, false_or, or_false, not_true_eq_false, not_false_eq_true]); (try simp only [w32_em]); (first | done | omega))) leaf)
      · exact wp_ite_f (by ((try simp (disch := omega) only [w32_and, w32_or, w32_shl, w32_shr, w32_xor, ixO, ixO0, ixO1, ixO2, ixO3, ixL0, ixL1, ixL2, ixC, ixB, ixI0, ixI00, ixI1, ixI2, ixI3, upd2_rd, upd2_nd, Nat.reduceEqDiff, Nat.reduceAdd, Nat.add_left_cancel_iff, Nat.add_right_cancel_iff, reduceCtorEq, ↓reduceIte, and_self, and_true, true_and, and_false, false_and, true_or, or_true, false_or, or_false, not_true_eq_false, not_false_eq_true]); (try simp only [w32_em]); (first | done | omega))) leaf
set_option maxHeartbeats 600000 in
theorem X9search {M : Mem} {N : Nat → Int} (hR : HR 1 M N) (hW : WF N) {n : Nat} (hn : N 5 = (n : Int)) (h6 : n ≤ 6) (hw : ∀ b z : Nat, (b : Int) < N 5 → (z : Int) < zns N → M (98 + 2 + b) z = wkS N b z) (h97 : M 97 5 = 1000000000) : wp (f_X9_search 1 0 0 0 M) (fun r => (∀ a, a ≠ 97 → a ≠ 136 → a ≠ 137 → (a < 109 ∨ 126 < a) → r a = M a) ∧ ∀ j, j < n → r 137 j = ((qL (bsQ N n) j : Nat) : Int)) := by
  have bp := bs_pm hW h6
  have v0 : vL N [] = 0 := rfl
  have e := dfs_eq hW (n := n) (by omega) 8 [] (1000000000, []) (by
    by_cases h : 0 < n
    · exact Or.inl h
    · exact Or.inr (by rw [v0]; decide))
  have h := X9dfs hW hn h6 8 [] (1000000000, []) M 0 (by simp) (by simp; omega) (fun x hx => by simp at hx) ⟨hR, hw, fun j hj => by simp at hj, fun j z hj => by simp at hj⟩ ⟨h97, fun h j hj => by simp at h; omega⟩ (by (try dsimp only); omega) (by (try dsimp only); omega) NN0 (fun x _ => by rw [bit_zero]; rfl)
  unfold f_X9_search
  rw [v0] at h
  refine wp_use h (fun r hr => ⟨hr.1.1, ?_⟩)
  have b := hr.2.1.2
  rw [e] at b
  exact b bp.1
