theorem WF_units {N : Nat → Int} {i : Nat} {v : Int} (hi : (i : Int) < N 3) (h0 : 0 ≤ v) (h1 : v ≤ 999) (hW : WF N) : WF (setN N (16 + 4 * i) v) := by
  have hA := hW.1
  have en : ∀ k, k ≠ 16 + 4 * i → setN N (16 + 4 * i) v k = N k := fun k hk => setN_ne hk
  have hi24 : i < 24 := by omega
  unfold WF at hW ⊢
  rw [en 0 (by omega), en 1 (by omega), en 2 (by omega), en 3 (by omega), en 4 (by omega), en 5 (by omega), en 6 (by omega), en 7 (by omega), en 8 (by omega), en 9 (by omega), en 10 (by omega), en 11 (by omega), en 12 (by omega)]
  obtain ⟨a, b, c, d, e, f, g⟩ := hW
  refine ⟨a, b, c, fun j hj => ?_, fun o ho => ?_, fun q hq => ?_, BC_congr (en 4 (by omega)) (en 5 (by omega)) (fun o _ => en _ (by omega)) (fun b _ => en _ (by omega)) g⟩
  · have := d j hj
    unfold WFi at this ⊢
    rw [en 0 (by omega), en 1 (by omega), en _ (by omega), en _ (by omega), en _ (by omega)]
    refine ⟨this.1, this.2.1, this.2.2.1, this.2.2.2.1, this.2.2.2.2.1, this.2.2.2.2.2.1, ?_⟩
    by_cases ej : j = i
    · subst ej
      rw [setN_eq]
      exact ⟨h0, h1⟩
    · rw [en _ (by omega)]
      exact this.2.2.2.2.2.2
  · have := e o ho
    unfold WFo at this ⊢
    rw [en 3 (by omega), en _ (by omega), en _ (by omega), en _ (by omega)]
    obtain ⟨t1, t2, t3, t4, t5, t6, t7⟩ := this
    refine ⟨t1, t2, t3, t4, t5, t6, fun k hk => ?_⟩
    rw [en _ (by omega), en _ (by omega), en _ (by omega)]
    exact t7 k hk
  · have := f q hq
    unfold WFb at this ⊢
    rw [en 4 (by omega), en 5 (by omega), en _ (by omega)]
    obtain ⟨t1, t2, t3, t4⟩ := this
    refine ⟨t1, t2, fun o ho => ?_, fun b' hb' hne o ho => ?_⟩
    · rw [en _ (by omega)]
      exact t3 o ho
    · rw [en _ (by omega)]
      exact t4 b' hb' hne o ho
/-- a new state of the hall and of the row, all else as it was -/
theorem Inv_new {M M' : Mem} (hI : Inv M) (hH : HR 1 M' (M' 140)) (hW : WF (M' 140)) (e : ∀ a, keyb a = true → 18 < a → a ≠ 140 → M' a = M a) (e38 : ∀ k, 1 ≤ k → k < 4 → M' 38 k = M 38 k) (e23 : M' 139 23 = M 139 23) (e28 : M' 139 28 = M 139 28) (e29 : M' 139 29 = M 139 29) : Inv M' := by
  obtain ⟨-, -, hT, hS⟩ := hI
  have e142 : M' 142 = M 142 := e 142 rfl (by decide) (by decide)
  have e37 : M' 37 = M 37 := e 37 rfl (by decide) (by decide)
  have e143 : M' 143 = M 143 := e 143 rfl (by decide) (by decide)
  refine ⟨hH, hW, ?_, ?_⟩
  · obtain ⟨t1, t2, t3, t4, t5, t6, t7⟩ := hT
    have k1 := e38 1 (by decide) (by decide)
    have k2 := e38 2 (by decide) (by decide)
    have k3 := e38 3 (by decide) (by decide)
    refine ⟨by rw [k1]; exact t1, by rw [k1]; exact t2, by rw [k1, e23]; exact t3, fun i hi => ?_, by rw [k2, e28]; exact t5, by rw [k3, e29]; exact t6, by rw [e 156 rfl (by decide) (by decide)]; exact t7⟩
    rw [e 39 rfl (by decide) (by decide), e 155 rfl (by decide) (by decide)]
    rw [k1] at hi
    exact t4 i hi
  · intro j hj
    rw [e37, e143, e142]
    rcases hS j hj with q | ⟨q1, q2, q3, q4⟩
    · exact Or.inl q
    · exact Or.inr ⟨q1, q2, HR_congr (fun d h1 h2 => e _ (key_hall (Or.inr (by omega)) h1 h2) (by omega) (by omega)) q3, q4⟩
theorem ixItem {i k : Nat} (hi : i < 24) (hk : k < 4) : inb ((13 + (4 * (i : Int))) + (k : Int)) 469 ∧ ix ((13 + (4 * (i : Int))) + (k : Int)) = 13 + 4 * i + k := by
  have e : (13 + (4 * (i : Int))) + (k : Int) = ((13 + 4 * i + k : Nat) : Int) := by omega
  rw [e]
  exact ⟨inb_nat (by omega) (by omega), ix_nat (by omega)⟩
theorem fin_ok2 {M4 : Mem} {r3 : Int} (h0 : M4 139 0 = 0) (h : M4 157 0 = w32 r3) : cl1 (f_X12_thrown M4) (fun r_5 => (if w32 r_5 = w32 0 then (if w32 0 = 0 then (if w32 (l_cmp (M4 157 0) (w32 r3)) = 0 then some M4 else none) else some M4) else none)) = some M4 := fin_ok h0 h
theorem o_5 {M : Mem} (hI : Inv M) {p1 p2 : Int} (h1 : I32 p1) (h2 : I32 p2) (p3 p4 : Int) : Ow (L_5 p1 p2 p3 p4 M) M := by
  have hw := hI.2.1.1
  unfold L_5 f_L_restock f_X11_restock f_X12_restock
  rw [needItem hI h1]
  by_cases h : 0 ≤ p1 ∧ p1 < M 140 3
  · obtain ⟨i, rfl⟩ : ∃ i : Nat, p1 = (i : Int) := ⟨p1.toNat, by omega⟩
    have hi := (hI.1.2.2.1.2 i h.2).2.2.2
    have hi9 : M 9 i = M 140 (16 + 4 * i) := hi
    have hu := (hI.2.1.2.2.2.1 i h.2).2.2.2.2.2.2
    have hi24 : i < 24 := by omega
    have gi24 : inb (i : Int) 24 := inb_nat hi24 (by omega)
    rw [if_pos h, cx1_inr, gi_ok gi24, ix_nat (by omega), hi9, needArg h2 (i32c (by omega) (by omega)) (i32c (by omega) (by omega))]
    by_cases hp : 1 ≤ p2 ∧ p2 ≤ 999 - M 140 (16 + 4 * i)
    · rw [if_pos hp, cx1_inr, gi_ok gi24, gi_ok gi24, bnd_eq, gi_ok gi24, cx2_inr, cl2_some, upd2_same]
      generalize hM2 : upd2 (upd2 M 9 i (M 140 (16 + 4 * i) + p2)) 157 0 (w32 (M 140 (16 + 4 * i) + p2)) = M2
      have e140 : M2 140 = M 140 := by rw [← hM2, upd2_ne (by decide), upd2_ne (by decide)]
      rw [isItem (by rw [e140]; exact hI.2.1) h1, e140, if_pos h, cl1_some, if_neg (by decide), isIn h2 (i32c (by omega) (by omega)) (i32c (by omega) (by omega)), if_pos (by omega), cl1_some, if_neg (by decide), ofItem (x := (i : Int)) (c := 3) (i := i) (k := 3) rfl rfl hi24 (by omega), cl1_some, e140, show 13 + 4 * i + 3 = 16 + 4 * i by omega, w32_ok (i32c (by omega) (by omega)), if_neg (by omega)]
      unfold j_X12_restock_43
      have hx := ixItem (k := 3) hi24 (by omega)
      have hx1 : inb ((13 + (4 * (i : Int))) + 3) 469 := hx.1
      have hx2 : ix ((13 + (4 * (i : Int))) + 3) = 16 + 4 * i := hx.2.trans (by omega)
      rw [bnd_eq, upd2_same, if_neg (by decide), gi_ok hx1, gi_ok hx1, hx2, bnd_eq, ofItem (x := (i : Int)) (c := 3) (i := i) (k := 3) rfl rfl hi24 (by omega), cl1_some, cl2_some, show 13 + 4 * i + 3 = 16 + 4 * i by omega, upd2_same, upd2_ne (show (140 : Nat) ≠ 139 by decide), e140]
      generalize hM' : upd2 (upd2 M2 139 0 0) 140 (16 + 4 * i) (M 140 (16 + 4 * i) + p2) = M'
      have n140 : M' 140 = setN (M 140) (16 + 4 * i) (M 140 (16 + 4 * i) + p2) := by
        rw [← hM', upd2_fun, upd2_ne (show (140 : Nat) ≠ 139 by decide), e140]
        rfl
      have nother : ∀ a, a ≠ 9 → a ≠ 139 → a ≠ 140 → a ≠ 157 → M' a = M a := fun a a1 a2 a3 a4 => by rw [← hM', upd2_ne a3, upd2_ne a2, ← hM2, upd2_ne a4, upd2_ne a1]
      have n139 : ∀ k, k ≠ 0 → M' 139 k = M 139 k := fun k hk => by rw [← hM', upd2_ne (show (139 : Nat) ≠ 140 by decide), upd2_row hk, ← hM2, upd2_ne (show (139 : Nat) ≠ 157 by decide), upd2_ne (show (139 : Nat) ≠ 9 by decide)]
      refine ⟨M', fin_ok ?_ ?_, Inv_new hI ?_ ?_ (fun a k1 k2 k3 => nother a (by omega) (fun e => by subst e; cases k1) k3 (fun e => by subst e; cases k1)) (fun k _ _ => by rw [nother 38 (by decide) (by decide) (by decide) (by decide)]) (n139 23 (by decide)) (n139 28 (by decide)) (n139 29 (by decide)), nother 37 (by decide) (by decide) (by decide) (by decide)⟩
      · rw [← hM', upd2_ne (show (139 : Nat) ≠ 140 by decide), upd2_same]
      · rw [← hM', upd2_ne (show (157 : Nat) ≠ 140 by decide), upd2_ne (show (157 : Nat) ≠ 139 by decide), ← hM2, upd2_same]
      · rw [n140]
        refine HR_congr (fun d d1 d2 => ?_) (HR_units hi24 hI.1)
        by_cases e : d = 8
        · subst e
          show M' 9 = upd2 M 9 i (M 140 (16 + 4 * i) + p2) 9
          rw [← hM', upd2_ne (by decide), upd2_ne (by decide), ← hM2, upd2_ne (by decide)]
        · rw [nother _ (by omega) (by omega) (by omega) (by omega), upd2_ne (by omega)]
      · rw [n140]
        exact WF_units h.2 (by omega) (by omega) hI.2.1
    · rw [if_neg hp, cx1_inl, cx2_inl, if_neg (by decide), if_pos rfl, cl2_some, isItem hI.2.1 h1, if_pos h, cl1_some, if_neg (by decide), isIn h2 (i32c (by omega) (by omega)) (i32c (by omega) (by omega))]
      have fine : cl2 (j_X12_restock_38 (i : Int) p2 M) (fun r_3 M_4 => cl1 (f_X12_thrown M_4) (fun r_5 => (if w32 r_5 = w32 2 then (if w32 2 = 0 then (if w32 (l_cmp (M_4 157 0) (w32 r_3)) = 0 then some M_4 else none) else some M_4) else none))) = some (upd2 M 139 0 2) := by
        unfold j_X12_restock_38 j_X12_restock_43
        rw [bnd_eq, upd2_same, if_pos (by decide), cl2_some]
        exact fin_err upd2_same (by decide)
      by_cases hq : 1 ≤ p2 ∧ p2 ≤ 999
      · rw [if_pos hq, cl1_some, if_neg (by decide), ofItem (x := (i : Int)) (c := 3) (i := i) (k := 3) rfl rfl hi24 (by omega), cl1_some, show 13 + 4 * i + 3 = 16 + 4 * i by omega, w32_ok (i32c (by omega) (by omega)), if_pos (by omega)]
        exact Ow_Sm hI fine (Sm.up rfl)
      · rw [if_neg hq, cl1_some, if_pos (by decide)]
        exact Ow_Sm hI fine (Sm.up rfl)
  · rw [if_neg h, cx1_inl, cx2_inl, if_pos rfl, cl2_some, isItem hI.2.1 h1, if_neg h, cl1_some, if_pos (by decide)]
    unfold j_X12_restock_43
    rw [bnd_eq, upd2_same, if_pos (by decide), cl2_some]
    exact Ow_Sm hI (fin_err upd2_same (by decide)) (Sm.up rfl)
