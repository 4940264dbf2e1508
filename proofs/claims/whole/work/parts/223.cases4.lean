/-- a number of the layout that stands alone: policy, setup, per item -/
theorem HR_lay {h : Nat} {M : Mem} {N : Nat → Int} {s n : Nat} {v : Int} (hs : (s = 5 ∧ n = 6) ∨ (s = 6 ∧ n = 11) ∨ (s = 7 ∧ n = 12)) (hR : HR h M N) : HR h (upd2 M (h + 1) s v) (setN N n v) := by
  have en : ∀ k, k ≠ n → setN N n v k = N k := fun k hk => setN_ne hk
  have em : ∀ d, d ≠ 1 → upd2 M (h + 1) s v (h + d) = M (h + d) := fun d hd => upd2_ne (by omega)
  unfold HR at hR ⊢
  rw [em 2 (by decide), em 3 (by decide), em 4 (by decide), em 5 (by decide), em 6 (by decide), em 7 (by decide), em 8 (by decide), em 9 (by decide), em 10 (by decide), em 11 (by decide), em 12 (by decide), em 13 (by decide), em 14 (by decide), em 15 (by decide), em 16 (by decide), em 17 (by decide)]
  unfold zns at hR ⊢
  rw [en 0 (by omega), en 1 (by omega), en 2 (by omega), en 3 (by omega), en 4 (by omega), en 5 (by omega), en 7 (by omega), en 8 (by omega), en 9 (by omega), en 10 (by omega), upd2_row (show 0 ≠ s by omega), upd2_row (show 1 ≠ s by omega), upd2_row (show 2 ≠ s by omega), upd2_row (show 3 ≠ s by omega)]
  obtain ⟨⟨a0, a1, a2, a3, a5, a6, a7⟩, h2, ⟨h3, h4⟩, ⟨h5, h6, h7, h8⟩, h9, h10⟩ := hR
  refine ⟨⟨a0, a1, a2, a3, ?_, ?_, ?_⟩, h2, ⟨h3, fun j hj => ?_⟩, ⟨h5, h6, h7, fun o ho => ?_⟩, h9, fun b hb => ?_⟩
  · rcases hs with ⟨rfl, rfl⟩ | ⟨rfl, rfl⟩ | ⟨rfl, rfl⟩
    · rw [upd2_same, setN_eq]
    · rw [upd2_row (by decide), en 6 (by decide)]; exact a5
    · rw [upd2_row (by decide), en 6 (by decide)]; exact a5
  · rcases hs with ⟨rfl, rfl⟩ | ⟨rfl, rfl⟩ | ⟨rfl, rfl⟩
    · rw [upd2_row (by decide), en 11 (by decide)]; exact a6
    · rw [upd2_same, setN_eq]
    · rw [upd2_row (by decide), en 11 (by decide)]; exact a6
  · rcases hs with ⟨rfl, rfl⟩ | ⟨rfl, rfl⟩ | ⟨rfl, rfl⟩
    · rw [upd2_row (by decide), en 12 (by decide)]; exact a7
    · rw [upd2_row (by decide), en 12 (by decide)]; exact a7
    · rw [upd2_same, setN_eq]
  · rw [en _ (by omega), en _ (by omega), en _ (by omega), en _ (by omega)]
    exact h4 j hj
  · rw [en _ (by omega), en _ (by omega), en _ (by omega), en _ (by omega)]
    refine ⟨(h8 o ho).1, (h8 o ho).2.1, (h8 o ho).2.2.1, (h8 o ho).2.2.2.1, fun k hk => ?_⟩
    rw [en _ (by omega), en _ (by omega), en _ (by omega)]
    exact (h8 o ho).2.2.2.2 k hk
  · rw [en _ (by omega)]
    exact h10 b hb
theorem WF_lay {N : Nat → Int} {n : Nat} {v : Int} (hn : n = 6 ∨ n = 11 ∨ n = 12) (h0 : 0 ≤ v) (h1 : v ≤ 99) (h6 : n = 6 → v ≤ 3) (hW : WF N) : WF (setN N n v) := by
  have en : ∀ k, k ≠ n → setN N n v k = N k := fun k hk => setN_ne hk
  unfold WF at hW ⊢
  rw [en 0 (by omega), en 1 (by omega), en 2 (by omega), en 3 (by omega), en 4 (by omega), en 5 (by omega), en 7 (by omega), en 8 (by omega), en 9 (by omega), en 10 (by omega)]
  obtain ⟨a, b, c, d, e, f, g⟩ := hW
  refine ⟨a, ?_, c, fun j hj => ?_, fun o ho => ?_, fun q hq => ?_, BC_congr (en 4 (by omega)) (en 5 (by omega)) (fun o _ => en _ (by omega)) (fun b _ => en _ (by omega)) g⟩
  · rcases hn with rfl | rfl | rfl
    · rw [setN_eq, en 11 (by decide), en 12 (by decide)]; have := h6 rfl; omega
    · rw [setN_eq, en 6 (by decide), en 12 (by decide)]; omega
    · rw [setN_eq, en 6 (by decide), en 11 (by decide)]; omega
  · have := d j hj
    unfold WFi at this ⊢
    rw [en 0 (by omega), en 1 (by omega), en _ (by omega), en _ (by omega), en _ (by omega), en _ (by omega)]
    exact this
  · have := e o ho
    unfold WFo at this ⊢
    rw [en 3 (by omega), en _ (by omega), en _ (by omega), en _ (by omega)]
    obtain ⟨t1, t2, t3, t4, t5, t6, t7⟩ := this
    refine ⟨t1, t2, t3, t4, t5, t6, fun k hk => ?_⟩
    rw [en _ (by omega), en _ (by omega), en _ (by omega)]
    exact t7 k hk
  · have := f q hq
    unfold WFb at this ⊢
    rw [en 4 (by omega), en 5 (by omega), en _ (by omega)]
    obtain ⟨t1, t2, t3, t4⟩ := this
    refine ⟨t1, t2, fun o ho => ?_, fun b' hb' hne o ho => ?_⟩
    · rw [en _ (by omega)]
      exact t3 o ho
    · rw [en _ (by omega)]
      exact t4 b' hb' hne o ho
theorem o_24 {M : Mem} (hI : Inv M) {p1 : Int} (h1 : I32 p1) (p2 p3 p4 : Int) : Ow (L_24 p1 p2 p3 p4 M) M := by
  unfold L_24 f_L_setPolicy f_X11_setPolicy f_X12_setPolicy
  rw [needArg h1 (i32c (by omega) (by omega)) (i32c (by omega) (by omega))]
  by_cases h : 0 ≤ p1 ∧ p1 ≤ 3
  · rw [if_pos h, cx1_inr, bnd_eq, bnd_eq, cx2_inr, cl2_some]
    generalize hM2 : upd2 (upd2 M 2 5 p1) 157 0 (w32 (M 2 5)) = M2
    have e140 : M2 140 = M 140 := by rw [← hM2, upd2_ne (by decide), upd2_ne (by decide)]
    rw [isIn h1 (i32c (by omega) (by omega)) (i32c (by omega) (by omega)), if_pos h, cl1_some, if_neg (by decide)]
    unfold j_X12_setPolicy_15
    rw [bnd_eq, upd2_same, if_neg (by decide), bnd_eq, bnd_eq, cl2_some]
    generalize hM' : upd2 (upd2 M2 139 0 0) 140 6 p1 = M'
    have n140 : M' 140 = setN (M 140) 6 p1 := by
      rw [← hM', upd2_fun, upd2_ne (show (140 : Nat) ≠ 139 by decide), e140]
      rfl
    have nother : ∀ a, a ≠ 2 → a ≠ 139 → a ≠ 140 → a ≠ 157 → M' a = M a := fun a a1 a2 a3 a4 => by rw [← hM', upd2_ne a3, upd2_ne a2, ← hM2, upd2_ne a4, upd2_ne a1]
    have n139 : ∀ k, k ≠ 0 → M' 139 k = M 139 k := fun k hk => by rw [← hM', upd2_ne (show (139 : Nat) ≠ 140 by decide), upd2_row hk, ← hM2, upd2_ne (show (139 : Nat) ≠ 157 by decide), upd2_ne (show (139 : Nat) ≠ 2 by decide)]
    refine ⟨M', fin_ok ?_ ?_, Inv_new hI ?_ ?_ (fun a k1 k2 k3 => nother a (by omega) (fun e => by subst e; cases k1) k3 (fun e => by subst e; cases k1)) (fun k _ _ => by rw [nother 38 (by decide) (by decide) (by decide) (by decide)]) (n139 23 (by decide)) (n139 28 (by decide)) (n139 29 (by decide)), nother 37 (by decide) (by decide) (by decide) (by decide)⟩
    · rw [← hM', upd2_ne (show (139 : Nat) ≠ 140 by decide), upd2_same]
    · rw [← hM', upd2_ne (show (157 : Nat) ≠ 140 by decide), upd2_ne (show (157 : Nat) ≠ 139 by decide), upd2_ne (show (140 : Nat) ≠ 139 by decide), e140, ← hM2, upd2_same]
      have := hI.1.1.2.2.2.2.1
      rw [show M 2 5 = M (1 + 1) 5 from rfl, this]
    · rw [n140]
      refine HR_congr (fun d d1 d2 => ?_) (HR_lay (s := 5) (n := 6) (v := p1) (Or.inl ⟨rfl, rfl⟩) hI.1)
      by_cases e : d = 1
      · subst e
        show M' 2 = upd2 M 2 5 p1 2
        rw [← hM', upd2_ne (by decide), upd2_ne (by decide), ← hM2, upd2_ne (by decide)]
      · rw [nother _ (by omega) (by omega) (by omega) (by omega), upd2_ne (by omega)]
    · rw [n140]
      exact WF_lay (Or.inl rfl) h.1 (by omega) (fun _ => h.2) hI.2.1
  · rw [if_neg h, cx1_inl, cx2_inl, if_pos rfl, cl2_some, isIn h1 (i32c (by omega) (by omega)) (i32c (by omega) (by omega)), if_neg h, cl1_some, if_pos (by decide)]
    unfold j_X12_setPolicy_15
    rw [bnd_eq, upd2_same, if_pos (by decide), cl2_some]
    exact Ow_Sm hI (fin_err upd2_same (by decide)) (Sm.up rfl)
