-- ===== the cases: counts, and what throws =====
theorem lcmp_eq {a : Int} : w32 (l_cmp a a) = 0 := by
  unfold l_cmp lg_cmp
  simp [w32]
theorem fin_err {M4 : Mem} {r1 r3 : Int} (h0 : M4 139 0 = r1) (h : ¬ w32 r1 = 0) : cl1 (f_X12_thrown M4) (fun r_5 => (if w32 r_5 = w32 r1 then (if w32 r1 = 0 then (if w32 (l_cmp (M4 157 0) (w32 r3)) = 0 then some M4 else none) else some M4) else none)) = some M4 := by
  unfold f_X12_thrown
  rw [cl1_some, h0, if_pos rfl, if_neg h]
theorem fin_ok {M4 : Mem} {r3 : Int} (h0 : M4 139 0 = 0) (h : M4 157 0 = w32 r3) : cl1 (f_X12_thrown M4) (fun r_5 => (if w32 r_5 = w32 0 then (if w32 0 = 0 then (if w32 (l_cmp (M4 157 0) (w32 r3)) = 0 then some M4 else none) else some M4) else none)) = some M4 := by
  unfold f_X12_thrown
  rw [cl1_some, h0, if_pos rfl, if_pos (by decide), h, if_pos lcmp_eq]
theorem cnt_ok {M : Mem} {a b c d : Nat} (hI : Inv M) (h : M a b = M c d) (hc : ¬ (c = 139 ∧ d = 0)) : Ow (cl1 (some (M a b)) (fun r_1 => cl2 (bnd (upd2 M 139 0 0) (fun M_1 => some ((M_1 c d), M_1))) (fun r_3 M_4 => (if w32 r_1 = w32 r_3 then some M_4 else none)))) M := by
  refine Ow_Sm hI (M' := upd2 M 139 0 0) ?_ (Sm.up rfl)
  rw [cl1_some, bnd_eq, cl2_some, if_pos]
  rw [upd2_ne2 hc, h]
theorem o_3 {M : Mem} (hI : Inv M) (p1 p2 p3 p4 : Int) : Ow (L_3 p1 p2 p3 p4 M) M := cnt_ok (a := 5) (b := 0) (c := 140) (d := 3) hI hI.1.2.2.1.1 (by decide)
theorem o_8 {M : Mem} (hI : Inv M) (p1 p2 p3 p4 : Int) : Ow (L_8 p1 p2 p3 p4 M) M := cnt_ok (a := 10) (b := 0) (c := 140) (d := 4) hI hI.1.2.2.2.1.1 (by decide)
theorem o_19 {M : Mem} (hI : Inv M) (p1 p2 p3 p4 : Int) : Ow (L_19 p1 p2 p3 p4 M) M := cnt_ok (a := 17) (b := 0) (c := 140) (d := 5) hI hI.1.2.2.2.2.1 (by decide)
theorem o_54 {M : Mem} (hI : Inv M) (p1 p2 p3 p4 : Int) : Ow (L_54 p1 p2 p3 p4 M) M := cnt_ok (a := 38) (b := 2) (c := 139) (d := 28) hI hI.2.2.1.2.2.2.2.1.symm (by decide)
theorem o_55 {M : Mem} (hI : Inv M) (p1 p2 p3 p4 : Int) : Ow (L_55 p1 p2 p3 p4 M) M := cnt_ok (a := 38) (b := 3) (c := 139) (d := 29) hI hI.2.2.1.2.2.2.2.2.1.symm (by decide)
-- ranges
theorem needArg {x lo hi : Int} {M : Mem} (hx : I32 x) (hl : I32 lo) (hh : I32 hi) : f_X11_needArgument x lo hi M = some (if lo ≤ x ∧ x ≤ hi then .inr () else .inl 2) := by
  unfold f_X11_needArgument j_X11_needArgument_10
  rw [w32_ok hx, w32_ok hl, w32_ok hh]
  by_cases h1 : x < lo
  · rw [if_pos h1, if_neg (by omega)]
  · rw [if_neg h1]
    by_cases h2 : hi < x
    · rw [if_pos h2, if_neg (by omega)]
    · rw [if_neg h2, if_pos (by omega)]
theorem needIdx {x n : Int} {M : Mem} (hx : I32 x) (hn : I32 n) : f_X11_needIndex x n M = some (if 0 ≤ x ∧ x < n then .inr () else .inl 3) := by
  unfold f_X11_needIndex j_X11_needIndex_9
  rw [w32_ok hx, w32_ok hn]
  by_cases h1 : x < 0
  · rw [if_pos h1, if_neg (by omega)]
  · rw [if_neg h1]
    by_cases h2 : x < n
    · rw [if_pos h2, if_pos (by omega)]
    · rw [if_neg h2, if_neg (by omega)]
theorem isIn {x lo hi : Int} {M : Mem} (hx : I32 x) (hl : I32 lo) (hh : I32 hi) : f_X12_in x lo hi M = some (if lo ≤ x ∧ x ≤ hi then 1 else 0) := by
  unfold f_X12_in
  rw [w32_ok hx, w32_ok hl, w32_ok hh]
  by_cases h1 : x < lo
  · rw [if_pos h1, if_neg (by omega)]
  · rw [if_neg h1]
    by_cases h2 : hi < x
    · rw [if_pos h2, if_neg (by omega)]
    · rw [if_neg h2, if_pos (by omega)]
theorem i32c {v : Int} (h0 : -1000000 ≤ v) (h1 : v ≤ 1000000) : I32 v := ⟨by omega, by omega⟩
theorem cx1_inr {α β : Type} {a : α} {k1 : Nat → Option β} {k2 : α → Option β} : cx1 (some (.inr a)) k1 k2 = k2 a := rfl
theorem cx1_inl {α β : Type} {a : Nat} {k1 : Nat → Option β} {k2 : α → Option β} : cx1 (some (.inl a)) k1 k2 = k1 a := rfl
theorem needItem {x : Int} {M : Mem} (hI : Inv M) (hx : I32 x) : f_X11_needItem x M = some (if 0 ≤ x ∧ x < M 140 3 then .inr () else .inl 3) := by
  have hw := hI.2.1.1
  unfold f_X11_needItem
  rw [show M 5 0 = M (1 + 4) 0 from rfl, hI.1.2.2.1.1, needIdx hx (i32c (by omega) (by omega))]
  by_cases h : 0 ≤ x ∧ x < M 140 3
  · rw [if_pos h, cx1_inr]
  · rw [if_neg h, cx1_inl]
theorem isItem {x : Int} {M : Mem} (hw : WF (M 140)) (hx : I32 x) : f_X12_isItem x M = some (if 0 ≤ x ∧ x < M 140 3 then 1 else 0) := by
  have hw := hw.1
  unfold f_X12_isItem
  rw [isIn hx (i32c (by omega) (by omega)) (i32c (by omega) (by omega)), cl1_some]
  by_cases h : 0 ≤ x ∧ x < M 140 3
  · rw [if_pos (by omega), if_pos h]
    rfl
  · rw [if_neg (by omega), if_neg h]
    rfl
theorem cx2_inr {α β : Type} {a : α} {M : Mem} {k1 : Nat → Mem → Option β} {k2 : α → Mem → Option β} : cx2 (some (.inr a, M)) k1 k2 = k2 a M := rfl
theorem cx2_inl {α β : Type} {a : Nat} {M : Mem} {k1 : Nat → Mem → Option β} {k2 : α → Mem → Option β} : cx2 (some (.inl a, M)) k1 k2 = k1 a M := rfl
/-- a place of the reference's row -/
theorem ofItem {x c : Int} {M : Mem} {i k : Nat} (hx : x = (i : Int)) (hc : c = (k : Int)) (hi : i < 24) (hk : k < 4) : f_X12_ofItem x c M = some (M 140 (13 + 4 * i + k)) := by
  subst hx; subst hc
  unfold f_X12_ofItem
  have e : (13 + (4 * (i : Int))) + (k : Int) = ((13 + 4 * i + k : Nat) : Int) := by omega
  rw [e, gi_ok (inb_nat (by omega) (by omega)), ix_nat (by omega)]
theorem o_4 {M : Mem} (hI : Inv M) {p1 : Int} (h1 : I32 p1) (p2 p3 p4 : Int) : Ow (L_4 p1 p2 p3 p4 M) M := by
  have hw := hI.2.1.1
  unfold L_4 f_L_stock f_X11_stock f_X12_stock
  rw [needItem hI h1]
  by_cases h : 0 ≤ p1 ∧ p1 < M 140 3
  · obtain ⟨i, rfl⟩ : ∃ i : Nat, p1 = (i : Int) := ⟨p1.toNat, by omega⟩
    have hi := hI.1.2.2.1.2 i h.2
    rw [if_pos h, cx1_inr, gi_ok (inb_nat (by omega) (by omega)), ix_nat (by omega), cx1_inr, cl2_some]
    rw [isItem (by rw [upd2_ne (by decide)]; exact hI.2.1) h1, upd2_ne (show (140 : Nat) ≠ 157 by decide), if_pos h, cl1_some, if_neg (by decide)]
    unfold j_X12_stock_14
    rw [bnd_eq, upd2_same, if_neg (by decide), ofItem (x := (i : Int)) (c := 3) (i := i) (k := 3) rfl rfl (by omega) (by omega), cl1_some, cl2_some]
    refine Ow_Sm hI (fin_ok upd2_same ?_) (Sm.tr (Sm.up rfl) (Sm.up rfl))
    rw [upd2_ne (show (157 : Nat) ≠ 139 by decide), upd2_same, upd2_ne (show (140 : Nat) ≠ 139 by decide), upd2_ne (show (140 : Nat) ≠ 157 by decide), show M 9 i = M (1 + 8) i from rfl, hi.2.2.2, show 13 + 4 * i + 3 = 16 + 4 * i by omega]
  · rw [if_neg h, cx1_inl, cx1_inl, if_pos rfl, cl2_some, isItem hI.2.1 h1, if_neg h, cl1_some, if_pos (by decide)]
    unfold j_X12_stock_14
    rw [bnd_eq, upd2_same, if_pos (by decide), cl2_some]
    exact Ow_Sm hI (fin_err upd2_same (by decide)) (Sm.up rfl)
-- one item's units
theorem upd2_fun {M : Mem} {a i : Nat} {v : Int} : upd2 M a i v a = fun k => if k = i then v else M a k := by
  unfold upd2
  rw [if_pos rfl]
def setN (N : Nat → Int) (i : Nat) (v : Int) : Nat → Int := fun k => if k = i then v else N k
theorem setN_ne {N : Nat → Int} {i k : Nat} {v : Int} (h : k ≠ i) : setN N i v k = N k := if_neg h
theorem setN_eq {N : Nat → Int} {i : Nat} {v : Int} : setN N i v i = v := if_pos rfl
theorem HR_units {h : Nat} {M : Mem} {N : Nat → Int} {i : Nat} {v : Int} (hi : i < 24) (hR : HR h M N) : HR h (upd2 M (h + 8) i v) (setN N (16 + 4 * i) v) := by
  have en : ∀ k, k ≠ 16 + 4 * i → setN N (16 + 4 * i) v k = N k := fun k hk => setN_ne hk
  have em : ∀ d, d ≠ 8 → upd2 M (h + 8) i v (h + d) = M (h + d) := fun d hd => upd2_ne (by omega)
  unfold HR at hR ⊢
  rw [em 1 (by decide), em 2 (by decide), em 3 (by decide), em 4 (by decide), em 5 (by decide), em 6 (by decide), em 7 (by decide), em 9 (by decide), em 10 (by decide), em 11 (by decide), em 12 (by decide), em 13 (by decide), em 14 (by decide), em 15 (by decide), em 16 (by decide), em 17 (by decide)]
  unfold zns at hR ⊢
  rw [en 0 (by omega), en 1 (by omega), en 2 (by omega), en 3 (by omega), en 4 (by omega), en 5 (by omega), en 6 (by omega), en 7 (by omega), en 8 (by omega), en 9 (by omega), en 10 (by omega), en 11 (by omega), en 12 (by omega)]
  obtain ⟨h1, h2, ⟨h3, h4⟩, ⟨h5, h6, h7, h8⟩, h9, h10⟩ := hR
  refine ⟨h1, h2, ⟨h3, fun j hj => ?_⟩, ⟨h5, h6, h7, fun o ho => ?_⟩, h9, fun b hb => ?_⟩
  · rw [en _ (by omega), en _ (by omega), en _ (by omega)]
    refine ⟨(h4 j hj).1, (h4 j hj).2.1, (h4 j hj).2.2.1, ?_⟩
    by_cases e : j = i
    · subst e
      rw [upd2_same, setN_eq]
    · rw [upd2_row e, en _ (by omega)]
      exact (h4 j hj).2.2.2
  · rw [en _ (by omega), en _ (by omega), en _ (by omega), en _ (by omega)]
    refine ⟨(h8 o ho).1, (h8 o ho).2.1, (h8 o ho).2.2.1, (h8 o ho).2.2.2.1, fun k hk => ?_⟩
    rw [en _ (by omega), en _ (by omega), en _ (by omega)]
    exact (h8 o ho).2.2.2.2 k hk
  · rw [en _ (by omega)]
    exact h10 b hb
