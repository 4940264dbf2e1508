theorem needOrder {x : Int} {M : Mem} (hI : Inv M) (hx : I32 x) : f_X11_needOrder x M = some (if 0 ≤ x ∧ x < M 140 4 then .inr () else .inl 3) := by
  have hw := hI.2.1.1
  unfold f_X11_needOrder
  rw [show M 10 0 = M (1 + 9) 0 from rfl, hI.1.2.2.2.1.1, needIdx hx (i32c (by omega) (by omega))]
  by_cases h : 0 ≤ x ∧ x < M 140 4
  · rw [if_pos h, cx1_inr]
  · rw [if_neg h, cx1_inl]
theorem isOrder {x : Int} {M : Mem} (hw : WF (M 140)) (hx : I32 x) : f_X12_isOrder x M = some (if 0 ≤ x ∧ x < M 140 4 then 1 else 0) := by
  have hw := hw.1
  unfold f_X12_isOrder
  rw [isIn hx (i32c (by omega) (by omega)) (i32c (by omega) (by omega)), cl1_some]
  by_cases h : 0 ≤ x ∧ x < M 140 4
  · rw [if_pos (by omega), if_pos h]
    rfl
  · rw [if_neg (by omega), if_neg h]
    rfl
theorem ofOrder {x c : Int} {M : Mem} {o k : Nat} (hx : x = (o : Int)) (hc : c = (k : Int)) (ho : o < 16) (hk : k < 22) : f_X12_ofOrder x c M = some (M 140 (109 + 22 * o + k)) := by
  subst hx; subst hc
  unfold f_X12_ofOrder f_X12_orderAt
  have e : (109 + (22 * (o : Int))) + (k : Int) = ((109 + 22 * o + k : Nat) : Int) := by omega
  rw [cl1_some, e, gi_ok (inb_nat (by omega) (by omega)), ix_nat (by omega)]
/-- the three getters of an order -/
theorem get_ok {M : Mem} (hI : Inv M) {p1 : Int} (h1 : I32 p1) {a k : Nat} {c : Int} (hc : c = (k : Int)) (hk : k < 22) (ha : ∀ o : Nat, (o : Int) < M 140 4 → M a o = M 140 (109 + 22 * o + k)) :
    Ow (cl2 (cx1 (cx1 (f_X11_needOrder p1 M) (fun e_3 => some (.inl e_3)) (fun r_1 => gi p1 16 (some (.inr (M a (ix p1)))))) (fun e => (if e = 3 then some (1, M) else none)) (fun r => some (0, upd2 M 157 0 (w32 r)))) (fun r_1 M_2 => cl2 (cl2 (f_X12_told p1 c M_2) (fun r_1 M_2 => some (r_1, M_2))) (fun r_3 M_4 => cl1 (f_X12_thrown M_4) (fun r_5 => (if w32 r_5 = w32 r_1 then (if w32 r_1 = 0 then (if w32 (l_cmp (M_4 157 0) (w32 r_3)) = 0 then some M_4 else none) else some M_4) else none))))) M := by
  have hw := hI.2.1.1
  unfold f_X12_told
  rw [needOrder hI h1]
  by_cases h : 0 ≤ p1 ∧ p1 < M 140 4
  · obtain ⟨o, rfl⟩ : ∃ o : Nat, p1 = (o : Int) := ⟨p1.toNat, by omega⟩
    have hv := ha o h.2
    rw [if_pos h, cx1_inr, gi_ok (inb_nat (by omega) (by omega)), ix_nat (by omega), cx1_inr, cl2_some]
    rw [isOrder (by rw [upd2_ne (by decide)]; exact hI.2.1) h1, upd2_ne (show (140 : Nat) ≠ 157 by decide), if_pos h, cl1_some, if_neg (by decide)]
    unfold j_X12_told_14
    rw [bnd_eq, upd2_same, if_neg (by decide), ofOrder (x := (o : Int)) (c := c) (o := o) (k := k) rfl hc (by omega) hk, cl1_some, cl2_some, cl2_some]
    refine Ow_Sm hI (fin_ok upd2_same ?_) (Sm.tr (Sm.up rfl) (Sm.up rfl))
    rw [upd2_ne (show (157 : Nat) ≠ 139 by decide), upd2_same, upd2_ne (show (140 : Nat) ≠ 139 by decide), upd2_ne (show (140 : Nat) ≠ 157 by decide), hv]
  · rw [if_neg h, cx1_inl, cx1_inl, if_pos rfl, cl2_some, isOrder hI.2.1 h1, if_neg h, cl1_some, if_pos (by decide)]
    unfold j_X12_told_14
    rw [bnd_eq, upd2_same, if_pos (by decide), cl2_some, cl2_some]
    exact Ow_Sm hI (fin_err upd2_same (by decide)) (Sm.up rfl)
theorem o_9 {M : Mem} (hI : Inv M) {p1 : Int} (h1 : I32 p1) (p2 p3 p4 : Int) : Ow (L_9 p1 p2 p3 p4 M) M := get_ok (a := 12) (k := 1) hI h1 rfl (by decide) (fun o ho => ((hI.1.2.2.2.1.2.2.2 o ho).2.1).trans (by rw [show 109 + 22 * o + 1 = 110 + 22 * o by omega]))
theorem o_10 {M : Mem} (hI : Inv M) {p1 : Int} (h1 : I32 p1) (p2 p3 p4 : Int) : Ow (L_10 p1 p2 p3 p4 M) M := get_ok (a := 13) (k := 2) hI h1 rfl (by decide) (fun o ho => ((hI.1.2.2.2.1.2.2.2 o ho).2.2.1).trans (by rw [show 109 + 22 * o + 2 = 111 + 22 * o by omega]))
theorem o_11 {M : Mem} (hI : Inv M) {p1 : Int} (h1 : I32 p1) (p2 p3 p4 : Int) : Ow (L_11 p1 p2 p3 p4 M) M := get_ok (a := 11) (k := 0) hI h1 rfl (by decide) (fun o ho => (hI.1.2.2.2.1.2.2.2 o ho).1)
