-- written by wip/gen/emit.py: X2_copyFrom, X3_divide, X3_endOf, X3_zoneWith, X3_copyFrom, X4_keepBetter, X5_append, X5_appendLine, X5_hasItem, X5_setStates, X5_countIn, X5_dueBefore, X5_pickedIn, X5_shortIn, X5_copyFrom, X6_note, X6_returnCost
set_option maxRecDepth 100000 in
set_option maxHeartbeats 4000000 in
theorem c_X2_copyFrom {l : Launch} {G : Gx} (hG : GOK G) (hl : l.stackTraces = false) {th : Nat} (h0 : at_ G th 12 0) {a1 : Nat} (h1 : at_ G a1 12 0) (M : Mem) (Mr : Mem) (h : f_X2_copyFrom th a1 M = some Mr) : Cn l G mX2_copyFrom 1 [vr G th, vr G a1] M none Mr := by
  refine Cn_of2 (ls := [some (vr G th), some (vr G a1)]) hG hl kX2_copyFrom rfl (Nat.le_of_ble_eq_true rfl) rfl rfl rfl rfl rfl (fun X eG el hX => ?_)
  subst eG; subst el
  unfold f_X2_copyFrom at h
  refine x_aloadn hX dX2_copyFrom_0 rfl ?_
  refine x_aloadn hX dX2_copyFrom_1 rfl ?_
  refine x_getI hX dX2_copyFrom_2 fl_X2_24 rfl h1 ?_
  obtain ⟨M_1, eM_1, h⟩ := bnd_of h
  refine x_putI hX dX2_copyFrom_5 fp_X2_24 rfl h0 (x_meq eM_1 ?_)
  refine x_aloadn hX dX2_copyFrom_8 rfl ?_
  refine x_getRj (j := a1 + 1) hX dX2_copyFrom_9 fl_X2_9 rfl h1 rfl ?_
  refine x_iconst hX dX2_copyFrom_12 ?_
  refine x_aloadn hX dX2_copyFrom_13 rfl ?_
  refine x_getRj (j := th + 1) hX dX2_copyFrom_14 fl_X2_9 rfl h0 rfl ?_
  refine x_iconst hX dX2_copyFrom_17 ?_
  refine x_bipush hX dX2_copyFrom_18 bp_24 ?_
  obtain ⟨M_2, eM_2, h⟩ := bnd_of h
  refine x_copy (st := []) hX dX2_copyFrom_20 cpw_X2_28 (fo_2_1 (gk hX) h1) (fo_2_1 (gk hX) h0) (by decide +kernel) (Nat.le_of_ble_eq_true rfl) (Nat.le_of_ble_eq_true rfl) (Nat.le_of_ble_eq_true rfl) (x_meq eM_2 ?_)
  refine x_aloadn hX dX2_copyFrom_23 rfl ?_
  refine x_getRj (j := a1 + 2) hX dX2_copyFrom_24 fl_X2_15 rfl h1 rfl ?_
  refine x_iconst hX dX2_copyFrom_27 ?_
  refine x_aloadn hX dX2_copyFrom_28 rfl ?_
  refine x_getRj (j := th + 2) hX dX2_copyFrom_29 fl_X2_15 rfl h0 rfl ?_
  refine x_iconst hX dX2_copyFrom_32 ?_
  refine x_bipush hX dX2_copyFrom_33 bp_24 ?_
  obtain ⟨M_3, eM_3, h⟩ := bnd_of h
  refine x_copy (st := []) hX dX2_copyFrom_35 cpw_X2_28 (fo_2_2 (gk hX) h1) (fo_2_2 (gk hX) h0) (by decide +kernel) (Nat.le_of_ble_eq_true rfl) (Nat.le_of_ble_eq_true rfl) (Nat.le_of_ble_eq_true rfl) (x_meq eM_3 ?_)
  refine x_aloadn hX dX2_copyFrom_38 rfl ?_
  refine x_getRj (j := a1 + 3) hX dX2_copyFrom_39 fl_X2_18 rfl h1 rfl ?_
  refine x_iconst hX dX2_copyFrom_42 ?_
  refine x_aloadn hX dX2_copyFrom_43 rfl ?_
  refine x_getRj (j := th + 3) hX dX2_copyFrom_44 fl_X2_18 rfl h0 rfl ?_
  refine x_iconst hX dX2_copyFrom_47 ?_
  refine x_bipush hX dX2_copyFrom_48 bp_24 ?_
  obtain ⟨M_4, eM_4, h⟩ := bnd_of h
  refine x_copy (st := []) hX dX2_copyFrom_50 cpw_X2_28 (fo_2_3 (gk hX) h1) (fo_2_3 (gk hX) h0) (by decide +kernel) (Nat.le_of_ble_eq_true rfl) (Nat.le_of_ble_eq_true rfl) (Nat.le_of_ble_eq_true rfl) (x_meq eM_4 ?_)
  refine x_aloadn hX dX2_copyFrom_53 rfl ?_
  refine x_getRj (j := a1 + 4) hX dX2_copyFrom_54 fl_X2_21 rfl h1 rfl ?_
  refine x_iconst hX dX2_copyFrom_57 ?_
  refine x_aloadn hX dX2_copyFrom_58 rfl ?_
  refine x_getRj (j := th + 4) hX dX2_copyFrom_59 fl_X2_21 rfl h0 rfl ?_
  refine x_iconst hX dX2_copyFrom_62 ?_
  refine x_bipush hX dX2_copyFrom_63 bp_24 ?_
  obtain ⟨M_5, eM_5, h⟩ := bnd_of h
  refine x_copy (st := []) hX dX2_copyFrom_65 cpw_X2_28 (fo_2_4 (gk hX) h1) (fo_2_4 (gk hX) h0) (by decide +kernel) (Nat.le_of_ble_eq_true rfl) (Nat.le_of_ble_eq_true rfl) (Nat.le_of_ble_eq_true rfl) (x_meq eM_5 ?_)
  cases h
  exact x_vret hX dX2_copyFrom_68 rfl
set_option maxRecDepth 100000 in
set_option maxHeartbeats 4000000 in
theorem tj_X3_divide_20 {X : Cxt} (hX : Gd X RX3 cX3_divide 3 (none) 1) {th : Nat} (h0 : at_ (xG X) th 13 0)  (x1 : Int) (x2 : Int) (y1 : Int) (M : Mem) (Mr : Mem) (h : j_X3_divide_20 th x1 x2 y1 M = some Mr) : V X 0 0 (Qn X none Mr) 20 [some (vr (xG X) th), some (vi x1), some (vi x2)] [vi y1, vr (xG X) th] M := by
  unfold j_X3_divide_20 at h
  obtain ⟨M_1, eM_1, h⟩ := bnd_of h
  refine x_putI hX dX3_divide_20 fp_X3_45 rfl h0 (x_meq eM_1 ?_)
  refine x_aloadn hX dX3_divide_23 rfl ?_
  refine x_getRj (j := th + 1) hX dX3_divide_24 fl_X3_9 rfl h0 rfl ?_
  refine x_iconst hX dX3_divide_27 ?_
  refine x_iconst hX dX3_divide_28 ?_
  obtain ⟨M_2, eM_2, h⟩ := bnd_of h
  refine x_iast hX dX3_divide_29 (fo_3_4 (gk hX) h0) inc_0_3 ixc_0 (x_meq eM_2 ?_)
  refine x_aloadn hX dX3_divide_30 rfl ?_
  refine x_getRj (j := th + 1) hX dX3_divide_31 fl_X3_9 rfl h0 rfl ?_
  refine x_iconst hX dX3_divide_34 ?_
  refine x_iloadn hX dX3_divide_35 rfl ?_
  obtain ⟨M_3, eM_3, h⟩ := bnd_of h
  refine x_iast hX dX3_divide_36 (fo_3_4 (gk hX) h0) inc_1_3 ixc_1 (x_meq eM_3 ?_)
  refine x_aloadn hX dX3_divide_37 rfl ?_
  refine x_getRj (j := th + 1) hX dX3_divide_38 fl_X3_9 rfl h0 rfl ?_
  refine x_iconst hX dX3_divide_41 ?_
  refine x_iloadn hX dX3_divide_42 rfl ?_
  obtain ⟨M_4, eM_4, h⟩ := bnd_of h
  refine x_iast hX dX3_divide_43 (fo_3_4 (gk hX) h0) inc_2_3 ixc_2 (x_meq eM_4 ?_)
  cases h
  exact x_vret hX dX3_divide_44 rfl
set_option maxRecDepth 100000 in
set_option maxHeartbeats 4000000 in
theorem c_X3_divide {l : Launch} {G : Gx} (hG : GOK G) (hl : l.stackTraces = false) {th : Nat} (h0 : at_ G th 13 0) (x1 : Int) (x2 : Int) (M : Mem) (Mr : Mem) (h : f_X3_divide th x1 x2 M = some Mr) : Cn l G mX3_divide 1 [vr G th, vi x1, vi x2] M none Mr := by
  refine Cn_of2 (ls := [some (vr G th), some (vi x1), some (vi x2)]) hG hl kX3_divide rfl (Nat.le_of_ble_eq_true rfl) rfl rfl rfl rfl rfl (fun X eG el hX => ?_)
  subst eG; subst el
  unfold f_X3_divide at h
  refine x_aloadn hX dX3_divide_0 rfl ?_
  refine x_iloadn hX dX3_divide_1 rfl ?_
  refine x_iconst hX dX3_divide_2 ?_
  refine x_icmp_ne (tgt := 10) hX dX3_divide_3 (by decide) rfl cw_m1 (fun hc => ?_) (fun hc => ?_)
  · replace h := (if_pos hc).symm.trans h
    refine x_iconst hX dX3_divide_6 ?_
    refine x_goto (tgt := 20) hX dX3_divide_7 (by decide) ?_
    exact x_weak [true, true, true] rfl (tj_X3_divide_20 hX h0 x1 x2 1 M Mr h)
  · replace h := (if_neg hc).symm.trans h
    refine x_iloadn hX dX3_divide_10 rfl ?_
    refine x_iconst hX dX3_divide_11 ?_
    refine x_icmp_ne (tgt := 19) hX dX3_divide_12 (by decide) rfl cw_m1 (fun hc => ?_) (fun hc => ?_)
    · replace h := (if_pos hc).symm.trans h
      refine x_iconst hX dX3_divide_15 ?_
      refine x_goto (tgt := 20) hX dX3_divide_16 (by decide) ?_
      exact x_weak [true, true, true] rfl (tj_X3_divide_20 hX h0 x1 x2 2 M Mr h)
    · replace h := (if_neg hc).symm.trans h
      refine x_iconst hX dX3_divide_19 ?_
      exact x_weak [true, true, true] rfl (tj_X3_divide_20 hX h0 x1 x2 3 M Mr h)
set_option maxRecDepth 100000 in
set_option maxHeartbeats 4000000 in
theorem c_X3_endOf {l : Launch} {G : Gx} (hG : GOK G) (hl : l.stackTraces = false) {th : Nat} (h0 : at_ G th 13 0) (x1 : Int) (M : Mem) (r : Int) (h : f_X3_endOf th x1 M = some r) : Cn l G mX3_endOf 1 [vr G th, vi x1] M (some (vi r)) M := by
  refine Cn_of2 (ls := [some (vr G th), some (vi x1)]) hG hl kX3_endOf rfl (Nat.le_of_ble_eq_true rfl) rfl rfl rfl rfl rfl (fun X eG el hX => ?_)
  subst eG; subst el
  unfold f_X3_endOf at h
  refine x_iloadn hX dX3_endOf_0 rfl ?_
  refine x_iconst hX dX3_endOf_1 ?_
  refine x_iadd hX dX3_endOf_2 ?_
  refine x_aloadn hX dX3_endOf_3 rfl ?_
  refine x_getI hX dX3_endOf_4 fl_X3_45 rfl h0 ?_
  refine x_icmp_ge (tgt := 21) hX dX3_endOf_7 (by decide) rfl rfl (fun hc => ?_) (fun hc => ?_)
  · replace h := (if_pos hc).symm.trans h
    refine x_aloadn hX dX3_endOf_10 rfl ?_
    refine x_getRj (j := th + 1) hX dX3_endOf_11 fl_X3_9 rfl h0 rfl ?_
    refine x_iloadn hX dX3_endOf_14 rfl ?_
    refine x_iconst hX dX3_endOf_15 ?_
    refine x_iadd hX dX3_endOf_16 ?_
    obtain ⟨b_1, h⟩ := gi_of h
    refine x_iald hX dX3_endOf_17 (fo_3_4 (gk hX) h0) b_1 rfl ?_
    refine x_goto (tgt := 25) hX dX3_endOf_18 (by decide) ?_
    cases h
    exact x_iret hX dX3_endOf_25 rfl
  · replace h := (if_neg hc).symm.trans h
    refine x_aloadn hX dX3_endOf_21 rfl ?_
    refine x_getI hX dX3_endOf_22 fl_X3_32 rfl h0 ?_
    cases h
    exact x_iret hX dX3_endOf_25 rfl
set_option maxRecDepth 100000 in
set_option maxHeartbeats 4000000 in
theorem tj_X3_zoneWith_24_4 {X : Cxt} (hX : Gd X RX3 cX3_zoneWith 4 (some .int) 1) {th : Nat} (h0 : at_ (xG X) th 13 0)  (x1 : Int) (x2 : Int) (x3 : Int) (M : Mem) {Q : State → Prop} (o : (Int × Int) ⊕ ((Int) ⊕ (Int))) (h : j_X3_zoneWith_24_4 th x1 x2 x3 M = some o) (hP : ∀ y, o = .inl y → V X 0 0 Q 4 [some (vr (xG X) th), some (vi x1), some (vi y.1), some (vi y.2)] [] M) (hE : ∀ z, o = .inr (.inl z) → V X 0 0 Q 30 [none, none, some (vi z), none] [] M) (hR : ∀ q, o = .inr (.inr q) → Q = Qn X (some (vi q)) M) : V X 0 0 Q 24 [some (vr (xG X) th), some (vi x1), some (vi x2), some (vi x3)] [] M := by
  unfold j_X3_zoneWith_24_4 at h
  obtain ⟨x3_2, ex3_2, h⟩ := bnd_of h
  refine x_iinc (ls' := [some (vr (xG X) th), some (vi x1), some (vi x2), some (vi x3_2)]) hX dX3_zoneWith_24 rfl rfl ex3_2 rfl ?_
  refine x_goto (tgt := 4) hX dX3_zoneWith_27 (by decide) ?_
  exact x_weak [true, true, true, true] rfl (hP (x2, x3_2) (Option.some.inj h).symm)
set_option maxRecDepth 100000 in
set_option maxHeartbeats 4000000 in
theorem ts_X3_zoneWith_4 {X : Cxt} (hX : Gd X RX3 cX3_zoneWith 4 (some .int) 1) {th : Nat} (h0 : at_ (xG X) th 13 0) (x1 : Int) (M : Mem) (x2 : Int) (x3 : Int) {Q : State → Prop} (o : (Int × Int) ⊕ ((Int) ⊕ (Int))) (h : s_X3_zoneWith_4 th x1 M x2 x3 = some o) (hP : ∀ y, o = .inl y → V X 0 0 Q 4 [some (vr (xG X) th), some (vi x1), some (vi y.1), some (vi y.2)] [] M) (hE : ∀ z, o = .inr (.inl z) → V X 0 0 Q 30 [none, none, some (vi z), none] [] M) (hR : ∀ q, o = .inr (.inr q) → Q = Qn X (some (vi q)) M) : V X 0 0 Q 4 [some (vr (xG X) th), some (vi x1), some (vi x2), some (vi x3)] [] M := by
  unfold s_X3_zoneWith_4 at h
  refine x_iloadn hX dX3_zoneWith_4 rfl ?_
  refine x_aloadn hX dX3_zoneWith_5 rfl ?_
  refine x_getI hX dX3_zoneWith_6 fl_X3_45 rfl h0 ?_
  refine x_icmp_ge (tgt := 30) hX dX3_zoneWith_9 (by decide) rfl rfl (fun hc => ?_) (fun hc => ?_)
  · replace h := (if_pos hc).symm.trans h
    refine x_iloadn hX dX3_zoneWith_12 rfl ?_
    refine x_aloadn hX dX3_zoneWith_13 rfl ?_
    refine x_getRj (j := th + 1) hX dX3_zoneWith_14 fl_X3_9 rfl h0 rfl ?_
    refine x_iloadn hX dX3_zoneWith_17 rfl ?_
    obtain ⟨b_1, h⟩ := gi_of h
    refine x_iald hX dX3_zoneWith_18 (fo_3_4 (gk hX) h0) b_1 rfl ?_
    refine x_icmp_lt (tgt := 24) hX dX3_zoneWith_19 (by decide) rfl rfl (fun hc => ?_) (fun hc => ?_)
    · replace h := (if_pos hc).symm.trans h
      exact x_weak [true, true, true, true] rfl (tj_X3_zoneWith_24_4 hX h0 x1 x2 x3 M o h hP hE hR)
    · replace h := (if_neg hc).symm.trans h
      refine x_iloadn hX dX3_zoneWith_22 rfl ?_
      refine x_istoren (ls' := [some (vr (xG X) th), some (vi x1), some (vi x3), some (vi x3)]) hX dX3_zoneWith_23 rfl rfl rfl ?_
      exact x_weak [true, true, true, true] rfl (tj_X3_zoneWith_24_4 hX h0 x1 x3 x3 M o h hP hE hR)
  · replace h := (if_neg hc).symm.trans h
    exact x_weak [false, false, true, false] rfl (hE x2 (Option.some.inj h).symm)
set_option maxRecDepth 100000 in
set_option maxHeartbeats 4000000 in
theorem c_X3_zoneWith {l : Launch} {G : Gx} (hG : GOK G) (hl : l.stackTraces = false) {th : Nat} (h0 : at_ G th 13 0) (x1 : Int) (M : Mem) (r : Int) (h : f_X3_zoneWith th x1 M = some r) : Cn l G mX3_zoneWith 1 [vr G th, vi x1] M (some (vi r)) M := by
  refine Cn_of2 (ls := [some (vr G th), some (vi x1), none, none]) hG hl kX3_zoneWith rfl (Nat.le_of_ble_eq_true rfl) rfl rfl rfl rfl rfl (fun X eG el hX => ?_)
  subst eG; subst el
  unfold f_X3_zoneWith at h
  refine x_iconst hX dX3_zoneWith_0 ?_
  refine x_istoren (ls' := [some (vr (xG X) th), some (vi x1), some (vi 0), none]) hX dX3_zoneWith_1 rfl rfl rfl ?_
  refine x_iconst hX dX3_zoneWith_2 ?_
  refine x_istoren (ls' := [some (vr (xG X) th), some (vi x1), some (vi 0), some (vi 1)]) hX dX3_zoneWith_3 rfl rfl rfl ?_
  refine x_weak (ls' := [some (vr (xG X) th), some (vi x1), some (vi 0), some (vi 1)]) [true, true, true, true] rfl ?_
  refine lp_use (x := (0, 1)) (P := fun x => V X 0 0 (Qn X (some (vi r)) M) 4 [some (vr (xG X) th), some (vi x1), some (vi x.1), some (vi x.2)] [] M) (PE := fun z_3 => V X 0 0 (Qn X (some (vi r)) M) 30 [none, none, some (vi z_3), none] [] M) (PR := fun q => (Qn X (some (vi r)) M) = Qn X (some (vi q)) M) h (fun x o hh hP hE hR => ts_X3_zoneWith_4 hX h0 x1 M x.1 x.2 o hh hP hE hR) (fun z_3 h => ?_) (fun q h => ?_)
  · show V X 0 0 (Qn X (some (vi r)) M) 30 [none, none, some (vi z_3), none] [] M
    refine x_iloadn hX dX3_zoneWith_30 rfl ?_
    cases h
    exact x_iret hX dX3_zoneWith_31 rfl
  · cases h; rfl
set_option maxRecDepth 100000 in
set_option maxHeartbeats 4000000 in
theorem c_X3_copyFrom {l : Launch} {G : Gx} (hG : GOK G) (hl : l.stackTraces = false) {th : Nat} (h0 : at_ G th 13 0) {a1 : Nat} (h1 : at_ G a1 13 0) (M : Mem) (Mr : Mem) (h : f_X3_copyFrom th a1 M = some Mr) : Cn l G mX3_copyFrom 1 [vr G th, vr G a1] M none Mr := by
  refine Cn_of2 (ls := [some (vr G th), some (vr G a1)]) hG hl kX3_copyFrom rfl (Nat.le_of_ble_eq_true rfl) rfl rfl rfl rfl rfl (fun X eG el hX => ?_)
  subst eG; subst el
  unfold f_X3_copyFrom at h
  refine x_aloadn hX dX3_copyFrom_0 rfl ?_
  refine x_aloadn hX dX3_copyFrom_1 rfl ?_
  refine x_getI hX dX3_copyFrom_2 fl_X3_32 rfl h1 ?_
  obtain ⟨M_1, eM_1, h⟩ := bnd_of h
  refine x_putI hX dX3_copyFrom_5 fp_X3_32 rfl h0 (x_meq eM_1 ?_)
  refine x_aloadn hX dX3_copyFrom_8 rfl ?_
  refine x_aloadn hX dX3_copyFrom_9 rfl ?_
  refine x_getI hX dX3_copyFrom_10 fl_X3_35 rfl h1 ?_
  obtain ⟨M_2, eM_2, h⟩ := bnd_of h
  refine x_putI hX dX3_copyFrom_13 fp_X3_35 rfl h0 (x_meq eM_2 ?_)
  refine x_aloadn hX dX3_copyFrom_16 rfl ?_
  refine x_aloadn hX dX3_copyFrom_17 rfl ?_
  refine x_getI hX dX3_copyFrom_18 fl_X3_38 rfl h1 ?_
  obtain ⟨M_3, eM_3, h⟩ := bnd_of h
  refine x_putI hX dX3_copyFrom_21 fp_X3_38 rfl h0 (x_meq eM_3 ?_)
  refine x_aloadn hX dX3_copyFrom_24 rfl ?_
  refine x_aloadn hX dX3_copyFrom_25 rfl ?_
  refine x_getI hX dX3_copyFrom_26 fl_X3_45 rfl h1 ?_
  obtain ⟨M_4, eM_4, h⟩ := bnd_of h
  refine x_putI hX dX3_copyFrom_29 fp_X3_45 rfl h0 (x_meq eM_4 ?_)
  refine x_aloadn hX dX3_copyFrom_32 rfl ?_
  refine x_getRj (j := a1 + 1) hX dX3_copyFrom_33 fl_X3_9 rfl h1 rfl ?_
  refine x_iconst hX dX3_copyFrom_36 ?_
  refine x_aloadn hX dX3_copyFrom_37 rfl ?_
  refine x_getRj (j := th + 1) hX dX3_copyFrom_38 fl_X3_9 rfl h0 rfl ?_
  refine x_iconst hX dX3_copyFrom_41 ?_
  refine x_iconst hX dX3_copyFrom_42 ?_
  obtain ⟨M_5, eM_5, h⟩ := bnd_of h
  refine x_copy (st := []) hX dX3_copyFrom_43 cpw_X3_48 (fo_3_4 (gk hX) h1) (fo_3_4 (gk hX) h0) (by decide +kernel) (Nat.le_of_ble_eq_true rfl) (Nat.le_of_ble_eq_true rfl) (Nat.le_of_ble_eq_true rfl) (x_meq eM_5 ?_)
  refine x_aloadn hX dX3_copyFrom_46 rfl ?_
  refine x_aloadn hX dX3_copyFrom_47 rfl ?_
  refine x_getI hX dX3_copyFrom_48 fl_X3_22 rfl h1 ?_
  obtain ⟨M_6, eM_6, h⟩ := bnd_of h
  refine x_putI hX dX3_copyFrom_51 fp_X3_22 rfl h0 (x_meq eM_6 ?_)
  refine x_aloadn hX dX3_copyFrom_54 rfl ?_
  refine x_aloadn hX dX3_copyFrom_55 rfl ?_
  refine x_getI hX dX3_copyFrom_56 fl_X3_26 rfl h1 ?_
  obtain ⟨M_7, eM_7, h⟩ := bnd_of h
  refine x_putI hX dX3_copyFrom_59 fp_X3_26 rfl h0 (x_meq eM_7 ?_)
  refine x_aloadn hX dX3_copyFrom_62 rfl ?_
  refine x_aloadn hX dX3_copyFrom_63 rfl ?_
  refine x_getI hX dX3_copyFrom_64 fl_X3_29 rfl h1 ?_
  obtain ⟨M_8, eM_8, h⟩ := bnd_of h
  refine x_putI hX dX3_copyFrom_67 fp_X3_29 rfl h0 (x_meq eM_8 ?_)
  refine x_aloadn hX dX3_copyFrom_70 rfl ?_
  refine x_getRj (j := a1 + 2) hX dX3_copyFrom_71 fl_X3_15 rfl h1 rfl ?_
  refine x_iconst hX dX3_copyFrom_74 ?_
  refine x_aloadn hX dX3_copyFrom_75 rfl ?_
  refine x_getRj (j := th + 2) hX dX3_copyFrom_76 fl_X3_15 rfl h0 rfl ?_
  refine x_iconst hX dX3_copyFrom_79 ?_
  refine x_iconst hX dX3_copyFrom_80 ?_
  obtain ⟨M_9, eM_9, h⟩ := bnd_of h
  refine x_copy (st := []) hX dX3_copyFrom_81 cpw_X3_48 (fo_3_8 (gk hX) h1) (fo_3_8 (gk hX) h0) (by decide +kernel) (Nat.le_of_ble_eq_true rfl) (Nat.le_of_ble_eq_true rfl) (Nat.le_of_ble_eq_true rfl) (x_meq eM_9 ?_)
  cases h
  exact x_vret hX dX3_copyFrom_84 rfl
set_option maxRecDepth 100000 in
set_option maxHeartbeats 4000000 in
theorem c_X4_keepBetter {l : Launch} {G : Gx} (hG : GOK G) (hl : l.stackTraces = false) (hs : SOK G)  (x1 : Int) (x2 : Int) (x3 : Int) (M : Mem) (Mr : Mem) (h : f_X4_keepBetter x1 x2 x3 M = some Mr) : Cn l G mX4_keepBetter 1 [vr G 86, vi x1, vi x2, vi x3] M none Mr := by
  refine Cn_of2 (ls := [some (vr G 86), some (vi x1), some (vi x2), some (vi x3)]) hG hl kX4_keepBetter rfl (Nat.le_of_ble_eq_true rfl) rfl rfl rfl rfl rfl (fun X eG el hX => ?_)
  subst eG; subst el
  unfold f_X4_keepBetter at h
  refine x_iloadn hX dX4_keepBetter_0 rfl ?_
  refine x_aloadn hX dX4_keepBetter_1 rfl ?_
  refine x_getI hX dX4_keepBetter_2 fl_X4_26 rfl (st86 hs) ?_
  refine x_icmp_le (tgt := 23) hX dX4_keepBetter_5 (by decide) rfl rfl (fun hc => ?_) (fun hc => ?_)
  · replace h := (if_pos hc).symm.trans h
    refine x_aloadn hX dX4_keepBetter_8 rfl ?_
    refine x_iloadn hX dX4_keepBetter_9 rfl ?_
    obtain ⟨M_1, eM_1, h⟩ := bnd_of h
    refine x_putI hX dX4_keepBetter_10 fp_X4_26 rfl (st86 hs) (x_meq eM_1 ?_)
    refine x_aloadn hX dX4_keepBetter_13 rfl ?_
    refine x_iloadn hX dX4_keepBetter_14 rfl ?_
    obtain ⟨M_2, eM_2, h⟩ := bnd_of h
    refine x_putI hX dX4_keepBetter_15 fp_X4_49 rfl (st86 hs) (x_meq eM_2 ?_)
    refine x_aloadn hX dX4_keepBetter_18 rfl ?_
    refine x_iloadn hX dX4_keepBetter_19 rfl ?_
    obtain ⟨M_3, eM_3, h⟩ := bnd_of h
    refine x_putI hX dX4_keepBetter_20 fp_X4_52 rfl (st86 hs) (x_meq eM_3 ?_)
    cases h
    exact x_vret hX dX4_keepBetter_23 rfl
  · replace h := (if_neg hc).symm.trans h
    cases h
    exact x_vret hX dX4_keepBetter_23 rfl
set_option maxRecDepth 100000 in
set_option maxHeartbeats 4000000 in
theorem c_X5_append {l : Launch} {G : Gx} (hG : GOK G) (hl : l.stackTraces = false) {th : Nat} (h0 : at_ G th 15 0) (x1 : Int) (M : Mem) (r : Int) (Mr : Mem) (h : f_X5_append th x1 M = some (r, Mr)) : Cn l G mX5_append 1 [vr G th, vi x1] M (some (vi r)) Mr := by
  refine Cn_of2 (ls := [some (vr G th), some (vi x1), none]) hG hl kX5_append rfl (Nat.le_of_ble_eq_true rfl) rfl rfl rfl rfl rfl (fun X eG el hX => ?_)
  subst eG; subst el
  unfold f_X5_append at h
  refine x_aloadn hX dX5_append_0 rfl ?_
  refine x_getI hX dX5_append_1 fl_X5_30 rfl h0 ?_
  obtain ⟨x2_1, ex2_1, h⟩ := bnd_of h
  refine x_istoren (ls' := [some (vr (xG X) th), some (vi x1), some (vi x2_1)]) hX dX5_append_4 rfl ex2_1 rfl ?_
  refine x_aloadn hX dX5_append_5 rfl ?_
  refine x_getRj (j := th + 1) hX dX5_append_6 fl_X5_9 rfl h0 rfl ?_
  refine x_iloadn hX dX5_append_9 rfl ?_
  refine x_iloadn hX dX5_append_10 rfl ?_
  obtain ⟨b_3, h⟩ := gi_of h
  obtain ⟨M_2, eM_2, h⟩ := bnd_of h
  refine x_iast hX dX5_append_11 (fo_5_2 (gk hX) h0) b_3 rfl (x_meq eM_2 ?_)
  refine x_aloadn hX dX5_append_12 rfl ?_
  refine x_getRj (j := th + 2) hX dX5_append_13 fl_X5_15 rfl h0 rfl ?_
  refine x_iloadn hX dX5_append_16 rfl ?_
  refine x_iconst hX dX5_append_17 ?_
  obtain ⟨b_5, h⟩ := gi_of h
  obtain ⟨M_4, eM_4, h⟩ := bnd_of h
  refine x_iast hX dX5_append_18 (fo_5_3 (gk hX) h0) b_5 rfl (x_meq eM_4 ?_)
  refine x_aloadn hX dX5_append_19 rfl ?_
  refine x_getRj (j := th + 3) hX dX5_append_20 fl_X5_18 rfl h0 rfl ?_
  refine x_iloadn hX dX5_append_23 rfl ?_
  refine x_iconst hX dX5_append_24 ?_
  obtain ⟨b_7, h⟩ := gi_of h
  obtain ⟨M_6, eM_6, h⟩ := bnd_of h
  refine x_iast hX dX5_append_25 (fo_5_4 (gk hX) h0) b_7 rfl (x_meq eM_6 ?_)
  refine x_aloadn hX dX5_append_26 rfl ?_
  refine x_dup hX dX5_append_27 rfl ?_
  refine x_getI hX dX5_append_28 fl_X5_30 rfl h0 ?_
  refine x_iconst hX dX5_append_31 ?_
  refine x_iadd hX dX5_append_32 ?_
  obtain ⟨M_8, eM_8, h⟩ := bnd_of h
  refine x_putI hX dX5_append_33 fp_X5_30 rfl h0 (x_meq eM_8 ?_)
  refine x_iloadn hX dX5_append_36 rfl ?_
  cases h
  exact x_iret hX dX5_append_37 rfl
set_option maxRecDepth 100000 in
set_option maxHeartbeats 4000000 in
theorem c_X5_appendLine {l : Launch} {G : Gx} (hG : GOK G) (hl : l.stackTraces = false) {th : Nat} (h0 : at_ G th 15 0) (x1 : Int) (x2 : Int) (x3 : Int) (M : Mem) (r : Int) (Mr : Mem) (h : f_X5_appendLine th x1 x2 x3 M = some (r, Mr)) : Cn l G mX5_appendLine 1 [vr G th, vi x1, vi x2, vi x3] M (some (vi r)) Mr := by
  refine Cn_of2 (ls := [some (vr G th), some (vi x1), some (vi x2), some (vi x3), none, none]) hG hl kX5_appendLine rfl (Nat.le_of_ble_eq_true rfl) rfl rfl rfl rfl rfl (fun X eG el hX => ?_)
  subst eG; subst el
  unfold f_X5_appendLine at h
  refine x_aloadn hX dX5_appendLine_0 rfl ?_
  refine x_getRj (j := th + 3) hX dX5_appendLine_1 fl_X5_18 rfl h0 rfl ?_
  refine x_iloadn hX dX5_appendLine_4 rfl ?_
  obtain ⟨b_1, h⟩ := gi_of h
  refine x_iald hX dX5_appendLine_5 (fo_5_4 (gk hX) h0) b_1 rfl ?_
  obtain ⟨x4_2, ex4_2, h⟩ := bnd_of h
  refine x_istore (ls' := [some (vr (xG X) th), some (vi x1), some (vi x2), some (vi x3), some (vi x4_2), none]) hX dX5_appendLine_6 rfl ex4_2 rfl ?_
  refine x_iloadn hX dX5_appendLine_8 rfl ?_
  refine x_bipush hX dX5_appendLine_9 bp_6 ?_
  refine x_imul hX dX5_appendLine_11 ?_
  refine x_iload hX dX5_appendLine_12 rfl ?_
  refine x_iadd hX dX5_appendLine_14 ?_
  obtain ⟨x5_3, ex5_3, h⟩ := bnd_of h
  refine x_istore (ls' := [some (vr (xG X) th), some (vi x1), some (vi x2), some (vi x3), some (vi x4_2), some (vi x5_3)]) hX dX5_appendLine_15 rfl ex5_3 rfl ?_
  refine x_aloadn hX dX5_appendLine_17 rfl ?_
  refine x_getRj (j := th + 4) hX dX5_appendLine_18 fl_X5_21 rfl h0 rfl ?_
  refine x_iload hX dX5_appendLine_21 rfl ?_
  refine x_iloadn hX dX5_appendLine_23 rfl ?_
  obtain ⟨b_5, h⟩ := gi_of h
  obtain ⟨M_4, eM_4, h⟩ := bnd_of h
  refine x_iast hX dX5_appendLine_24 (fo_5_5 (gk hX) h0) b_5 rfl (x_meq eM_4 ?_)
  refine x_aloadn hX dX5_appendLine_25 rfl ?_
  refine x_getRj (j := th + 5) hX dX5_appendLine_26 fl_X5_24 rfl h0 rfl ?_
  refine x_iload hX dX5_appendLine_29 rfl ?_
  refine x_iloadn hX dX5_appendLine_31 rfl ?_
  obtain ⟨b_7, h⟩ := gi_of h
  obtain ⟨M_6, eM_6, h⟩ := bnd_of h
  refine x_iast hX dX5_appendLine_32 (fo_5_6 (gk hX) h0) b_7 rfl (x_meq eM_6 ?_)
  refine x_aloadn hX dX5_appendLine_33 rfl ?_
  refine x_getRj (j := th + 6) hX dX5_appendLine_34 fl_X5_27 rfl h0 rfl ?_
  refine x_iload hX dX5_appendLine_37 rfl ?_
  refine x_iconst hX dX5_appendLine_39 ?_
  obtain ⟨b_9, h⟩ := gi_of h
  obtain ⟨M_8, eM_8, h⟩ := bnd_of h
  refine x_iast hX dX5_appendLine_40 (fo_5_7 (gk hX) h0) b_9 rfl (x_meq eM_8 ?_)
  refine x_aloadn hX dX5_appendLine_41 rfl ?_
  refine x_getRj (j := th + 3) hX dX5_appendLine_42 fl_X5_18 rfl h0 rfl ?_
  refine x_iloadn hX dX5_appendLine_45 rfl ?_
  refine x_dup2 hX dX5_appendLine_46 rfl rfl ?_
  obtain ⟨b_10, h⟩ := gi_of h
  refine x_iald hX dX5_appendLine_47 (fo_5_4 (gk hX) h0) b_10 rfl ?_
  refine x_iconst hX dX5_appendLine_48 ?_
  refine x_iadd hX dX5_appendLine_49 ?_
  obtain ⟨b_12, h⟩ := gi_of h
  obtain ⟨M_11, eM_11, h⟩ := bnd_of h
  refine x_iast hX dX5_appendLine_50 (fo_5_4 (gk hX) h0) b_12 rfl (x_meq eM_11 ?_)
  refine x_iload hX dX5_appendLine_51 rfl ?_
  cases h
  exact x_iret hX dX5_appendLine_53 rfl
set_option maxRecDepth 100000 in
set_option maxHeartbeats 4000000 in
theorem ts_X5_hasItem_2 {X : Cxt} (hX : Gd X RX5 cX5_hasItem 4 (some .boolean) 1) {th : Nat} (h0 : at_ (xG X) th 15 0) (x1 : Int) (x2 : Int) (M : Mem) (x3 : Int) {Q : State → Prop} (o : (Int) ⊕ ((Unit) ⊕ (Int))) (h : s_X5_hasItem_2 th x1 x2 M x3 = some o) (hP : ∀ y, o = .inl y → V X 0 0 Q 2 [some (vr (xG X) th), some (vi x1), some (vi x2), some (vi y)] [] M) (hE : ∀ z, o = .inr (.inl z) → V X 0 0 Q 35 [none, none, none, none] [] M) (hR : ∀ q, o = .inr (.inr q) → Q = Qn X (some (vi q)) M) : V X 0 0 Q 2 [some (vr (xG X) th), some (vi x1), some (vi x2), some (vi x3)] [] M := by
  unfold s_X5_hasItem_2 at h
  refine x_iloadn hX dX5_hasItem_2 rfl ?_
  refine x_aloadn hX dX5_hasItem_3 rfl ?_
  refine x_getRj (j := th + 3) hX dX5_hasItem_4 fl_X5_18 rfl h0 rfl ?_
  refine x_iloadn hX dX5_hasItem_7 rfl ?_
  obtain ⟨b_1, h⟩ := gi_of h
  refine x_iald hX dX5_hasItem_8 (fo_5_4 (gk hX) h0) b_1 rfl ?_
  refine x_icmp_ge (tgt := 35) hX dX5_hasItem_9 (by decide) rfl rfl (fun hc => ?_) (fun hc => ?_)
  · replace h := (if_pos hc).symm.trans h
    refine x_aloadn hX dX5_hasItem_12 rfl ?_
    refine x_getRj (j := th + 4) hX dX5_hasItem_13 fl_X5_21 rfl h0 rfl ?_
    refine x_iloadn hX dX5_hasItem_16 rfl ?_
    refine x_bipush hX dX5_hasItem_17 bp_6 ?_
    refine x_imul hX dX5_hasItem_19 ?_
    refine x_iloadn hX dX5_hasItem_20 rfl ?_
    refine x_iadd hX dX5_hasItem_21 ?_
    obtain ⟨b_2, h⟩ := gi_of h
    refine x_iald hX dX5_hasItem_22 (fo_5_5 (gk hX) h0) b_2 rfl ?_
    refine x_iloadn hX dX5_hasItem_23 rfl ?_
    refine x_icmp_ne (tgt := 29) hX dX5_hasItem_24 (by decide) rfl rfl (fun hc => ?_) (fun hc => ?_)
    · replace h := (if_pos hc).symm.trans h
      refine x_iconst hX dX5_hasItem_27 ?_
      exact x_qeq (hR 1 (Option.some.inj h).symm) (x_zret hX dX5_hasItem_28 (Or.inr cw_1) rfl)
    · replace h := (if_neg hc).symm.trans h
      obtain ⟨x3_3, ex3_3, h⟩ := bnd_of h
      refine x_iinc (ls' := [some (vr (xG X) th), some (vi x1), some (vi x2), some (vi x3_3)]) hX dX5_hasItem_29 rfl rfl ex3_3 rfl ?_
      refine x_goto (tgt := 2) hX dX5_hasItem_32 (by decide) ?_
      exact x_weak [true, true, true, true] rfl (hP x3_3 (Option.some.inj h).symm)
  · replace h := (if_neg hc).symm.trans h
    exact x_weak [false, false, false, false] rfl (hE () (Option.some.inj h).symm)
set_option maxRecDepth 100000 in
set_option maxHeartbeats 4000000 in
theorem c_X5_hasItem {l : Launch} {G : Gx} (hG : GOK G) (hl : l.stackTraces = false) {th : Nat} (h0 : at_ G th 15 0) (x1 : Int) (x2 : Int) (M : Mem) (r : Int) (h : f_X5_hasItem th x1 x2 M = some r) : Cn l G mX5_hasItem 1 [vr G th, vi x1, vi x2] M (some (vi r)) M := by
  refine Cn_of2 (ls := [some (vr G th), some (vi x1), some (vi x2), none]) hG hl kX5_hasItem rfl (Nat.le_of_ble_eq_true rfl) rfl rfl rfl rfl rfl (fun X eG el hX => ?_)
  subst eG; subst el
  unfold f_X5_hasItem at h
  refine x_iconst hX dX5_hasItem_0 ?_
  refine x_istoren (ls' := [some (vr (xG X) th), some (vi x1), some (vi x2), some (vi 0)]) hX dX5_hasItem_1 rfl rfl rfl ?_
  refine x_weak (ls' := [some (vr (xG X) th), some (vi x1), some (vi x2), some (vi 0)]) [true, true, true, true] rfl ?_
  refine lp_use (x := 0) (P := fun x => V X 0 0 (Qn X (some (vi r)) M) 2 [some (vr (xG X) th), some (vi x1), some (vi x2), some (vi x)] [] M) (PE := fun z_4 => V X 0 0 (Qn X (some (vi r)) M) 35 [none, none, none, none] [] M) (PR := fun q => (Qn X (some (vi r)) M) = Qn X (some (vi q)) M) h (fun x o hh hP hE hR => ts_X5_hasItem_2 hX h0 x1 x2 M x o hh hP hE hR) (fun z_4 h => ?_) (fun q h => ?_)
  · show V X 0 0 (Qn X (some (vi r)) M) 35 [none, none, none, none] [] M
    refine x_iconst hX dX5_hasItem_35 ?_
    cases h
    exact x_zret hX dX5_hasItem_36 (Or.inl cw_0) rfl
  · cases h; rfl
set_option maxRecDepth 100000 in
set_option maxHeartbeats 4000000 in
theorem tj_X5_setStates_25_2 {X : Cxt} (hX : Gd X RX5 cX5_setStates 4 (none) 1) {th : Nat} (h0 : at_ (xG X) th 15 0)  (x1 : Int) (x2 : Int) (x3 : Int) (M : Mem) {Q : State → Prop} (o : (Int × Mem) ⊕ ((Mem) ⊕ (Mem))) (h : j_X5_setStates_25_2 th x1 x2 x3 M = some o) (hP : ∀ y, o = .inl y → V X 0 0 Q 2 [some (vr (xG X) th), some (vi x1), some (vi x2), some (vi y.1)] [] y.2) (hE : ∀ z, o = .inr (.inl z) → V X 0 0 Q 31 [none, none, none, none] [] z) (hR : ∀ q, o = .inr (.inr q) → Q = Qn X none q) : V X 0 0 Q 25 [some (vr (xG X) th), some (vi x1), some (vi x2), some (vi x3)] [] M := by
  unfold j_X5_setStates_25_2 at h
  obtain ⟨x3_1, ex3_1, h⟩ := bnd_of h
  refine x_iinc (ls' := [some (vr (xG X) th), some (vi x1), some (vi x2), some (vi x3_1)]) hX dX5_setStates_25 rfl rfl ex3_1 rfl ?_
  refine x_goto (tgt := 2) hX dX5_setStates_28 (by decide) ?_
  exact x_weak [true, true, true, true] rfl (hP (x3_1, M) (Option.some.inj h).symm)
set_option maxRecDepth 100000 in
set_option maxHeartbeats 4000000 in
theorem ts_X5_setStates_2 {X : Cxt} (hX : Gd X RX5 cX5_setStates 4 (none) 1) {th : Nat} (h0 : at_ (xG X) th 15 0) (x1 : Int) (x2 : Int) (x3 : Int) (M : Mem) {Q : State → Prop} (o : (Int × Mem) ⊕ ((Mem) ⊕ (Mem))) (h : s_X5_setStates_2 th x1 x2 x3 M = some o) (hP : ∀ y, o = .inl y → V X 0 0 Q 2 [some (vr (xG X) th), some (vi x1), some (vi x2), some (vi y.1)] [] y.2) (hE : ∀ z, o = .inr (.inl z) → V X 0 0 Q 31 [none, none, none, none] [] z) (hR : ∀ q, o = .inr (.inr q) → Q = Qn X none q) : V X 0 0 Q 2 [some (vr (xG X) th), some (vi x1), some (vi x2), some (vi x3)] [] M := by
  unfold s_X5_setStates_2 at h
  refine x_iloadn hX dX5_setStates_2 rfl ?_
  refine x_aloadn hX dX5_setStates_3 rfl ?_
  refine x_getI hX dX5_setStates_4 fl_X5_30 rfl h0 ?_
  refine x_icmp_ge (tgt := 31) hX dX5_setStates_7 (by decide) rfl rfl (fun hc => ?_) (fun hc => ?_)
  · replace h := (if_pos hc).symm.trans h
    refine x_iloadn hX dX5_setStates_10 rfl ?_
    refine x_iloadn hX dX5_setStates_11 rfl ?_
    refine x_ishr hX dX5_setStates_12 ?_
    refine x_iconst hX dX5_setStates_13 ?_
    refine x_iand hX dX5_setStates_14 ?_
    refine x_if_eq (tgt := 25) hX dX5_setStates_15 (by decide) rfl (fun hc => ?_) (fun hc => ?_)
    · replace h := (if_pos hc).symm.trans h
      exact x_weak [true, true, true, true] rfl (tj_X5_setStates_25_2 hX h0 x1 x2 x3 M o h hP hE hR)
    · replace h := (if_neg hc).symm.trans h
      refine x_aloadn hX dX5_setStates_18 rfl ?_
      refine x_getRj (j := th + 2) hX dX5_setStates_19 fl_X5_15 rfl h0 rfl ?_
      refine x_iloadn hX dX5_setStates_22 rfl ?_
      refine x_iloadn hX dX5_setStates_23 rfl ?_
      obtain ⟨b_3, h⟩ := gi_of h
      obtain ⟨M_2, eM_2, h⟩ := bnd_of h
      refine x_iast hX dX5_setStates_24 (fo_5_3 (gk hX) h0) b_3 rfl (x_meq eM_2 ?_)
      exact x_weak [true, true, true, true] rfl (tj_X5_setStates_25_2 hX h0 x1 x2 x3 M_2 o h hP hE hR)
  · replace h := (if_neg hc).symm.trans h
    exact x_weak [false, false, false, false] rfl (hE M (Option.some.inj h).symm)
set_option maxRecDepth 100000 in
set_option maxHeartbeats 4000000 in
theorem c_X5_setStates {l : Launch} {G : Gx} (hG : GOK G) (hl : l.stackTraces = false) {th : Nat} (h0 : at_ G th 15 0) (x1 : Int) (x2 : Int) (M : Mem) (Mr : Mem) (h : f_X5_setStates th x1 x2 M = some Mr) : Cn l G mX5_setStates 1 [vr G th, vi x1, vi x2] M none Mr := by
  refine Cn_of2 (ls := [some (vr G th), some (vi x1), some (vi x2), none]) hG hl kX5_setStates rfl (Nat.le_of_ble_eq_true rfl) rfl rfl rfl rfl rfl (fun X eG el hX => ?_)
  subst eG; subst el
  unfold f_X5_setStates at h
  refine x_iconst hX dX5_setStates_0 ?_
  refine x_istoren (ls' := [some (vr (xG X) th), some (vi x1), some (vi x2), some (vi 0)]) hX dX5_setStates_1 rfl rfl rfl ?_
  refine x_weak (ls' := [some (vr (xG X) th), some (vi x1), some (vi x2), some (vi 0)]) [true, true, true, true] rfl ?_
  refine lp_use (x := (0, M)) (P := fun x => V X 0 0 (Qn X none Mr) 2 [some (vr (xG X) th), some (vi x1), some (vi x2), some (vi x.1)] [] x.2) (PE := fun z_4 => V X 0 0 (Qn X none Mr) 31 [none, none, none, none] [] z_4) (PR := fun q => (Qn X none Mr) = Qn X none q) h (fun x o hh hP hE hR => ts_X5_setStates_2 hX h0 x1 x2 x.1 x.2 o hh hP hE hR) (fun z_4 h => ?_) (fun q h => ?_)
  · show V X 0 0 (Qn X none Mr) 31 [none, none, none, none] [] z_4
    cases h
    exact x_vret hX dX5_setStates_31 rfl
  · cases h; rfl
set_option maxRecDepth 100000 in
set_option maxHeartbeats 4000000 in
theorem tj_X5_countIn_25_4 {X : Cxt} (hX : Gd X RX5 cX5_countIn 4 (some .int) 1) {th : Nat} (h0 : at_ (xG X) th 15 0)  (x1 : Int) (x2 : Int) (x3 : Int) (M : Mem) {Q : State → Prop} (o : (Int × Int) ⊕ ((Int) ⊕ (Int))) (h : j_X5_countIn_25_4 th x1 x2 x3 M = some o) (hP : ∀ y, o = .inl y → V X 0 0 Q 4 [some (vr (xG X) th), some (vi x1), some (vi y.1), some (vi y.2)] [] M) (hE : ∀ z, o = .inr (.inl z) → V X 0 0 Q 31 [none, none, some (vi z), none] [] M) (hR : ∀ q, o = .inr (.inr q) → Q = Qn X (some (vi q)) M) : V X 0 0 Q 25 [some (vr (xG X) th), some (vi x1), some (vi x2), some (vi x3)] [] M := by
  unfold j_X5_countIn_25_4 at h
  obtain ⟨x3_3, ex3_3, h⟩ := bnd_of h
  refine x_iinc (ls' := [some (vr (xG X) th), some (vi x1), some (vi x2), some (vi x3_3)]) hX dX5_countIn_25 rfl rfl ex3_3 rfl ?_
  refine x_goto (tgt := 4) hX dX5_countIn_28 (by decide) ?_
  exact x_weak [true, true, true, true] rfl (hP (x2, x3_3) (Option.some.inj h).symm)
set_option maxRecDepth 100000 in
set_option maxHeartbeats 4000000 in
theorem ts_X5_countIn_4 {X : Cxt} (hX : Gd X RX5 cX5_countIn 4 (some .int) 1) {th : Nat} (h0 : at_ (xG X) th 15 0) (x1 : Int) (M : Mem) (x2 : Int) (x3 : Int) {Q : State → Prop} (o : (Int × Int) ⊕ ((Int) ⊕ (Int))) (h : s_X5_countIn_4 th x1 M x2 x3 = some o) (hP : ∀ y, o = .inl y → V X 0 0 Q 4 [some (vr (xG X) th), some (vi x1), some (vi y.1), some (vi y.2)] [] M) (hE : ∀ z, o = .inr (.inl z) → V X 0 0 Q 31 [none, none, some (vi z), none] [] M) (hR : ∀ q, o = .inr (.inr q) → Q = Qn X (some (vi q)) M) : V X 0 0 Q 4 [some (vr (xG X) th), some (vi x1), some (vi x2), some (vi x3)] [] M := by
  unfold s_X5_countIn_4 at h
  refine x_iloadn hX dX5_countIn_4 rfl ?_
  refine x_aloadn hX dX5_countIn_5 rfl ?_
  refine x_getI hX dX5_countIn_6 fl_X5_30 rfl h0 ?_
  refine x_icmp_ge (tgt := 31) hX dX5_countIn_9 (by decide) rfl rfl (fun hc => ?_) (fun hc => ?_)
  · replace h := (if_pos hc).symm.trans h
    refine x_aloadn hX dX5_countIn_12 rfl ?_
    refine x_getRj (j := th + 2) hX dX5_countIn_13 fl_X5_15 rfl h0 rfl ?_
    refine x_iloadn hX dX5_countIn_16 rfl ?_
    obtain ⟨b_1, h⟩ := gi_of h
    refine x_iald hX dX5_countIn_17 (fo_5_3 (gk hX) h0) b_1 rfl ?_
    refine x_iloadn hX dX5_countIn_18 rfl ?_
    refine x_icmp_ne (tgt := 25) hX dX5_countIn_19 (by decide) rfl rfl (fun hc => ?_) (fun hc => ?_)
    · replace h := (if_pos hc).symm.trans h
      obtain ⟨x2_2, ex2_2, h⟩ := bnd_of h
      refine x_iinc (ls' := [some (vr (xG X) th), some (vi x1), some (vi x2_2), some (vi x3)]) hX dX5_countIn_22 rfl rfl ex2_2 rfl ?_
      exact x_weak [true, true, true, true] rfl (tj_X5_countIn_25_4 hX h0 x1 x2_2 x3 M o h hP hE hR)
    · replace h := (if_neg hc).symm.trans h
      exact x_weak [true, true, true, true] rfl (tj_X5_countIn_25_4 hX h0 x1 x2 x3 M o h hP hE hR)
  · replace h := (if_neg hc).symm.trans h
    exact x_weak [false, false, true, false] rfl (hE x2 (Option.some.inj h).symm)
set_option maxRecDepth 100000 in
set_option maxHeartbeats 4000000 in
theorem c_X5_countIn {l : Launch} {G : Gx} (hG : GOK G) (hl : l.stackTraces = false) {th : Nat} (h0 : at_ G th 15 0) (x1 : Int) (M : Mem) (r : Int) (h : f_X5_countIn th x1 M = some r) : Cn l G mX5_countIn 1 [vr G th, vi x1] M (some (vi r)) M := by
  refine Cn_of2 (ls := [some (vr G th), some (vi x1), none, none]) hG hl kX5_countIn rfl (Nat.le_of_ble_eq_true rfl) rfl rfl rfl rfl rfl (fun X eG el hX => ?_)
  subst eG; subst el
  unfold f_X5_countIn at h
  refine x_iconst hX dX5_countIn_0 ?_
  refine x_istoren (ls' := [some (vr (xG X) th), some (vi x1), some (vi 0), none]) hX dX5_countIn_1 rfl rfl rfl ?_
  refine x_iconst hX dX5_countIn_2 ?_
  refine x_istoren (ls' := [some (vr (xG X) th), some (vi x1), some (vi 0), some (vi 0)]) hX dX5_countIn_3 rfl rfl rfl ?_
  refine x_weak (ls' := [some (vr (xG X) th), some (vi x1), some (vi 0), some (vi 0)]) [true, true, true, true] rfl ?_
  refine lp_use (x := (0, 0)) (P := fun x => V X 0 0 (Qn X (some (vi r)) M) 4 [some (vr (xG X) th), some (vi x1), some (vi x.1), some (vi x.2)] [] M) (PE := fun z_4 => V X 0 0 (Qn X (some (vi r)) M) 31 [none, none, some (vi z_4), none] [] M) (PR := fun q => (Qn X (some (vi r)) M) = Qn X (some (vi q)) M) h (fun x o hh hP hE hR => ts_X5_countIn_4 hX h0 x1 M x.1 x.2 o hh hP hE hR) (fun z_4 h => ?_) (fun q h => ?_)
  · show V X 0 0 (Qn X (some (vi r)) M) 31 [none, none, some (vi z_4), none] [] M
    refine x_iloadn hX dX5_countIn_31 rfl ?_
    cases h
    exact x_iret hX dX5_countIn_32 rfl
  · cases h; rfl
set_option maxRecDepth 100000 in
set_option maxHeartbeats 4000000 in
theorem tj_X5_dueBefore_41_5 {X : Cxt} (hX : Gd X RX5 cX5_dueBefore 5 (some .int) 1) {th : Nat} (h0 : at_ (xG X) th 15 0)  (x1 : Int) (x2 : Int) (x3 : Int) (x4 : Int) (M : Mem) {Q : State → Prop} (o : (Int × Int) ⊕ ((Int) ⊕ (Int))) (h : j_X5_dueBefore_41_5 th x1 x2 x3 x4 M = some o) (hP : ∀ y, o = .inl y → V X 0 0 Q 5 [some (vr (xG X) th), some (vi x1), some (vi x2), some (vi y.1), some (vi y.2)] [] M) (hE : ∀ z, o = .inr (.inl z) → V X 0 0 Q 47 [none, none, none, some (vi z), none] [] M) (hR : ∀ q, o = .inr (.inr q) → Q = Qn X (some (vi q)) M) : V X 0 0 Q 41 [some (vr (xG X) th), some (vi x1), some (vi x2), some (vi x3), some (vi x4)] [] M := by
  unfold j_X5_dueBefore_41_5 at h
  obtain ⟨x4_1, ex4_1, h⟩ := bnd_of h
  refine x_iinc (ls' := [some (vr (xG X) th), some (vi x1), some (vi x2), some (vi x3), some (vi x4_1)]) hX dX5_dueBefore_41 rfl rfl ex4_1 rfl ?_
  refine x_goto (tgt := 5) hX dX5_dueBefore_44 (by decide) ?_
  exact x_weak [true, true, true, true, true] rfl (hP (x3, x4_1) (Option.some.inj h).symm)
set_option maxRecDepth 100000 in
set_option maxHeartbeats 4000000 in
theorem ts_X5_dueBefore_5 {X : Cxt} (hX : Gd X RX5 cX5_dueBefore 5 (some .int) 1) {th : Nat} (h0 : at_ (xG X) th 15 0) (x1 : Int) (x2 : Int) (M : Mem) (x3 : Int) (x4 : Int) {Q : State → Prop} (o : (Int × Int) ⊕ ((Int) ⊕ (Int))) (h : s_X5_dueBefore_5 th x1 x2 M x3 x4 = some o) (hP : ∀ y, o = .inl y → V X 0 0 Q 5 [some (vr (xG X) th), some (vi x1), some (vi x2), some (vi y.1), some (vi y.2)] [] M) (hE : ∀ z, o = .inr (.inl z) → V X 0 0 Q 47 [none, none, none, some (vi z), none] [] M) (hR : ∀ q, o = .inr (.inr q) → Q = Qn X (some (vi q)) M) : V X 0 0 Q 5 [some (vr (xG X) th), some (vi x1), some (vi x2), some (vi x3), some (vi x4)] [] M := by
  unfold s_X5_dueBefore_5 at h
  refine x_iload hX dX5_dueBefore_5 rfl ?_
  refine x_aloadn hX dX5_dueBefore_7 rfl ?_
  refine x_getI hX dX5_dueBefore_8 fl_X5_30 rfl h0 ?_
  refine x_icmp_ge (tgt := 47) hX dX5_dueBefore_11 (by decide) rfl rfl (fun hc => ?_) (fun hc => ?_)
  · replace h := (if_pos hc).symm.trans h
    refine x_iloadn hX dX5_dueBefore_14 rfl ?_
    refine x_iload hX dX5_dueBefore_15 rfl ?_
    refine x_ishr hX dX5_dueBefore_17 ?_
    refine x_iconst hX dX5_dueBefore_18 ?_
    refine x_iand hX dX5_dueBefore_19 ?_
    refine x_if_eq (tgt := 41) hX dX5_dueBefore_20 (by decide) rfl (fun hc => ?_) (fun hc => ?_)
    · replace h := (if_pos hc).symm.trans h
      exact x_weak [true, true, true, true, true] rfl (tj_X5_dueBefore_41_5 hX h0 x1 x2 x3 x4 M o h hP hE hR)
    · replace h := (if_neg hc).symm.trans h
      refine x_aloadn hX dX5_dueBefore_23 rfl ?_
      refine x_getRj (j := th + 1) hX dX5_dueBefore_24 fl_X5_9 rfl h0 rfl ?_
      refine x_iload hX dX5_dueBefore_27 rfl ?_
      obtain ⟨b_2, h⟩ := gi_of h
      refine x_iald hX dX5_dueBefore_29 (fo_5_2 (gk hX) h0) b_2 rfl ?_
      refine x_iloadn hX dX5_dueBefore_30 rfl ?_
      refine x_icmp_ge (tgt := 41) hX dX5_dueBefore_31 (by decide) rfl rfl (fun hc => ?_) (fun hc => ?_)
      · replace h := (if_pos hc).symm.trans h
        refine x_iloadn hX dX5_dueBefore_34 rfl ?_
        refine x_iconst hX dX5_dueBefore_35 ?_
        refine x_iload hX dX5_dueBefore_36 rfl ?_
        refine x_ishl hX dX5_dueBefore_38 ?_
        refine x_ior hX dX5_dueBefore_39 ?_
        obtain ⟨x3_3, ex3_3, h⟩ := bnd_of h
        refine x_istoren (ls' := [some (vr (xG X) th), some (vi x1), some (vi x2), some (vi x3_3), some (vi x4)]) hX dX5_dueBefore_40 rfl ex3_3 rfl ?_
        exact x_weak [true, true, true, true, true] rfl (tj_X5_dueBefore_41_5 hX h0 x1 x2 x3_3 x4 M o h hP hE hR)
      · replace h := (if_neg hc).symm.trans h
        exact x_weak [true, true, true, true, true] rfl (tj_X5_dueBefore_41_5 hX h0 x1 x2 x3 x4 M o h hP hE hR)
  · replace h := (if_neg hc).symm.trans h
    exact x_weak [false, false, false, true, false] rfl (hE x3 (Option.some.inj h).symm)
set_option maxRecDepth 100000 in
set_option maxHeartbeats 4000000 in
theorem c_X5_dueBefore {l : Launch} {G : Gx} (hG : GOK G) (hl : l.stackTraces = false) {th : Nat} (h0 : at_ G th 15 0) (x1 : Int) (x2 : Int) (M : Mem) (r : Int) (h : f_X5_dueBefore th x1 x2 M = some r) : Cn l G mX5_dueBefore 1 [vr G th, vi x1, vi x2] M (some (vi r)) M := by
  refine Cn_of2 (ls := [some (vr G th), some (vi x1), some (vi x2), none, none]) hG hl kX5_dueBefore rfl (Nat.le_of_ble_eq_true rfl) rfl rfl rfl rfl rfl (fun X eG el hX => ?_)
  subst eG; subst el
  unfold f_X5_dueBefore at h
  refine x_iconst hX dX5_dueBefore_0 ?_
  refine x_istoren (ls' := [some (vr (xG X) th), some (vi x1), some (vi x2), some (vi 0), none]) hX dX5_dueBefore_1 rfl rfl rfl ?_
  refine x_iconst hX dX5_dueBefore_2 ?_
  refine x_istore (ls' := [some (vr (xG X) th), some (vi x1), some (vi x2), some (vi 0), some (vi 0)]) hX dX5_dueBefore_3 rfl rfl rfl ?_
  refine x_weak (ls' := [some (vr (xG X) th), some (vi x1), some (vi x2), some (vi 0), some (vi 0)]) [true, true, true, true, true] rfl ?_
  refine lp_use (x := (0, 0)) (P := fun x => V X 0 0 (Qn X (some (vi r)) M) 5 [some (vr (xG X) th), some (vi x1), some (vi x2), some (vi x.1), some (vi x.2)] [] M) (PE := fun z_4 => V X 0 0 (Qn X (some (vi r)) M) 47 [none, none, none, some (vi z_4), none] [] M) (PR := fun q => (Qn X (some (vi r)) M) = Qn X (some (vi q)) M) h (fun x o hh hP hE hR => ts_X5_dueBefore_5 hX h0 x1 x2 M x.1 x.2 o hh hP hE hR) (fun z_4 h => ?_) (fun q h => ?_)
  · show V X 0 0 (Qn X (some (vi r)) M) 47 [none, none, none, some (vi z_4), none] [] M
    refine x_iloadn hX dX5_dueBefore_47 rfl ?_
    cases h
    exact x_iret hX dX5_dueBefore_48 rfl
  · cases h; rfl
set_option maxRecDepth 100000 in
set_option maxHeartbeats 4000000 in
theorem c_X5_pickedIn {l : Launch} {G : Gx} (hG : GOK G) (hl : l.stackTraces = false) {th : Nat} (h0 : at_ G th 15 0) (x1 : Int) (x2 : Int) (M : Mem) (r : Int) (h : f_X5_pickedIn th x1 x2 M = some r) : Cn l G mX5_pickedIn 1 [vr G th, vi x1, vi x2] M (some (vi r)) M := by
  refine Cn_of2 (ls := [some (vr G th), some (vi x1), some (vi x2)]) hG hl kX5_pickedIn rfl (Nat.le_of_ble_eq_true rfl) rfl rfl rfl rfl rfl (fun X eG el hX => ?_)
  subst eG; subst el
  unfold f_X5_pickedIn at h
  refine x_aloadn hX dX5_pickedIn_0 rfl ?_
  refine x_getRj (j := th + 2) hX dX5_pickedIn_1 fl_X5_15 rfl h0 rfl ?_
  refine x_iloadn hX dX5_pickedIn_4 rfl ?_
  obtain ⟨b_1, h⟩ := gi_of h
  refine x_iald hX dX5_pickedIn_5 (fo_5_3 (gk hX) h0) b_1 rfl ?_
  refine x_iconst hX dX5_pickedIn_6 ?_
  refine x_icmp_ne (tgt := 24) hX dX5_pickedIn_7 (by decide) rfl cw_2 (fun hc => ?_) (fun hc => ?_)
  · replace h := (if_pos hc).symm.trans h
    refine x_aloadn hX dX5_pickedIn_10 rfl ?_
    refine x_getRj (j := th + 6) hX dX5_pickedIn_11 fl_X5_27 rfl h0 rfl ?_
    refine x_iloadn hX dX5_pickedIn_14 rfl ?_
    refine x_bipush hX dX5_pickedIn_15 bp_6 ?_
    refine x_imul hX dX5_pickedIn_17 ?_
    refine x_iloadn hX dX5_pickedIn_18 rfl ?_
    refine x_iadd hX dX5_pickedIn_19 ?_
    obtain ⟨b_2, h⟩ := gi_of h
    refine x_iald hX dX5_pickedIn_20 (fo_5_7 (gk hX) h0) b_2 rfl ?_
    refine x_goto (tgt := 25) hX dX5_pickedIn_21 (by decide) ?_
    cases h
    exact x_iret hX dX5_pickedIn_25 rfl
  · replace h := (if_neg hc).symm.trans h
    refine x_iconst hX dX5_pickedIn_24 ?_
    cases h
    exact x_iret hX dX5_pickedIn_25 rfl
set_option maxRecDepth 100000 in
set_option maxHeartbeats 4000000 in
theorem c_X5_shortIn {l : Launch} {G : Gx} (hG : GOK G) (hl : l.stackTraces = false) {th : Nat} (h0 : at_ G th 15 0) (x1 : Int) (x2 : Int) (M : Mem) (r : Int) (h : f_X5_shortIn th x1 x2 M = some r) : Cn l G mX5_shortIn 1 [vr G th, vi x1, vi x2] M (some (vi r)) M := by
  refine Cn_of2 (ls := [some (vr G th), some (vi x1), some (vi x2), none]) hG hl kX5_shortIn rfl (Nat.le_of_ble_eq_true rfl) rfl rfl rfl rfl rfl (fun X eG el hX => ?_)
  subst eG; subst el
  unfold f_X5_shortIn at h
  refine x_iloadn hX dX5_shortIn_0 rfl ?_
  refine x_bipush hX dX5_shortIn_1 bp_6 ?_
  refine x_imul hX dX5_shortIn_3 ?_
  refine x_iloadn hX dX5_shortIn_4 rfl ?_
  refine x_iadd hX dX5_shortIn_5 ?_
  obtain ⟨x3_1, ex3_1, h⟩ := bnd_of h
  refine x_istoren (ls' := [some (vr (xG X) th), some (vi x1), some (vi x2), some (vi x3_1)]) hX dX5_shortIn_6 rfl ex3_1 rfl ?_
  refine x_aloadn hX dX5_shortIn_7 rfl ?_
  refine x_getRj (j := th + 2) hX dX5_shortIn_8 fl_X5_15 rfl h0 rfl ?_
  refine x_iloadn hX dX5_shortIn_11 rfl ?_
  obtain ⟨b_2, h⟩ := gi_of h
  refine x_iald hX dX5_shortIn_12 (fo_5_3 (gk hX) h0) b_2 rfl ?_
  refine x_iconst hX dX5_shortIn_13 ?_
  refine x_icmp_ne (tgt := 33) hX dX5_shortIn_14 (by decide) rfl cw_2 (fun hc => ?_) (fun hc => ?_)
  · replace h := (if_pos hc).symm.trans h
    refine x_aloadn hX dX5_shortIn_17 rfl ?_
    refine x_getRj (j := th + 5) hX dX5_shortIn_18 fl_X5_24 rfl h0 rfl ?_
    refine x_iloadn hX dX5_shortIn_21 rfl ?_
    obtain ⟨b_3, h⟩ := gi_of h
    refine x_iald hX dX5_shortIn_22 (fo_5_6 (gk hX) h0) b_3 rfl ?_
    refine x_aloadn hX dX5_shortIn_23 rfl ?_
    refine x_getRj (j := th + 6) hX dX5_shortIn_24 fl_X5_27 rfl h0 rfl ?_
    refine x_iloadn hX dX5_shortIn_27 rfl ?_
    obtain ⟨b_4, h⟩ := gi_of h
    refine x_iald hX dX5_shortIn_28 (fo_5_7 (gk hX) h0) b_4 rfl ?_
    refine x_isub hX dX5_shortIn_29 ?_
    refine x_goto (tgt := 34) hX dX5_shortIn_30 (by decide) ?_
    cases h
    exact x_iret hX dX5_shortIn_34 rfl
  · replace h := (if_neg hc).symm.trans h
    refine x_iconst hX dX5_shortIn_33 ?_
    cases h
    exact x_iret hX dX5_shortIn_34 rfl
set_option maxRecDepth 100000 in
set_option maxHeartbeats 4000000 in
theorem c_X5_copyFrom {l : Launch} {G : Gx} (hG : GOK G) (hl : l.stackTraces = false) {th : Nat} (h0 : at_ G th 15 0) {a1 : Nat} (h1 : at_ G a1 15 0) (M : Mem) (Mr : Mem) (h : f_X5_copyFrom th a1 M = some Mr) : Cn l G mX5_copyFrom 1 [vr G th, vr G a1] M none Mr := by
  refine Cn_of2 (ls := [some (vr G th), some (vr G a1)]) hG hl kX5_copyFrom rfl (Nat.le_of_ble_eq_true rfl) rfl rfl rfl rfl rfl (fun X eG el hX => ?_)
  subst eG; subst el
  unfold f_X5_copyFrom at h
  refine x_aloadn hX dX5_copyFrom_0 rfl ?_
  refine x_aloadn hX dX5_copyFrom_1 rfl ?_
  refine x_getI hX dX5_copyFrom_2 fl_X5_30 rfl h1 ?_
  obtain ⟨M_1, eM_1, h⟩ := bnd_of h
  refine x_putI hX dX5_copyFrom_5 fp_X5_30 rfl h0 (x_meq eM_1 ?_)
  refine x_aloadn hX dX5_copyFrom_8 rfl ?_
  refine x_aloadn hX dX5_copyFrom_9 rfl ?_
  refine x_getI hX dX5_copyFrom_10 fl_X5_45 rfl h1 ?_
  obtain ⟨M_2, eM_2, h⟩ := bnd_of h
  refine x_putI hX dX5_copyFrom_13 fp_X5_45 rfl h0 (x_meq eM_2 ?_)
  refine x_aloadn hX dX5_copyFrom_16 rfl ?_
  refine x_getRj (j := a1 + 1) hX dX5_copyFrom_17 fl_X5_9 rfl h1 rfl ?_
  refine x_iconst hX dX5_copyFrom_20 ?_
  refine x_aloadn hX dX5_copyFrom_21 rfl ?_
  refine x_getRj (j := th + 1) hX dX5_copyFrom_22 fl_X5_9 rfl h0 rfl ?_
  refine x_iconst hX dX5_copyFrom_25 ?_
  refine x_bipush hX dX5_copyFrom_26 bp_16 ?_
  obtain ⟨M_3, eM_3, h⟩ := bnd_of h
  refine x_copy (st := []) hX dX5_copyFrom_28 cpw_X5_55 (fo_5_2 (gk hX) h1) (fo_5_2 (gk hX) h0) (by decide +kernel) (Nat.le_of_ble_eq_true rfl) (Nat.le_of_ble_eq_true rfl) (Nat.le_of_ble_eq_true rfl) (x_meq eM_3 ?_)
  refine x_aloadn hX dX5_copyFrom_31 rfl ?_
  refine x_getRj (j := a1 + 2) hX dX5_copyFrom_32 fl_X5_15 rfl h1 rfl ?_
  refine x_iconst hX dX5_copyFrom_35 ?_
  refine x_aloadn hX dX5_copyFrom_36 rfl ?_
  refine x_getRj (j := th + 2) hX dX5_copyFrom_37 fl_X5_15 rfl h0 rfl ?_
  refine x_iconst hX dX5_copyFrom_40 ?_
  refine x_bipush hX dX5_copyFrom_41 bp_16 ?_
  obtain ⟨M_4, eM_4, h⟩ := bnd_of h
  refine x_copy (st := []) hX dX5_copyFrom_43 cpw_X5_55 (fo_5_3 (gk hX) h1) (fo_5_3 (gk hX) h0) (by decide +kernel) (Nat.le_of_ble_eq_true rfl) (Nat.le_of_ble_eq_true rfl) (Nat.le_of_ble_eq_true rfl) (x_meq eM_4 ?_)
  refine x_aloadn hX dX5_copyFrom_46 rfl ?_
  refine x_getRj (j := a1 + 3) hX dX5_copyFrom_47 fl_X5_18 rfl h1 rfl ?_
  refine x_iconst hX dX5_copyFrom_50 ?_
  refine x_aloadn hX dX5_copyFrom_51 rfl ?_
  refine x_getRj (j := th + 3) hX dX5_copyFrom_52 fl_X5_18 rfl h0 rfl ?_
  refine x_iconst hX dX5_copyFrom_55 ?_
  refine x_bipush hX dX5_copyFrom_56 bp_16 ?_
  obtain ⟨M_5, eM_5, h⟩ := bnd_of h
  refine x_copy (st := []) hX dX5_copyFrom_58 cpw_X5_55 (fo_5_4 (gk hX) h1) (fo_5_4 (gk hX) h0) (by decide +kernel) (Nat.le_of_ble_eq_true rfl) (Nat.le_of_ble_eq_true rfl) (Nat.le_of_ble_eq_true rfl) (x_meq eM_5 ?_)
  refine x_aloadn hX dX5_copyFrom_61 rfl ?_
  refine x_getRj (j := a1 + 4) hX dX5_copyFrom_62 fl_X5_21 rfl h1 rfl ?_
  refine x_iconst hX dX5_copyFrom_65 ?_
  refine x_aloadn hX dX5_copyFrom_66 rfl ?_
  refine x_getRj (j := th + 4) hX dX5_copyFrom_67 fl_X5_21 rfl h0 rfl ?_
  refine x_iconst hX dX5_copyFrom_70 ?_
  refine x_bipush hX dX5_copyFrom_71 bp_96 ?_
  obtain ⟨M_6, eM_6, h⟩ := bnd_of h
  refine x_copy (st := []) hX dX5_copyFrom_73 cpw_X5_55 (fo_5_5 (gk hX) h1) (fo_5_5 (gk hX) h0) (by decide +kernel) (Nat.le_of_ble_eq_true rfl) (Nat.le_of_ble_eq_true rfl) (Nat.le_of_ble_eq_true rfl) (x_meq eM_6 ?_)
  refine x_aloadn hX dX5_copyFrom_76 rfl ?_
  refine x_getRj (j := a1 + 5) hX dX5_copyFrom_77 fl_X5_24 rfl h1 rfl ?_
  refine x_iconst hX dX5_copyFrom_80 ?_
  refine x_aloadn hX dX5_copyFrom_81 rfl ?_
  refine x_getRj (j := th + 5) hX dX5_copyFrom_82 fl_X5_24 rfl h0 rfl ?_
  refine x_iconst hX dX5_copyFrom_85 ?_
  refine x_bipush hX dX5_copyFrom_86 bp_96 ?_
  obtain ⟨M_7, eM_7, h⟩ := bnd_of h
  refine x_copy (st := []) hX dX5_copyFrom_88 cpw_X5_55 (fo_5_6 (gk hX) h1) (fo_5_6 (gk hX) h0) (by decide +kernel) (Nat.le_of_ble_eq_true rfl) (Nat.le_of_ble_eq_true rfl) (Nat.le_of_ble_eq_true rfl) (x_meq eM_7 ?_)
  refine x_aloadn hX dX5_copyFrom_91 rfl ?_
  refine x_getRj (j := a1 + 6) hX dX5_copyFrom_92 fl_X5_27 rfl h1 rfl ?_
  refine x_iconst hX dX5_copyFrom_95 ?_
  refine x_aloadn hX dX5_copyFrom_96 rfl ?_
  refine x_getRj (j := th + 6) hX dX5_copyFrom_97 fl_X5_27 rfl h0 rfl ?_
  refine x_iconst hX dX5_copyFrom_100 ?_
  refine x_bipush hX dX5_copyFrom_101 bp_96 ?_
  obtain ⟨M_8, eM_8, h⟩ := bnd_of h
  refine x_copy (st := []) hX dX5_copyFrom_103 cpw_X5_55 (fo_5_7 (gk hX) h1) (fo_5_7 (gk hX) h0) (by decide +kernel) (Nat.le_of_ble_eq_true rfl) (Nat.le_of_ble_eq_true rfl) (Nat.le_of_ble_eq_true rfl) (x_meq eM_8 ?_)
  cases h
  exact x_vret hX dX5_copyFrom_106 rfl
set_option maxRecDepth 100000 in
set_option maxHeartbeats 4000000 in
theorem c_X6_note {l : Launch} {G : Gx} (hG : GOK G) (hl : l.stackTraces = false) {th : Nat} (h0 : at_ G th 16 0) (x1 : Int) (x2 : Int) (M : Mem) (Mr : Mem) (h : f_X6_note th x1 x2 M = some Mr) : Cn l G mX6_note 1 [vr G th, vi x1, vi x2] M none Mr := by
  refine Cn_of2 (ls := [some (vr G th), some (vi x1), some (vi x2)]) hG hl kX6_note rfl (Nat.le_of_ble_eq_true rfl) rfl rfl rfl rfl rfl (fun X eG el hX => ?_)
  subst eG; subst el
  unfold f_X6_note at h
  refine x_aloadn hX dX6_note_0 rfl ?_
  refine x_getRj (j := th + 1) hX dX6_note_1 fl_X6_9 rfl h0 rfl ?_
  refine x_iloadn hX dX6_note_4 rfl ?_
  refine x_dup2 hX dX6_note_5 rfl rfl ?_
  obtain ⟨b_1, h⟩ := gi_of h
  refine x_iald hX dX6_note_6 (fo_6_2 (gk hX) h0) b_1 rfl ?_
  refine x_iconst hX dX6_note_7 ?_
  refine x_iloadn hX dX6_note_8 rfl ?_
  refine x_ishl hX dX6_note_9 ?_
  refine x_ior hX dX6_note_10 ?_
  obtain ⟨b_3, h⟩ := gi_of h
  obtain ⟨M_2, eM_2, h⟩ := bnd_of h
  refine x_iast hX dX6_note_11 (fo_6_2 (gk hX) h0) b_3 rfl (x_meq eM_2 ?_)
  refine x_aloadn hX dX6_note_12 rfl ?_
  refine x_getRj (j := th + 4) hX dX6_note_13 fl_X6_21 rfl h0 rfl ?_
  refine x_iloadn hX dX6_note_16 rfl ?_
  refine x_dup2 hX dX6_note_17 rfl rfl ?_
  obtain ⟨b_4, h⟩ := gi_of h
  refine x_iald hX dX6_note_18 (fo_6_5 (gk hX) h0) b_4 rfl ?_
  refine x_iconst hX dX6_note_19 ?_
  refine x_iadd hX dX6_note_20 ?_
  obtain ⟨b_6, h⟩ := gi_of h
  obtain ⟨M_5, eM_5, h⟩ := bnd_of h
  refine x_iast hX dX6_note_21 (fo_6_5 (gk hX) h0) b_6 rfl (x_meq eM_5 ?_)
  refine x_aloadn hX dX6_note_22 rfl ?_
  refine x_getRj (j := th + 2) hX dX6_note_23 fl_X6_15 rfl h0 rfl ?_
  refine x_iloadn hX dX6_note_26 rfl ?_
  refine x_aloadn hX dX6_note_27 rfl ?_
  refine x_getRj (j := th + 2) hX dX6_note_28 fl_X6_15 rfl h0 rfl ?_
  refine x_iloadn hX dX6_note_31 rfl ?_
  obtain ⟨b_7, h⟩ := gi_of h
  refine x_iald hX dX6_note_32 (fo_6_3 (gk hX) h0) b_7 rfl ?_
  refine x_iloadn hX dX6_note_33 rfl ?_
  refine x_min (st := [vi x1, vr (xG X) (th + 2)]) hX dX6_note_34 minw_X6_77 (Nat.le_of_ble_eq_true rfl) z0 ?_
  obtain ⟨b_9, h⟩ := gi_of h
  obtain ⟨M_8, eM_8, h⟩ := bnd_of h
  refine x_iast hX dX6_note_37 (fo_6_3 (gk hX) h0) b_9 rfl (x_meq eM_8 ?_)
  refine x_aloadn hX dX6_note_38 rfl ?_
  refine x_getRj (j := th + 3) hX dX6_note_39 fl_X6_18 rfl h0 rfl ?_
  refine x_iloadn hX dX6_note_42 rfl ?_
  refine x_aloadn hX dX6_note_43 rfl ?_
  refine x_getRj (j := th + 3) hX dX6_note_44 fl_X6_18 rfl h0 rfl ?_
  refine x_iloadn hX dX6_note_47 rfl ?_
  obtain ⟨b_10, h⟩ := gi_of h
  refine x_iald hX dX6_note_48 (fo_6_4 (gk hX) h0) b_10 rfl ?_
  refine x_iloadn hX dX6_note_49 rfl ?_
  refine x_max (st := [vi x1, vr (xG X) (th + 3)]) hX dX6_note_50 maxw_X6_83 (Nat.le_of_ble_eq_true rfl) z0 ?_
  obtain ⟨b_12, h⟩ := gi_of h
  obtain ⟨M_11, eM_11, h⟩ := bnd_of h
  refine x_iast hX dX6_note_53 (fo_6_4 (gk hX) h0) b_12 rfl (x_meq eM_11 ?_)
  cases h
  exact x_vret hX dX6_note_54 rfl
set_option maxRecDepth 100000 in
set_option maxHeartbeats 4000000 in
theorem ts_X6_returnCost_4 {X : Cxt} (hX : Gd X RX6 cX6_returnCost 3 (some .int) 1) {th : Nat} (h0 : at_ (xG X) th 16 0) (M : Mem) (x1 : Int) (x2 : Int) {Q : State → Prop} (o : (Int × Int) ⊕ ((Int) ⊕ (Int))) (h : s_X6_returnCost_4 th M x1 x2 = some o) (hP : ∀ y, o = .inl y → V X 0 0 Q 4 [some (vr (xG X) th), some (vi y.1), some (vi y.2)] [] M) (hE : ∀ z, o = .inr (.inl z) → V X 0 0 Q 34 [none, some (vi z), none] [] M) (hR : ∀ q, o = .inr (.inr q) → Q = Qn X (some (vi q)) M) : V X 0 0 Q 4 [some (vr (xG X) th), some (vi x1), some (vi x2)] [] M := by
  unfold s_X6_returnCost_4 at h
  refine x_iloadn hX dX6_returnCost_4 rfl ?_
  refine x_aloadn hX dX6_returnCost_5 rfl ?_
  refine x_getI hX dX6_returnCost_6 fl_X6_107 rfl h0 ?_
  refine x_icmp_ge (tgt := 34) hX dX6_returnCost_9 (by decide) rfl rfl (fun hc => ?_) (fun hc => ?_)
  · replace h := (if_pos hc).symm.trans h
    refine x_iloadn hX dX6_returnCost_12 rfl ?_
    refine x_iconst hX dX6_returnCost_13 ?_
    refine x_aloadn hX dX6_returnCost_14 rfl ?_
    refine x_getRj (j := th + 3) hX dX6_returnCost_15 fl_X6_18 rfl h0 rfl ?_
    refine x_aloadn hX dX6_returnCost_18 rfl ?_
    refine x_getRj (j := th + 5) hX dX6_returnCost_19 fl_X6_24 rfl h0 rfl ?_
    refine x_iloadn hX dX6_returnCost_22 rfl ?_
    obtain ⟨b_1, h⟩ := gi_of h
    refine x_iald hX dX6_returnCost_23 (fo_6_7 (gk hX) h0) b_1 rfl ?_
    obtain ⟨b_2, h⟩ := gi_of h
    refine x_iald hX dX6_returnCost_24 (fo_6_4 (gk hX) h0) b_2 rfl ?_
    refine x_imul hX dX6_returnCost_25 ?_
    refine x_iadd hX dX6_returnCost_26 ?_
    obtain ⟨x1_3, ex1_3, h⟩ := bnd_of h
    refine x_istoren (ls' := [some (vr (xG X) th), some (vi x1_3), some (vi x2)]) hX dX6_returnCost_27 rfl ex1_3 rfl ?_
    obtain ⟨x2_4, ex2_4, h⟩ := bnd_of h
    refine x_iinc (ls' := [some (vr (xG X) th), some (vi x1_3), some (vi x2_4)]) hX dX6_returnCost_28 rfl rfl ex2_4 rfl ?_
    refine x_goto (tgt := 4) hX dX6_returnCost_31 (by decide) ?_
    exact x_weak [true, true, true] rfl (hP (x1_3, x2_4) (Option.some.inj h).symm)
  · replace h := (if_neg hc).symm.trans h
    exact x_weak [false, true, false] rfl (hE x1 (Option.some.inj h).symm)
set_option maxRecDepth 100000 in
set_option maxHeartbeats 4000000 in
theorem c_X6_returnCost {l : Launch} {G : Gx} (hG : GOK G) (hl : l.stackTraces = false) {th : Nat} (h0 : at_ G th 16 0) (M : Mem) (r : Int) (h : f_X6_returnCost th M = some r) : Cn l G mX6_returnCost 1 [vr G th] M (some (vi r)) M := by
  refine Cn_of2 (ls := [some (vr G th), none, none]) hG hl kX6_returnCost rfl (Nat.le_of_ble_eq_true rfl) rfl rfl rfl rfl rfl (fun X eG el hX => ?_)
  subst eG; subst el
  unfold f_X6_returnCost at h
  refine x_iconst hX dX6_returnCost_0 ?_
  refine x_istoren (ls' := [some (vr (xG X) th), some (vi 0), none]) hX dX6_returnCost_1 rfl rfl rfl ?_
  refine x_iconst hX dX6_returnCost_2 ?_
  refine x_istoren (ls' := [some (vr (xG X) th), some (vi 0), some (vi 0)]) hX dX6_returnCost_3 rfl rfl rfl ?_
  refine x_weak (ls' := [some (vr (xG X) th), some (vi 0), some (vi 0)]) [true, true, true] rfl ?_
  refine lp_use (x := (0, 0)) (P := fun x => V X 0 0 (Qn X (some (vi r)) M) 4 [some (vr (xG X) th), some (vi x.1), some (vi x.2)] [] M) (PE := fun z_5 => V X 0 0 (Qn X (some (vi r)) M) 34 [none, some (vi z_5), none] [] M) (PR := fun q => (Qn X (some (vi r)) M) = Qn X (some (vi q)) M) h (fun x o hh hP hE hR => ts_X6_returnCost_4 hX h0 M x.1 x.2 o hh hP hE hR) (fun z_5 h => ?_) (fun q h => ?_)
  · show V X 0 0 (Qn X (some (vi r)) M) 34 [none, some (vi z_5), none] [] M
    refine x_iloadn hX dX6_returnCost_34 rfl ?_
    cases h
    exact x_iret hX dX6_returnCost_35 rfl
  · cases h; rfl
