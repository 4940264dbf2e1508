-- written by wip/gen/emit.py: X6_survey, X6_itemsIn, X6_findAisles, X6_largestGapCost, X6_planCombined, X6_visitUp, X6_visitDown, X7_run, X8_candidatesIn, X8_seedValue, X9_fillKeys, X10_nextToken
set_option maxRecDepth 100000 in
set_option maxHeartbeats 4000000 in
theorem ts_X6_survey_24 {X : Cxt} (hX : Gd X RX6 cX6_survey 4 (none) 2) {th : Nat} (h0 : at_ (xG X) th 16 0) {a1 : Nat} (h1 : at_ (xG X) a1 11 0) (x3 : Int) (M : Mem) {Q : State → Prop} (o : (Int × Mem) ⊕ ((Mem) ⊕ (Mem))) (h : s_X6_survey_24 th a1 x3 M = some o) (hP : ∀ y, o = .inl y → V X 0 0 Q 24 [some (vr (xG X) th), some (vr (xG X) a1), none, some (vi y.1)] [] y.2) (hE : ∀ z, o = .inr (.inl z) → V X 0 0 Q 65 [some (vr (xG X) th), some (vr (xG X) a1), none, none] [] z) (hR : ∀ q, o = .inr (.inr q) → Q = Qn X none q) : V X 0 0 Q 24 [some (vr (xG X) th), some (vr (xG X) a1), none, some (vi x3)] [] M := by
  unfold s_X6_survey_24 at h
  refine x_iloadn hX dX6_survey_24 rfl ?_
  refine x_bipush hX dX6_survey_25 bp_6 ?_
  refine x_icmp_ge (tgt := 65) hX dX6_survey_27 (by decide) rfl cw_6 (fun hc => ?_) (fun hc => ?_)
  · replace h := (if_pos hc).symm.trans h
    refine x_aloadn hX dX6_survey_30 rfl ?_
    refine x_getRj (j := th + 1) hX dX6_survey_31 fl_X6_9 rfl h0 rfl ?_
    refine x_iloadn hX dX6_survey_34 rfl ?_
    refine x_iconst hX dX6_survey_35 ?_
    obtain ⟨b_6, h⟩ := gi_of h
    obtain ⟨M_5, eM_5, h⟩ := bnd_of h
    refine x_iast hX dX6_survey_36 (fo_6_2 (gk hX) h0) b_6 rfl (x_meq eM_5 ?_)
    refine x_aloadn hX dX6_survey_37 rfl ?_
    refine x_getRj (j := th + 4) hX dX6_survey_38 fl_X6_21 rfl h0 rfl ?_
    refine x_iloadn hX dX6_survey_41 rfl ?_
    refine x_iconst hX dX6_survey_42 ?_
    obtain ⟨b_8, h⟩ := gi_of h
    obtain ⟨M_7, eM_7, h⟩ := bnd_of h
    refine x_iast hX dX6_survey_43 (fo_6_5 (gk hX) h0) b_8 rfl (x_meq eM_7 ?_)
    refine x_aloadn hX dX6_survey_44 rfl ?_
    refine x_getRj (j := th + 2) hX dX6_survey_45 fl_X6_15 rfl h0 rfl ?_
    refine x_iloadn hX dX6_survey_48 rfl ?_
    refine x_bipush hX dX6_survey_49 bp_20 ?_
    obtain ⟨b_10, h⟩ := gi_of h
    obtain ⟨M_9, eM_9, h⟩ := bnd_of h
    refine x_iast hX dX6_survey_51 (fo_6_3 (gk hX) h0) b_10 rfl (x_meq eM_9 ?_)
    refine x_aloadn hX dX6_survey_52 rfl ?_
    refine x_getRj (j := th + 3) hX dX6_survey_53 fl_X6_18 rfl h0 rfl ?_
    refine x_iloadn hX dX6_survey_56 rfl ?_
    refine x_iconst hX dX6_survey_57 ?_
    obtain ⟨b_12, h⟩ := gi_of h
    obtain ⟨M_11, eM_11, h⟩ := bnd_of h
    refine x_iast hX dX6_survey_58 (fo_6_4 (gk hX) h0) b_12 rfl (x_meq eM_11 ?_)
    obtain ⟨x3_13, ex3_13, h⟩ := bnd_of h
    refine x_iinc (ls' := [some (vr (xG X) th), some (vr (xG X) a1), none, some (vi x3_13)]) hX dX6_survey_59 rfl rfl ex3_13 rfl ?_
    refine x_goto (tgt := 24) hX dX6_survey_62 (by decide) ?_
    exact x_weak [true, true, false, true] rfl (hP (x3_13, M_11) (Option.some.inj h).symm)
  · replace h := (if_neg hc).symm.trans h
    exact x_weak [true, true, false, false] rfl (hE M (Option.some.inj h).symm)
set_option maxRecDepth 100000 in
set_option maxHeartbeats 4000000 in
theorem tj_X6_survey_111_67 {X : Cxt} (hX : Gd X RX6 cX6_survey 4 (none) 2) {th : Nat} (h0 : at_ (xG X) th 16 0) {a1 : Nat} (h1 : at_ (xG X) a1 11 0)  (x3 : Int) (M : Mem) {Q : State → Prop} (o : (Int × Mem) ⊕ ((Mem) ⊕ (Mem))) (h : j_X6_survey_111_67 th a1 x3 M = some o) (hP : ∀ y, o = .inl y → V X 0 0 Q 67 [some (vr (xG X) th), some (vr (xG X) a1), none, some (vi y.1)] [] y.2) (hE : ∀ z, o = .inr (.inl z) → V X 0 0 Q 117 [none, none, none, none] [] z) (hR : ∀ q, o = .inr (.inr q) → Q = Qn X none q) : V X 0 0 Q 111 [some (vr (xG X) th), some (vr (xG X) a1), none, some (vi x3)] [] M := by
  unfold j_X6_survey_111_67 at h
  obtain ⟨x3_15, ex3_15, h⟩ := bnd_of h
  refine x_iinc (ls' := [some (vr (xG X) th), some (vr (xG X) a1), none, some (vi x3_15)]) hX dX6_survey_111 rfl rfl ex3_15 rfl ?_
  refine x_goto (tgt := 67) hX dX6_survey_114 (by decide) ?_
  exact x_weak [true, true, false, true] rfl (hP (x3_15, M) (Option.some.inj h).symm)
set_option maxRecDepth 100000 in
set_option maxHeartbeats 4000000 in
theorem ts_X6_survey_67 {X : Cxt} (hX : Gd X RX6 cX6_survey 4 (none) 2) {th : Nat} (h0 : at_ (xG X) th 16 0) {a1 : Nat} (h1 : at_ (xG X) a1 11 0) (x3 : Int) (M : Mem) {Q : State → Prop} (o : (Int × Mem) ⊕ ((Mem) ⊕ (Mem))) (h : s_X6_survey_67 th a1 x3 M = some o) (hP : ∀ y, o = .inl y → V X 0 0 Q 67 [some (vr (xG X) th), some (vr (xG X) a1), none, some (vi y.1)] [] y.2) (hE : ∀ z, o = .inr (.inl z) → V X 0 0 Q 117 [none, none, none, none] [] z) (hR : ∀ q, o = .inr (.inr q) → Q = Qn X none q) : V X 0 0 Q 67 [some (vr (xG X) th), some (vr (xG X) a1), none, some (vi x3)] [] M := by
  unfold s_X6_survey_67 at h
  refine x_iloadn hX dX6_survey_67 rfl ?_
  refine x_aloadn hX dX6_survey_68 rfl ?_
  refine x_getRj (j := a1 + 4) hX dX6_survey_69 fl_X6_58 rfl h1 rfl ?_
  refine x_getI hX dX6_survey_72 fl_X6_62 rfl (fo_1_1 (gk hX) h1) ?_
  refine x_icmp_ge (tgt := 117) hX dX6_survey_75 (by decide) rfl rfl (fun hc => ?_) (fun hc => ?_)
  · replace h := (if_pos hc).symm.trans h
    refine x_aloadn hX dX6_survey_78 rfl ?_
    refine x_getI hX dX6_survey_79 fl_X6_42 rfl h0 ?_
    refine x_iloadn hX dX6_survey_82 rfl ?_
    refine x_ishr hX dX6_survey_83 ?_
    refine x_iconst hX dX6_survey_84 ?_
    refine x_iand hX dX6_survey_85 ?_
    refine x_if_eq (tgt := 111) hX dX6_survey_86 (by decide) rfl (fun hc => ?_) (fun hc => ?_)
    · replace h := (if_pos hc).symm.trans h
      exact x_weak [true, true, false, true] rfl (tj_X6_survey_111_67 hX h0 h1 x3 M o h hP hE hR)
    · replace h := (if_neg hc).symm.trans h
      refine x_aloadn hX dX6_survey_89 rfl ?_
      refine x_aloadn hX dX6_survey_90 rfl ?_
      refine x_getRj (j := a1 + 4) hX dX6_survey_91 fl_X6_58 rfl h1 rfl ?_
      refine x_getRj (j := a1 + 4 + 1) hX dX6_survey_94 fl_X6_67 rfl (fo_1_1 (gk hX) h1) rfl ?_
      refine x_iloadn hX dX6_survey_97 rfl ?_
      obtain ⟨b_16, h⟩ := gi_of h
      refine x_iald hX dX6_survey_98 (fo_2_1 (gk hX) (fo_1_1 (gk hX) h1)) b_16 rfl ?_
      refine x_aloadn hX dX6_survey_99 rfl ?_
      refine x_getRj (j := a1 + 4) hX dX6_survey_100 fl_X6_58 rfl h1 rfl ?_
      refine x_getRj (j := a1 + 4 + 2) hX dX6_survey_103 fl_X6_70 rfl (fo_1_1 (gk hX) h1) rfl ?_
      refine x_iloadn hX dX6_survey_106 rfl ?_
      obtain ⟨b_17, h⟩ := gi_of h
      refine x_iald hX dX6_survey_107 (fo_2_2 (gk hX) (fo_1_1 (gk hX) h1)) b_17 rfl ?_
      obtain ⟨M_19, er_18, h⟩ := cl1_of h
      refine x_callVv (t := 6) (As := [vi (M (a1 + 4 + 1) (ix x3)), vi (M (a1 + 4 + 2) (ix x3))]) (rest := []) hX dX6_survey_108 (c_X6_note (gk hX) (gl hX) h0 (M (a1 + 4 + 1) (ix x3)) (M (a1 + 4 + 2) (ix x3)) M _ er_18) kX6_note vX6_note w_616 h0 rfl rfl rfl rfl (Nat.le_of_ble_eq_true rfl) z0 ?_
      exact x_weak [true, true, false, true] rfl (tj_X6_survey_111_67 hX h0 h1 x3 M_19 o h hP hE hR)
  · replace h := (if_neg hc).symm.trans h
    exact x_weak [false, false, false, false] rfl (hE M (Option.some.inj h).symm)
set_option maxRecDepth 100000 in
set_option maxHeartbeats 4000000 in
theorem c_X6_survey {l : Launch} {G : Gx} (hG : GOK G) (hl : l.stackTraces = false) {th : Nat} (h0 : at_ G th 16 0) {a1 : Nat} (h1 : at_ G a1 11 0) (x2 : Int) (M : Mem) (Mr : Mem) (h : f_X6_survey th a1 x2 M = some Mr) : Cn l G mX6_survey 2 [vr G th, vr G a1, vi x2] M none Mr := by
  refine Cn_of2 (ls := [some (vr G th), some (vr G a1), some (vi x2), none]) hG hl kX6_survey rfl (Nat.le_of_ble_eq_true rfl) rfl rfl rfl rfl rfl (fun X eG el hX => ?_)
  subst eG; subst el
  unfold f_X6_survey at h
  refine x_aloadn hX dX6_survey_0 rfl ?_
  refine x_aloadn hX dX6_survey_1 rfl ?_
  refine x_iloadn hX dX6_survey_2 rfl ?_
  obtain ⟨r_1, er_1, h⟩ := cl1_of h
  refine x_callVi (t := 1) (As := [vi x2]) (rest := [vr (xG X) th]) hX dX6_survey_3 (c_X1_itemsOfAll (gk hX) (gl hX) h1 x2 M _ er_1) kX1_itemsOfAll vX1_itemsOfAll w_612 h1 rfl rfl rfl rfl (Nat.le_of_ble_eq_true rfl) z0 ?_
  obtain ⟨M_3, eM_3, h⟩ := bnd_of h
  refine x_putI hX dX6_survey_6 fp_X6_42 rfl h0 (x_meq eM_3 ?_)
  refine x_aloadn hX dX6_survey_9 rfl ?_
  refine x_aloadn hX dX6_survey_10 rfl ?_
  refine x_getRj (j := a1 + 1) hX dX6_survey_11 fl_X6_46 rfl h1 rfl ?_
  refine x_getI hX dX6_survey_14 fl_X6_50 rfl (fo_1_0 (gk hX) h1) ?_
  refine x_iconst hX dX6_survey_17 ?_
  refine x_iadd hX dX6_survey_18 ?_
  obtain ⟨M_4, eM_4, h⟩ := bnd_of h
  refine x_putI hX dX6_survey_19 fp_X6_55 rfl h0 (x_meq eM_4 ?_)
  refine x_iconst hX dX6_survey_22 ?_
  refine x_istoren (ls' := [some (vr (xG X) th), some (vr (xG X) a1), some (vi x2), some (vi 0)]) hX dX6_survey_23 rfl rfl rfl ?_
  refine x_weak (ls' := [some (vr (xG X) th), some (vr (xG X) a1), none, some (vi 0)]) [true, true, false, true] rfl ?_
  refine lp_use (x := (0, M_4)) (P := fun x => V X 0 0 (Qn X none Mr) 24 [some (vr (xG X) th), some (vr (xG X) a1), none, some (vi x.1)] [] x.2) (PE := fun z_14 => V X 0 0 (Qn X none Mr) 65 [some (vr (xG X) th), some (vr (xG X) a1), none, none] [] z_14) (PR := fun q => (Qn X none Mr) = Qn X none q) h (fun x o hh hP hE hR => ts_X6_survey_24 hX h0 h1 x.1 x.2 o hh hP hE hR) (fun z_14 h => ?_) (fun q h => ?_)
  · show V X 0 0 (Qn X none Mr) 65 [some (vr (xG X) th), some (vr (xG X) a1), none, none] [] z_14
    refine x_iconst hX dX6_survey_65 ?_
    refine x_istoren (ls' := [some (vr (xG X) th), some (vr (xG X) a1), none, some (vi 0)]) hX dX6_survey_66 rfl rfl rfl ?_
    refine x_weak (ls' := [some (vr (xG X) th), some (vr (xG X) a1), none, some (vi 0)]) [true, true, false, true] rfl ?_
    refine lp_use (x := (0, z_14)) (P := fun x => V X 0 0 (Qn X none Mr) 67 [some (vr (xG X) th), some (vr (xG X) a1), none, some (vi x.1)] [] x.2) (PE := fun z_20 => V X 0 0 (Qn X none Mr) 117 [none, none, none, none] [] z_20) (PR := fun q => (Qn X none Mr) = Qn X none q) h (fun x o hh hP hE hR => ts_X6_survey_67 hX h0 h1 x.1 x.2 o hh hP hE hR) (fun z_20 h => ?_) (fun q h => ?_)
    · show V X 0 0 (Qn X none Mr) 117 [none, none, none, none] [] z_20
      cases h
      exact x_vret hX dX6_survey_117 rfl
    · cases h; rfl
  · cases h; rfl
set_option maxRecDepth 100000 in
set_option maxHeartbeats 4000000 in
theorem ts_X6_itemsIn_10 {X : Cxt} (hX : Gd X RX6 cX6_itemsIn 5 (some .int) 2) {th : Nat} (h0 : at_ (xG X) th 16 0) {a1 : Nat} (h1 : at_ (xG X) a1 13 0) (x2 : Int) (M : Mem) (x3 : Int) (x4 : Int) {Q : State → Prop} (o : (Int × Int) ⊕ ((Int) ⊕ (Int))) (h : s_X6_itemsIn_10 th a1 x2 M x3 x4 = some o) (hP : ∀ y, o = .inl y → V X 0 0 Q 10 [some (vr (xG X) th), some (vr (xG X) a1), some (vi x2), some (vi y.1), some (vi y.2)] [] M) (hE : ∀ z, o = .inr (.inl z) → V X 0 0 Q 36 [none, none, none, some (vi z), none] [] M) (hR : ∀ q, o = .inr (.inr q) → Q = Qn X (some (vi q)) M) : V X 0 0 Q 10 [some (vr (xG X) th), some (vr (xG X) a1), some (vi x2), some (vi x3), some (vi x4)] [] M := by
  unfold s_X6_itemsIn_10 at h
  refine x_iload hX dX6_itemsIn_10 rfl ?_
  refine x_aloadn hX dX6_itemsIn_12 rfl ?_
  refine x_iloadn hX dX6_itemsIn_13 rfl ?_
  obtain ⟨r_3, er_3, h⟩ := cl1_of h
  refine x_callVi (t := 3) (As := [vi x2]) (rest := [vi x4]) hX dX6_itemsIn_14 (c_X3_endOf (gk hX) (gl hX) h1 x2 M _ er_3) kX3_endOf vX3_endOf w_634 h1 rfl rfl rfl rfl (Nat.le_of_ble_eq_true rfl) z0 ?_
  refine x_icmp_ge (tgt := 36) hX dX6_itemsIn_17 (by decide) rfl rfl (fun hc => ?_) (fun hc => ?_)
  · replace h := (if_pos hc).symm.trans h
    refine x_iloadn hX dX6_itemsIn_20 rfl ?_
    refine x_aloadn hX dX6_itemsIn_21 rfl ?_
    refine x_getRj (j := th + 4) hX dX6_itemsIn_22 fl_X6_21 rfl h0 rfl ?_
    refine x_iload hX dX6_itemsIn_25 rfl ?_
    obtain ⟨b_5, h⟩ := gi_of h
    refine x_iald hX dX6_itemsIn_27 (fo_6_5 (gk hX) h0) b_5 rfl ?_
    refine x_iadd hX dX6_itemsIn_28 ?_
    obtain ⟨x3_6, ex3_6, h⟩ := bnd_of h
    refine x_istoren (ls' := [some (vr (xG X) th), some (vr (xG X) a1), some (vi x2), some (vi x3_6), some (vi x4)]) hX dX6_itemsIn_29 rfl ex3_6 rfl ?_
    obtain ⟨x4_7, ex4_7, h⟩ := bnd_of h
    refine x_iinc (ls' := [some (vr (xG X) th), some (vr (xG X) a1), some (vi x2), some (vi x3_6), some (vi x4_7)]) hX dX6_itemsIn_30 rfl rfl ex4_7 rfl ?_
    refine x_goto (tgt := 10) hX dX6_itemsIn_33 (by decide) ?_
    exact x_weak [true, true, true, true, true] rfl (hP (x3_6, x4_7) (Option.some.inj h).symm)
  · replace h := (if_neg hc).symm.trans h
    exact x_weak [false, false, false, true, false] rfl (hE x3 (Option.some.inj h).symm)
set_option maxRecDepth 100000 in
set_option maxHeartbeats 4000000 in
theorem c_X6_itemsIn {l : Launch} {G : Gx} (hG : GOK G) (hl : l.stackTraces = false) {th : Nat} (h0 : at_ G th 16 0) {a1 : Nat} (h1 : at_ G a1 13 0) (x2 : Int) (M : Mem) (r : Int) (h : f_X6_itemsIn th a1 x2 M = some r) : Cn l G mX6_itemsIn 2 [vr G th, vr G a1, vi x2] M (some (vi r)) M := by
  refine Cn_of2 (ls := [some (vr G th), some (vr G a1), some (vi x2), none, none]) hG hl kX6_itemsIn rfl (Nat.le_of_ble_eq_true rfl) rfl rfl rfl rfl rfl (fun X eG el hX => ?_)
  subst eG; subst el
  unfold f_X6_itemsIn at h
  refine x_iconst hX dX6_itemsIn_0 ?_
  refine x_istoren (ls' := [some (vr (xG X) th), some (vr (xG X) a1), some (vi x2), some (vi 0), none]) hX dX6_itemsIn_1 rfl rfl rfl ?_
  refine x_aloadn hX dX6_itemsIn_2 rfl ?_
  refine x_getRj (j := a1 + 1) hX dX6_itemsIn_3 fl_X6_97 rfl h1 rfl ?_
  refine x_iloadn hX dX6_itemsIn_6 rfl ?_
  obtain ⟨b_1, h⟩ := gi_of h
  refine x_iald hX dX6_itemsIn_7 (fo_3_4 (gk hX) h1) b_1 rfl ?_
  obtain ⟨x4_2, ex4_2, h⟩ := bnd_of h
  refine x_istore (ls' := [some (vr (xG X) th), some (vr (xG X) a1), some (vi x2), some (vi 0), some (vi x4_2)]) hX dX6_itemsIn_8 rfl ex4_2 rfl ?_
  refine x_weak (ls' := [some (vr (xG X) th), some (vr (xG X) a1), some (vi x2), some (vi 0), some (vi x4_2)]) [true, true, true, true, true] rfl ?_
  refine lp_use (x := (0, x4_2)) (P := fun x => V X 0 0 (Qn X (some (vi r)) M) 10 [some (vr (xG X) th), some (vr (xG X) a1), some (vi x2), some (vi x.1), some (vi x.2)] [] M) (PE := fun z_8 => V X 0 0 (Qn X (some (vi r)) M) 36 [none, none, none, some (vi z_8), none] [] M) (PR := fun q => (Qn X (some (vi r)) M) = Qn X (some (vi q)) M) h (fun x o hh hP hE hR => ts_X6_itemsIn_10 hX h0 h1 x2 M x.1 x.2 o hh hP hE hR) (fun z_8 h => ?_) (fun q h => ?_)
  · show V X 0 0 (Qn X (some (vi r)) M) 36 [none, none, none, some (vi z_8), none] [] M
    refine x_iloadn hX dX6_itemsIn_36 rfl ?_
    cases h
    exact x_iret hX dX6_itemsIn_37 rfl
  · cases h; rfl
set_option maxRecDepth 100000 in
set_option maxHeartbeats 4000000 in
theorem tj_X6_findAisles_50_12 {X : Cxt} (hX : Gd X RX6 cX6_findAisles 4 (none) 2) {th : Nat} (h0 : at_ (xG X) th 16 0) {a1 : Nat} (h1 : at_ (xG X) a1 13 0)  (x2 : Int) (x3 : Int) (M : Mem) {Q : State → Prop} (o : (Int × Mem) ⊕ ((Mem) ⊕ (Mem))) (h : j_X6_findAisles_50_12 th a1 x2 x3 M = some o) (hP : ∀ y, o = .inl y → V X 0 0 Q 12 [some (vr (xG X) th), some (vr (xG X) a1), some (vi x2), some (vi y.1)] [] y.2) (hE : ∀ z, o = .inr (.inl z) → V X 0 0 Q 56 [none, none, none, none] [] z) (hR : ∀ q, o = .inr (.inr q) → Q = Qn X none q) : V X 0 0 Q 50 [some (vr (xG X) th), some (vr (xG X) a1), some (vi x2), some (vi x3)] [] M := by
  unfold j_X6_findAisles_50_12 at h
  obtain ⟨x3_7, ex3_7, h⟩ := bnd_of h
  refine x_iinc (ls' := [some (vr (xG X) th), some (vr (xG X) a1), some (vi x2), some (vi x3_7)]) hX dX6_findAisles_50 rfl rfl ex3_7 rfl ?_
  refine x_goto (tgt := 12) hX dX6_findAisles_53 (by decide) ?_
  exact x_weak [true, true, true, true] rfl (hP (x3_7, M) (Option.some.inj h).symm)
set_option maxRecDepth 100000 in
set_option maxHeartbeats 4000000 in
theorem ts_X6_findAisles_12 {X : Cxt} (hX : Gd X RX6 cX6_findAisles 4 (none) 2) {th : Nat} (h0 : at_ (xG X) th 16 0) {a1 : Nat} (h1 : at_ (xG X) a1 13 0) (x2 : Int) (x3 : Int) (M : Mem) {Q : State → Prop} (o : (Int × Mem) ⊕ ((Mem) ⊕ (Mem))) (h : s_X6_findAisles_12 th a1 x2 x3 M = some o) (hP : ∀ y, o = .inl y → V X 0 0 Q 12 [some (vr (xG X) th), some (vr (xG X) a1), some (vi x2), some (vi y.1)] [] y.2) (hE : ∀ z, o = .inr (.inl z) → V X 0 0 Q 56 [none, none, none, none] [] z) (hR : ∀ q, o = .inr (.inr q) → Q = Qn X none q) : V X 0 0 Q 12 [some (vr (xG X) th), some (vr (xG X) a1), some (vi x2), some (vi x3)] [] M := by
  unfold s_X6_findAisles_12 at h
  refine x_iloadn hX dX6_findAisles_12 rfl ?_
  refine x_aloadn hX dX6_findAisles_13 rfl ?_
  refine x_iloadn hX dX6_findAisles_14 rfl ?_
  obtain ⟨r_4, er_4, h⟩ := cl1_of h
  refine x_callVi (t := 3) (As := [vi x2]) (rest := [vi x3]) hX dX6_findAisles_15 (c_X3_endOf (gk hX) (gl hX) h1 x2 M _ er_4) kX3_endOf vX3_endOf w_634 h1 rfl rfl rfl rfl (Nat.le_of_ble_eq_true rfl) z0 ?_
  refine x_icmp_ge (tgt := 56) hX dX6_findAisles_18 (by decide) rfl rfl (fun hc => ?_) (fun hc => ?_)
  · replace h := (if_pos hc).symm.trans h
    refine x_aloadn hX dX6_findAisles_21 rfl ?_
    refine x_getRj (j := th + 1) hX dX6_findAisles_22 fl_X6_9 rfl h0 rfl ?_
    refine x_iloadn hX dX6_findAisles_25 rfl ?_
    obtain ⟨b_6, h⟩ := gi_of h
    refine x_iald hX dX6_findAisles_26 (fo_6_2 (gk hX) h0) b_6 rfl ?_
    refine x_if_eq (tgt := 50) hX dX6_findAisles_27 (by decide) rfl (fun hc => ?_) (fun hc => ?_)
    · replace h := (if_pos hc).symm.trans h
      exact x_weak [true, true, true, true] rfl (tj_X6_findAisles_50_12 hX h0 h1 x2 x3 M o h hP hE hR)
    · replace h := (if_neg hc).symm.trans h
      refine x_aloadn hX dX6_findAisles_30 rfl ?_
      refine x_getRj (j := th + 5) hX dX6_findAisles_31 fl_X6_24 rfl h0 rfl ?_
      refine x_aloadn hX dX6_findAisles_34 rfl ?_
      refine x_getI hX dX6_findAisles_35 fl_X6_107 rfl h0 ?_
      refine x_iloadn hX dX6_findAisles_38 rfl ?_
      obtain ⟨b_9, h⟩ := gi_of h
      obtain ⟨M_8, eM_8, h⟩ := bnd_of h
      refine x_iast hX dX6_findAisles_39 (fo_6_7 (gk hX) h0) b_9 rfl (x_meq eM_8 ?_)
      refine x_aloadn hX dX6_findAisles_40 rfl ?_
      refine x_dup hX dX6_findAisles_41 rfl ?_
      refine x_getI hX dX6_findAisles_42 fl_X6_107 rfl h0 ?_
      refine x_iconst hX dX6_findAisles_45 ?_
      refine x_iadd hX dX6_findAisles_46 ?_
      obtain ⟨M_10, eM_10, h⟩ := bnd_of h
      refine x_putI hX dX6_findAisles_47 fp_X6_107 rfl h0 (x_meq eM_10 ?_)
      exact x_weak [true, true, true, true] rfl (tj_X6_findAisles_50_12 hX h0 h1 x2 x3 M_10 o h hP hE hR)
  · replace h := (if_neg hc).symm.trans h
    exact x_weak [false, false, false, false] rfl (hE M (Option.some.inj h).symm)
set_option maxRecDepth 100000 in
set_option maxHeartbeats 4000000 in
theorem c_X6_findAisles {l : Launch} {G : Gx} (hG : GOK G) (hl : l.stackTraces = false) {th : Nat} (h0 : at_ G th 16 0) {a1 : Nat} (h1 : at_ G a1 13 0) (x2 : Int) (M : Mem) (Mr : Mem) (h : f_X6_findAisles th a1 x2 M = some Mr) : Cn l G mX6_findAisles 2 [vr G th, vr G a1, vi x2] M none Mr := by
  refine Cn_of2 (ls := [some (vr G th), some (vr G a1), some (vi x2), none]) hG hl kX6_findAisles rfl (Nat.le_of_ble_eq_true rfl) rfl rfl rfl rfl rfl (fun X eG el hX => ?_)
  subst eG; subst el
  unfold f_X6_findAisles at h
  refine x_aloadn hX dX6_findAisles_0 rfl ?_
  refine x_iconst hX dX6_findAisles_1 ?_
  obtain ⟨M_1, eM_1, h⟩ := bnd_of h
  refine x_putI hX dX6_findAisles_2 fp_X6_107 rfl h0 (x_meq eM_1 ?_)
  refine x_aloadn hX dX6_findAisles_5 rfl ?_
  refine x_getRj (j := a1 + 1) hX dX6_findAisles_6 fl_X6_97 rfl h1 rfl ?_
  refine x_iloadn hX dX6_findAisles_9 rfl ?_
  obtain ⟨b_2, h⟩ := gi_of h
  refine x_iald hX dX6_findAisles_10 (fo_3_4 (gk hX) h1) b_2 rfl ?_
  obtain ⟨x3_3, ex3_3, h⟩ := bnd_of h
  refine x_istoren (ls' := [some (vr (xG X) th), some (vr (xG X) a1), some (vi x2), some (vi x3_3)]) hX dX6_findAisles_11 rfl ex3_3 rfl ?_
  refine x_weak (ls' := [some (vr (xG X) th), some (vr (xG X) a1), some (vi x2), some (vi x3_3)]) [true, true, true, true] rfl ?_
  refine lp_use (x := (x3_3, M_1)) (P := fun x => V X 0 0 (Qn X none Mr) 12 [some (vr (xG X) th), some (vr (xG X) a1), some (vi x2), some (vi x.1)] [] x.2) (PE := fun z_11 => V X 0 0 (Qn X none Mr) 56 [none, none, none, none] [] z_11) (PR := fun q => (Qn X none Mr) = Qn X none q) h (fun x o hh hP hE hR => ts_X6_findAisles_12 hX h0 h1 x2 x.1 x.2 o hh hP hE hR) (fun z_11 h => ?_) (fun q h => ?_)
  · show V X 0 0 (Qn X none Mr) 56 [none, none, none, none] [] z_11
    cases h
    exact x_vret hX dX6_findAisles_56 rfl
  · cases h; rfl
set_option maxRecDepth 100000 in
set_option maxHeartbeats 4000000 in
theorem ts_X6_largestGapCost_22 {X : Cxt} (hX : Gd X RX6 cX6_largestGapCost 3 (some .int) 2) {th : Nat} (h0 : at_ (xG X) th 16 0) (x1 : Int) (x2 : Int) (M : Mem) {Q : State → Prop} (o : (Int × Int × Mem) ⊕ ((Int × Mem) ⊕ (Int × Mem))) (h : s_X6_largestGapCost_22 th x1 x2 M = some o) (hP : ∀ y, o = .inl y → V X 0 0 Q 22 [some (vr (xG X) th), some (vi y.1), some (vi y.2.1)] [] y.2.2) (hE : ∀ z, o = .inr (.inl z) → V X 0 0 Q 62 [none, some (vi z.1), none] [] z.2) (hR : ∀ q, o = .inr (.inr q) → Q = Qn X (some (vi q.1)) q.2) : V X 0 0 Q 22 [some (vr (xG X) th), some (vi x1), some (vi x2)] [] M := by
  unfold s_X6_largestGapCost_22 at h
  refine x_iloadn hX dX6_largestGapCost_22 rfl ?_
  refine x_aloadn hX dX6_largestGapCost_23 rfl ?_
  refine x_getI hX dX6_largestGapCost_24 fl_X6_107 rfl h0 ?_
  refine x_iconst hX dX6_largestGapCost_27 ?_
  refine x_isub hX dX6_largestGapCost_28 ?_
  refine x_icmp_ge (tgt := 62) hX dX6_largestGapCost_29 (by decide) rfl rfl (fun hc => ?_) (fun hc => ?_)
  · replace h := (if_pos hc).symm.trans h
    refine x_aloadn hX dX6_largestGapCost_32 rfl ?_
    refine x_aloadn hX dX6_largestGapCost_33 rfl ?_
    refine x_getRj (j := th + 5) hX dX6_largestGapCost_34 fl_X6_24 rfl h0 rfl ?_
    refine x_iloadn hX dX6_largestGapCost_37 rfl ?_
    obtain ⟨b_4, h⟩ := gi_of h
    refine x_iald hX dX6_largestGapCost_38 (fo_6_7 (gk hX) h0) b_4 rfl ?_
    obtain ⟨M_6, er_5, h⟩ := cl1_of h
    refine x_callVv (t := 6) (As := [vi (M (th + 5) (ix x2))]) (rest := []) hX dX6_largestGapCost_39 (c_X6_findLargestGap (gk hX) (gl hX) h0 (M (th + 5) (ix x2)) M _ er_5) kX6_findLargestGap vX6_findLargestGap w_650 h0 rfl rfl rfl rfl (Nat.le_of_ble_eq_true rfl) z0 ?_
    refine x_iloadn hX dX6_largestGapCost_42 rfl ?_
    refine x_iconst hX dX6_largestGapCost_43 ?_
    refine x_aloadn hX dX6_largestGapCost_44 rfl ?_
    refine x_getI hX dX6_largestGapCost_45 fl_X6_55 rfl h0 ?_
    refine x_aloadn hX dX6_largestGapCost_48 rfl ?_
    refine x_getI hX dX6_largestGapCost_49 fl_X6_130 rfl h0 ?_
    refine x_isub hX dX6_largestGapCost_52 ?_
    refine x_imul hX dX6_largestGapCost_53 ?_
    refine x_iadd hX dX6_largestGapCost_54 ?_
    obtain ⟨x1_7, ex1_7, h⟩ := bnd_of h
    refine x_istoren (ls' := [some (vr (xG X) th), some (vi x1_7), some (vi x2)]) hX dX6_largestGapCost_55 rfl ex1_7 rfl ?_
    obtain ⟨x2_8, ex2_8, h⟩ := bnd_of h
    refine x_iinc (ls' := [some (vr (xG X) th), some (vi x1_7), some (vi x2_8)]) hX dX6_largestGapCost_56 rfl rfl ex2_8 rfl ?_
    refine x_goto (tgt := 22) hX dX6_largestGapCost_59 (by decide) ?_
    exact x_weak [true, true, true] rfl (hP (x1_7, x2_8, M_6) (Option.some.inj h).symm)
  · replace h := (if_neg hc).symm.trans h
    exact x_weak [false, true, false] rfl (hE (x1, M) (Option.some.inj h).symm)
set_option maxRecDepth 100000 in
set_option maxHeartbeats 4000000 in
theorem c_X6_largestGapCost {l : Launch} {G : Gx} (hG : GOK G) (hl : l.stackTraces = false) {th : Nat} (h0 : at_ G th 16 0) (M : Mem) (r : Int) (Mr : Mem) (h : f_X6_largestGapCost th M = some (r, Mr)) : Cn l G mX6_largestGapCost 2 [vr G th] M (some (vi r)) Mr := by
  refine Cn_of2 (ls := [some (vr G th), none, none]) hG hl kX6_largestGapCost rfl (Nat.le_of_ble_eq_true rfl) rfl rfl rfl rfl rfl (fun X eG el hX => ?_)
  subst eG; subst el
  unfold f_X6_largestGapCost at h
  refine x_aloadn hX dX6_largestGapCost_0 rfl ?_
  refine x_getI hX dX6_largestGapCost_1 fl_X6_107 rfl h0 ?_
  refine x_iconst hX dX6_largestGapCost_4 ?_
  refine x_icmp_ge (tgt := 13) hX dX6_largestGapCost_5 (by decide) rfl cw_2 (fun hc => ?_) (fun hc => ?_)
  · replace h := (if_pos hc).symm.trans h
    refine x_aloadn hX dX6_largestGapCost_8 rfl ?_
    obtain ⟨r_1, er_1, h⟩ := cl1_of h
    refine x_callVi (t := 6) (As := []) (rest := []) hX dX6_largestGapCost_9 (c_X6_returnCost (gk hX) (gl hX) h0 M _ er_1) kX6_returnCost vX6_returnCost w_646 h0 rfl rfl rfl rfl (Nat.le_of_ble_eq_true rfl) z0 ?_
    cases h
    exact x_iret hX dX6_largestGapCost_12 rfl
  · replace h := (if_neg hc).symm.trans h
    refine x_iconst hX dX6_largestGapCost_13 ?_
    refine x_aloadn hX dX6_largestGapCost_14 rfl ?_
    refine x_getI hX dX6_largestGapCost_15 fl_X6_55 rfl h0 ?_
    refine x_imul hX dX6_largestGapCost_18 ?_
    obtain ⟨x1_3, ex1_3, h⟩ := bnd_of h
    refine x_istoren (ls' := [some (vr (xG X) th), some (vi x1_3), none]) hX dX6_largestGapCost_19 rfl ex1_3 rfl ?_
    refine x_iconst hX dX6_largestGapCost_20 ?_
    refine x_istoren (ls' := [some (vr (xG X) th), some (vi x1_3), some (vi 1)]) hX dX6_largestGapCost_21 rfl rfl rfl ?_
    refine x_weak (ls' := [some (vr (xG X) th), some (vi x1_3), some (vi 1)]) [true, true, true] rfl ?_
    refine lp_use (x := (x1_3, 1, M)) (P := fun x => V X 0 0 (Qn X (some (vi r)) Mr) 22 [some (vr (xG X) th), some (vi x.1), some (vi x.2.1)] [] x.2.2) (PE := fun z_9 => V X 0 0 (Qn X (some (vi r)) Mr) 62 [none, some (vi z_9.1), none] [] z_9.2) (PR := fun q => (Qn X (some (vi r)) Mr) = Qn X (some (vi q.1)) q.2) h (fun x o hh hP hE hR => ts_X6_largestGapCost_22 hX h0 x.1 x.2.1 x.2.2 o hh hP hE hR) (fun z_9 h => ?_) (fun q h => ?_)
    · show V X 0 0 (Qn X (some (vi r)) Mr) 62 [none, some (vi z_9.1), none] [] z_9.2
      refine x_iloadn hX dX6_largestGapCost_62 rfl ?_
      cases h
      exact x_iret hX dX6_largestGapCost_63 rfl
    · cases h; rfl
set_option maxRecDepth 100000 in
set_option maxHeartbeats 4000000 in
theorem ts_X6_planCombined_28 {X : Cxt} (hX : Gd X RX6 cX6_planCombined 2 (none) 2) {th : Nat} (h0 : at_ (xG X) th 16 0) (x1 : Int) (M : Mem) {Q : State → Prop} (o : (Int × Mem) ⊕ ((Mem) ⊕ (Mem))) (h : s_X6_planCombined_28 th x1 M = some o) (hP : ∀ y, o = .inl y → V X 0 0 Q 28 [some (vr (xG X) th), some (vi y.1)] [] y.2) (hE : ∀ z, o = .inr (.inl z) → V X 0 0 Q 80 [none, none] [] z) (hR : ∀ q, o = .inr (.inr q) → Q = Qn X none q) : V X 0 0 Q 28 [some (vr (xG X) th), some (vi x1)] [] M := by
  unfold s_X6_planCombined_28 at h
  refine x_iloadn hX dX6_planCombined_28 rfl ?_
  refine x_if_lt (tgt := 80) hX dX6_planCombined_29 (by decide) rfl (fun hc => ?_) (fun hc => ?_)
  · replace h := (if_pos hc).symm.trans h
    exact x_weak [false, false] rfl (hE M (Option.some.inj h).symm)
  · replace h := (if_neg hc).symm.trans h
    refine x_aloadn hX dX6_planCombined_32 rfl ?_
    refine x_getRj (j := th + 6) hX dX6_planCombined_33 fl_X6_27 rfl h0 rfl ?_
    refine x_iloadn hX dX6_planCombined_36 rfl ?_
    refine x_aloadn hX dX6_planCombined_37 rfl ?_
    refine x_iloadn hX dX6_planCombined_38 rfl ?_
    refine x_iconst hX dX6_planCombined_39 ?_
    obtain ⟨r_6, er_6, h⟩ := cl1_of h
    refine x_callVi (t := 6) (As := [vi x1, vi 0]) (rest := [vi x1, vr (xG X) (th + 6)]) hX dX6_planCombined_40 (c_X6_stayingCost (gk hX) (gl hX) h0 x1 0 M _ er_6) kX6_stayingCost vX6_stayingCost w_659 h0 rfl rfl rfl rfl (Nat.le_of_ble_eq_true rfl) z0 ?_
    refine x_aloadn hX dX6_planCombined_43 rfl ?_
    refine x_iloadn hX dX6_planCombined_44 rfl ?_
    refine x_iconst hX dX6_planCombined_45 ?_
    obtain ⟨r_8, er_8, h⟩ := cl1_of h
    refine x_callVi (t := 6) (As := [vi x1, vi 0]) (rest := [vi r_6, vi x1, vr (xG X) (th + 6)]) hX dX6_planCombined_46 (c_X6_crossingCost (gk hX) (gl hX) h0 x1 0 M _ er_8) kX6_crossingCost vX6_crossingCost w_663 h0 rfl rfl rfl rfl (Nat.le_of_ble_eq_true rfl) z0 ?_
    refine x_min (st := [vi x1, vr (xG X) (th + 6)]) hX dX6_planCombined_49 minw_X6_77 (Nat.le_of_ble_eq_true rfl) z0 ?_
    obtain ⟨b_11, h⟩ := gi_of h
    obtain ⟨M_10, eM_10, h⟩ := bnd_of h
    refine x_iast hX dX6_planCombined_52 (fo_6_10 (gk hX) h0) b_11 rfl (x_meq eM_10 ?_)
    refine x_aloadn hX dX6_planCombined_53 rfl ?_
    refine x_getRj (j := th + 7) hX dX6_planCombined_54 fl_X6_30 rfl h0 rfl ?_
    refine x_iloadn hX dX6_planCombined_57 rfl ?_
    refine x_aloadn hX dX6_planCombined_58 rfl ?_
    refine x_iloadn hX dX6_planCombined_59 rfl ?_
    refine x_iconst hX dX6_planCombined_60 ?_
    obtain ⟨r_12, er_12, h⟩ := cl1_of h
    refine x_callVi (t := 6) (As := [vi x1, vi 1]) (rest := [vi x1, vr (xG X) (th + 7)]) hX dX6_planCombined_61 (c_X6_stayingCost (gk hX) (gl hX) h0 x1 1 M_10 _ er_12) kX6_stayingCost vX6_stayingCost w_659 h0 rfl rfl rfl rfl (Nat.le_of_ble_eq_true rfl) z0 ?_
    refine x_aloadn hX dX6_planCombined_64 rfl ?_
    refine x_iloadn hX dX6_planCombined_65 rfl ?_
    refine x_iconst hX dX6_planCombined_66 ?_
    obtain ⟨r_14, er_14, h⟩ := cl1_of h
    refine x_callVi (t := 6) (As := [vi x1, vi 1]) (rest := [vi r_12, vi x1, vr (xG X) (th + 7)]) hX dX6_planCombined_67 (c_X6_crossingCost (gk hX) (gl hX) h0 x1 1 M_10 _ er_14) kX6_crossingCost vX6_crossingCost w_663 h0 rfl rfl rfl rfl (Nat.le_of_ble_eq_true rfl) z0 ?_
    refine x_min (st := [vi x1, vr (xG X) (th + 7)]) hX dX6_planCombined_70 minw_X6_77 (Nat.le_of_ble_eq_true rfl) z0 ?_
    obtain ⟨b_17, h⟩ := gi_of h
    obtain ⟨M_16, eM_16, h⟩ := bnd_of h
    refine x_iast hX dX6_planCombined_73 (fo_6_11 (gk hX) h0) b_17 rfl (x_meq eM_16 ?_)
    obtain ⟨x1_18, ex1_18, h⟩ := bnd_of h
    refine x_iinc (ls' := [some (vr (xG X) th), some (vi x1_18)]) hX dX6_planCombined_74 rfl rfl ex1_18 rfl ?_
    refine x_goto (tgt := 28) hX dX6_planCombined_77 (by decide) ?_
    exact x_weak [true, true] rfl (hP (x1_18, M_16) (Option.some.inj h).symm)
set_option maxRecDepth 100000 in
set_option maxHeartbeats 4000000 in
theorem c_X6_planCombined {l : Launch} {G : Gx} (hG : GOK G) (hl : l.stackTraces = false) {th : Nat} (h0 : at_ G th 16 0) (M : Mem) (Mr : Mem) (h : f_X6_planCombined th M = some Mr) : Cn l G mX6_planCombined 2 [vr G th] M none Mr := by
  refine Cn_of2 (ls := [some (vr G th), none]) hG hl kX6_planCombined rfl (Nat.le_of_ble_eq_true rfl) rfl rfl rfl rfl rfl (fun X eG el hX => ?_)
  subst eG; subst el
  unfold f_X6_planCombined at h
  refine x_aloadn hX dX6_planCombined_0 rfl ?_
  refine x_getRj (j := th + 6) hX dX6_planCombined_1 fl_X6_27 rfl h0 rfl ?_
  refine x_aloadn hX dX6_planCombined_4 rfl ?_
  refine x_getI hX dX6_planCombined_5 fl_X6_107 rfl h0 ?_
  refine x_iconst hX dX6_planCombined_8 ?_
  obtain ⟨b_2, h⟩ := gi_of h
  obtain ⟨M_1, eM_1, h⟩ := bnd_of h
  refine x_iast hX dX6_planCombined_9 (fo_6_10 (gk hX) h0) b_2 rfl (x_meq eM_1 ?_)
  refine x_aloadn hX dX6_planCombined_10 rfl ?_
  refine x_getRj (j := th + 7) hX dX6_planCombined_11 fl_X6_30 rfl h0 rfl ?_
  refine x_aloadn hX dX6_planCombined_14 rfl ?_
  refine x_getI hX dX6_planCombined_15 fl_X6_107 rfl h0 ?_
  refine x_ldc hX dX6_planCombined_18 w_658 ?_
  obtain ⟨b_4, h⟩ := gi_of h
  obtain ⟨M_3, eM_3, h⟩ := bnd_of h
  refine x_iast hX dX6_planCombined_20 (fo_6_11 (gk hX) h0) b_4 rfl (x_meq eM_3 ?_)
  refine x_aloadn hX dX6_planCombined_21 rfl ?_
  refine x_getI hX dX6_planCombined_22 fl_X6_107 rfl h0 ?_
  refine x_iconst hX dX6_planCombined_25 ?_
  refine x_isub hX dX6_planCombined_26 ?_
  obtain ⟨x1_5, ex1_5, h⟩ := bnd_of h
  refine x_istoren (ls' := [some (vr (xG X) th), some (vi x1_5)]) hX dX6_planCombined_27 rfl ex1_5 rfl ?_
  refine x_weak (ls' := [some (vr (xG X) th), some (vi x1_5)]) [true, true] rfl ?_
  refine lp_use (x := (x1_5, M_3)) (P := fun x => V X 0 0 (Qn X none Mr) 28 [some (vr (xG X) th), some (vi x.1)] [] x.2) (PE := fun z_19 => V X 0 0 (Qn X none Mr) 80 [none, none] [] z_19) (PR := fun q => (Qn X none Mr) = Qn X none q) h (fun x o hh hP hE hR => ts_X6_planCombined_28 hX h0 x.1 x.2 o hh hP hE hR) (fun z_19 h => ?_) (fun q h => ?_)
  · show V X 0 0 (Qn X none Mr) 80 [none, none] [] z_19
    cases h
    exact x_vret hX dX6_planCombined_80 rfl
  · cases h; rfl
set_option maxRecDepth 100000 in
set_option maxHeartbeats 4000000 in
theorem ts_X6_visitUp_3 {X : Cxt} (hX : Gd X RX6 cX6_visitUp 5 (none) 2) {th : Nat} (h0 : at_ (xG X) th 16 0) {a1 : Nat} (h1 : at_ (xG X) a1 11 0) (x2 : Int) (x3 : Int) (x4 : Int) (M : Mem) {Q : State → Prop} (o : (Int × Mem) ⊕ ((Mem) ⊕ (Mem))) (h : s_X6_visitUp_3 th a1 x2 x3 x4 M = some o) (hP : ∀ y, o = .inl y → V X 0 0 Q 3 [some (vr (xG X) th), some (vr (xG X) a1), some (vi x2), some (vi x3), some (vi y.1)] [] y.2) (hE : ∀ z, o = .inr (.inl z) → V X 0 0 Q 23 [none, none, none, none, none] [] z) (hR : ∀ q, o = .inr (.inr q) → Q = Qn X none q) : V X 0 0 Q 3 [some (vr (xG X) th), some (vr (xG X) a1), some (vi x2), some (vi x3), some (vi x4)] [] M := by
  unfold s_X6_visitUp_3 at h
  refine x_iload hX dX6_visitUp_3 rfl ?_
  refine x_iloadn hX dX6_visitUp_5 rfl ?_
  refine x_icmp_gt (tgt := 23) hX dX6_visitUp_6 (by decide) rfl rfl (fun hc => ?_) (fun hc => ?_)
  · replace h := (if_pos hc).symm.trans h
    exact x_weak [false, false, false, false, false] rfl (hE M (Option.some.inj h).symm)
  · replace h := (if_neg hc).symm.trans h
    refine x_aloadn hX dX6_visitUp_9 rfl ?_
    refine x_aloadn hX dX6_visitUp_10 rfl ?_
    refine x_iloadn hX dX6_visitUp_11 rfl ?_
    refine x_iload hX dX6_visitUp_12 rfl ?_
    obtain ⟨M_2, er_1, h⟩ := cl1_of h
    refine x_callVv (t := 6) (As := [vr (xG X) a1, vi x2, vi x4]) (rest := []) hX dX6_visitUp_14 (c_X6_visitPlace (gk hX) (gl hX) h0 h1 x2 x4 M _ er_1) kX6_visitPlace vX6_visitPlace w_1475 h0 rfl rfl rfl rfl (Nat.le_of_ble_eq_true rfl) z0 ?_
    obtain ⟨x4_3, ex4_3, h⟩ := bnd_of h
    refine x_iinc (ls' := [some (vr (xG X) th), some (vr (xG X) a1), some (vi x2), some (vi x3), some (vi x4_3)]) hX dX6_visitUp_17 rfl rfl ex4_3 rfl ?_
    refine x_goto (tgt := 3) hX dX6_visitUp_20 (by decide) ?_
    exact x_weak [true, true, true, true, true] rfl (hP (x4_3, M_2) (Option.some.inj h).symm)
set_option maxRecDepth 100000 in
set_option maxHeartbeats 4000000 in
theorem c_X6_visitUp {l : Launch} {G : Gx} (hG : GOK G) (hl : l.stackTraces = false) {th : Nat} (h0 : at_ G th 16 0) {a1 : Nat} (h1 : at_ G a1 11 0) (x2 : Int) (x3 : Int) (M : Mem) (Mr : Mem) (h : f_X6_visitUp th a1 x2 x3 M = some Mr) : Cn l G mX6_visitUp 2 [vr G th, vr G a1, vi x2, vi x3] M none Mr := by
  refine Cn_of2 (ls := [some (vr G th), some (vr G a1), some (vi x2), some (vi x3), none]) hG hl kX6_visitUp rfl (Nat.le_of_ble_eq_true rfl) rfl rfl rfl rfl rfl (fun X eG el hX => ?_)
  subst eG; subst el
  unfold f_X6_visitUp at h
  refine x_iconst hX dX6_visitUp_0 ?_
  refine x_istore (ls' := [some (vr (xG X) th), some (vr (xG X) a1), some (vi x2), some (vi x3), some (vi 1)]) hX dX6_visitUp_1 rfl rfl rfl ?_
  refine x_weak (ls' := [some (vr (xG X) th), some (vr (xG X) a1), some (vi x2), some (vi x3), some (vi 1)]) [true, true, true, true, true] rfl ?_
  refine lp_use (x := (1, M)) (P := fun x => V X 0 0 (Qn X none Mr) 3 [some (vr (xG X) th), some (vr (xG X) a1), some (vi x2), some (vi x3), some (vi x.1)] [] x.2) (PE := fun z_4 => V X 0 0 (Qn X none Mr) 23 [none, none, none, none, none] [] z_4) (PR := fun q => (Qn X none Mr) = Qn X none q) h (fun x o hh hP hE hR => ts_X6_visitUp_3 hX h0 h1 x2 x3 x.1 x.2 o hh hP hE hR) (fun z_4 h => ?_) (fun q h => ?_)
  · show V X 0 0 (Qn X none Mr) 23 [none, none, none, none, none] [] z_4
    cases h
    exact x_vret hX dX6_visitUp_23 rfl
  · cases h; rfl
set_option maxRecDepth 100000 in
set_option maxHeartbeats 4000000 in
theorem ts_X6_visitDown_4 {X : Cxt} (hX : Gd X RX6 cX6_visitDown 5 (none) 2) {th : Nat} (h0 : at_ (xG X) th 16 0) {a1 : Nat} (h1 : at_ (xG X) a1 11 0) (x2 : Int) (x3 : Int) (x4 : Int) (M : Mem) {Q : State → Prop} (o : (Int × Mem) ⊕ ((Mem) ⊕ (Mem))) (h : s_X6_visitDown_4 th a1 x2 x3 x4 M = some o) (hP : ∀ y, o = .inl y → V X 0 0 Q 4 [some (vr (xG X) th), some (vr (xG X) a1), some (vi x2), some (vi x3), some (vi y.1)] [] y.2) (hE : ∀ z, o = .inr (.inl z) → V X 0 0 Q 24 [none, none, none, none, none] [] z) (hR : ∀ q, o = .inr (.inr q) → Q = Qn X none q) : V X 0 0 Q 4 [some (vr (xG X) th), some (vr (xG X) a1), some (vi x2), some (vi x3), some (vi x4)] [] M := by
  unfold s_X6_visitDown_4 at h
  refine x_iload hX dX6_visitDown_4 rfl ?_
  refine x_iloadn hX dX6_visitDown_6 rfl ?_
  refine x_icmp_lt (tgt := 24) hX dX6_visitDown_7 (by decide) rfl rfl (fun hc => ?_) (fun hc => ?_)
  · replace h := (if_pos hc).symm.trans h
    exact x_weak [false, false, false, false, false] rfl (hE M (Option.some.inj h).symm)
  · replace h := (if_neg hc).symm.trans h
    refine x_aloadn hX dX6_visitDown_10 rfl ?_
    refine x_aloadn hX dX6_visitDown_11 rfl ?_
    refine x_iloadn hX dX6_visitDown_12 rfl ?_
    refine x_iload hX dX6_visitDown_13 rfl ?_
    obtain ⟨M_2, er_1, h⟩ := cl1_of h
    refine x_callVv (t := 6) (As := [vr (xG X) a1, vi x2, vi x4]) (rest := []) hX dX6_visitDown_15 (c_X6_visitPlace (gk hX) (gl hX) h0 h1 x2 x4 M _ er_1) kX6_visitPlace vX6_visitPlace w_1475 h0 rfl rfl rfl rfl (Nat.le_of_ble_eq_true rfl) z0 ?_
    obtain ⟨x4_3, ex4_3, h⟩ := bnd_of h
    refine x_iinc (ls' := [some (vr (xG X) th), some (vr (xG X) a1), some (vi x2), some (vi x3), some (vi x4_3)]) hX dX6_visitDown_18 rfl rfl ex4_3 rfl ?_
    refine x_goto (tgt := 4) hX dX6_visitDown_21 (by decide) ?_
    exact x_weak [true, true, true, true, true] rfl (hP (x4_3, M_2) (Option.some.inj h).symm)
set_option maxRecDepth 100000 in
set_option maxHeartbeats 4000000 in
theorem c_X6_visitDown {l : Launch} {G : Gx} (hG : GOK G) (hl : l.stackTraces = false) {th : Nat} (h0 : at_ G th 16 0) {a1 : Nat} (h1 : at_ G a1 11 0) (x2 : Int) (x3 : Int) (M : Mem) (Mr : Mem) (h : f_X6_visitDown th a1 x2 x3 M = some Mr) : Cn l G mX6_visitDown 2 [vr G th, vr G a1, vi x2, vi x3] M none Mr := by
  refine Cn_of2 (ls := [some (vr G th), some (vr G a1), some (vi x2), some (vi x3), none]) hG hl kX6_visitDown rfl (Nat.le_of_ble_eq_true rfl) rfl rfl rfl rfl rfl (fun X eG el hX => ?_)
  subst eG; subst el
  unfold f_X6_visitDown at h
  refine x_bipush hX dX6_visitDown_0 bp_20 ?_
  refine x_istore (ls' := [some (vr (xG X) th), some (vr (xG X) a1), some (vi x2), some (vi x3), some (vi 20)]) hX dX6_visitDown_2 rfl rfl rfl ?_
  refine x_weak (ls' := [some (vr (xG X) th), some (vr (xG X) a1), some (vi x2), some (vi x3), some (vi 20)]) [true, true, true, true, true] rfl ?_
  refine lp_use (x := (20, M)) (P := fun x => V X 0 0 (Qn X none Mr) 4 [some (vr (xG X) th), some (vr (xG X) a1), some (vi x2), some (vi x3), some (vi x.1)] [] x.2) (PE := fun z_4 => V X 0 0 (Qn X none Mr) 24 [none, none, none, none, none] [] z_4) (PR := fun q => (Qn X none Mr) = Qn X none q) h (fun x o hh hP hE hR => ts_X6_visitDown_4 hX h0 h1 x2 x3 x.1 x.2 o hh hP hE hR) (fun z_4 h => ?_) (fun q h => ?_)
  · show V X 0 0 (Qn X none Mr) 24 [none, none, none, none, none] [] z_4
    cases h
    exact x_vret hX dX6_visitDown_24 rfl
  · cases h; rfl
set_option maxRecDepth 100000 in
set_option maxHeartbeats 4000000 in
theorem tj_X7_run_34_6 {X : Cxt} (hX : Gd X RX7 cX7_run 8 (none) 2) {th : Nat} (h0 : at_ (xG X) th 17 0) {a1 : Nat} (h1 : at_ (xG X) a1 13 0)  (x2 : Int) (x3 : Int) (x4 : Int) (x5 : Int) (y0 : Int) (M : Mem) {Q : State → Prop} (o : (Int × Int × Mem) ⊕ ((Mem) ⊕ (Mem))) (h : j_X7_run_34_6 th a1 x2 x3 x4 x5 y0 M = some o) (hP : ∀ y, o = .inl y → V X 0 0 Q 6 [some (vr (xG X) th), some (vr (xG X) a1), some (vi x2), some (vi x3), some (vi y.1), some (vi y.2.1), none, none] [] y.2.2) (hE : ∀ z, o = .inr (.inl z) → V X 0 0 Q 112 [none, none, none, none, none, none, none, none] [] z) (hR : ∀ q, o = .inr (.inr q) → Q = Qn X none q) : V X 0 0 Q 34 [some (vr (xG X) th), some (vr (xG X) a1), some (vi x2), some (vi x3), some (vi x4), some (vi x5), none, none] [vi y0] M := by
  unfold j_X7_run_34_6 at h
  refine x_istore (ls' := [some (vr (xG X) th), some (vr (xG X) a1), some (vi x2), some (vi x3), some (vi x4), some (vi x5), some (vi y0), none]) hX dX7_run_34 rfl rfl rfl ?_
  refine x_aloadn hX dX7_run_36 rfl ?_
  refine x_getRj (j := th + 10) hX dX7_run_37 fl_X7_16 rfl h0 rfl ?_
  refine x_iloadn hX dX7_run_40 rfl ?_
  obtain ⟨b_1, h⟩ := gi_of h
  refine x_aald2 hX dX7_run_41 (fo_7_1 (gk hX) h0) b_1 ?_
  refine x_iload hX dX7_run_42 rfl ?_
  refine x_iload hX dX7_run_44 rfl ?_
  refine x_iload hX dX7_run_46 rfl ?_
  refine x_max (st := [vi x5, vr (xG X) (th + 10 + 1 + ix x2)]) hX dX7_run_48 maxw_X7_83 (Nat.le_of_ble_eq_true rfl) z0 ?_
  obtain ⟨b_3, h⟩ := gi_of h
  obtain ⟨M_2, eM_2, h⟩ := bnd_of h
  refine x_iast hX dX7_run_51 (ro (gk hX) (fo_7_1 (gk hX) h0) b_1) b_3 rfl (x_meq eM_2 ?_)
  refine x_aloadn hX dX7_run_52 rfl ?_
  refine x_getRj (j := th + 10) hX dX7_run_53 fl_X7_16 rfl h0 rfl ?_
  refine x_iloadn hX dX7_run_56 rfl ?_
  obtain ⟨b_4, h⟩ := gi_of h
  refine x_aald2 hX dX7_run_57 (fo_7_1 (gk hX) h0) b_4 ?_
  refine x_iload hX dX7_run_58 rfl ?_
  obtain ⟨b_5, h⟩ := gi_of h
  refine x_iald hX dX7_run_60 (ro (gk hX) (fo_7_1 (gk hX) h0) b_4) b_5 rfl ?_
  refine x_aloadn hX dX7_run_61 rfl ?_
  refine x_getRj (j := th + 1) hX dX7_run_62 fl_X7_11 rfl h0 rfl ?_
  refine x_iloadn hX dX7_run_65 rfl ?_
  obtain ⟨b_6, h⟩ := gi_of h
  refine x_aald2 hX dX7_run_66 (fo_7_0 (gk hX) h0) b_6 ?_
  refine x_iload hX dX7_run_67 rfl ?_
  obtain ⟨b_7, h⟩ := gi_of h
  refine x_iald hX dX7_run_69 (ro (gk hX) (fo_7_0 (gk hX) h0) b_6) b_7 rfl ?_
  refine x_iadd hX dX7_run_70 ?_
  obtain ⟨x7_8, ex7_8, h⟩ := bnd_of h
  refine x_istore (ls' := [some (vr (xG X) th), some (vr (xG X) a1), some (vi x2), some (vi x3), some (vi x4), some (vi x5), some (vi y0), some (vi x7_8)]) hX dX7_run_71 rfl ex7_8 rfl ?_
  refine x_aloadn hX dX7_run_73 rfl ?_
  refine x_getRj (j := th + 19) hX dX7_run_74 fl_X7_19 rfl h0 rfl ?_
  refine x_iloadn hX dX7_run_77 rfl ?_
  obtain ⟨b_9, h⟩ := gi_of h
  refine x_aald2 hX dX7_run_78 (fo_7_2 (gk hX) h0) b_9 ?_
  refine x_iload hX dX7_run_79 rfl ?_
  refine x_iload hX dX7_run_81 rfl ?_
  refine x_aloadn hX dX7_run_83 rfl ?_
  refine x_aloadn hX dX7_run_84 rfl ?_
  refine x_iloadn hX dX7_run_85 rfl ?_
  refine x_iload hX dX7_run_86 rfl ?_
  obtain ⟨r_10, er_10, h⟩ := cl1_of h
  refine x_callVi (t := 7) (As := [vr (xG X) a1, vi x2, vi x5]) (rest := [vi x7_8, vi x5, vr (xG X) (th + 19 + 1 + ix x2)]) hX dX7_run_88 (c_X7_exitOpens (gk hX) (gl hX) h0 h1 x2 x5 M_2 _ er_10) kX7_exitOpens vX7_exitOpens w_690 h0 rfl rfl rfl rfl (Nat.le_of_ble_eq_true rfl) z0 ?_
  refine x_max (st := [vi x5, vr (xG X) (th + 19 + 1 + ix x2)]) hX dX7_run_91 maxw_X7_83 (Nat.le_of_ble_eq_true rfl) z0 ?_
  obtain ⟨b_13, h⟩ := gi_of h
  obtain ⟨M_12, eM_12, h⟩ := bnd_of h
  refine x_iast hX dX7_run_94 (ro (gk hX) (fo_7_2 (gk hX) h0) b_9) b_13 rfl (x_meq eM_12 ?_)
  refine x_aloadn hX dX7_run_95 rfl ?_
  refine x_getRj (j := th + 19) hX dX7_run_96 fl_X7_19 rfl h0 rfl ?_
  refine x_iloadn hX dX7_run_99 rfl ?_
  obtain ⟨b_14, h⟩ := gi_of h
  refine x_aald2 hX dX7_run_100 (fo_7_2 (gk hX) h0) b_14 ?_
  refine x_iload hX dX7_run_101 rfl ?_
  obtain ⟨b_15, h⟩ := gi_of h
  refine x_iald hX dX7_run_103 (ro (gk hX) (fo_7_2 (gk hX) h0) b_14) b_15 rfl ?_
  obtain ⟨x4_16, ex4_16, h⟩ := bnd_of h
  refine x_istore (ls' := [some (vr (xG X) th), some (vr (xG X) a1), some (vi x2), some (vi x3), some (vi x4_16), some (vi x5), some (vi y0), some (vi x7_8)]) hX dX7_run_104 rfl ex4_16 rfl ?_
  obtain ⟨x5_17, ex5_17, h⟩ := bnd_of h
  refine x_iinc (ls' := [some (vr (xG X) th), some (vr (xG X) a1), some (vi x2), some (vi x3), some (vi x4_16), some (vi x5_17), some (vi y0), some (vi x7_8)]) hX dX7_run_106 rfl rfl ex5_17 rfl ?_
  refine x_goto (tgt := 6) hX dX7_run_109 (by decide) ?_
  exact x_weak [true, true, true, true, true, true, false, false] rfl (hP (x4_16, x5_17, M_12) (Option.some.inj h).symm)
set_option maxRecDepth 100000 in
set_option maxHeartbeats 4000000 in
theorem ts_X7_run_6 {X : Cxt} (hX : Gd X RX7 cX7_run 8 (none) 2) {th : Nat} (h0 : at_ (xG X) th 17 0) {a1 : Nat} (h1 : at_ (xG X) a1 13 0) (x2 : Int) (x3 : Int) (x4 : Int) (x5 : Int) (M : Mem) {Q : State → Prop} (o : (Int × Int × Mem) ⊕ ((Mem) ⊕ (Mem))) (h : s_X7_run_6 th a1 x2 x3 x4 x5 M = some o) (hP : ∀ y, o = .inl y → V X 0 0 Q 6 [some (vr (xG X) th), some (vr (xG X) a1), some (vi x2), some (vi x3), some (vi y.1), some (vi y.2.1), none, none] [] y.2.2) (hE : ∀ z, o = .inr (.inl z) → V X 0 0 Q 112 [none, none, none, none, none, none, none, none] [] z) (hR : ∀ q, o = .inr (.inr q) → Q = Qn X none q) : V X 0 0 Q 6 [some (vr (xG X) th), some (vr (xG X) a1), some (vi x2), some (vi x3), some (vi x4), some (vi x5), none, none] [] M := by
  unfold s_X7_run_6 at h
  refine x_iload hX dX7_run_6 rfl ?_
  refine x_aloadn hX dX7_run_8 rfl ?_
  refine x_getI hX dX7_run_9 fl_X7_53 rfl h1 ?_
  refine x_icmp_ge (tgt := 112) hX dX7_run_12 (by decide) rfl rfl (fun hc => ?_) (fun hc => ?_)
  · replace h := (if_pos hc).symm.trans h
    refine x_iloadn hX dX7_run_15 rfl ?_
    refine x_if_ne (tgt := 23) hX dX7_run_16 (by decide) rfl (fun hc => ?_) (fun hc => ?_)
    · replace h := (if_pos hc).symm.trans h
      refine x_iconst hX dX7_run_19 ?_
      refine x_goto (tgt := 34) hX dX7_run_20 (by decide) ?_
      exact x_weak [true, true, true, true, true, true, false, false] rfl (tj_X7_run_34_6 hX h0 h1 x2 x3 x4 x5 0 M o h hP hE hR)
    · replace h := (if_neg hc).symm.trans h
      refine x_aloadn hX dX7_run_23 rfl ?_
      refine x_getRj (j := th + 19) hX dX7_run_24 fl_X7_19 rfl h0 rfl ?_
      refine x_iloadn hX dX7_run_27 rfl ?_
      refine x_iconst hX dX7_run_28 ?_
      refine x_isub hX dX7_run_29 ?_
      obtain ⟨b_18, h⟩ := gi_of h
      refine x_aald2 hX dX7_run_30 (fo_7_2 (gk hX) h0) b_18 ?_
      refine x_iload hX dX7_run_31 rfl ?_
      obtain ⟨b_19, h⟩ := gi_of h
      refine x_iald hX dX7_run_33 (ro (gk hX) (fo_7_2 (gk hX) h0) b_18) b_19 rfl ?_
      exact x_weak [true, true, true, true, true, true, false, false] rfl (tj_X7_run_34_6 hX h0 h1 x2 x3 x4 x5 (M (th + 19 + 1 + ix (x2 - 1)) (ix x5)) M o h hP hE hR)
  · replace h := (if_neg hc).symm.trans h
    exact x_weak [false, false, false, false, false, false, false, false] rfl (hE M (Option.some.inj h).symm)
set_option maxRecDepth 100000 in
set_option maxHeartbeats 4000000 in
theorem c_X7_run {l : Launch} {G : Gx} (hG : GOK G) (hl : l.stackTraces = false) {th : Nat} (h0 : at_ G th 17 0) {a1 : Nat} (h1 : at_ G a1 13 0) (x2 : Int) (x3 : Int) (M : Mem) (Mr : Mem) (h : f_X7_run th a1 x2 x3 M = some Mr) : Cn l G mX7_run 2 [vr G th, vr G a1, vi x2, vi x3] M none Mr := by
  refine Cn_of2 (ls := [some (vr G th), some (vr G a1), some (vi x2), some (vi x3), none, none, none, none]) hG hl kX7_run rfl (Nat.le_of_ble_eq_true rfl) rfl rfl rfl rfl rfl (fun X eG el hX => ?_)
  subst eG; subst el
  unfold f_X7_run at h
  refine x_iconst hX dX7_run_0 ?_
  refine x_istore (ls' := [some (vr (xG X) th), some (vr (xG X) a1), some (vi x2), some (vi x3), some (vi 0), none, none, none]) hX dX7_run_1 rfl rfl rfl ?_
  refine x_iconst hX dX7_run_3 ?_
  refine x_istore (ls' := [some (vr (xG X) th), some (vr (xG X) a1), some (vi x2), some (vi x3), some (vi 0), some (vi 0), none, none]) hX dX7_run_4 rfl rfl rfl ?_
  refine x_weak (ls' := [some (vr (xG X) th), some (vr (xG X) a1), some (vi x2), some (vi x3), some (vi 0), some (vi 0), none, none]) [true, true, true, true, true, true, false, false] rfl ?_
  refine lp_use (x := (0, 0, M)) (P := fun x => V X 0 0 (Qn X none Mr) 6 [some (vr (xG X) th), some (vr (xG X) a1), some (vi x2), some (vi x3), some (vi x.1), some (vi x.2.1), none, none] [] x.2.2) (PE := fun z_20 => V X 0 0 (Qn X none Mr) 112 [none, none, none, none, none, none, none, none] [] z_20) (PR := fun q => (Qn X none Mr) = Qn X none q) h (fun x o hh hP hE hR => ts_X7_run_6 hX h0 h1 x2 x3 x.1 x.2.1 x.2.2 o hh hP hE hR) (fun z_20 h => ?_) (fun q h => ?_)
  · show V X 0 0 (Qn X none Mr) 112 [none, none, none, none, none, none, none, none] [] z_20
    cases h
    exact x_vret hX dX7_run_112 rfl
  · cases h; rfl
set_option maxRecDepth 100000 in
set_option maxHeartbeats 4000000 in
theorem tj_X8_candidatesIn_40_4 {X : Cxt} (hX : Gd X RX8 cX8_candidatesIn 4 (some .int) 2) {a0 : Nat} (h0 : at_ (xG X) a0 11 0)  (x1 : Int) (x2 : Int) (x3 : Int) (M : Mem) {Q : State → Prop} (o : (Int × Int) ⊕ ((Int) ⊕ (Int))) (h : j_X8_candidatesIn_40_4 a0 x1 x2 x3 M = some o) (hP : ∀ y, o = .inl y → V X 0 0 Q 4 [some (vr (xG X) a0), some (vi x1), some (vi y.1), some (vi y.2)] [] M) (hE : ∀ z, o = .inr (.inl z) → V X 0 0 Q 46 [none, none, some (vi z), none] [] M) (hR : ∀ q, o = .inr (.inr q) → Q = Qn X (some (vi q)) M) : V X 0 0 Q 40 [some (vr (xG X) a0), some (vi x1), some (vi x2), some (vi x3)] [] M := by
  unfold j_X8_candidatesIn_40_4 at h
  obtain ⟨x3_3, ex3_3, h⟩ := bnd_of h
  refine x_iinc (ls' := [some (vr (xG X) a0), some (vi x1), some (vi x2), some (vi x3_3)]) hX dX8_candidatesIn_40 rfl rfl ex3_3 rfl ?_
  refine x_goto (tgt := 4) hX dX8_candidatesIn_43 (by decide) ?_
  exact x_weak [true, true, true, true] rfl (hP (x2, x3_3) (Option.some.inj h).symm)
set_option maxRecDepth 100000 in
set_option maxHeartbeats 4000000 in
theorem ts_X8_candidatesIn_4 {X : Cxt} (hX : Gd X RX8 cX8_candidatesIn 4 (some .int) 2) {a0 : Nat} (h0 : at_ (xG X) a0 11 0) (x1 : Int) (M : Mem) (x2 : Int) (x3 : Int) {Q : State → Prop} (o : (Int × Int) ⊕ ((Int) ⊕ (Int))) (h : s_X8_candidatesIn_4 a0 x1 M x2 x3 = some o) (hP : ∀ y, o = .inl y → V X 0 0 Q 4 [some (vr (xG X) a0), some (vi x1), some (vi y.1), some (vi y.2)] [] M) (hE : ∀ z, o = .inr (.inl z) → V X 0 0 Q 46 [none, none, some (vi z), none] [] M) (hR : ∀ q, o = .inr (.inr q) → Q = Qn X (some (vi q)) M) : V X 0 0 Q 4 [some (vr (xG X) a0), some (vi x1), some (vi x2), some (vi x3)] [] M := by
  unfold s_X8_candidatesIn_4 at h
  refine x_iloadn hX dX8_candidatesIn_4 rfl ?_
  refine x_aloadn hX dX8_candidatesIn_5 rfl ?_
  refine x_getRj (j := a0 + 9) hX dX8_candidatesIn_6 fl_X8_39 rfl h0 rfl ?_
  refine x_getI hX dX8_candidatesIn_9 fl_X8_43 rfl (fo_1_2 (gk hX) h0) ?_
  refine x_icmp_ge (tgt := 46) hX dX8_candidatesIn_12 (by decide) rfl rfl (fun hc => ?_) (fun hc => ?_)
  · replace h := (if_pos hc).symm.trans h
    refine x_aloadn hX dX8_candidatesIn_15 rfl ?_
    refine x_iconst hX dX8_candidatesIn_16 ?_
    refine x_iloadn hX dX8_candidatesIn_17 rfl ?_
    refine x_ishl hX dX8_candidatesIn_18 ?_
    obtain ⟨r_1, er_1, h⟩ := cl1_of h
    refine x_callVi (t := 1) (As := [vi (i_shl 1 x3)]) (rest := []) hX dX8_candidatesIn_19 (c_X1_canBeBatched (gk hX) (gl hX) h0 (i_shl 1 x3) M _ er_1) kX1_canBeBatched vX1_canBeBatched w_1225 h0 rfl rfl rfl rfl (Nat.le_of_ble_eq_true rfl) z0 ?_
    refine x_if_eq (tgt := 40) hX dX8_candidatesIn_22 (by decide) rfl (fun hc => ?_) (fun hc => ?_)
    · replace h := (if_pos hc).symm.trans h
      exact x_weak [true, true, true, true] rfl (tj_X8_candidatesIn_40_4 hX h0 x1 x2 x3 M o h hP hE hR)
    · replace h := (if_neg hc).symm.trans h
      refine x_aloadn hX dX8_candidatesIn_25 rfl ?_
      refine x_iloadn hX dX8_candidatesIn_26 rfl ?_
      obtain ⟨r_4, er_4, h⟩ := cl1_of h
      refine x_callVi (t := 1) (As := [vi x3]) (rest := []) hX dX8_candidatesIn_27 (c_X1_weightOf (gk hX) (gl hX) h0 x3 M _ er_4) kX1_weightOf vX1_weightOf w_1229 h0 rfl rfl rfl rfl (Nat.le_of_ble_eq_true rfl) z0 ?_
      refine x_iloadn hX dX8_candidatesIn_30 rfl ?_
      refine x_icmp_gt (tgt := 40) hX dX8_candidatesIn_31 (by decide) rfl rfl (fun hc => ?_) (fun hc => ?_)
      · replace h := (if_pos hc).symm.trans h
        exact x_weak [true, true, true, true] rfl (tj_X8_candidatesIn_40_4 hX h0 x1 x2 x3 M o h hP hE hR)
      · replace h := (if_neg hc).symm.trans h
        refine x_iloadn hX dX8_candidatesIn_34 rfl ?_
        refine x_iconst hX dX8_candidatesIn_35 ?_
        refine x_iloadn hX dX8_candidatesIn_36 rfl ?_
        refine x_ishl hX dX8_candidatesIn_37 ?_
        refine x_ior hX dX8_candidatesIn_38 ?_
        obtain ⟨x2_6, ex2_6, h⟩ := bnd_of h
        refine x_istoren (ls' := [some (vr (xG X) a0), some (vi x1), some (vi x2_6), some (vi x3)]) hX dX8_candidatesIn_39 rfl ex2_6 rfl ?_
        exact x_weak [true, true, true, true] rfl (tj_X8_candidatesIn_40_4 hX h0 x1 x2_6 x3 M o h hP hE hR)
  · replace h := (if_neg hc).symm.trans h
    exact x_weak [false, false, true, false] rfl (hE x2 (Option.some.inj h).symm)
set_option maxRecDepth 100000 in
set_option maxHeartbeats 4000000 in
theorem c_X8_candidatesIn {l : Launch} {G : Gx} (hG : GOK G) (hl : l.stackTraces = false) {a0 : Nat} (h0 : at_ G a0 11 0) (x1 : Int) (M : Mem) (r : Int) (h : f_X8_candidatesIn a0 x1 M = some r) : Cn l G mX8_candidatesIn 2 [vr G a0, vi x1] M (some (vi r)) M := by
  refine Cn_of2 (ls := [some (vr G a0), some (vi x1), none, none]) hG hl kX8_candidatesIn rfl (Nat.le_of_ble_eq_true rfl) rfl rfl rfl rfl rfl (fun X eG el hX => ?_)
  subst eG; subst el
  unfold f_X8_candidatesIn at h
  refine x_iconst hX dX8_candidatesIn_0 ?_
  refine x_istoren (ls' := [some (vr (xG X) a0), some (vi x1), some (vi 0), none]) hX dX8_candidatesIn_1 rfl rfl rfl ?_
  refine x_iconst hX dX8_candidatesIn_2 ?_
  refine x_istoren (ls' := [some (vr (xG X) a0), some (vi x1), some (vi 0), some (vi 0)]) hX dX8_candidatesIn_3 rfl rfl rfl ?_
  refine x_weak (ls' := [some (vr (xG X) a0), some (vi x1), some (vi 0), some (vi 0)]) [true, true, true, true] rfl ?_
  refine lp_use (x := (0, 0)) (P := fun x => V X 0 0 (Qn X (some (vi r)) M) 4 [some (vr (xG X) a0), some (vi x1), some (vi x.1), some (vi x.2)] [] M) (PE := fun z_7 => V X 0 0 (Qn X (some (vi r)) M) 46 [none, none, some (vi z_7), none] [] M) (PR := fun q => (Qn X (some (vi r)) M) = Qn X (some (vi q)) M) h (fun x o hh hP hE hR => ts_X8_candidatesIn_4 hX h0 x1 M x.1 x.2 o hh hP hE hR) (fun z_7 h => ?_) (fun q h => ?_)
  · show V X 0 0 (Qn X (some (vi r)) M) 46 [none, none, some (vi z_7), none] [] M
    refine x_iloadn hX dX8_candidatesIn_46 rfl ?_
    cases h
    exact x_iret hX dX8_candidatesIn_47 rfl
  · cases h; rfl
set_option maxRecDepth 100000 in
set_option maxHeartbeats 4000000 in
theorem c_X8_seedValue {l : Launch} {G : Gx} (hG : GOK G) (hl : l.stackTraces = false) {a0 : Nat} (h0 : at_ G a0 11 0) (x1 : Int) (x2 : Int) (M : Mem) (r : Int) (h : f_X8_seedValue a0 x1 x2 M = some r) : Cn l G mX8_seedValue 2 [vr G a0, vi x1, vi x2] M (some (vi r)) M := by
  refine Cn_of2 (ls := [some (vr G a0), some (vi x1), some (vi x2)]) hG hl kX8_seedValue rfl (Nat.le_of_ble_eq_true rfl) rfl rfl rfl rfl rfl (fun X eG el hX => ?_)
  subst eG; subst el
  unfold f_X8_seedValue at h
  refine x_iloadn hX dX8_seedValue_0 rfl ?_
  refine x_iconst hX dX8_seedValue_1 ?_
  refine x_icmp_ne (tgt := 11) hX dX8_seedValue_2 (by decide) rfl cw_1 (fun hc => ?_) (fun hc => ?_)
  · replace h := (if_pos hc).symm.trans h
    refine x_aloadn hX dX8_seedValue_5 rfl ?_
    refine x_iloadn hX dX8_seedValue_6 rfl ?_
    obtain ⟨r_1, er_1, h⟩ := cl1_of h
    refine x_callVi (t := 1) (As := [vi x1]) (rest := []) hX dX8_seedValue_7 (c_X1_weightOf (gk hX) (gl hX) h0 x1 M _ er_1) kX1_weightOf vX1_weightOf w_1229 h0 rfl rfl rfl rfl (Nat.le_of_ble_eq_true rfl) z0 ?_
    cases h
    exact x_iret hX dX8_seedValue_10 rfl
  · replace h := (if_neg hc).symm.trans h
    refine x_iloadn hX dX8_seedValue_11 rfl ?_
    refine x_iconst hX dX8_seedValue_12 ?_
    refine x_icmp_ne (tgt := 25) hX dX8_seedValue_13 (by decide) rfl cw_2 (fun hc => ?_) (fun hc => ?_)
    · replace h := (if_pos hc).symm.trans h
      refine x_aloadn hX dX8_seedValue_16 rfl ?_
      refine x_iloadn hX dX8_seedValue_17 rfl ?_
      obtain ⟨r_3, er_3, h⟩ := cl1_of h
      refine x_callVi (t := 1) (As := [vi x1]) (rest := []) hX dX8_seedValue_18 (c_X1_aislesOf (gk hX) (gl hX) h0 x1 M _ er_3) kX1_aislesOf vX1_aislesOf w_1236 h0 rfl rfl rfl rfl (Nat.le_of_ble_eq_true rfl) z0 ?_
      obtain ⟨r_5, er_5, h⟩ := cl1_of h
      refine x_callSi (As := [vi r_3]) (rest := []) hX dX8_seedValue_21 (c_J6_bitCount_0f7a4 (gk hX) (gl hX) r_3 M _ er_5) kJ6_bitCount_0f7a4 sJ6_bitCount_0f7a4 w_1237 rfl rfl rfl (Nat.le_of_ble_eq_true rfl) z0 ?_
      cases h
      exact x_iret hX dX8_seedValue_24 rfl
    · replace h := (if_neg hc).symm.trans h
      refine x_aloadn hX dX8_seedValue_25 rfl ?_
      refine x_getRj (j := a0 + 9) hX dX8_seedValue_26 fl_X8_39 rfl h0 rfl ?_
      refine x_getRj (j := a0 + 9 + 1) hX dX8_seedValue_29 fl_X8_64 rfl (fo_1_2 (gk hX) h0) rfl ?_
      refine x_iloadn hX dX8_seedValue_32 rfl ?_
      obtain ⟨b_7, h⟩ := gi_of h
      refine x_iald hX dX8_seedValue_33 (fo_5_2 (gk hX) (fo_1_2 (gk hX) h0)) b_7 rfl ?_
      refine x_ineg hX dX8_seedValue_34 ?_
      cases h
      exact x_iret hX dX8_seedValue_35 rfl
set_option maxRecDepth 100000 in
set_option maxHeartbeats 4000000 in
theorem tj_X9_fillKeys_43_2 {X : Cxt} (hX : Gd X RX9 cX9_fillKeys 4 (none) 2) (hs : SOK (xG X)) {a1 : Nat} (h1 : at_ (xG X) a1 11 0)  (x2 : Int) (x3 : Int) (y1 : Int) (y2 : Int) (M : Mem) {Q : State → Prop} (o : (Int × Mem) ⊕ ((Mem) ⊕ (Mem))) (h : j_X9_fillKeys_43_2 a1 x2 x3 y1 y2 M = some o) (hP : ∀ y, o = .inl y → V X 0 0 Q 2 [some (vr (xG X) 97), some (vr (xG X) a1), some (vi x2), some (vi y.1)] [] y.2) (hE : ∀ z, o = .inr (.inl z) → V X 0 0 Q 50 [none, none, none, none] [] z) (hR : ∀ q, o = .inr (.inr q) → Q = Qn X none q) : V X 0 0 Q 43 [some (vr (xG X) 97), some (vr (xG X) a1), some (vi x2), some (vi x3)] [vi y2, vi y1, vr (xG X) 135] M := by
  unfold j_X9_fillKeys_43_2 at h
  obtain ⟨b_4, h⟩ := gi_of h
  obtain ⟨M_3, eM_3, h⟩ := bnd_of h
  refine x_iast hX dX9_fillKeys_43 (st135 hs) b_4 rfl (x_meq eM_3 ?_)
  obtain ⟨x3_5, ex3_5, h⟩ := bnd_of h
  refine x_iinc (ls' := [some (vr (xG X) 97), some (vr (xG X) a1), some (vi x2), some (vi x3_5)]) hX dX9_fillKeys_44 rfl rfl ex3_5 rfl ?_
  refine x_goto (tgt := 2) hX dX9_fillKeys_47 (by decide) ?_
  exact x_weak [true, true, true, true] rfl (hP (x3_5, M_3) (Option.some.inj h).symm)
set_option maxRecDepth 100000 in
set_option maxHeartbeats 4000000 in
theorem ts_X9_fillKeys_2 {X : Cxt} (hX : Gd X RX9 cX9_fillKeys 4 (none) 2) (hs : SOK (xG X)) {a1 : Nat} (h1 : at_ (xG X) a1 11 0) (x2 : Int) (x3 : Int) (M : Mem) {Q : State → Prop} (o : (Int × Mem) ⊕ ((Mem) ⊕ (Mem))) (h : s_X9_fillKeys_2 a1 x2 x3 M = some o) (hP : ∀ y, o = .inl y → V X 0 0 Q 2 [some (vr (xG X) 97), some (vr (xG X) a1), some (vi x2), some (vi y.1)] [] y.2) (hE : ∀ z, o = .inr (.inl z) → V X 0 0 Q 50 [none, none, none, none] [] z) (hR : ∀ q, o = .inr (.inr q) → Q = Qn X none q) : V X 0 0 Q 2 [some (vr (xG X) 97), some (vr (xG X) a1), some (vi x2), some (vi x3)] [] M := by
  unfold s_X9_fillKeys_2 at h
  refine x_iloadn hX dX9_fillKeys_2 rfl ?_
  refine x_aloadn hX dX9_fillKeys_3 rfl ?_
  refine x_getRj (j := a1 + 16) hX dX9_fillKeys_4 fl_X9_48 rfl h1 rfl ?_
  refine x_getI hX dX9_fillKeys_7 fl_X9_54 rfl (fo_1_3 (gk hX) h1) ?_
  refine x_icmp_ge (tgt := 50) hX dX9_fillKeys_10 (by decide) rfl rfl (fun hc => ?_) (fun hc => ?_)
  · replace h := (if_pos hc).symm.trans h
    refine x_aloadn hX dX9_fillKeys_13 rfl ?_
    refine x_getRj (j := 135) hX dX9_fillKeys_14 fl_X9_18 rfl (st97 hs) rfl ?_
    refine x_iloadn hX dX9_fillKeys_17 rfl ?_
    refine x_iloadn hX dX9_fillKeys_18 rfl ?_
    refine x_iconst hX dX9_fillKeys_19 ?_
    refine x_icmp_ne (tgt := 38) hX dX9_fillKeys_20 (by decide) rfl cw_1 (fun hc => ?_) (fun hc => ?_)
    · replace h := (if_pos hc).symm.trans h
      refine x_aloadn hX dX9_fillKeys_23 rfl ?_
      refine x_getRj (j := 98) hX dX9_fillKeys_24 fl_X9_12 rfl (st97 hs) rfl ?_
      refine x_aloadn hX dX9_fillKeys_27 rfl ?_
      refine x_getRj (j := a1 + 1) hX dX9_fillKeys_28 fl_X9_67 rfl h1 rfl ?_
      refine x_iloadn hX dX9_fillKeys_31 rfl ?_
      obtain ⟨r_1, er_1, h⟩ := cl1_of h
      refine x_callVi (t := 7) (As := [vr (xG X) (a1 + 1), vi x3]) (rest := [vi x3, vr (xG X) 135]) hX dX9_fillKeys_32 (c_X7_workInAll (gk hX) (gl hX) (st98 hs) (fo_1_0 (gk hX) h1) x3 M _ er_1) kX7_workInAll vX7_workInAll w_1360 (st98 hs) rfl rfl rfl rfl (Nat.le_of_ble_eq_true rfl) z0 ?_
      refine x_goto (tgt := 43) hX dX9_fillKeys_35 (by decide) ?_
      exact x_weak [true, true, true, true] rfl (tj_X9_fillKeys_43_2 hX hs h1 x2 x3 x3 r_1 M o h hP hE hR)
    · replace h := (if_neg hc).symm.trans h
      refine x_aloadn hX dX9_fillKeys_38 rfl ?_
      refine x_iloadn hX dX9_fillKeys_39 rfl ?_
      obtain ⟨r_6, er_6, h⟩ := cl1_of h
      refine x_callVi (t := 1) (As := [vi x3]) (rest := [vi x3, vr (xG X) 135]) hX dX9_fillKeys_40 (c_X1_earliestDue (gk hX) (gl hX) h1 x3 M _ er_6) kX1_earliestDue vX1_earliestDue w_1364 h1 rfl rfl rfl rfl (Nat.le_of_ble_eq_true rfl) z0 ?_
      exact x_weak [true, true, true, true] rfl (tj_X9_fillKeys_43_2 hX hs h1 x2 x3 x3 r_6 M o h hP hE hR)
  · replace h := (if_neg hc).symm.trans h
    exact x_weak [false, false, false, false] rfl (hE M (Option.some.inj h).symm)
set_option maxRecDepth 100000 in
set_option maxHeartbeats 4000000 in
theorem c_X9_fillKeys {l : Launch} {G : Gx} (hG : GOK G) (hl : l.stackTraces = false) (hs : SOK G) {a1 : Nat} (h1 : at_ G a1 11 0) (x2 : Int) (M : Mem) (Mr : Mem) (h : f_X9_fillKeys a1 x2 M = some Mr) : Cn l G mX9_fillKeys 2 [vr G 97, vr G a1, vi x2] M none Mr := by
  refine Cn_of2 (ls := [some (vr G 97), some (vr G a1), some (vi x2), none]) hG hl kX9_fillKeys rfl (Nat.le_of_ble_eq_true rfl) rfl rfl rfl rfl rfl (fun X eG el hX => ?_)
  subst eG; subst el
  unfold f_X9_fillKeys at h
  refine x_iconst hX dX9_fillKeys_0 ?_
  refine x_istoren (ls' := [some (vr (xG X) 97), some (vr (xG X) a1), some (vi x2), some (vi 0)]) hX dX9_fillKeys_1 rfl rfl rfl ?_
  refine x_weak (ls' := [some (vr (xG X) 97), some (vr (xG X) a1), some (vi x2), some (vi 0)]) [true, true, true, true] rfl ?_
  refine lp_use (x := (0, M)) (P := fun x => V X 0 0 (Qn X none Mr) 2 [some (vr (xG X) 97), some (vr (xG X) a1), some (vi x2), some (vi x.1)] [] x.2) (PE := fun z_8 => V X 0 0 (Qn X none Mr) 50 [none, none, none, none] [] z_8) (PR := fun q => (Qn X none Mr) = Qn X none q) h (fun x o hh hP hE hR => ts_X9_fillKeys_2 hX hs h1 x2 x.1 x.2 o hh hP hE hR) (fun z_8 h => ?_) (fun q h => ?_)
  · show V X 0 0 (Qn X none Mr) 50 [none, none, none, none] [] z_8
    cases h
    exact x_vret hX dX9_fillKeys_50 rfl
  · cases h; rfl
set_option maxRecDepth 100000 in
set_option maxHeartbeats 4000000 in
theorem tj_X10_nextToken_39_0 {X : Cxt} (hX : Gd X RX10 cX10_nextToken 1 (none) 2) (hs : SOK (xG X))   (M : Mem) {Q : State → Prop} (o : (Mem) ⊕ ((Mem) ⊕ (Mem))) (h : j_X10_nextToken_39_0 M = some o) (hP : ∀ y, o = .inl y → V X 0 0 Q 0 [some (vr (xG X) 38)] [] y) (hE : ∀ z, o = .inr (.inl z) → V X 0 0 Q 52 [some (vr (xG X) 38)] [] z) (hR : ∀ q, o = .inr (.inr q) → Q = Qn X none q) : V X 0 0 Q 39 [some (vr (xG X) 38)] [] M := by
  unfold j_X10_nextToken_39_0 at h
  refine x_aloadn hX dX10_nextToken_39 rfl ?_
  refine x_dup hX dX10_nextToken_40 rfl ?_
  refine x_getI hX dX10_nextToken_41 fl_X10_25 rfl (st38 hs) ?_
  refine x_iconst hX dX10_nextToken_44 ?_
  refine x_iadd hX dX10_nextToken_45 ?_
  obtain ⟨M_2, eM_2, h⟩ := bnd_of h
  refine x_putI hX dX10_nextToken_46 fp_X10_25 rfl (st38 hs) (x_meq eM_2 ?_)
  refine x_goto (tgt := 0) hX dX10_nextToken_49 (by decide) ?_
  exact x_weak [true] rfl (hP M_2 (Option.some.inj h).symm)
set_option maxRecDepth 100000 in
set_option maxHeartbeats 4000000 in
theorem ts_X10_nextToken_0 {X : Cxt} (hX : Gd X RX10 cX10_nextToken 1 (none) 2) (hs : SOK (xG X))  (M : Mem) {Q : State → Prop} (o : (Mem) ⊕ ((Mem) ⊕ (Mem))) (h : s_X10_nextToken_0 M = some o) (hP : ∀ y, o = .inl y → V X 0 0 Q 0 [some (vr (xG X) 38)] [] y) (hE : ∀ z, o = .inr (.inl z) → V X 0 0 Q 52 [some (vr (xG X) 38)] [] z) (hR : ∀ q, o = .inr (.inr q) → Q = Qn X none q) : V X 0 0 Q 0 [some (vr (xG X) 38)] [] M := by
  unfold s_X10_nextToken_0 at h
  refine x_aloadn hX dX10_nextToken_0 rfl ?_
  refine x_getI hX dX10_nextToken_1 fl_X10_25 rfl (st38 hs) ?_
  refine x_aloadn hX dX10_nextToken_4 rfl ?_
  refine x_getI hX dX10_nextToken_5 fl_X10_19 rfl (st38 hs) ?_
  refine x_icmp_ge (tgt := 52) hX dX10_nextToken_8 (by decide) rfl rfl (fun hc => ?_) (fun hc => ?_)
  · replace h := (if_pos hc).symm.trans h
    refine x_aloadn hX dX10_nextToken_11 rfl ?_
    refine x_getRj (j := 39) hX dX10_nextToken_12 fl_X10_9 rfl (st38 hs) rfl ?_
    refine x_aloadn hX dX10_nextToken_15 rfl ?_
    refine x_getI hX dX10_nextToken_16 fl_X10_25 rfl (st38 hs) ?_
    obtain ⟨b_1, h⟩ := gi_of h
    refine x_bald hX dX10_nextToken_19 (st39 hs) b_1 rfl ?_
    refine x_bipush hX dX10_nextToken_20 bp_32 ?_
    refine x_icmp_eq (tgt := 39) hX dX10_nextToken_22 (by decide) rfl cw_32 (fun hc => ?_) (fun hc => ?_)
    · replace h := (if_pos hc).symm.trans h
      exact x_weak [true] rfl (tj_X10_nextToken_39_0 hX hs M o h hP hE hR)
    · replace h := (if_neg hc).symm.trans h
      refine x_aloadn hX dX10_nextToken_25 rfl ?_
      refine x_getRj (j := 39) hX dX10_nextToken_26 fl_X10_9 rfl (st38 hs) rfl ?_
      refine x_aloadn hX dX10_nextToken_29 rfl ?_
      refine x_getI hX dX10_nextToken_30 fl_X10_25 rfl (st38 hs) ?_
      obtain ⟨b_3, h⟩ := gi_of h
      refine x_bald hX dX10_nextToken_33 (st39 hs) b_3 rfl ?_
      refine x_bipush hX dX10_nextToken_34 bp_10 ?_
      refine x_icmp_ne (tgt := 52) hX dX10_nextToken_36 (by decide) rfl cw_10 (fun hc => ?_) (fun hc => ?_)
      · replace h := (if_pos hc).symm.trans h
        exact x_weak [true] rfl (tj_X10_nextToken_39_0 hX hs M o h hP hE hR)
      · replace h := (if_neg hc).symm.trans h
        exact x_weak [true] rfl (hE M (Option.some.inj h).symm)
  · replace h := (if_neg hc).symm.trans h
    exact x_weak [true] rfl (hE M (Option.some.inj h).symm)
set_option maxRecDepth 100000 in
set_option maxHeartbeats 4000000 in
theorem tj_X10_nextToken_179 {X : Cxt} (hX : Gd X RX10 cX10_nextToken 1 (none) 2) (hs : SOK (xG X))   (y1 : Int) (M : Mem) (Mr : Mem) (h : j_X10_nextToken_179 y1 M = some Mr) : V X 0 0 (Qn X none Mr) 179 [some (vr (xG X) 38)] [vi y1, vr (xG X) 38] M := by
  unfold j_X10_nextToken_179 at h
  obtain ⟨M_9, eM_9, h⟩ := bnd_of h
  refine x_putI hX dX10_nextToken_179 fp_X10_44 rfl (st38 hs) (x_meq eM_9 ?_)
  refine x_aloadn hX dX10_nextToken_182 rfl ?_
  refine x_dup hX dX10_nextToken_183 rfl ?_
  refine x_getI hX dX10_nextToken_184 fl_X10_25 rfl (st38 hs) ?_
  refine x_iconst hX dX10_nextToken_187 ?_
  refine x_iadd hX dX10_nextToken_188 ?_
  obtain ⟨M_10, eM_10, h⟩ := bnd_of h
  refine x_putI hX dX10_nextToken_189 fp_X10_25 rfl (st38 hs) (x_meq eM_10 ?_)
  cases h
  exact x_vret hX dX10_nextToken_192 rfl
set_option maxRecDepth 100000 in
set_option maxHeartbeats 4000000 in
theorem tj_X10_nextToken_159 {X : Cxt} (hX : Gd X RX10 cX10_nextToken 1 (none) 2) (hs : SOK (xG X))   (M : Mem) (Mr : Mem) (h : j_X10_nextToken_159 M = some Mr) : V X 0 0 (Qn X none Mr) 159 [some (vr (xG X) 38)] [] M := by
  unfold j_X10_nextToken_159 at h
  refine x_aloadn hX dX10_nextToken_159 rfl ?_
  refine x_aloadn hX dX10_nextToken_160 rfl ?_
  refine x_getRj (j := 39) hX dX10_nextToken_161 fl_X10_9 rfl (st38 hs) rfl ?_
  refine x_aloadn hX dX10_nextToken_164 rfl ?_
  refine x_getI hX dX10_nextToken_165 fl_X10_51 rfl (st38 hs) ?_
  obtain ⟨b_8, h⟩ := gi_of h
  refine x_bald hX dX10_nextToken_168 (st39 hs) b_8 rfl ?_
  refine x_bipush hX dX10_nextToken_169 bp_59 ?_
  refine x_icmp_ne (tgt := 178) hX dX10_nextToken_171 (by decide) rfl cw_59 (fun hc => ?_) (fun hc => ?_)
  · replace h := (if_pos hc).symm.trans h
    refine x_iconst hX dX10_nextToken_174 ?_
    refine x_goto (tgt := 179) hX dX10_nextToken_175 (by decide) ?_
    exact x_weak [true] rfl (tj_X10_nextToken_179 hX hs 3 M Mr h)
  · replace h := (if_neg hc).symm.trans h
    refine x_iconst hX dX10_nextToken_178 ?_
    exact x_weak [true] rfl (tj_X10_nextToken_179 hX hs 4 M Mr h)
set_option maxRecDepth 100000 in
set_option maxHeartbeats 4000000 in
theorem tj_X10_nextToken_119 {X : Cxt} (hX : Gd X RX10 cX10_nextToken 1 (none) 2) (hs : SOK (xG X))   (M : Mem) (Mr : Mem) (h : j_X10_nextToken_119 M = some Mr) : V X 0 0 (Qn X none Mr) 119 [some (vr (xG X) 38)] [] M := by
  unfold j_X10_nextToken_119 at h
  refine x_aloadn hX dX10_nextToken_119 rfl ?_
  refine x_getRj (j := 39) hX dX10_nextToken_120 fl_X10_9 rfl (st38 hs) rfl ?_
  refine x_aloadn hX dX10_nextToken_123 rfl ?_
  refine x_getI hX dX10_nextToken_124 fl_X10_51 rfl (st38 hs) ?_
  obtain ⟨b_7, h⟩ := gi_of h
  refine x_bald hX dX10_nextToken_127 (st39 hs) b_7 rfl ?_
  refine x_bipush hX dX10_nextToken_128 bp_48 ?_
  refine x_icmp_lt (tgt := 159) hX dX10_nextToken_130 (by decide) rfl cw_48 (fun hc => ?_) (fun hc => ?_)
  · replace h := (if_pos hc).symm.trans h
    exact x_weak [true] rfl (tj_X10_nextToken_159 hX hs M Mr h)
  · replace h := (if_neg hc).symm.trans h
    refine x_aloadn hX dX10_nextToken_133 rfl ?_
    refine x_getRj (j := 39) hX dX10_nextToken_134 fl_X10_9 rfl (st38 hs) rfl ?_
    refine x_aloadn hX dX10_nextToken_137 rfl ?_
    refine x_getI hX dX10_nextToken_138 fl_X10_51 rfl (st38 hs) ?_
    obtain ⟨b_11, h⟩ := gi_of h
    refine x_bald hX dX10_nextToken_141 (st39 hs) b_11 rfl ?_
    refine x_bipush hX dX10_nextToken_142 bp_57 ?_
    refine x_icmp_gt (tgt := 159) hX dX10_nextToken_144 (by decide) rfl cw_57 (fun hc => ?_) (fun hc => ?_)
    · replace h := (if_pos hc).symm.trans h
      exact x_weak [true] rfl (tj_X10_nextToken_159 hX hs M Mr h)
    · replace h := (if_neg hc).symm.trans h
      refine x_aloadn hX dX10_nextToken_147 rfl ?_
      refine x_iconst hX dX10_nextToken_148 ?_
      obtain ⟨M_12, eM_12, h⟩ := bnd_of h
      refine x_putI hX dX10_nextToken_149 fp_X10_44 rfl (st38 hs) (x_meq eM_12 ?_)
      refine x_aloadn hX dX10_nextToken_152 rfl ?_
      obtain ⟨M_14, er_13, h⟩ := cl1_of h
      refine x_callVv (t := 9) (As := []) (rest := []) hX dX10_nextToken_153 (c_X10_passNumber (gk hX) (gl hX) hs M_12 _ er_13) kX10_passNumber vX10_passNumber w_791 (st38 hs) rfl rfl rfl rfl (Nat.le_of_ble_eq_true rfl) z0 ?_
      refine x_goto (tgt := 192) hX dX10_nextToken_156 (by decide) ?_
      cases h
      exact x_vret hX dX10_nextToken_192 rfl
set_option maxRecDepth 100000 in
set_option maxHeartbeats 4000000 in
theorem tj_X10_nextToken_52 {X : Cxt} (hX : Gd X RX10 cX10_nextToken 1 (none) 2) (hs : SOK (xG X))   (M : Mem) (Mr : Mem) (h : j_X10_nextToken_52 M = some Mr) : V X 0 0 (Qn X none Mr) 52 [some (vr (xG X) 38)] [] M := by
  unfold j_X10_nextToken_52 at h
  refine x_aloadn hX dX10_nextToken_52 rfl ?_
  refine x_aloadn hX dX10_nextToken_53 rfl ?_
  refine x_getI hX dX10_nextToken_54 fl_X10_25 rfl (st38 hs) ?_
  obtain ⟨M_5, eM_5, h⟩ := bnd_of h
  refine x_putI hX dX10_nextToken_57 fp_X10_51 rfl (st38 hs) (x_meq eM_5 ?_)
  refine x_aloadn hX dX10_nextToken_60 rfl ?_
  refine x_getI hX dX10_nextToken_61 fl_X10_51 rfl (st38 hs) ?_
  refine x_aloadn hX dX10_nextToken_64 rfl ?_
  refine x_getI hX dX10_nextToken_65 fl_X10_19 rfl (st38 hs) ?_
  refine x_icmp_lt (tgt := 79) hX dX10_nextToken_68 (by decide) rfl rfl (fun hc => ?_) (fun hc => ?_)
  · replace h := (if_pos hc).symm.trans h
    refine x_aloadn hX dX10_nextToken_79 rfl ?_
    refine x_getRj (j := 39) hX dX10_nextToken_80 fl_X10_9 rfl (st38 hs) rfl ?_
    refine x_aloadn hX dX10_nextToken_83 rfl ?_
    refine x_getI hX dX10_nextToken_84 fl_X10_51 rfl (st38 hs) ?_
    obtain ⟨b_6, h⟩ := gi_of h
    refine x_bald hX dX10_nextToken_87 (st39 hs) b_6 rfl ?_
    refine x_bipush hX dX10_nextToken_88 bp_97 ?_
    refine x_icmp_lt (tgt := 119) hX dX10_nextToken_90 (by decide) rfl cw_97 (fun hc => ?_) (fun hc => ?_)
    · replace h := (if_pos hc).symm.trans h
      exact x_weak [true] rfl (tj_X10_nextToken_119 hX hs M_5 Mr h)
    · replace h := (if_neg hc).symm.trans h
      refine x_aloadn hX dX10_nextToken_93 rfl ?_
      refine x_getRj (j := 39) hX dX10_nextToken_94 fl_X10_9 rfl (st38 hs) rfl ?_
      refine x_aloadn hX dX10_nextToken_97 rfl ?_
      refine x_getI hX dX10_nextToken_98 fl_X10_51 rfl (st38 hs) ?_
      obtain ⟨b_15, h⟩ := gi_of h
      refine x_bald hX dX10_nextToken_101 (st39 hs) b_15 rfl ?_
      refine x_bipush hX dX10_nextToken_102 bp_122 ?_
      refine x_icmp_gt (tgt := 119) hX dX10_nextToken_104 (by decide) rfl cw_122 (fun hc => ?_) (fun hc => ?_)
      · replace h := (if_pos hc).symm.trans h
        exact x_weak [true] rfl (tj_X10_nextToken_119 hX hs M_5 Mr h)
      · replace h := (if_neg hc).symm.trans h
        refine x_aloadn hX dX10_nextToken_107 rfl ?_
        refine x_iconst hX dX10_nextToken_108 ?_
        obtain ⟨M_16, eM_16, h⟩ := bnd_of h
        refine x_putI hX dX10_nextToken_109 fp_X10_44 rfl (st38 hs) (x_meq eM_16 ?_)
        refine x_aloadn hX dX10_nextToken_112 rfl ?_
        obtain ⟨M_18, er_17, h⟩ := cl1_of h
        refine x_callVv (t := 9) (As := []) (rest := []) hX dX10_nextToken_113 (c_X10_passWord (gk hX) (gl hX) hs M_16 _ er_17) kX10_passWord vX10_passWord w_787 (st38 hs) rfl rfl rfl rfl (Nat.le_of_ble_eq_true rfl) z0 ?_
        refine x_goto (tgt := 192) hX dX10_nextToken_116 (by decide) ?_
        cases h
        exact x_vret hX dX10_nextToken_192 rfl
  · replace h := (if_neg hc).symm.trans h
    refine x_aloadn hX dX10_nextToken_71 rfl ?_
    refine x_iconst hX dX10_nextToken_72 ?_
    obtain ⟨M_19, eM_19, h⟩ := bnd_of h
    refine x_putI hX dX10_nextToken_73 fp_X10_44 rfl (st38 hs) (x_meq eM_19 ?_)
    refine x_goto (tgt := 192) hX dX10_nextToken_76 (by decide) ?_
    cases h
    exact x_vret hX dX10_nextToken_192 rfl
set_option maxRecDepth 100000 in
set_option maxHeartbeats 4000000 in
theorem c_X10_nextToken {l : Launch} {G : Gx} (hG : GOK G) (hl : l.stackTraces = false) (hs : SOK G)  (M : Mem) (Mr : Mem) (h : f_X10_nextToken M = some Mr) : Cn l G mX10_nextToken 2 [vr G 38] M none Mr := by
  refine Cn_of2 (ls := [some (vr G 38)]) hG hl kX10_nextToken rfl (Nat.le_of_ble_eq_true rfl) rfl rfl rfl rfl rfl (fun X eG el hX => ?_)
  subst eG; subst el
  unfold f_X10_nextToken at h
  refine x_weak (ls' := [some (vr (xG X) 38)]) [true] rfl ?_
  refine lp_use (x := M) (P := fun x => V X 0 0 (Qn X none Mr) 0 [some (vr (xG X) 38)] [] x) (PE := fun z_4 => V X 0 0 (Qn X none Mr) 52 [some (vr (xG X) 38)] [] z_4) (PR := fun q => (Qn X none Mr) = Qn X none q) h (fun x o hh hP hE hR => ts_X10_nextToken_0 hX hs x o hh hP hE hR) (fun z_4 h => ?_) (fun q h => ?_)
  · show V X 0 0 (Qn X none Mr) 52 [some (vr (xG X) 38)] [] z_4
    exact x_weak [true] rfl (tj_X10_nextToken_52 hX hs z_4 Mr h)
  · cases h; rfl
