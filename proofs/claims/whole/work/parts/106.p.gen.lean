-- written by wip/gen/emit.py: X6_lengthIn, X6_listReturn, X6_visitFrom, X8_seedAmong, X8_companionFor, X10_readNumber, X10_readSemicolon, X11_cancel, X11_routeLength, X11_pickedUnits, X11_shortUnits, X11_totalOrdered, X11_reorder, X1_reset, X6_lengthFor, X6_listSShape
set_option maxRecDepth 100000 in
set_option maxHeartbeats 4000000 in
theorem c_X6_lengthIn {l : Launch} {G : Gx} (hG : GOK G) (hl : l.stackTraces = false) {th : Nat} (h0 : at_ G th 16 0) {a1 : Nat} (h1 : at_ G a1 13 0) (x2 : Int) (x3 : Int) (M : Mem) (r : Int) (Mr : Mem) (h : f_X6_lengthIn th a1 x2 x3 M = some (r, Mr)) : Cn l G mX6_lengthIn 3 [vr G th, vr G a1, vi x2, vi x3] M (some (vi r)) Mr := by
  refine Cn_of2 (ls := [some (vr G th), some (vr G a1), some (vi x2), some (vi x3), none, none]) hG hl kX6_lengthIn rfl (Nat.le_of_ble_eq_true rfl) rfl rfl rfl rfl rfl (fun X eG el hX => ?_)
  subst eG; subst el
  unfold f_X6_lengthIn at h
  refine x_aloadn hX dX6_lengthIn_0 rfl ?_
  refine x_aloadn hX dX6_lengthIn_1 rfl ?_
  refine x_iloadn hX dX6_lengthIn_2 rfl ?_
  obtain ⟨M_2, er_1, h⟩ := cl1_of h
  refine x_callVv (t := 6) (As := [vr (xG X) a1, vi x2]) (rest := []) hX dX6_lengthIn_3 (c_X6_findAisles (gk hX) (gl hX) h0 h1 x2 M _ er_1) kX6_findAisles vX6_findAisles w_630 h0 rfl rfl rfl rfl (Nat.le_of_ble_eq_true rfl) z0 ?_
  refine x_aloadn hX dX6_lengthIn_6 rfl ?_
  refine x_getI hX dX6_lengthIn_7 fl_X6_107 rfl h0 ?_
  refine x_if_ne (tgt := 15) hX dX6_lengthIn_10 (by decide) rfl (fun hc => ?_) (fun hc => ?_)
  · replace h := (if_pos hc).symm.trans h
    refine x_iconst hX dX6_lengthIn_13 ?_
    cases h
    exact x_iret hX dX6_lengthIn_14 rfl
  · replace h := (if_neg hc).symm.trans h
    refine x_aloadn hX dX6_lengthIn_15 rfl ?_
    refine x_getRj (j := th + 5) hX dX6_lengthIn_16 fl_X6_24 rfl h0 rfl ?_
    refine x_aloadn hX dX6_lengthIn_19 rfl ?_
    refine x_getI hX dX6_lengthIn_20 fl_X6_107 rfl h0 ?_
    refine x_iconst hX dX6_lengthIn_23 ?_
    refine x_isub hX dX6_lengthIn_24 ?_
    obtain ⟨b_3, h⟩ := gi_of h
    refine x_iald hX dX6_lengthIn_25 (fo_6_7 (gk hX) h0) b_3 rfl ?_
    obtain ⟨x4_4, ex4_4, h⟩ := bnd_of h
    refine x_istore (ls' := [some (vr (xG X) th), some (vr (xG X) a1), some (vi x2), some (vi x3), some (vi x4_4), none]) hX dX6_lengthIn_26 rfl ex4_4 rfl ?_
    refine x_iconst hX dX6_lengthIn_28 ?_
    refine x_aloadn hX dX6_lengthIn_29 rfl ?_
    refine x_getI hX dX6_lengthIn_30 fl_X6_110 rfl h1 ?_
    refine x_imul hX dX6_lengthIn_33 ?_
    refine x_iload hX dX6_lengthIn_34 rfl ?_
    refine x_aloadn hX dX6_lengthIn_36 rfl ?_
    refine x_getRj (j := a1 + 1) hX dX6_lengthIn_37 fl_X6_97 rfl h1 rfl ?_
    refine x_iloadn hX dX6_lengthIn_40 rfl ?_
    obtain ⟨b_5, h⟩ := gi_of h
    refine x_iald hX dX6_lengthIn_41 (fo_3_4 (gk hX) h1) b_5 rfl ?_
    refine x_isub hX dX6_lengthIn_42 ?_
    refine x_imul hX dX6_lengthIn_43 ?_
    obtain ⟨x5_6, ex5_6, h⟩ := bnd_of h
    refine x_istore (ls' := [some (vr (xG X) th), some (vr (xG X) a1), some (vi x2), some (vi x3), some (vi x4_4), some (vi x5_6)]) hX dX6_lengthIn_44 rfl ex5_6 rfl ?_
    refine x_iloadn hX dX6_lengthIn_46 rfl ?_
    by_cases hs1 : w32 x3 = 1
    · replace h := (if_pos hs1).symm.trans h
      refine x_tsI (tgt := 72) hX dX6_lengthIn_47 hs1 (by decide) (by decide) rfl (by decide) ?_
      refine x_iload hX dX6_lengthIn_72 rfl ?_
      refine x_aloadn hX dX6_lengthIn_74 rfl ?_
      obtain ⟨r_7, er_7, h⟩ := cl1_of h
      refine x_callVi (t := 6) (As := []) (rest := [vi x5_6]) hX dX6_lengthIn_75 (c_X6_sShapeCost (gk hX) (gl hX) h0 M_2 _ er_7) kX6_sShapeCost vX6_sShapeCost w_638 h0 rfl rfl rfl rfl (Nat.le_of_ble_eq_true rfl) z0 ?_
      refine x_iadd hX dX6_lengthIn_78 ?_
      cases h
      exact x_iret hX dX6_lengthIn_79 rfl
    · replace h := (if_neg hs1).symm.trans h
      by_cases hs2 : w32 x3 = 2
      · replace h := (if_pos hs2).symm.trans h
        refine x_tsI (tgt := 80) hX dX6_lengthIn_47 hs2 (by decide) (by decide) rfl (by decide) ?_
        refine x_iload hX dX6_lengthIn_80 rfl ?_
        refine x_aloadn hX dX6_lengthIn_82 rfl ?_
        obtain ⟨r_9, M_10, er_9, h⟩ := cl2_of h
        refine x_callVi (t := 6) (As := []) (rest := [vi x5_6]) hX dX6_lengthIn_83 (c_X6_largestGapCost (gk hX) (gl hX) h0 M_2 _ _ er_9) kX6_largestGapCost vX6_largestGapCost w_642 h0 rfl rfl rfl rfl (Nat.le_of_ble_eq_true rfl) z0 ?_
        refine x_iadd hX dX6_lengthIn_86 ?_
        cases h
        exact x_iret hX dX6_lengthIn_87 rfl
      · replace h := (if_neg hs2).symm.trans h
        by_cases hs3 : w32 x3 = 3
        · replace h := (if_pos hs3).symm.trans h
          refine x_tsI (tgt := 88) hX dX6_lengthIn_47 hs3 (by decide) (by decide) rfl (by decide) ?_
          refine x_aloadn hX dX6_lengthIn_88 rfl ?_
          obtain ⟨M_12, er_11, h⟩ := cl1_of h
          refine x_callVv (t := 6) (As := []) (rest := []) hX dX6_lengthIn_89 (c_X6_planCombined (gk hX) (gl hX) h0 M_2 _ er_11) kX6_planCombined vX6_planCombined w_654 h0 rfl rfl rfl rfl (Nat.le_of_ble_eq_true rfl) z0 ?_
          refine x_iload hX dX6_lengthIn_92 rfl ?_
          refine x_aloadn hX dX6_lengthIn_94 rfl ?_
          refine x_getRj (j := th + 6) hX dX6_lengthIn_95 fl_X6_27 rfl h0 rfl ?_
          refine x_iconst hX dX6_lengthIn_98 ?_
          refine x_iald hX dX6_lengthIn_99 (fo_6_10 (gk hX) h0) inc_0_7 ixc_0 ?_
          refine x_iadd hX dX6_lengthIn_100 ?_
          cases h
          exact x_iret hX dX6_lengthIn_101 rfl
        · replace h := (if_neg hs3).symm.trans h
          refine x_tsO (tgt := 102) hX dX6_lengthIn_47 (by omega) (by decide) ?_
          refine x_iload hX dX6_lengthIn_102 rfl ?_
          refine x_aloadn hX dX6_lengthIn_104 rfl ?_
          obtain ⟨r_13, er_13, h⟩ := cl1_of h
          refine x_callVi (t := 6) (As := []) (rest := [vi x5_6]) hX dX6_lengthIn_105 (c_X6_returnCost (gk hX) (gl hX) h0 M_2 _ er_13) kX6_returnCost vX6_returnCost w_646 h0 rfl rfl rfl rfl (Nat.le_of_ble_eq_true rfl) z0 ?_
          refine x_iadd hX dX6_lengthIn_108 ?_
          cases h
          exact x_iret hX dX6_lengthIn_109 rfl
set_option maxRecDepth 100000 in
set_option maxHeartbeats 4000000 in
theorem ts_X6_listReturn_2 {X : Cxt} (hX : Gd X RX6 cX6_listReturn 3 (none) 3) {th : Nat} (h0 : at_ (xG X) th 16 0) {a1 : Nat} (h1 : at_ (xG X) a1 11 0) (x2 : Int) (M : Mem) {Q : State → Prop} (o : (Int × Mem) ⊕ ((Mem) ⊕ (Mem))) (h : s_X6_listReturn_2 th a1 x2 M = some o) (hP : ∀ y, o = .inl y → V X 0 0 Q 2 [some (vr (xG X) th), some (vr (xG X) a1), some (vi y.1)] [] y.2) (hE : ∀ z, o = .inr (.inl z) → V X 0 0 Q 29 [none, none, none] [] z) (hR : ∀ q, o = .inr (.inr q) → Q = Qn X none q) : V X 0 0 Q 2 [some (vr (xG X) th), some (vr (xG X) a1), some (vi x2)] [] M := by
  unfold s_X6_listReturn_2 at h
  refine x_iloadn hX dX6_listReturn_2 rfl ?_
  refine x_aloadn hX dX6_listReturn_3 rfl ?_
  refine x_getI hX dX6_listReturn_4 fl_X6_107 rfl h0 ?_
  refine x_icmp_ge (tgt := 29) hX dX6_listReturn_7 (by decide) rfl rfl (fun hc => ?_) (fun hc => ?_)
  · replace h := (if_pos hc).symm.trans h
    refine x_aloadn hX dX6_listReturn_10 rfl ?_
    refine x_aloadn hX dX6_listReturn_11 rfl ?_
    refine x_aloadn hX dX6_listReturn_12 rfl ?_
    refine x_getRj (j := th + 5) hX dX6_listReturn_13 fl_X6_24 rfl h0 rfl ?_
    refine x_iloadn hX dX6_listReturn_16 rfl ?_
    obtain ⟨b_1, h⟩ := gi_of h
    refine x_iald hX dX6_listReturn_17 (fo_6_7 (gk hX) h0) b_1 rfl ?_
    refine x_bipush hX dX6_listReturn_18 bp_20 ?_
    obtain ⟨M_3, er_2, h⟩ := cl1_of h
    refine x_callVv (t := 6) (As := [vr (xG X) a1, vi (M (th + 5) (ix x2)), vi 20]) (rest := []) hX dX6_listReturn_20 (c_X6_visitUp (gk hX) (gl hX) h0 h1 (M (th + 5) (ix x2)) 20 M _ er_2) kX6_visitUp vX6_visitUp w_1471 h0 rfl rfl rfl rfl (Nat.le_of_ble_eq_true rfl) z0 ?_
    obtain ⟨x2_4, ex2_4, h⟩ := bnd_of h
    refine x_iinc (ls' := [some (vr (xG X) th), some (vr (xG X) a1), some (vi x2_4)]) hX dX6_listReturn_23 rfl rfl ex2_4 rfl ?_
    refine x_goto (tgt := 2) hX dX6_listReturn_26 (by decide) ?_
    exact x_weak [true, true, true] rfl (hP (x2_4, M_3) (Option.some.inj h).symm)
  · replace h := (if_neg hc).symm.trans h
    exact x_weak [false, false, false] rfl (hE M (Option.some.inj h).symm)
set_option maxRecDepth 100000 in
set_option maxHeartbeats 4000000 in
theorem c_X6_listReturn {l : Launch} {G : Gx} (hG : GOK G) (hl : l.stackTraces = false) {th : Nat} (h0 : at_ G th 16 0) {a1 : Nat} (h1 : at_ G a1 11 0) (M : Mem) (Mr : Mem) (h : f_X6_listReturn th a1 M = some Mr) : Cn l G mX6_listReturn 3 [vr G th, vr G a1] M none Mr := by
  refine Cn_of2 (ls := [some (vr G th), some (vr G a1), none]) hG hl kX6_listReturn rfl (Nat.le_of_ble_eq_true rfl) rfl rfl rfl rfl rfl (fun X eG el hX => ?_)
  subst eG; subst el
  unfold f_X6_listReturn at h
  refine x_iconst hX dX6_listReturn_0 ?_
  refine x_istoren (ls' := [some (vr (xG X) th), some (vr (xG X) a1), some (vi 0)]) hX dX6_listReturn_1 rfl rfl rfl ?_
  refine x_weak (ls' := [some (vr (xG X) th), some (vr (xG X) a1), some (vi 0)]) [true, true, true] rfl ?_
  refine lp_use (x := (0, M)) (P := fun x => V X 0 0 (Qn X none Mr) 2 [some (vr (xG X) th), some (vr (xG X) a1), some (vi x.1)] [] x.2) (PE := fun z_5 => V X 0 0 (Qn X none Mr) 29 [none, none, none] [] z_5) (PR := fun q => (Qn X none Mr) = Qn X none q) h (fun x o hh hP hE hR => ts_X6_listReturn_2 hX h0 h1 x.1 x.2 o hh hP hE hR) (fun z_5 h => ?_) (fun q h => ?_)
  · show V X 0 0 (Qn X none Mr) 29 [none, none, none] [] z_5
    cases h
    exact x_vret hX dX6_listReturn_29 rfl
  · cases h; rfl
set_option maxRecDepth 100000 in
set_option maxHeartbeats 4000000 in
theorem c_X6_visitFrom {l : Launch} {G : Gx} (hG : GOK G) (hl : l.stackTraces = false) {th : Nat} (h0 : at_ G th 16 0) {a1 : Nat} (h1 : at_ G a1 11 0) (x2 : Int) (x3 : Int) (M : Mem) (Mr : Mem) (h : f_X6_visitFrom th a1 x2 x3 M = some Mr) : Cn l G mX6_visitFrom 3 [vr G th, vr G a1, vi x2, vi x3] M none Mr := by
  refine Cn_of2 (ls := [some (vr G th), some (vr G a1), some (vi x2), some (vi x3)]) hG hl kX6_visitFrom rfl (Nat.le_of_ble_eq_true rfl) rfl rfl rfl rfl rfl (fun X eG el hX => ?_)
  subst eG; subst el
  unfold f_X6_visitFrom at h
  refine x_iloadn hX dX6_visitFrom_0 rfl ?_
  refine x_if_ne (tgt := 15) hX dX6_visitFrom_1 (by decide) rfl (fun hc => ?_) (fun hc => ?_)
  · replace h := (if_pos hc).symm.trans h
    refine x_aloadn hX dX6_visitFrom_4 rfl ?_
    refine x_aloadn hX dX6_visitFrom_5 rfl ?_
    refine x_iloadn hX dX6_visitFrom_6 rfl ?_
    refine x_bipush hX dX6_visitFrom_7 bp_20 ?_
    obtain ⟨M_2, er_1, h⟩ := cl1_of h
    refine x_callVv (t := 6) (As := [vr (xG X) a1, vi x2, vi 20]) (rest := []) hX dX6_visitFrom_9 (c_X6_visitUp (gk hX) (gl hX) h0 h1 x2 20 M _ er_1) kX6_visitUp vX6_visitUp w_1471 h0 rfl rfl rfl rfl (Nat.le_of_ble_eq_true rfl) z0 ?_
    refine x_goto (tgt := 22) hX dX6_visitFrom_12 (by decide) ?_
    cases h
    exact x_vret hX dX6_visitFrom_22 rfl
  · replace h := (if_neg hc).symm.trans h
    refine x_aloadn hX dX6_visitFrom_15 rfl ?_
    refine x_aloadn hX dX6_visitFrom_16 rfl ?_
    refine x_iloadn hX dX6_visitFrom_17 rfl ?_
    refine x_iconst hX dX6_visitFrom_18 ?_
    obtain ⟨M_4, er_3, h⟩ := cl1_of h
    refine x_callVv (t := 6) (As := [vr (xG X) a1, vi x2, vi 1]) (rest := []) hX dX6_visitFrom_19 (c_X6_visitDown (gk hX) (gl hX) h0 h1 x2 1 M _ er_3) kX6_visitDown vX6_visitDown w_1479 h0 rfl rfl rfl rfl (Nat.le_of_ble_eq_true rfl) z0 ?_
    cases h
    exact x_vret hX dX6_visitFrom_22 rfl
set_option maxRecDepth 100000 in
set_option maxHeartbeats 4000000 in
theorem tj_X8_seedAmong_55_10 {X : Cxt} (hX : Gd X RX8 cX8_seedAmong 6 (some .int) 3) {a0 : Nat} (h0 : at_ (xG X) a0 11 0)  (x1 : Int) (x2 : Int) (x3 : Int) (x4 : Int) (x5 : Int) (M : Mem) {Q : State → Prop} (o : (Int × Int × Int) ⊕ ((Int) ⊕ (Int))) (h : j_X8_seedAmong_55_10 a0 x1 x2 x3 x4 x5 M = some o) (hP : ∀ y, o = .inl y → V X 0 0 Q 10 [some (vr (xG X) a0), some (vi x1), some (vi x2), some (vi y.1), some (vi y.2.1), some (vi y.2.2)] [] M) (hE : ∀ z, o = .inr (.inl z) → V X 0 0 Q 61 [none, none, none, some (vi z), none, none] [] M) (hR : ∀ q, o = .inr (.inr q) → Q = Qn X (some (vi q)) M) : V X 0 0 Q 55 [some (vr (xG X) a0), some (vi x1), some (vi x2), some (vi x3), some (vi x4), some (vi x5)] [] M := by
  unfold j_X8_seedAmong_55_10 at h
  obtain ⟨x5_1, ex5_1, h⟩ := bnd_of h
  refine x_iinc (ls' := [some (vr (xG X) a0), some (vi x1), some (vi x2), some (vi x3), some (vi x4), some (vi x5_1)]) hX dX8_seedAmong_55 rfl rfl ex5_1 rfl ?_
  refine x_goto (tgt := 10) hX dX8_seedAmong_58 (by decide) ?_
  exact x_weak [true, true, true, true, true, true] rfl (hP (x3, x4, x5_1) (Option.some.inj h).symm)
set_option maxRecDepth 100000 in
set_option maxHeartbeats 4000000 in
theorem ts_X8_seedAmong_10 {X : Cxt} (hX : Gd X RX8 cX8_seedAmong 6 (some .int) 3) {a0 : Nat} (h0 : at_ (xG X) a0 11 0) (x1 : Int) (x2 : Int) (M : Mem) (x3 : Int) (x4 : Int) (x5 : Int) {Q : State → Prop} (o : (Int × Int × Int) ⊕ ((Int) ⊕ (Int))) (h : s_X8_seedAmong_10 a0 x1 x2 M x3 x4 x5 = some o) (hP : ∀ y, o = .inl y → V X 0 0 Q 10 [some (vr (xG X) a0), some (vi x1), some (vi x2), some (vi y.1), some (vi y.2.1), some (vi y.2.2)] [] M) (hE : ∀ z, o = .inr (.inl z) → V X 0 0 Q 61 [none, none, none, some (vi z), none, none] [] M) (hR : ∀ q, o = .inr (.inr q) → Q = Qn X (some (vi q)) M) : V X 0 0 Q 10 [some (vr (xG X) a0), some (vi x1), some (vi x2), some (vi x3), some (vi x4), some (vi x5)] [] M := by
  unfold s_X8_seedAmong_10 at h
  refine x_iload hX dX8_seedAmong_10 rfl ?_
  refine x_aloadn hX dX8_seedAmong_12 rfl ?_
  refine x_getRj (j := a0 + 9) hX dX8_seedAmong_13 fl_X8_39 rfl h0 rfl ?_
  refine x_getI hX dX8_seedAmong_16 fl_X8_43 rfl (fo_1_2 (gk hX) h0) ?_
  refine x_icmp_ge (tgt := 61) hX dX8_seedAmong_19 (by decide) rfl rfl (fun hc => ?_) (fun hc => ?_)
  · replace h := (if_pos hc).symm.trans h
    refine x_iloadn hX dX8_seedAmong_22 rfl ?_
    refine x_iload hX dX8_seedAmong_23 rfl ?_
    refine x_ishr hX dX8_seedAmong_25 ?_
    refine x_iconst hX dX8_seedAmong_26 ?_
    refine x_iand hX dX8_seedAmong_27 ?_
    refine x_if_eq (tgt := 55) hX dX8_seedAmong_28 (by decide) rfl (fun hc => ?_) (fun hc => ?_)
    · replace h := (if_pos hc).symm.trans h
      exact x_weak [true, true, true, true, true, true] rfl (tj_X8_seedAmong_55_10 hX h0 x1 x2 x3 x4 x5 M o h hP hE hR)
    · replace h := (if_neg hc).symm.trans h
      refine x_aloadn hX dX8_seedAmong_31 rfl ?_
      refine x_iload hX dX8_seedAmong_32 rfl ?_
      refine x_iloadn hX dX8_seedAmong_34 rfl ?_
      obtain ⟨r_2, er_2, h⟩ := cl1_of h
      refine x_callSi (As := [vr (xG X) a0, vi x5, vi x2]) (rest := []) hX dX8_seedAmong_35 (c_X8_seedValue (gk hX) (gl hX) h0 x5 x2 M _ er_2) kX8_seedValue sX8_seedValue w_1233 rfl rfl rfl (Nat.le_of_ble_eq_true rfl) z0 ?_
      refine x_iload hX dX8_seedAmong_38 rfl ?_
      refine x_icmp_le (tgt := 55) hX dX8_seedAmong_40 (by decide) rfl rfl (fun hc => ?_) (fun hc => ?_)
      · replace h := (if_pos hc).symm.trans h
        refine x_aloadn hX dX8_seedAmong_43 rfl ?_
        refine x_iload hX dX8_seedAmong_44 rfl ?_
        refine x_iloadn hX dX8_seedAmong_46 rfl ?_
        obtain ⟨r_4, er_4, h⟩ := cl1_of h
        refine x_callSi (As := [vr (xG X) a0, vi x5, vi x2]) (rest := []) hX dX8_seedAmong_47 (c_X8_seedValue (gk hX) (gl hX) h0 x5 x2 M _ er_4) kX8_seedValue sX8_seedValue w_1233 rfl rfl rfl (Nat.le_of_ble_eq_true rfl) z0 ?_
        refine x_istore (ls' := [some (vr (xG X) a0), some (vi x1), some (vi x2), some (vi x3), some (vi r_4), some (vi x5)]) hX dX8_seedAmong_50 rfl rfl rfl ?_
        refine x_iload hX dX8_seedAmong_52 rfl ?_
        refine x_istoren (ls' := [some (vr (xG X) a0), some (vi x1), some (vi x2), some (vi x5), some (vi r_4), some (vi x5)]) hX dX8_seedAmong_54 rfl rfl rfl ?_
        exact x_weak [true, true, true, true, true, true] rfl (tj_X8_seedAmong_55_10 hX h0 x1 x2 x5 r_4 x5 M o h hP hE hR)
      · replace h := (if_neg hc).symm.trans h
        exact x_weak [true, true, true, true, true, true] rfl (tj_X8_seedAmong_55_10 hX h0 x1 x2 x3 x4 x5 M o h hP hE hR)
  · replace h := (if_neg hc).symm.trans h
    exact x_weak [false, false, false, true, false, false] rfl (hE x3 (Option.some.inj h).symm)
set_option maxRecDepth 100000 in
set_option maxHeartbeats 4000000 in
theorem c_X8_seedAmong {l : Launch} {G : Gx} (hG : GOK G) (hl : l.stackTraces = false) {a0 : Nat} (h0 : at_ G a0 11 0) (x1 : Int) (x2 : Int) (M : Mem) (r : Int) (h : f_X8_seedAmong a0 x1 x2 M = some r) : Cn l G mX8_seedAmong 3 [vr G a0, vi x1, vi x2] M (some (vi r)) M := by
  refine Cn_of2 (ls := [some (vr G a0), some (vi x1), some (vi x2), none, none, none]) hG hl kX8_seedAmong rfl (Nat.le_of_ble_eq_true rfl) rfl rfl rfl rfl rfl (fun X eG el hX => ?_)
  subst eG; subst el
  unfold f_X8_seedAmong at h
  refine x_iconst hX dX8_seedAmong_0 ?_
  refine x_istoren (ls' := [some (vr (xG X) a0), some (vi x1), some (vi x2), some (vi 0), none, none]) hX dX8_seedAmong_1 rfl rfl rfl ?_
  refine x_sipush hX dX8_seedAmong_2 sp_m10000 ?_
  refine x_istore (ls' := [some (vr (xG X) a0), some (vi x1), some (vi x2), some (vi 0), some (vi (-10000)), none]) hX dX8_seedAmong_5 rfl rfl rfl ?_
  refine x_iconst hX dX8_seedAmong_7 ?_
  refine x_istore (ls' := [some (vr (xG X) a0), some (vi x1), some (vi x2), some (vi 0), some (vi (-10000)), some (vi 0)]) hX dX8_seedAmong_8 rfl rfl rfl ?_
  refine x_weak (ls' := [some (vr (xG X) a0), some (vi x1), some (vi x2), some (vi 0), some (vi (-10000)), some (vi 0)]) [true, true, true, true, true, true] rfl ?_
  refine lp_use (x := (0, (-10000), 0)) (P := fun x => V X 0 0 (Qn X (some (vi r)) M) 10 [some (vr (xG X) a0), some (vi x1), some (vi x2), some (vi x.1), some (vi x.2.1), some (vi x.2.2)] [] M) (PE := fun z_6 => V X 0 0 (Qn X (some (vi r)) M) 61 [none, none, none, some (vi z_6), none, none] [] M) (PR := fun q => (Qn X (some (vi r)) M) = Qn X (some (vi q)) M) h (fun x o hh hP hE hR => ts_X8_seedAmong_10 hX h0 x1 x2 M x.1 x.2.1 x.2.2 o hh hP hE hR) (fun z_6 h => ?_) (fun q h => ?_)
  · show V X 0 0 (Qn X (some (vi r)) M) 61 [none, none, none, some (vi z_6), none, none] [] M
    refine x_iloadn hX dX8_seedAmong_61 rfl ?_
    cases h
    exact x_iret hX dX8_seedAmong_62 rfl
  · cases h; rfl
set_option maxRecDepth 100000 in
set_option maxHeartbeats 4000000 in
theorem tj_X8_companionFor_38_6 {X : Cxt} (hX : Gd X RX8 cX8_companionFor 11 (some .int) 3) {a0 : Nat} (h0 : at_ (xG X) a0 11 0)  (x1 : Int) (x2 : Int) (x3 : Int) (x4 : Int) (x5 : Int) (M : Mem) {Q : State → Prop} (o : (Int × Int) ⊕ ((Int) ⊕ (Int))) (h : j_X8_companionFor_38_6 a0 x1 x2 x3 x4 x5 M = some o) (hP : ∀ y, o = .inl y → V X 0 0 Q 6 [some (vr (xG X) a0), some (vi x1), some (vi x2), some (vi x3), some (vi y.1), some (vi y.2), none, none, none, none, none] [] M) (hE : ∀ z, o = .inr (.inl z) → V X 0 0 Q 44 [some (vr (xG X) a0), some (vi x1), some (vi x2), some (vi x3), some (vi z), none, none, none, none, none, none] [] M) (hR : ∀ q, o = .inr (.inr q) → Q = Qn X (some (vi q)) M) : V X 0 0 Q 38 [some (vr (xG X) a0), some (vi x1), some (vi x2), some (vi x3), some (vi x4), some (vi x5), none, none, none, none, none] [] M := by
  unfold j_X8_companionFor_38_6 at h
  obtain ⟨x5_1, ex5_1, h⟩ := bnd_of h
  refine x_iinc (ls' := [some (vr (xG X) a0), some (vi x1), some (vi x2), some (vi x3), some (vi x4), some (vi x5_1), none, none, none, none, none]) hX dX8_companionFor_38 rfl rfl ex5_1 rfl ?_
  refine x_goto (tgt := 6) hX dX8_companionFor_41 (by decide) ?_
  exact x_weak [true, true, true, true, true, true, false, false, false, false, false] rfl (hP (x4, x5_1) (Option.some.inj h).symm)
set_option maxRecDepth 100000 in
set_option maxHeartbeats 4000000 in
theorem ts_X8_companionFor_6 {X : Cxt} (hX : Gd X RX8 cX8_companionFor 11 (some .int) 3) {a0 : Nat} (h0 : at_ (xG X) a0 11 0) (x1 : Int) (x2 : Int) (x3 : Int) (M : Mem) (x4 : Int) (x5 : Int) {Q : State → Prop} (o : (Int × Int) ⊕ ((Int) ⊕ (Int))) (h : s_X8_companionFor_6 a0 x1 x2 x3 M x4 x5 = some o) (hP : ∀ y, o = .inl y → V X 0 0 Q 6 [some (vr (xG X) a0), some (vi x1), some (vi x2), some (vi x3), some (vi y.1), some (vi y.2), none, none, none, none, none] [] M) (hE : ∀ z, o = .inr (.inl z) → V X 0 0 Q 44 [some (vr (xG X) a0), some (vi x1), some (vi x2), some (vi x3), some (vi z), none, none, none, none, none, none] [] M) (hR : ∀ q, o = .inr (.inr q) → Q = Qn X (some (vi q)) M) : V X 0 0 Q 6 [some (vr (xG X) a0), some (vi x1), some (vi x2), some (vi x3), some (vi x4), some (vi x5), none, none, none, none, none] [] M := by
  unfold s_X8_companionFor_6 at h
  refine x_iload hX dX8_companionFor_6 rfl ?_
  refine x_aloadn hX dX8_companionFor_8 rfl ?_
  refine x_getRj (j := a0 + 9) hX dX8_companionFor_9 fl_X8_39 rfl h0 rfl ?_
  refine x_getI hX dX8_companionFor_12 fl_X8_43 rfl (fo_1_2 (gk hX) h0) ?_
  refine x_icmp_ge (tgt := 44) hX dX8_companionFor_15 (by decide) rfl rfl (fun hc => ?_) (fun hc => ?_)
  · replace h := (if_pos hc).symm.trans h
    refine x_iloadn hX dX8_companionFor_18 rfl ?_
    refine x_iload hX dX8_companionFor_19 rfl ?_
    refine x_ishr hX dX8_companionFor_21 ?_
    refine x_iconst hX dX8_companionFor_22 ?_
    refine x_iand hX dX8_companionFor_23 ?_
    refine x_if_eq (tgt := 38) hX dX8_companionFor_24 (by decide) rfl (fun hc => ?_) (fun hc => ?_)
    · replace h := (if_pos hc).symm.trans h
      exact x_weak [true, true, true, true, true, true, false, false, false, false, false] rfl (tj_X8_companionFor_38_6 hX h0 x1 x2 x3 x4 x5 M o h hP hE hR)
    · replace h := (if_neg hc).symm.trans h
      refine x_iload hX dX8_companionFor_27 rfl ?_
      refine x_aloadn hX dX8_companionFor_29 rfl ?_
      refine x_iload hX dX8_companionFor_30 rfl ?_
      obtain ⟨r_2, er_2, h⟩ := cl1_of h
      refine x_callVi (t := 1) (As := [vi x5]) (rest := [vi x4]) hX dX8_companionFor_32 (c_X1_aislesOf (gk hX) (gl hX) h0 x5 M _ er_2) kX1_aislesOf vX1_aislesOf w_1236 h0 rfl rfl rfl rfl (Nat.le_of_ble_eq_true rfl) z0 ?_
      refine x_ior hX dX8_companionFor_35 ?_
      obtain ⟨x4_4, ex4_4, h⟩ := bnd_of h
      refine x_istore (ls' := [some (vr (xG X) a0), some (vi x1), some (vi x2), some (vi x3), some (vi x4_4), some (vi x5), none, none, none, none, none]) hX dX8_companionFor_36 rfl ex4_4 rfl ?_
      exact x_weak [true, true, true, true, true, true, false, false, false, false, false] rfl (tj_X8_companionFor_38_6 hX h0 x1 x2 x3 x4_4 x5 M o h hP hE hR)
  · replace h := (if_neg hc).symm.trans h
    exact x_weak [true, true, true, true, true, false, false, false, false, false, false] rfl (hE x4 (Option.some.inj h).symm)
set_option maxRecDepth 100000 in
set_option maxHeartbeats 4000000 in
theorem tj_X8_companionFor_147_63 {X : Cxt} (hX : Gd X RX8 cX8_companionFor 11 (some .int) 3) {a0 : Nat} (h0 : at_ (xG X) a0 11 0)  (x2 : Int) (x4 : Int) (x5 : Int) (x6 : Int) (x7 : Int) (x8 : Int) (M : Mem) {Q : State → Prop} (o : (Int × Int × Int) ⊕ ((Int) ⊕ (Int))) (h : j_X8_companionFor_147_63 a0 x2 x4 x5 x6 x7 x8 M = some o) (hP : ∀ y, o = .inl y → V X 0 0 Q 63 [some (vr (xG X) a0), none, some (vi x2), none, some (vi x4), some (vi x5), some (vi y.1), some (vi y.2.1), some (vi y.2.2), none, none] [] M) (hE : ∀ z, o = .inr (.inl z) → V X 0 0 Q 153 [none, none, none, none, none, none, some (vi z), none, none, none, none] [] M) (hR : ∀ q, o = .inr (.inr q) → Q = Qn X (some (vi q)) M) : V X 0 0 Q 147 [some (vr (xG X) a0), none, some (vi x2), none, some (vi x4), some (vi x5), some (vi x6), some (vi x7), some (vi x8), none, none] [] M := by
  unfold j_X8_companionFor_147_63 at h
  obtain ⟨x8_9, ex8_9, h⟩ := bnd_of h
  refine x_iinc (ls' := [some (vr (xG X) a0), none, some (vi x2), none, some (vi x4), some (vi x5), some (vi x6), some (vi x7), some (vi x8_9), none, none]) hX dX8_companionFor_147 rfl rfl ex8_9 rfl ?_
  refine x_goto (tgt := 63) hX dX8_companionFor_150 (by decide) ?_
  exact x_weak [true, false, true, false, true, true, true, true, true, false, false] rfl (hP (x6, x7, x8_9) (Option.some.inj h).symm)
set_option maxRecDepth 100000 in
set_option maxHeartbeats 4000000 in
theorem ts_X8_companionFor_63 {X : Cxt} (hX : Gd X RX8 cX8_companionFor 11 (some .int) 3) {a0 : Nat} (h0 : at_ (xG X) a0 11 0) (x2 : Int) (x4 : Int) (x5 : Int) (M : Mem) (x6 : Int) (x7 : Int) (x8 : Int) {Q : State → Prop} (o : (Int × Int × Int) ⊕ ((Int) ⊕ (Int))) (h : s_X8_companionFor_63 a0 x2 x4 x5 M x6 x7 x8 = some o) (hP : ∀ y, o = .inl y → V X 0 0 Q 63 [some (vr (xG X) a0), none, some (vi x2), none, some (vi x4), some (vi x5), some (vi y.1), some (vi y.2.1), some (vi y.2.2), none, none] [] M) (hE : ∀ z, o = .inr (.inl z) → V X 0 0 Q 153 [none, none, none, none, none, none, some (vi z), none, none, none, none] [] M) (hR : ∀ q, o = .inr (.inr q) → Q = Qn X (some (vi q)) M) : V X 0 0 Q 63 [some (vr (xG X) a0), none, some (vi x2), none, some (vi x4), some (vi x5), some (vi x6), some (vi x7), some (vi x8), none, none] [] M := by
  unfold s_X8_companionFor_63 at h
  refine x_iload hX dX8_companionFor_63 rfl ?_
  refine x_aloadn hX dX8_companionFor_65 rfl ?_
  refine x_getRj (j := a0 + 9) hX dX8_companionFor_66 fl_X8_39 rfl h0 rfl ?_
  refine x_getI hX dX8_companionFor_69 fl_X8_43 rfl (fo_1_2 (gk hX) h0) ?_
  refine x_icmp_ge (tgt := 153) hX dX8_companionFor_72 (by decide) rfl rfl (fun hc => ?_) (fun hc => ?_)
  · replace h := (if_pos hc).symm.trans h
    refine x_iloadn hX dX8_companionFor_75 rfl ?_
    refine x_iload hX dX8_companionFor_76 rfl ?_
    refine x_ishr hX dX8_companionFor_78 ?_
    refine x_iconst hX dX8_companionFor_79 ?_
    refine x_iand hX dX8_companionFor_80 ?_
    refine x_if_eq (tgt := 147) hX dX8_companionFor_81 (by decide) rfl (fun hc => ?_) (fun hc => ?_)
    · replace h := (if_pos hc).symm.trans h
      exact x_weak [true, false, true, false, true, true, true, true, true, false, false] rfl (tj_X8_companionFor_147_63 hX h0 x2 x4 x5 x6 x7 x8 M o h hP hE hR)
    · replace h := (if_neg hc).symm.trans h
      refine x_aloadn hX dX8_companionFor_84 rfl ?_
      refine x_iload hX dX8_companionFor_85 rfl ?_
      obtain ⟨r_10, er_10, h⟩ := cl1_of h
      refine x_callVi (t := 1) (As := [vi x8]) (rest := []) hX dX8_companionFor_87 (c_X1_weightOf (gk hX) (gl hX) h0 x8 M _ er_10) kX1_weightOf vX1_weightOf w_1229 h0 rfl rfl rfl rfl (Nat.le_of_ble_eq_true rfl) z0 ?_
      refine x_iload hX dX8_companionFor_90 rfl ?_
      refine x_icmp_gt (tgt := 147) hX dX8_companionFor_92 (by decide) rfl rfl (fun hc => ?_) (fun hc => ?_)
      · replace h := (if_pos hc).symm.trans h
        exact x_weak [true, false, true, false, true, true, true, true, true, false, false] rfl (tj_X8_companionFor_147_63 hX h0 x2 x4 x5 x6 x7 x8 M o h hP hE hR)
      · replace h := (if_neg hc).symm.trans h
        refine x_aloadn hX dX8_companionFor_95 rfl ?_
        refine x_iload hX dX8_companionFor_96 rfl ?_
        obtain ⟨r_12, er_12, h⟩ := cl1_of h
        refine x_callVi (t := 1) (As := [vi x8]) (rest := []) hX dX8_companionFor_98 (c_X1_aislesOf (gk hX) (gl hX) h0 x8 M _ er_12) kX1_aislesOf vX1_aislesOf w_1236 h0 rfl rfl rfl rfl (Nat.le_of_ble_eq_true rfl) z0 ?_
        refine x_iload hX dX8_companionFor_101 rfl ?_
        refine x_iconst hX dX8_companionFor_103 ?_
        refine x_ixor hX dX8_companionFor_104 ?_
        refine x_iand hX dX8_companionFor_105 ?_
        obtain ⟨r_14, er_14, h⟩ := cl1_of h
        refine x_callSi (As := [vi (i_and r_12 (i_xor x4 (-1)))]) (rest := []) hX dX8_companionFor_106 (c_J6_bitCount_0f7a4 (gk hX) (gl hX) (i_and r_12 (i_xor x4 (-1))) M _ er_14) kJ6_bitCount_0f7a4 sJ6_bitCount_0f7a4 w_1237 rfl rfl rfl (Nat.le_of_ble_eq_true rfl) z0 ?_
        refine x_istore (ls' := [some (vr (xG X) a0), none, some (vi x2), none, some (vi x4), some (vi x5), some (vi x6), some (vi x7), some (vi x8), some (vi r_14), none]) hX dX8_companionFor_109 rfl rfl rfl ?_
        refine x_iload hX dX8_companionFor_111 rfl ?_
        refine x_sipush hX dX8_companionFor_113 sp_10000 ?_
        refine x_imul hX dX8_companionFor_116 ?_
        refine x_aloadn hX dX8_companionFor_117 rfl ?_
        refine x_getRj (j := a0 + 9) hX dX8_companionFor_118 fl_X8_39 rfl h0 rfl ?_
        refine x_getRj (j := a0 + 9 + 1) hX dX8_companionFor_121 fl_X8_64 rfl (fo_1_2 (gk hX) h0) rfl ?_
        refine x_iload hX dX8_companionFor_124 rfl ?_
        obtain ⟨b_16, h⟩ := gi_of h
        refine x_iald hX dX8_companionFor_126 (fo_5_2 (gk hX) (fo_1_2 (gk hX) h0)) b_16 rfl ?_
        refine x_iadd hX dX8_companionFor_127 ?_
        obtain ⟨x10_17, ex10_17, h⟩ := bnd_of h
        refine x_istore (ls' := [some (vr (xG X) a0), none, some (vi x2), none, some (vi x4), some (vi x5), some (vi x6), some (vi x7), some (vi x8), some (vi r_14), some (vi x10_17)]) hX dX8_companionFor_128 rfl ex10_17 rfl ?_
        refine x_iload hX dX8_companionFor_130 rfl ?_
        refine x_iload hX dX8_companionFor_132 rfl ?_
        refine x_icmp_ge (tgt := 147) hX dX8_companionFor_134 (by decide) rfl rfl (fun hc => ?_) (fun hc => ?_)
        · replace h := (if_pos hc).symm.trans h
          refine x_iload hX dX8_companionFor_137 rfl ?_
          refine x_istore (ls' := [some (vr (xG X) a0), none, some (vi x2), none, some (vi x4), some (vi x5), some (vi x6), some (vi x10_17), some (vi x8), some (vi r_14), some (vi x10_17)]) hX dX8_companionFor_139 rfl rfl rfl ?_
          refine x_iconst hX dX8_companionFor_141 ?_
          refine x_iload hX dX8_companionFor_142 rfl ?_
          refine x_ishl hX dX8_companionFor_144 ?_
          obtain ⟨x6_18, ex6_18, h⟩ := bnd_of h
          refine x_istore (ls' := [some (vr (xG X) a0), none, some (vi x2), none, some (vi x4), some (vi x5), some (vi x6_18), some (vi x10_17), some (vi x8), some (vi r_14), some (vi x10_17)]) hX dX8_companionFor_145 rfl ex6_18 rfl ?_
          exact x_weak [true, false, true, false, true, true, true, true, true, false, false] rfl (tj_X8_companionFor_147_63 hX h0 x2 x4 x5 x6_18 x10_17 x8 M o h hP hE hR)
        · replace h := (if_neg hc).symm.trans h
          exact x_weak [true, false, true, false, true, true, true, true, true, false, false] rfl (tj_X8_companionFor_147_63 hX h0 x2 x4 x5 x6 x7 x8 M o h hP hE hR)
  · replace h := (if_neg hc).symm.trans h
    exact x_weak [false, false, false, false, false, false, true, false, false, false, false] rfl (hE x6 (Option.some.inj h).symm)
set_option maxRecDepth 100000 in
set_option maxHeartbeats 4000000 in
theorem c_X8_companionFor {l : Launch} {G : Gx} (hG : GOK G) (hl : l.stackTraces = false) {a0 : Nat} (h0 : at_ G a0 11 0) (x1 : Int) (x2 : Int) (x3 : Int) (M : Mem) (r : Int) (h : f_X8_companionFor a0 x1 x2 x3 M = some r) : Cn l G mX8_companionFor 3 [vr G a0, vi x1, vi x2, vi x3] M (some (vi r)) M := by
  refine Cn_of2 (ls := [some (vr G a0), some (vi x1), some (vi x2), some (vi x3), none, none, none, none, none, none, none]) hG hl kX8_companionFor rfl (Nat.le_of_ble_eq_true rfl) rfl rfl rfl rfl rfl (fun X eG el hX => ?_)
  subst eG; subst el
  unfold f_X8_companionFor at h
  refine x_iconst hX dX8_companionFor_0 ?_
  refine x_istore (ls' := [some (vr (xG X) a0), some (vi x1), some (vi x2), some (vi x3), some (vi 0), none, none, none, none, none, none]) hX dX8_companionFor_1 rfl rfl rfl ?_
  refine x_iconst hX dX8_companionFor_3 ?_
  refine x_istore (ls' := [some (vr (xG X) a0), some (vi x1), some (vi x2), some (vi x3), some (vi 0), some (vi 0), none, none, none, none, none]) hX dX8_companionFor_4 rfl rfl rfl ?_
  refine x_weak (ls' := [some (vr (xG X) a0), some (vi x1), some (vi x2), some (vi x3), some (vi 0), some (vi 0), none, none, none, none, none]) [true, true, true, true, true, true, false, false, false, false, false] rfl ?_
  refine lp_use (x := (0, 0)) (P := fun x => V X 0 0 (Qn X (some (vi r)) M) 6 [some (vr (xG X) a0), some (vi x1), some (vi x2), some (vi x3), some (vi x.1), some (vi x.2), none, none, none, none, none] [] M) (PE := fun z_5 => V X 0 0 (Qn X (some (vi r)) M) 44 [some (vr (xG X) a0), some (vi x1), some (vi x2), some (vi x3), some (vi z_5), none, none, none, none, none, none] [] M) (PR := fun q => (Qn X (some (vi r)) M) = Qn X (some (vi q)) M) h (fun x o hh hP hE hR => ts_X8_companionFor_6 hX h0 x1 x2 x3 M x.1 x.2 o hh hP hE hR) (fun z_5 h => ?_) (fun q h => ?_)
  · show V X 0 0 (Qn X (some (vi r)) M) 44 [some (vr (xG X) a0), some (vi x1), some (vi x2), some (vi x3), some (vi z_5), none, none, none, none, none, none] [] M
    refine x_iloadn hX dX8_companionFor_44 rfl ?_
    refine x_aloadn hX dX8_companionFor_45 rfl ?_
    refine x_iloadn hX dX8_companionFor_46 rfl ?_
    obtain ⟨r_6, er_6, h⟩ := cl1_of h
    refine x_callVi (t := 1) (As := [vi x1]) (rest := [vi x3]) hX dX8_companionFor_47 (c_X1_weightOfAll (gk hX) (gl hX) h0 x1 M _ er_6) kX1_weightOfAll vX1_weightOfAll w_1246 h0 rfl rfl rfl rfl (Nat.le_of_ble_eq_true rfl) z0 ?_
    refine x_isub hX dX8_companionFor_50 ?_
    obtain ⟨x5_8, ex5_8, h⟩ := bnd_of h
    refine x_istore (ls' := [some (vr (xG X) a0), some (vi x1), some (vi x2), some (vi x3), some (vi z_5), some (vi x5_8), none, none, none, none, none]) hX dX8_companionFor_51 rfl ex5_8 rfl ?_
    refine x_iconst hX dX8_companionFor_53 ?_
    refine x_istore (ls' := [some (vr (xG X) a0), some (vi x1), some (vi x2), some (vi x3), some (vi z_5), some (vi x5_8), some (vi 0), none, none, none, none]) hX dX8_companionFor_54 rfl rfl rfl ?_
    refine x_ldc hX dX8_companionFor_56 w_1251 ?_
    refine x_istore (ls' := [some (vr (xG X) a0), some (vi x1), some (vi x2), some (vi x3), some (vi z_5), some (vi x5_8), some (vi 0), some (vi 1000000000), none, none, none]) hX dX8_companionFor_58 rfl rfl rfl ?_
    refine x_iconst hX dX8_companionFor_60 ?_
    refine x_istore (ls' := [some (vr (xG X) a0), some (vi x1), some (vi x2), some (vi x3), some (vi z_5), some (vi x5_8), some (vi 0), some (vi 1000000000), some (vi 0), none, none]) hX dX8_companionFor_61 rfl rfl rfl ?_
    refine x_weak (ls' := [some (vr (xG X) a0), none, some (vi x2), none, some (vi z_5), some (vi x5_8), some (vi 0), some (vi 1000000000), some (vi 0), none, none]) [true, false, true, false, true, true, true, true, true, false, false] rfl ?_
    refine lp_use (x := (0, 1000000000, 0)) (P := fun x => V X 0 0 (Qn X (some (vi r)) M) 63 [some (vr (xG X) a0), none, some (vi x2), none, some (vi z_5), some (vi x5_8), some (vi x.1), some (vi x.2.1), some (vi x.2.2), none, none] [] M) (PE := fun z_19 => V X 0 0 (Qn X (some (vi r)) M) 153 [none, none, none, none, none, none, some (vi z_19), none, none, none, none] [] M) (PR := fun q => (Qn X (some (vi r)) M) = Qn X (some (vi q)) M) h (fun x o hh hP hE hR => ts_X8_companionFor_63 hX h0 x2 z_5 x5_8 M x.1 x.2.1 x.2.2 o hh hP hE hR) (fun z_19 h => ?_) (fun q h => ?_)
    · show V X 0 0 (Qn X (some (vi r)) M) 153 [none, none, none, none, none, none, some (vi z_19), none, none, none, none] [] M
      refine x_iload hX dX8_companionFor_153 rfl ?_
      cases h
      exact x_iret hX dX8_companionFor_155 rfl
    · cases h; rfl
  · cases h; rfl
set_option maxRecDepth 100000 in
set_option maxHeartbeats 4000000 in
theorem tj_X10_readNumber_35 {X : Cxt} (hX : Gd X RX10 cX10_readNumber 3 (some .boolean) 3) (hs : SOK (xG X))   (M : Mem) (r : Int) (Mr : Mem) (h : j_X10_readNumber_35 M = some (r, Mr)) : V X 0 0 (Qn X (some (vi r)) Mr) 35 [none, none, none] [] M := by
  unfold j_X10_readNumber_35 at h
  refine x_iconst hX dX10_readNumber_35 ?_
  refine x_goto (tgt := 40) hX dX10_readNumber_36 (by decide) ?_
  cases h
  exact x_zret hX dX10_readNumber_40 (Or.inr cw_1) rfl
set_option maxRecDepth 100000 in
set_option maxHeartbeats 4000000 in
theorem c_X10_readNumber {l : Launch} {G : Gx} (hG : GOK G) (hl : l.stackTraces = false) (hs : SOK G)  (x1 : Int) (x2 : Int) (M : Mem) (r : Int) (Mr : Mem) (h : f_X10_readNumber x1 x2 M = some (r, Mr)) : Cn l G mX10_readNumber 3 [vr G 38, vi x1, vi x2] M (some (vi r)) Mr := by
  refine Cn_of2 (ls := [some (vr G 38), some (vi x1), some (vi x2)]) hG hl kX10_readNumber rfl (Nat.le_of_ble_eq_true rfl) rfl rfl rfl rfl rfl (fun X eG el hX => ?_)
  subst eG; subst el
  unfold f_X10_readNumber at h
  refine x_aloadn hX dX10_readNumber_0 rfl ?_
  obtain ⟨M_2, er_1, h⟩ := cl1_of h
  refine x_callVv (t := 9) (As := []) (rest := []) hX dX10_readNumber_1 (c_X10_nextToken (gk hX) (gl hX) hs M _ er_1) kX10_nextToken vX10_nextToken w_783 (st38 hs) rfl rfl rfl rfl (Nat.le_of_ble_eq_true rfl) z0 ?_
  refine x_aloadn hX dX10_readNumber_4 rfl ?_
  refine x_getI hX dX10_readNumber_5 fl_X10_44 rfl (st38 hs) ?_
  refine x_iconst hX dX10_readNumber_8 ?_
  refine x_icmp_eq (tgt := 18) hX dX10_readNumber_9 (by decide) rfl cw_2 (fun hc => ?_) (fun hc => ?_)
  · replace h := (if_pos hc).symm.trans h
    refine x_aloadn hX dX10_readNumber_18 rfl ?_
    refine x_iloadn hX dX10_readNumber_19 rfl ?_
    refine x_iloadn hX dX10_readNumber_20 rfl ?_
    obtain ⟨r_3, er_3, h⟩ := cl1_of h
    refine x_callVi (t := 9) (As := [vi x1, vi x2]) (rest := []) hX dX10_readNumber_21 (c_X10_isWithin (gk hX) (gl hX) hs x1 x2 M_2 _ er_3) kX10_isWithin vX10_isWithin w_857 (st38 hs) rfl rfl rfl rfl (Nat.le_of_ble_eq_true rfl) z0 ?_
    refine x_if_ne (tgt := 35) hX dX10_readNumber_24 (by decide) rfl (fun hc => ?_) (fun hc => ?_)
    · replace h := (if_pos hc).symm.trans h
      refine x_aloadn hX dX10_readNumber_27 rfl ?_
      refine x_iconst hX dX10_readNumber_28 ?_
      obtain ⟨r_5, M_6, er_5, h⟩ := cl2_of h
      refine x_callVi (t := 9) (As := [vi 2]) (rest := []) hX dX10_readNumber_29 (c_X10_fail (gk hX) (gl hX) hs 2 M_2 _ _ er_5) kX10_fail vX10_fail w_849 (st38 hs) rfl rfl rfl rfl (Nat.le_of_ble_eq_true rfl) z0 ?_
      refine x_if_eq (tgt := 39) hX dX10_readNumber_32 (by decide) rfl (fun hc => ?_) (fun hc => ?_)
      · replace h := (if_pos hc).symm.trans h
        refine x_iconst hX dX10_readNumber_39 ?_
        cases h
        exact x_zret hX dX10_readNumber_40 (Or.inl cw_0) rfl
      · replace h := (if_neg hc).symm.trans h
        exact x_weak [false, false, false] rfl (tj_X10_readNumber_35 hX hs M_6 r Mr h)
    · replace h := (if_neg hc).symm.trans h
      exact x_weak [false, false, false] rfl (tj_X10_readNumber_35 hX hs M_2 r Mr h)
  · replace h := (if_neg hc).symm.trans h
    refine x_aloadn hX dX10_readNumber_12 rfl ?_
    refine x_iconst hX dX10_readNumber_13 ?_
    obtain ⟨r_7, M_8, er_7, h⟩ := cl2_of h
    refine x_callVi (t := 9) (As := [vi 1]) (rest := []) hX dX10_readNumber_14 (c_X10_fail (gk hX) (gl hX) hs 1 M_2 _ _ er_7) kX10_fail vX10_fail w_849 (st38 hs) rfl rfl rfl rfl (Nat.le_of_ble_eq_true rfl) z0 ?_
    obtain ⟨b_9, h⟩ := gz_of h
    cases h
    exact x_zret hX dX10_readNumber_17 b_9 rfl
set_option maxRecDepth 100000 in
set_option maxHeartbeats 4000000 in
theorem tj_X10_readSemicolon_20 {X : Cxt} (hX : Gd X RX10 cX10_readSemicolon 1 (some .boolean) 3) (hs : SOK (xG X))   (M : Mem) (r : Int) (Mr : Mem) (h : j_X10_readSemicolon_20 M = some (r, Mr)) : V X 0 0 (Qn X (some (vi r)) Mr) 20 [none] [] M := by
  unfold j_X10_readSemicolon_20 at h
  refine x_iconst hX dX10_readSemicolon_20 ?_
  refine x_goto (tgt := 25) hX dX10_readSemicolon_21 (by decide) ?_
  cases h
  exact x_zret hX dX10_readSemicolon_25 (Or.inr cw_1) rfl
set_option maxRecDepth 100000 in
set_option maxHeartbeats 4000000 in
theorem c_X10_readSemicolon {l : Launch} {G : Gx} (hG : GOK G) (hl : l.stackTraces = false) (hs : SOK G)  (M : Mem) (r : Int) (Mr : Mem) (h : f_X10_readSemicolon M = some (r, Mr)) : Cn l G mX10_readSemicolon 3 [vr G 38] M (some (vi r)) Mr := by
  refine Cn_of2 (ls := [some (vr G 38)]) hG hl kX10_readSemicolon rfl (Nat.le_of_ble_eq_true rfl) rfl rfl rfl rfl rfl (fun X eG el hX => ?_)
  subst eG; subst el
  unfold f_X10_readSemicolon at h
  refine x_aloadn hX dX10_readSemicolon_0 rfl ?_
  obtain ⟨M_2, er_1, h⟩ := cl1_of h
  refine x_callVv (t := 9) (As := []) (rest := []) hX dX10_readSemicolon_1 (c_X10_nextToken (gk hX) (gl hX) hs M _ er_1) kX10_nextToken vX10_nextToken w_783 (st38 hs) rfl rfl rfl rfl (Nat.le_of_ble_eq_true rfl) z0 ?_
  refine x_aloadn hX dX10_readSemicolon_4 rfl ?_
  refine x_getI hX dX10_readSemicolon_5 fl_X10_44 rfl (st38 hs) ?_
  refine x_iconst hX dX10_readSemicolon_8 ?_
  refine x_icmp_eq (tgt := 20) hX dX10_readSemicolon_9 (by decide) rfl cw_3 (fun hc => ?_) (fun hc => ?_)
  · replace h := (if_pos hc).symm.trans h
    exact x_weak [false] rfl (tj_X10_readSemicolon_20 hX hs M_2 r Mr h)
  · replace h := (if_neg hc).symm.trans h
    refine x_aloadn hX dX10_readSemicolon_12 rfl ?_
    refine x_iconst hX dX10_readSemicolon_13 ?_
    obtain ⟨r_3, M_4, er_3, h⟩ := cl2_of h
    refine x_callVi (t := 9) (As := [vi 1]) (rest := []) hX dX10_readSemicolon_14 (c_X10_fail (gk hX) (gl hX) hs 1 M_2 _ _ er_3) kX10_fail vX10_fail w_849 (st38 hs) rfl rfl rfl rfl (Nat.le_of_ble_eq_true rfl) z0 ?_
    refine x_if_eq (tgt := 24) hX dX10_readSemicolon_17 (by decide) rfl (fun hc => ?_) (fun hc => ?_)
    · replace h := (if_pos hc).symm.trans h
      refine x_iconst hX dX10_readSemicolon_24 ?_
      cases h
      exact x_zret hX dX10_readSemicolon_25 (Or.inl cw_0) rfl
    · replace h := (if_neg hc).symm.trans h
      exact x_weak [false] rfl (tj_X10_readSemicolon_20 hX hs M_4 r Mr h)
set_option maxRecDepth 100000 in
set_option maxHeartbeats 4000000 in
theorem c_X11_cancel {l : Launch} {G : Gx} (hG : GOK G) (hl : l.stackTraces = false) (hs : SOK G)  (x1 : Int) (M : Mem) (r : Nat ⊕ Int) (Mr : Mem) (h : f_X11_cancel x1 M = some (r, Mr)) : Cx l G mX11_cancel 4 2 12 [vr G 0, vi x1] M (ovi r) Mr := by
  refine Cx_of2 (ls := [some (vr G 0), some (vi x1)]) hG hl kX11_cancel rfl (Nat.le_of_ble_eq_true rfl) rfl rfl rfl rfl rfl (fun X eG el hX hN => ?_)
  subst eG; subst el
  unfold f_X11_cancel at h
  refine x_aloadn hX dX11_cancel_0 rfl ?_
  refine x_iloadn hX dX11_cancel_1 rfl ?_
  rcases cx1_of h with ⟨e_3, ee_3, h⟩ | ⟨r_1, er_1, h⟩
  · exact x_rs2 (f := ovi) h (x_xVt (t := 10) (As := [vi x1]) (rest := []) hX hN dX11_cancel_2 (c_X11_needOrder (gk hX) (gl hX) hs x1 M _ ee_3) kX11_needOrder vX11_needOrder w_1123 (st0 hs) rfl rfl rfl rfl (Nat.le_of_ble_eq_true rfl) (Nat.le_of_ble_eq_true rfl) (Nat.le_of_ble_eq_true rfl))
  · refine x_xVr (t := 10) (As := [vi x1]) (rest := []) hX dX11_cancel_2 (c_X11_needOrder (gk hX) (gl hX) hs x1 M _ er_1) kX11_needOrder vX11_needOrder w_1123 (st0 hs) rfl rfl rfl rfl (Nat.le_of_ble_eq_true rfl) (kf hN (a := 1) (b := 6) (Nat.le_of_ble_eq_true rfl) (Nat.le_of_ble_eq_true rfl)) ?_
    show V X 1 6 _ 5 [some (vr (xG X) 0), some (vi x1)] [] M
    refine x_aloadn hX dX11_cancel_5 rfl ?_
    refine x_iloadn hX dX11_cancel_6 rfl ?_
    rcases cx1_of h with ⟨e_6, ee_6, h⟩ | ⟨r_4, er_4, h⟩
    · exact x_rs2 (f := ovi) h (x_xVt (t := 10) (As := [vi x1]) (rest := []) hX hN dX11_cancel_7 (c_X11_needUnfinished (gk hX) (gl hX) hs x1 M _ ee_6) kX11_needUnfinished vX11_needUnfinished w_1158 (st0 hs) rfl rfl rfl rfl (Nat.le_of_ble_eq_true rfl) (Nat.le_of_ble_eq_true rfl) (Nat.le_of_ble_eq_true rfl))
    · refine x_xVr (t := 10) (As := [vi x1]) (rest := []) hX dX11_cancel_7 (c_X11_needUnfinished (gk hX) (gl hX) hs x1 M _ er_4) kX11_needUnfinished vX11_needUnfinished w_1158 (st0 hs) rfl rfl rfl rfl (Nat.le_of_ble_eq_true rfl) (kf hN (a := 2) (b := 12) (Nat.le_of_ble_eq_true rfl) (Nat.le_of_ble_eq_true rfl)) ?_
      show V X 2 12 _ 10 [some (vr (xG X) 0), some (vi x1)] [] M
      refine x_aloadn hX dX11_cancel_10 rfl ?_
      refine x_getRj (j := 1) hX dX11_cancel_11 fl_X11_10 rfl (st0 hs) rfl ?_
      refine x_getRj (j := 17) hX dX11_cancel_14 fl_X11_159 rfl (st1 hs) rfl ?_
      refine x_iloadn hX dX11_cancel_17 rfl ?_
      obtain ⟨M_8, er_7, h⟩ := cl1_of h
      refine x_callVv (t := 0) (As := [vi x1]) (rest := []) hX dX11_cancel_18 (c_X0_takeOut (gk hX) (gl hX) (st17 hs) x1 M _ er_7) kX0_takeOut vX0_takeOut w_1192 (st17 hs) rfl rfl rfl rfl (Nat.le_of_ble_eq_true rfl) (kf hN (a := 2) (b := 12) (Nat.le_of_ble_eq_true rfl) (Nat.le_of_ble_eq_true rfl)) ?_
      refine x_aloadn hX dX11_cancel_21 rfl ?_
      refine x_getRj (j := 1) hX dX11_cancel_22 fl_X11_10 rfl (st0 hs) rfl ?_
      refine x_getRj (j := 10) hX dX11_cancel_25 fl_X11_118 rfl (st1 hs) rfl ?_
      refine x_getRj (j := 12) hX dX11_cancel_28 fl_X11_130 rfl (st10 hs) rfl ?_
      refine x_iloadn hX dX11_cancel_31 rfl ?_
      refine x_iconst hX dX11_cancel_32 ?_
      obtain ⟨b_10, h⟩ := gi_of h
      obtain ⟨M_9, eM_9, h⟩ := bnd_of h
      refine x_iast hX dX11_cancel_33 (st12 hs) b_10 rfl (x_meq eM_9 ?_)
      refine x_aloadn hX dX11_cancel_34 rfl ?_
      refine x_getRj (j := 1) hX dX11_cancel_35 fl_X11_10 rfl (st0 hs) rfl ?_
      refine x_getRj (j := 17) hX dX11_cancel_38 fl_X11_159 rfl (st1 hs) rfl ?_
      refine x_getI hX dX11_cancel_41 fl_X11_168 rfl (st17 hs) ?_
      cases h
      exact x_iretX hX dX11_cancel_44 (Nat.le_of_ble_eq_true rfl) (Nat.le_of_ble_eq_true rfl)
set_option maxRecDepth 100000 in
set_option maxHeartbeats 4000000 in
theorem c_X11_routeLength {l : Launch} {G : Gx} (hG : GOK G) (hl : l.stackTraces = false) (hs : SOK G)  (x1 : Int) (x2 : Int) (x3 : Int) (M : Mem) (r : Nat ⊕ Int) (Mr : Mem) (h : f_X11_routeLength x1 x2 x3 M = some (r, Mr)) : Cx l G mX11_routeLength 4 3 18 [vr G 0, vi x1, vi x2, vi x3] M (ovi r) Mr := by
  refine Cx_of2 (ls := [some (vr G 0), some (vi x1), some (vi x2), some (vi x3)]) hG hl kX11_routeLength rfl (Nat.le_of_ble_eq_true rfl) rfl rfl rfl rfl rfl (fun X eG el hX hN => ?_)
  subst eG; subst el
  unfold f_X11_routeLength at h
  refine x_aloadn hX dX11_routeLength_0 rfl ?_
  refine x_iloadn hX dX11_routeLength_1 rfl ?_
  rcases cx1_of h with ⟨e_3, ee_3, h⟩ | ⟨r_1, er_1, h⟩
  · exact x_rs2 (f := ovi) h (x_xVt (t := 10) (As := [vi x1]) (rest := []) hX hN dX11_routeLength_2 (c_X11_needBatch (gk hX) (gl hX) hs x1 M _ ee_3) kX11_needBatch vX11_needBatch w_1282 (st0 hs) rfl rfl rfl rfl (Nat.le_of_ble_eq_true rfl) (Nat.le_of_ble_eq_true rfl) (Nat.le_of_ble_eq_true rfl))
  · refine x_xVr (t := 10) (As := [vi x1]) (rest := []) hX dX11_routeLength_2 (c_X11_needBatch (gk hX) (gl hX) hs x1 M _ er_1) kX11_needBatch vX11_needBatch w_1282 (st0 hs) rfl rfl rfl rfl (Nat.le_of_ble_eq_true rfl) (kf hN (a := 1) (b := 6) (Nat.le_of_ble_eq_true rfl) (Nat.le_of_ble_eq_true rfl)) ?_
    show V X 1 6 _ 5 [some (vr (xG X) 0), some (vi x1), some (vi x2), some (vi x3)] [] M
    refine x_aloadn hX dX11_routeLength_5 rfl ?_
    refine x_iloadn hX dX11_routeLength_6 rfl ?_
    rcases cx1_of h with ⟨e_6, ee_6, h⟩ | ⟨r_4, er_4, h⟩
    · exact x_rs2 (f := ovi) h (x_xVt (t := 10) (As := [vi x2]) (rest := []) hX hN dX11_routeLength_7 (c_X11_needZone (gk hX) (gl hX) hs x2 M _ ee_6) kX11_needZone vX11_needZone w_1424 (st0 hs) rfl rfl rfl rfl (Nat.le_of_ble_eq_true rfl) (Nat.le_of_ble_eq_true rfl) (Nat.le_of_ble_eq_true rfl))
    · refine x_xVr (t := 10) (As := [vi x2]) (rest := []) hX dX11_routeLength_7 (c_X11_needZone (gk hX) (gl hX) hs x2 M _ er_4) kX11_needZone vX11_needZone w_1424 (st0 hs) rfl rfl rfl rfl (Nat.le_of_ble_eq_true rfl) (kf hN (a := 2) (b := 12) (Nat.le_of_ble_eq_true rfl) (Nat.le_of_ble_eq_true rfl)) ?_
      show V X 2 12 _ 10 [some (vr (xG X) 0), some (vi x1), some (vi x2), some (vi x3)] [] M
      refine x_iloadn hX dX11_routeLength_10 rfl ?_
      refine x_iconst hX dX11_routeLength_11 ?_
      refine x_iconst hX dX11_routeLength_12 ?_
      rcases cx1_of h with ⟨e_9, ee_9, h⟩ | ⟨r_7, er_7, h⟩
      · exact x_rs2 (f := ovi) h (x_xSt (As := [vi x3, vi 0, vi 3]) (rest := []) hX hN dX11_routeLength_13 (c_X11_needArgument (gk hX) (gl hX) x3 0 3 M _ ee_9) kX11_needArgument sX11_needArgument w_965 rfl rfl rfl (Nat.le_of_ble_eq_true rfl) (Nat.le_of_ble_eq_true rfl) (Nat.le_of_ble_eq_true rfl))
      · refine x_xSr (As := [vi x3, vi 0, vi 3]) (rest := []) hX dX11_routeLength_13 (c_X11_needArgument (gk hX) (gl hX) x3 0 3 M _ er_7) kX11_needArgument sX11_needArgument w_965 rfl rfl rfl (Nat.le_of_ble_eq_true rfl) (kf hN (a := 3) (b := 18) (Nat.le_of_ble_eq_true rfl) (Nat.le_of_ble_eq_true rfl)) ?_
        show V X 3 18 _ 16 [some (vr (xG X) 0), some (vi x1), some (vi x2), some (vi x3)] [] M
        refine x_aloadn hX dX11_routeLength_16 rfl ?_
        refine x_getRj (j := 40) hX dX11_routeLength_17 fl_X11_33 rfl (st0 hs) rfl ?_
        refine x_aloadn hX dX11_routeLength_20 rfl ?_
        refine x_getRj (j := 1) hX dX11_routeLength_21 fl_X11_10 rfl (st0 hs) rfl ?_
        refine x_aloadn hX dX11_routeLength_24 rfl ?_
        refine x_getRj (j := 1) hX dX11_routeLength_25 fl_X11_10 rfl (st0 hs) rfl ?_
        refine x_getRj (j := 17) hX dX11_routeLength_28 fl_X11_159 rfl (st1 hs) rfl ?_
        refine x_getRj (j := 18) hX dX11_routeLength_31 fl_X11_195 rfl (st17 hs) rfl ?_
        refine x_iloadn hX dX11_routeLength_34 rfl ?_
        obtain ⟨b_10, h⟩ := gi_of h
        refine x_iald hX dX11_routeLength_35 (st18 hs) b_10 rfl ?_
        obtain ⟨M_12, er_11, h⟩ := cl1_of h
        refine x_callVv (t := 6) (As := [vr (xG X) 1, vi (M 18 (ix x1))]) (rest := []) hX dX11_routeLength_36 (c_X6_survey (gk hX) (gl hX) (st40 hs) (st1 hs) (M 18 (ix x1)) M _ er_11) kX6_survey vX6_survey w_1428 (st40 hs) rfl rfl rfl rfl (Nat.le_of_ble_eq_true rfl) (kf hN (a := 3) (b := 18) (Nat.le_of_ble_eq_true rfl) (Nat.le_of_ble_eq_true rfl)) ?_
        refine x_aloadn hX dX11_routeLength_39 rfl ?_
        refine x_getRj (j := 40) hX dX11_routeLength_40 fl_X11_33 rfl (st0 hs) rfl ?_
        refine x_aloadn hX dX11_routeLength_43 rfl ?_
        refine x_getRj (j := 1) hX dX11_routeLength_44 fl_X11_10 rfl (st0 hs) rfl ?_
        refine x_getRj (j := 2) hX dX11_routeLength_47 fl_X11_79 rfl (st1 hs) rfl ?_
        refine x_iloadn hX dX11_routeLength_50 rfl ?_
        refine x_iloadn hX dX11_routeLength_51 rfl ?_
        obtain ⟨r_13, M_14, er_13, h⟩ := cl2_of h
        refine x_callVi (t := 6) (As := [vr (xG X) 2, vi x2, vi x3]) (rest := []) hX dX11_routeLength_52 (c_X6_lengthIn (gk hX) (gl hX) (st40 hs) (st2 hs) x2 x3 M_12 _ _ er_13) kX6_lengthIn vX6_lengthIn w_1429 (st40 hs) rfl rfl rfl rfl (Nat.le_of_ble_eq_true rfl) (kf hN (a := 3) (b := 18) (Nat.le_of_ble_eq_true rfl) (Nat.le_of_ble_eq_true rfl)) ?_
        cases h
        exact x_iretX hX dX11_routeLength_55 (Nat.le_of_ble_eq_true rfl) (Nat.le_of_ble_eq_true rfl)
set_option maxRecDepth 100000 in
set_option maxHeartbeats 4000000 in
theorem c_X11_pickedUnits {l : Launch} {G : Gx} (hG : GOK G) (hl : l.stackTraces = false) (hs : SOK G)  (x1 : Int) (x2 : Int) (M : Mem) (r : Nat ⊕ Int) (h : f_X11_pickedUnits x1 x2 M = some r) : Cx l G mX11_pickedUnits 4 2 12 [vr G 0, vi x1, vi x2] M (ovi r) M := by
  refine Cx_of2 (ls := [some (vr G 0), some (vi x1), some (vi x2)]) hG hl kX11_pickedUnits rfl (Nat.le_of_ble_eq_true rfl) rfl rfl rfl rfl rfl (fun X eG el hX hN => ?_)
  subst eG; subst el
  unfold f_X11_pickedUnits at h
  refine x_aloadn hX dX11_pickedUnits_0 rfl ?_
  refine x_iloadn hX dX11_pickedUnits_1 rfl ?_
  refine x_iloadn hX dX11_pickedUnits_2 rfl ?_
  rcases cx1_of h with ⟨e_3, ee_3, h⟩ | ⟨r_1, er_1, h⟩
  · exact x_rs1 (f := ovi) h (x_xVt (t := 10) (As := [vi x1, vi x2]) (rest := []) hX hN dX11_pickedUnits_3 (c_X11_needLine (gk hX) (gl hX) hs x1 x2 M _ ee_3) kX11_needLine vX11_needLine w_1557 (st0 hs) rfl rfl rfl rfl (Nat.le_of_ble_eq_true rfl) (Nat.le_of_ble_eq_true rfl) (Nat.le_of_ble_eq_true rfl))
  · refine x_xVr (t := 10) (As := [vi x1, vi x2]) (rest := []) hX dX11_pickedUnits_3 (c_X11_needLine (gk hX) (gl hX) hs x1 x2 M _ er_1) kX11_needLine vX11_needLine w_1557 (st0 hs) rfl rfl rfl rfl (Nat.le_of_ble_eq_true rfl) (kf hN (a := 2) (b := 12) (Nat.le_of_ble_eq_true rfl) (Nat.le_of_ble_eq_true rfl)) ?_
    show V X 2 12 _ 6 [some (vr (xG X) 0), some (vi x1), some (vi x2)] [] M
    refine x_aloadn hX dX11_pickedUnits_6 rfl ?_
    refine x_getRj (j := 1) hX dX11_pickedUnits_7 fl_X11_10 rfl (st0 hs) rfl ?_
    refine x_getRj (j := 10) hX dX11_pickedUnits_10 fl_X11_118 rfl (st1 hs) rfl ?_
    refine x_iloadn hX dX11_pickedUnits_13 rfl ?_
    refine x_iloadn hX dX11_pickedUnits_14 rfl ?_
    obtain ⟨r_4, er_4, h⟩ := cl1_of h
    refine x_callVi (t := 5) (As := [vi x1, vi x2]) (rest := []) hX dX11_pickedUnits_15 (c_X5_pickedIn (gk hX) (gl hX) (st10 hs) x1 x2 M _ er_4) kX5_pickedIn vX5_pickedIn w_1561 (st10 hs) rfl rfl rfl rfl (Nat.le_of_ble_eq_true rfl) (kf hN (a := 2) (b := 12) (Nat.le_of_ble_eq_true rfl) (Nat.le_of_ble_eq_true rfl)) ?_
    cases h
    exact x_iretX hX dX11_pickedUnits_18 (Nat.le_of_ble_eq_true rfl) (Nat.le_of_ble_eq_true rfl)
set_option maxRecDepth 100000 in
set_option maxHeartbeats 4000000 in
theorem c_X11_shortUnits {l : Launch} {G : Gx} (hG : GOK G) (hl : l.stackTraces = false) (hs : SOK G)  (x1 : Int) (x2 : Int) (M : Mem) (r : Nat ⊕ Int) (h : f_X11_shortUnits x1 x2 M = some r) : Cx l G mX11_shortUnits 4 2 12 [vr G 0, vi x1, vi x2] M (ovi r) M := by
  refine Cx_of2 (ls := [some (vr G 0), some (vi x1), some (vi x2)]) hG hl kX11_shortUnits rfl (Nat.le_of_ble_eq_true rfl) rfl rfl rfl rfl rfl (fun X eG el hX hN => ?_)
  subst eG; subst el
  unfold f_X11_shortUnits at h
  refine x_aloadn hX dX11_shortUnits_0 rfl ?_
  refine x_iloadn hX dX11_shortUnits_1 rfl ?_
  refine x_iloadn hX dX11_shortUnits_2 rfl ?_
  rcases cx1_of h with ⟨e_3, ee_3, h⟩ | ⟨r_1, er_1, h⟩
  · exact x_rs1 (f := ovi) h (x_xVt (t := 10) (As := [vi x1, vi x2]) (rest := []) hX hN dX11_shortUnits_3 (c_X11_needLine (gk hX) (gl hX) hs x1 x2 M _ ee_3) kX11_needLine vX11_needLine w_1557 (st0 hs) rfl rfl rfl rfl (Nat.le_of_ble_eq_true rfl) (Nat.le_of_ble_eq_true rfl) (Nat.le_of_ble_eq_true rfl))
  · refine x_xVr (t := 10) (As := [vi x1, vi x2]) (rest := []) hX dX11_shortUnits_3 (c_X11_needLine (gk hX) (gl hX) hs x1 x2 M _ er_1) kX11_needLine vX11_needLine w_1557 (st0 hs) rfl rfl rfl rfl (Nat.le_of_ble_eq_true rfl) (kf hN (a := 2) (b := 12) (Nat.le_of_ble_eq_true rfl) (Nat.le_of_ble_eq_true rfl)) ?_
    show V X 2 12 _ 6 [some (vr (xG X) 0), some (vi x1), some (vi x2)] [] M
    refine x_aloadn hX dX11_shortUnits_6 rfl ?_
    refine x_getRj (j := 1) hX dX11_shortUnits_7 fl_X11_10 rfl (st0 hs) rfl ?_
    refine x_getRj (j := 10) hX dX11_shortUnits_10 fl_X11_118 rfl (st1 hs) rfl ?_
    refine x_iloadn hX dX11_shortUnits_13 rfl ?_
    refine x_iloadn hX dX11_shortUnits_14 rfl ?_
    obtain ⟨r_4, er_4, h⟩ := cl1_of h
    refine x_callVi (t := 5) (As := [vi x1, vi x2]) (rest := []) hX dX11_shortUnits_15 (c_X5_shortIn (gk hX) (gl hX) (st10 hs) x1 x2 M _ er_4) kX5_shortIn vX5_shortIn w_1569 (st10 hs) rfl rfl rfl rfl (Nat.le_of_ble_eq_true rfl) (kf hN (a := 2) (b := 12) (Nat.le_of_ble_eq_true rfl) (Nat.le_of_ble_eq_true rfl)) ?_
    cases h
    exact x_iretX hX dX11_shortUnits_18 (Nat.le_of_ble_eq_true rfl) (Nat.le_of_ble_eq_true rfl)
set_option maxRecDepth 100000 in
set_option maxHeartbeats 4000000 in
theorem c_X11_totalOrdered {l : Launch} {G : Gx} (hG : GOK G) (hl : l.stackTraces = false) (hs : SOK G)  (M : Mem) (r : Int) (h : f_X11_totalOrdered M = some r) : Cn l G mX11_totalOrdered 4 [vr G 0] M (some (vi r)) M := by
  refine Cn_of2 (ls := [some (vr G 0)]) hG hl kX11_totalOrdered rfl (Nat.le_of_ble_eq_true rfl) rfl rfl rfl rfl rfl (fun X eG el hX => ?_)
  subst eG; subst el
  unfold f_X11_totalOrdered at h
  refine x_aloadn hX dX11_totalOrdered_0 rfl ?_
  refine x_getRj (j := 1) hX dX11_totalOrdered_1 fl_X11_10 rfl (st0 hs) rfl ?_
  refine x_getRj (j := 10) hX dX11_totalOrdered_4 fl_X11_118 rfl (st1 hs) rfl ?_
  obtain ⟨r_1, er_1, h⟩ := cl1_of h
  refine x_callVi (t := 5) (As := []) (rest := []) hX dX11_totalOrdered_7 (c_X5_pickedOfDone (gk hX) (gl hX) (st10 hs) M _ er_1) kX5_pickedOfDone vX5_pickedOfDone w_743 (st10 hs) rfl rfl rfl rfl (Nat.le_of_ble_eq_true rfl) z0 ?_
  refine x_aloadn hX dX11_totalOrdered_10 rfl ?_
  refine x_getRj (j := 1) hX dX11_totalOrdered_11 fl_X11_10 rfl (st0 hs) rfl ?_
  refine x_getRj (j := 10) hX dX11_totalOrdered_14 fl_X11_118 rfl (st1 hs) rfl ?_
  obtain ⟨r_3, er_3, h⟩ := cl1_of h
  refine x_callVi (t := 5) (As := []) (rest := [vi r_1]) hX dX11_totalOrdered_17 (c_X5_shortOfDone (gk hX) (gl hX) (st10 hs) M _ er_3) kX5_shortOfDone vX5_shortOfDone w_751 (st10 hs) rfl rfl rfl rfl (Nat.le_of_ble_eq_true rfl) z0 ?_
  refine x_iadd hX dX11_totalOrdered_20 ?_
  cases h
  exact x_iret hX dX11_totalOrdered_21 rfl
set_option maxRecDepth 100000 in
set_option maxHeartbeats 4000000 in
theorem c_X11_reorder {l : Launch} {G : Gx} (hG : GOK G) (hl : l.stackTraces = false) (hs : SOK G)  (x1 : Int) (x2 : Int) (M : Mem) (r : Nat ⊕ Int) (Mr : Mem) (h : f_X11_reorder x1 x2 M = some (r, Mr)) : Cx l G mX11_reorder 4 4 24 [vr G 0, vi x1, vi x2] M (ovi r) Mr := by
  refine Cx_of2 (ls := [some (vr G 0), some (vi x1), some (vi x2)]) hG hl kX11_reorder rfl (Nat.le_of_ble_eq_true rfl) rfl rfl rfl rfl rfl (fun X eG el hX hN => ?_)
  subst eG; subst el
  unfold f_X11_reorder at h
  refine x_aloadn hX dX11_reorder_0 rfl ?_
  refine x_iloadn hX dX11_reorder_1 rfl ?_
  rcases cx1_of h with ⟨e_3, ee_3, h⟩ | ⟨r_1, er_1, h⟩
  · exact x_rs2 (f := ovi) h (x_xVt (t := 10) (As := [vi x1]) (rest := []) hX hN dX11_reorder_2 (c_X11_needOrder (gk hX) (gl hX) hs x1 M _ ee_3) kX11_needOrder vX11_needOrder w_1123 (st0 hs) rfl rfl rfl rfl (Nat.le_of_ble_eq_true rfl) (Nat.le_of_ble_eq_true rfl) (Nat.le_of_ble_eq_true rfl))
  · refine x_xVr (t := 10) (As := [vi x1]) (rest := []) hX dX11_reorder_2 (c_X11_needOrder (gk hX) (gl hX) hs x1 M _ er_1) kX11_needOrder vX11_needOrder w_1123 (st0 hs) rfl rfl rfl rfl (Nat.le_of_ble_eq_true rfl) (kf hN (a := 1) (b := 6) (Nat.le_of_ble_eq_true rfl) (Nat.le_of_ble_eq_true rfl)) ?_
    show V X 1 6 _ 5 [some (vr (xG X) 0), some (vi x1), some (vi x2)] [] M
    refine x_iloadn hX dX11_reorder_5 rfl ?_
    refine x_iconst hX dX11_reorder_6 ?_
    refine x_sipush hX dX11_reorder_7 sp_9999 ?_
    rcases cx1_of h with ⟨e_6, ee_6, h⟩ | ⟨r_4, er_4, h⟩
    · exact x_rs2 (f := ovi) h (x_xSt (As := [vi x2, vi 0, vi 9999]) (rest := []) hX hN dX11_reorder_10 (c_X11_needArgument (gk hX) (gl hX) x2 0 9999 M _ ee_6) kX11_needArgument sX11_needArgument w_965 rfl rfl rfl (Nat.le_of_ble_eq_true rfl) (Nat.le_of_ble_eq_true rfl) (Nat.le_of_ble_eq_true rfl))
    · refine x_xSr (As := [vi x2, vi 0, vi 9999]) (rest := []) hX dX11_reorder_10 (c_X11_needArgument (gk hX) (gl hX) x2 0 9999 M _ er_4) kX11_needArgument sX11_needArgument w_965 rfl rfl rfl (Nat.le_of_ble_eq_true rfl) (kf hN (a := 2) (b := 12) (Nat.le_of_ble_eq_true rfl) (Nat.le_of_ble_eq_true rfl)) ?_
      show V X 2 12 _ 13 [some (vr (xG X) 0), some (vi x1), some (vi x2)] [] M
      refine x_aloadn hX dX11_reorder_13 rfl ?_
      refine x_getRj (j := 1) hX dX11_reorder_14 fl_X11_10 rfl (st0 hs) rfl ?_
      refine x_getRj (j := 10) hX dX11_reorder_17 fl_X11_118 rfl (st1 hs) rfl ?_
      refine x_iloadn hX dX11_reorder_20 rfl ?_
      obtain ⟨r_7, er_7, h⟩ := cl1_of h
      refine x_callVi (t := 5) (As := [vi x1]) (rest := []) hX dX11_reorder_21 (c_X5_canBeRepeated (gk hX) (gl hX) (st10 hs) x1 M _ er_7) kX5_canBeRepeated vX5_canBeRepeated w_1577 (st10 hs) rfl rfl rfl rfl (Nat.le_of_ble_eq_true rfl) (kf hN (a := 2) (b := 12) (Nat.le_of_ble_eq_true rfl) (Nat.le_of_ble_eq_true rfl)) ?_
      refine x_if_ne (tgt := 38) hX dX11_reorder_24 (by decide) rfl (fun hc => ?_) (fun hc => ?_)
      · replace h := (if_pos hc).symm.trans h
        cases h
        exact x_thrW (x := 1) (k' := 24) hX hN dX11_reorder_27 dX11_reorder_30 dX11_reorder_31 dX11_reorder_34 dX11_reorder_37 thr_72_76 rfl (Nat.le_of_ble_eq_true rfl) (Nat.le_of_ble_eq_true rfl) (Nat.le_of_ble_eq_true rfl)
      · replace h := (if_neg hc).symm.trans h
        refine x_aloadn hX dX11_reorder_38 rfl ?_
        rcases cx1_of h with ⟨e_11, ee_11, h⟩ | ⟨r_9, er_9, h⟩
        · exact x_rs2 (f := ovi) h (x_xVt (t := 10) (As := []) (rest := []) hX hN dX11_reorder_39 (c_X11_needRoomForOrder (gk hX) (gl hX) hs M _ ee_11) kX11_needRoomForOrder vX11_needRoomForOrder w_1110 (st0 hs) rfl rfl rfl rfl (Nat.le_of_ble_eq_true rfl) (Nat.le_of_ble_eq_true rfl) (Nat.le_of_ble_eq_true rfl))
        · refine x_xVr (t := 10) (As := []) (rest := []) hX dX11_reorder_39 (c_X11_needRoomForOrder (gk hX) (gl hX) hs M _ er_9) kX11_needRoomForOrder vX11_needRoomForOrder w_1110 (st0 hs) rfl rfl rfl rfl (Nat.le_of_ble_eq_true rfl) (kf hN (a := 3) (b := 18) (Nat.le_of_ble_eq_true rfl) (Nat.le_of_ble_eq_true rfl)) ?_
          show V X 3 18 _ 42 [some (vr (xG X) 0), some (vi x1), some (vi x2)] [] M
          refine x_aloadn hX dX11_reorder_42 rfl ?_
          refine x_getRj (j := 1) hX dX11_reorder_43 fl_X11_10 rfl (st0 hs) rfl ?_
          refine x_getRj (j := 10) hX dX11_reorder_46 fl_X11_118 rfl (st1 hs) rfl ?_
          refine x_iloadn hX dX11_reorder_49 rfl ?_
          refine x_iloadn hX dX11_reorder_50 rfl ?_
          obtain ⟨r_12, M_13, er_12, h⟩ := cl2_of h
          refine x_callVi (t := 5) (As := [vi x1, vi x2]) (rest := []) hX dX11_reorder_51 (c_X5_repeatShort (gk hX) (gl hX) (st10 hs) x1 x2 M _ _ er_12) kX5_repeatShort vX5_repeatShort w_1582 (st10 hs) rfl rfl rfl rfl (Nat.le_of_ble_eq_true rfl) (kf hN (a := 3) (b := 18) (Nat.le_of_ble_eq_true rfl) (Nat.le_of_ble_eq_true rfl)) ?_
          cases h
          exact x_iretX hX dX11_reorder_54 (Nat.le_of_ble_eq_true rfl) (Nat.le_of_ble_eq_true rfl)
set_option maxRecDepth 100000 in
set_option maxHeartbeats 4000000 in
theorem c_X1_reset {l : Launch} {G : Gx} (hG : GOK G) (hl : l.stackTraces = false) {th : Nat} (h0 : at_ G th 11 0) (M : Mem) (Mr : Mem) (h : f_X1_reset th M = some Mr) : Cn l G mX1_reset 4 [vr G th] M none Mr := by
  refine Cn_of2 (ls := [some (vr G th)]) hG hl kX1_reset rfl (Nat.le_of_ble_eq_true rfl) rfl rfl rfl rfl rfl (fun X eG el hX => ?_)
  subst eG; subst el
  unfold f_X1_reset at h
  refine x_aloadn hX dX1_reset_0 rfl ?_
  refine x_getRj (j := th + 1) hX dX1_reset_1 fl_X1_12 rfl h0 rfl ?_
  obtain ⟨M_2, er_1, h⟩ := cl1_of h
  refine x_callVv (t := 3) (As := []) (rest := []) hX dX1_reset_4 (c_X3_reset (gk hX) (gl hX) (fo_1_0 (gk hX) h0) M _ er_1) kX3_reset vX3_reset w_352 (fo_1_0 (gk hX) h0) rfl rfl rfl rfl (Nat.le_of_ble_eq_true rfl) z0 ?_
  refine x_aloadn hX dX1_reset_7 rfl ?_
  refine x_getRj (j := th + 4) hX dX1_reset_8 fl_X1_21 rfl h0 rfl ?_
  refine x_iconst hX dX1_reset_11 ?_
  obtain ⟨M_3, eM_3, h⟩ := bnd_of h
  refine x_putI hX dX1_reset_12 fp_X1_42 rfl (fo_1_1 (gk hX) h0) (x_meq eM_3 ?_)
  refine x_aloadn hX dX1_reset_15 rfl ?_
  refine x_getRj (j := th + 9) hX dX1_reset_16 fl_X1_28 rfl h0 rfl ?_
  refine x_iconst hX dX1_reset_19 ?_
  obtain ⟨M_4, eM_4, h⟩ := bnd_of h
  refine x_putI hX dX1_reset_20 fp_X1_46 rfl (fo_1_2 (gk hX) h0) (x_meq eM_4 ?_)
  refine x_aloadn hX dX1_reset_23 rfl ?_
  refine x_getRj (j := th + 9) hX dX1_reset_24 fl_X1_28 rfl h0 rfl ?_
  refine x_iconst hX dX1_reset_27 ?_
  obtain ⟨M_5, eM_5, h⟩ := bnd_of h
  refine x_putI hX dX1_reset_28 fp_X1_47 rfl (fo_1_2 (gk hX) h0) (x_meq eM_5 ?_)
  refine x_aloadn hX dX1_reset_31 rfl ?_
  refine x_getRj (j := th + 16) hX dX1_reset_32 fl_X1_35 rfl h0 rfl ?_
  refine x_iconst hX dX1_reset_35 ?_
  obtain ⟨M_6, eM_6, h⟩ := bnd_of h
  refine x_putI hX dX1_reset_36 fp_X1_50 rfl (fo_1_3 (gk hX) h0) (x_meq eM_6 ?_)
  cases h
  exact x_vret hX dX1_reset_39 rfl
set_option maxRecDepth 100000 in
set_option maxHeartbeats 4000000 in
theorem ts_X6_lengthFor_12 {X : Cxt} (hX : Gd X RX6 cX6_lengthFor 6 (some .int) 4) {th : Nat} (h0 : at_ (xG X) th 16 0) {a1 : Nat} (h1 : at_ (xG X) a1 11 0) (x3 : Int) (x4 : Int) (x5 : Int) (M : Mem) {Q : State → Prop} (o : (Int × Int × Mem) ⊕ ((Int × Mem) ⊕ (Int × Mem))) (h : s_X6_lengthFor_12 th a1 x3 x4 x5 M = some o) (hP : ∀ y, o = .inl y → V X 0 0 Q 12 [some (vr (xG X) th), some (vr (xG X) a1), none, some (vi x3), some (vi y.1), some (vi y.2.1)] [] y.2.2) (hE : ∀ z, o = .inr (.inl z) → V X 0 0 Q 46 [none, none, none, none, some (vi z.1), none] [] z.2) (hR : ∀ q, o = .inr (.inr q) → Q = Qn X (some (vi q.1)) q.2) : V X 0 0 Q 12 [some (vr (xG X) th), some (vr (xG X) a1), none, some (vi x3), some (vi x4), some (vi x5)] [] M := by
  unfold s_X6_lengthFor_12 at h
  refine x_iload hX dX6_lengthFor_12 rfl ?_
  refine x_aloadn hX dX6_lengthFor_14 rfl ?_
  refine x_getRj (j := a1 + 1) hX dX6_lengthFor_15 fl_X6_46 rfl h1 rfl ?_
  refine x_getI hX dX6_lengthFor_18 fl_X6_90 rfl (fo_1_0 (gk hX) h1) ?_
  refine x_icmp_ge (tgt := 46) hX dX6_lengthFor_21 (by decide) rfl rfl (fun hc => ?_) (fun hc => ?_)
  · replace h := (if_pos hc).symm.trans h
    refine x_iload hX dX6_lengthFor_24 rfl ?_
    refine x_aloadn hX dX6_lengthFor_26 rfl ?_
    refine x_aloadn hX dX6_lengthFor_27 rfl ?_
    refine x_getRj (j := a1 + 1) hX dX6_lengthFor_28 fl_X6_46 rfl h1 rfl ?_
    refine x_iload hX dX6_lengthFor_31 rfl ?_
    refine x_iloadn hX dX6_lengthFor_33 rfl ?_
    obtain ⟨r_3, M_4, er_3, h⟩ := cl2_of h
    refine x_callVi (t := 6) (As := [vr (xG X) (a1 + 1), vi x5, vi x3]) (rest := [vi x4]) hX dX6_lengthFor_34 (c_X6_lengthIn (gk hX) (gl hX) h0 (fo_1_0 (gk hX) h1) x5 x3 M _ _ er_3) kX6_lengthIn vX6_lengthIn w_626 h0 rfl rfl rfl rfl (Nat.le_of_ble_eq_true rfl) z0 ?_
    refine x_iadd hX dX6_lengthFor_37 ?_
    obtain ⟨x4_5, ex4_5, h⟩ := bnd_of h
    refine x_istore (ls' := [some (vr (xG X) th), some (vr (xG X) a1), none, some (vi x3), some (vi x4_5), some (vi x5)]) hX dX6_lengthFor_38 rfl ex4_5 rfl ?_
    obtain ⟨x5_6, ex5_6, h⟩ := bnd_of h
    refine x_iinc (ls' := [some (vr (xG X) th), some (vr (xG X) a1), none, some (vi x3), some (vi x4_5), some (vi x5_6)]) hX dX6_lengthFor_40 rfl rfl ex5_6 rfl ?_
    refine x_goto (tgt := 12) hX dX6_lengthFor_43 (by decide) ?_
    exact x_weak [true, true, false, true, true, true] rfl (hP (x4_5, x5_6, M_4) (Option.some.inj h).symm)
  · replace h := (if_neg hc).symm.trans h
    exact x_weak [false, false, false, false, true, false] rfl (hE (x4, M) (Option.some.inj h).symm)
set_option maxRecDepth 100000 in
set_option maxHeartbeats 4000000 in
theorem c_X6_lengthFor {l : Launch} {G : Gx} (hG : GOK G) (hl : l.stackTraces = false) {th : Nat} (h0 : at_ G th 16 0) {a1 : Nat} (h1 : at_ G a1 11 0) (x2 : Int) (x3 : Int) (M : Mem) (r : Int) (Mr : Mem) (h : f_X6_lengthFor th a1 x2 x3 M = some (r, Mr)) : Cn l G mX6_lengthFor 4 [vr G th, vr G a1, vi x2, vi x3] M (some (vi r)) Mr := by
  refine Cn_of2 (ls := [some (vr G th), some (vr G a1), some (vi x2), some (vi x3), none, none]) hG hl kX6_lengthFor rfl (Nat.le_of_ble_eq_true rfl) rfl rfl rfl rfl rfl (fun X eG el hX => ?_)
  subst eG; subst el
  unfold f_X6_lengthFor at h
  refine x_aloadn hX dX6_lengthFor_0 rfl ?_
  refine x_aloadn hX dX6_lengthFor_1 rfl ?_
  refine x_iloadn hX dX6_lengthFor_2 rfl ?_
  obtain ⟨M_2, er_1, h⟩ := cl1_of h
  refine x_callVv (t := 6) (As := [vr (xG X) a1, vi x2]) (rest := []) hX dX6_lengthFor_3 (c_X6_survey (gk hX) (gl hX) h0 h1 x2 M _ er_1) kX6_survey vX6_survey w_608 h0 rfl rfl rfl rfl (Nat.le_of_ble_eq_true rfl) z0 ?_
  refine x_iconst hX dX6_lengthFor_6 ?_
  refine x_istore (ls' := [some (vr (xG X) th), some (vr (xG X) a1), some (vi x2), some (vi x3), some (vi 0), none]) hX dX6_lengthFor_7 rfl rfl rfl ?_
  refine x_iconst hX dX6_lengthFor_9 ?_
  refine x_istore (ls' := [some (vr (xG X) th), some (vr (xG X) a1), some (vi x2), some (vi x3), some (vi 0), some (vi 0)]) hX dX6_lengthFor_10 rfl rfl rfl ?_
  refine x_weak (ls' := [some (vr (xG X) th), some (vr (xG X) a1), none, some (vi x3), some (vi 0), some (vi 0)]) [true, true, false, true, true, true] rfl ?_
  refine lp_use (x := (0, 0, M_2)) (P := fun x => V X 0 0 (Qn X (some (vi r)) Mr) 12 [some (vr (xG X) th), some (vr (xG X) a1), none, some (vi x3), some (vi x.1), some (vi x.2.1)] [] x.2.2) (PE := fun z_7 => V X 0 0 (Qn X (some (vi r)) Mr) 46 [none, none, none, none, some (vi z_7.1), none] [] z_7.2) (PR := fun q => (Qn X (some (vi r)) Mr) = Qn X (some (vi q.1)) q.2) h (fun x o hh hP hE hR => ts_X6_lengthFor_12 hX h0 h1 x3 x.1 x.2.1 x.2.2 o hh hP hE hR) (fun z_7 h => ?_) (fun q h => ?_)
  · show V X 0 0 (Qn X (some (vi r)) Mr) 46 [none, none, none, none, some (vi z_7.1), none] [] z_7.2
    refine x_iload hX dX6_lengthFor_46 rfl ?_
    cases h
    exact x_iret hX dX6_lengthFor_48 rfl
  · cases h; rfl
set_option maxRecDepth 100000 in
set_option maxHeartbeats 4000000 in
theorem tj_X6_listSShape_29_2 {X : Cxt} (hX : Gd X RX6 cX6_listSShape 3 (none) 4) {th : Nat} (h0 : at_ (xG X) th 16 0) {a1 : Nat} (h1 : at_ (xG X) a1 11 0)  (x2 : Int) (y2 : Int) (y3 : Int) (M : Mem) {Q : State → Prop} (o : (Int × Mem) ⊕ ((Mem) ⊕ (Mem))) (h : j_X6_listSShape_29_2 th a1 x2 y2 y3 M = some o) (hP : ∀ y, o = .inl y → V X 0 0 Q 2 [some (vr (xG X) th), some (vr (xG X) a1), some (vi y.1)] [] y.2) (hE : ∀ z, o = .inr (.inl z) → V X 0 0 Q 38 [none, none, none] [] z) (hR : ∀ q, o = .inr (.inr q) → Q = Qn X none q) : V X 0 0 Q 29 [some (vr (xG X) th), some (vr (xG X) a1), some (vi x2)] [vi y3, vi y2, vr (xG X) a1, vr (xG X) th] M := by
  unfold j_X6_listSShape_29_2 at h
  obtain ⟨M_3, er_2, h⟩ := cl1_of h
  refine x_callVv (t := 6) (As := [vr (xG X) a1, vi y2, vi y3]) (rest := []) hX dX6_listSShape_29 (c_X6_visitFrom (gk hX) (gl hX) h0 h1 y2 y3 M _ er_2) kX6_visitFrom vX6_visitFrom w_1467 h0 rfl rfl rfl rfl (Nat.le_of_ble_eq_true rfl) z0 ?_
  obtain ⟨x2_4, ex2_4, h⟩ := bnd_of h
  refine x_iinc (ls' := [some (vr (xG X) th), some (vr (xG X) a1), some (vi x2_4)]) hX dX6_listSShape_32 rfl rfl ex2_4 rfl ?_
  refine x_goto (tgt := 2) hX dX6_listSShape_35 (by decide) ?_
  exact x_weak [true, true, true] rfl (hP (x2_4, M_3) (Option.some.inj h).symm)
set_option maxRecDepth 100000 in
set_option maxHeartbeats 4000000 in
theorem ts_X6_listSShape_2 {X : Cxt} (hX : Gd X RX6 cX6_listSShape 3 (none) 4) {th : Nat} (h0 : at_ (xG X) th 16 0) {a1 : Nat} (h1 : at_ (xG X) a1 11 0) (x2 : Int) (M : Mem) {Q : State → Prop} (o : (Int × Mem) ⊕ ((Mem) ⊕ (Mem))) (h : s_X6_listSShape_2 th a1 x2 M = some o) (hP : ∀ y, o = .inl y → V X 0 0 Q 2 [some (vr (xG X) th), some (vr (xG X) a1), some (vi y.1)] [] y.2) (hE : ∀ z, o = .inr (.inl z) → V X 0 0 Q 38 [none, none, none] [] z) (hR : ∀ q, o = .inr (.inr q) → Q = Qn X none q) : V X 0 0 Q 2 [some (vr (xG X) th), some (vr (xG X) a1), some (vi x2)] [] M := by
  unfold s_X6_listSShape_2 at h
  refine x_iloadn hX dX6_listSShape_2 rfl ?_
  refine x_aloadn hX dX6_listSShape_3 rfl ?_
  refine x_getI hX dX6_listSShape_4 fl_X6_107 rfl h0 ?_
  refine x_icmp_ge (tgt := 38) hX dX6_listSShape_7 (by decide) rfl rfl (fun hc => ?_) (fun hc => ?_)
  · replace h := (if_pos hc).symm.trans h
    refine x_aloadn hX dX6_listSShape_10 rfl ?_
    refine x_aloadn hX dX6_listSShape_11 rfl ?_
    refine x_aloadn hX dX6_listSShape_12 rfl ?_
    refine x_getRj (j := th + 5) hX dX6_listSShape_13 fl_X6_24 rfl h0 rfl ?_
    refine x_iloadn hX dX6_listSShape_16 rfl ?_
    obtain ⟨b_1, h⟩ := gi_of h
    refine x_iald hX dX6_listSShape_17 (fo_6_7 (gk hX) h0) b_1 rfl ?_
    refine x_iloadn hX dX6_listSShape_18 rfl ?_
    refine x_iconst hX dX6_listSShape_19 ?_
    refine x_irem hX dX6_listSShape_20 nz_2 ?_
    refine x_if_ne (tgt := 28) hX dX6_listSShape_21 (by decide) rfl (fun hc => ?_) (fun hc => ?_)
    · replace h := (if_pos hc).symm.trans h
      refine x_iconst hX dX6_listSShape_24 ?_
      refine x_goto (tgt := 29) hX dX6_listSShape_25 (by decide) ?_
      exact x_weak [true, true, true] rfl (tj_X6_listSShape_29_2 hX h0 h1 x2 (M (th + 5) (ix x2)) 0 M o h hP hE hR)
    · replace h := (if_neg hc).symm.trans h
      refine x_iconst hX dX6_listSShape_28 ?_
      exact x_weak [true, true, true] rfl (tj_X6_listSShape_29_2 hX h0 h1 x2 (M (th + 5) (ix x2)) 1 M o h hP hE hR)
  · replace h := (if_neg hc).symm.trans h
    exact x_weak [false, false, false] rfl (hE M (Option.some.inj h).symm)
set_option maxRecDepth 100000 in
set_option maxHeartbeats 4000000 in
theorem c_X6_listSShape {l : Launch} {G : Gx} (hG : GOK G) (hl : l.stackTraces = false) {th : Nat} (h0 : at_ G th 16 0) {a1 : Nat} (h1 : at_ G a1 11 0) (M : Mem) (Mr : Mem) (h : f_X6_listSShape th a1 M = some Mr) : Cn l G mX6_listSShape 4 [vr G th, vr G a1] M none Mr := by
  refine Cn_of2 (ls := [some (vr G th), some (vr G a1), none]) hG hl kX6_listSShape rfl (Nat.le_of_ble_eq_true rfl) rfl rfl rfl rfl rfl (fun X eG el hX => ?_)
  subst eG; subst el
  unfold f_X6_listSShape at h
  refine x_iconst hX dX6_listSShape_0 ?_
  refine x_istoren (ls' := [some (vr (xG X) th), some (vr (xG X) a1), some (vi 0)]) hX dX6_listSShape_1 rfl rfl rfl ?_
  refine x_weak (ls' := [some (vr (xG X) th), some (vr (xG X) a1), some (vi 0)]) [true, true, true] rfl ?_
  refine lp_use (x := (0, M)) (P := fun x => V X 0 0 (Qn X none Mr) 2 [some (vr (xG X) th), some (vr (xG X) a1), some (vi x.1)] [] x.2) (PE := fun z_5 => V X 0 0 (Qn X none Mr) 38 [none, none, none] [] z_5) (PR := fun q => (Qn X none Mr) = Qn X none q) h (fun x o hh hP hE hR => ts_X6_listSShape_2 hX h0 h1 x.1 x.2 o hh hP hE hR) (fun z_5 h => ?_) (fun q h => ?_)
  · show V X 0 0 (Qn X none Mr) 38 [none, none, none] [] z_5
    cases h
    exact x_vret hX dX6_listSShape_38 rfl
  · cases h; rfl
